theorem dX7_takeOffAlone_0 : decode cX7_takeOffAlone 0 = .ok (.iload_n 2, 1) := by decide +kernel
theorem dX7_takeOffAlone_1 : decode cX7_takeOffAlone 1 = .ok (.iconst 4, 1) := by decide +kernel
theorem dX7_takeOffAlone_2 : decode cX7_takeOffAlone 2 = .ok (.imul, 1) := by decide +kernel
theorem dX7_takeOffAlone_3 : decode cX7_takeOffAlone 3 = .ok (.istore_n 3, 1) := by decide +kernel
theorem dX7_takeOffAlone_4 : decode cX7_takeOffAlone 4 = .ok (.iload_n 3, 1) := by decide +kernel
theorem dX7_takeOffAlone_5 : decode cX7_takeOffAlone 5 = .ok (.iload_n 2, 1) := by decide +kernel
theorem dX7_takeOffAlone_6 : decode cX7_takeOffAlone 6 = .ok (.iconst 4, 1) := by decide +kernel
theorem dX7_takeOffAlone_7 : decode cX7_takeOffAlone 7 = .ok (.imul, 1) := by decide +kernel
theorem dX7_takeOffAlone_8 : decode cX7_takeOffAlone 8 = .ok (.aload_n 1, 1) := by decide +kernel
theorem dX7_takeOffAlone_9 : decode cX7_takeOffAlone 9 = .ok (.getfield 49, 3) := by decide +kernel
theorem dX7_takeOffAlone_12 : decode cX7_takeOffAlone 12 = .ok (.getfield 255, 3) := by decide +kernel
theorem dX7_takeOffAlone_15 : decode cX7_takeOffAlone 15 = .ok (.iload_n 2, 1) := by decide +kernel
theorem dX7_takeOffAlone_16 : decode cX7_takeOffAlone 16 = .ok (.iaload, 1) := by decide +kernel
theorem dX7_takeOffAlone_17 : decode cX7_takeOffAlone 17 = .ok (.iadd, 1) := by decide +kernel
theorem dX7_takeOffAlone_18 : decode cX7_takeOffAlone 18 = .ok (.if_icmp .ge 42, 3) := by decide +kernel
theorem dX7_takeOffAlone_21 : decode cX7_takeOffAlone 21 = .ok (.aload_n 1, 1) := by decide +kernel
theorem dX7_takeOffAlone_22 : decode cX7_takeOffAlone 22 = .ok (.getfield 55, 3) := by decide +kernel
theorem dX7_takeOffAlone_25 : decode cX7_takeOffAlone 25 = .ok (.iload_n 3, 1) := by decide +kernel
theorem dX7_takeOffAlone_26 : decode cX7_takeOffAlone 26 = .ok (.invokevirtual 257, 3) := by decide +kernel
theorem dX7_takeOffAlone_29 : decode cX7_takeOffAlone 29 = .ok (.ifCond .eq 25, 3) := by decide +kernel
theorem dX7_takeOffAlone_32 : decode cX7_takeOffAlone 32 = .ok (.aload_n 1, 1) := by decide +kernel
theorem dX7_takeOffAlone_33 : decode cX7_takeOffAlone 33 = .ok (.getfield 55, 3) := by decide +kernel
theorem dX7_takeOffAlone_36 : decode cX7_takeOffAlone 36 = .ok (.iload_n 3, 1) := by decide +kernel
theorem dX7_takeOffAlone_37 : decode cX7_takeOffAlone 37 = .ok (.iconst (-1), 1) := by decide +kernel
theorem dX7_takeOffAlone_38 : decode cX7_takeOffAlone 38 = .ok (.invokevirtual 176, 3) := by decide +kernel
theorem dX7_takeOffAlone_41 : decode cX7_takeOffAlone 41 = .ok (.aload_n 1, 1) := by decide +kernel
theorem dX7_takeOffAlone_42 : decode cX7_takeOffAlone 42 = .ok (.getfield 55, 3) := by decide +kernel
theorem dX7_takeOffAlone_45 : decode cX7_takeOffAlone 45 = .ok (.getfield 161, 3) := by decide +kernel
theorem dX7_takeOffAlone_48 : decode cX7_takeOffAlone 48 = .ok (.iload_n 3, 1) := by decide +kernel
theorem dX7_takeOffAlone_49 : decode cX7_takeOffAlone 49 = .ok (.aload_n 1, 1) := by decide +kernel
theorem dX7_takeOffAlone_50 : decode cX7_takeOffAlone 50 = .ok (.getfield 99, 3) := by decide +kernel
theorem dX7_takeOffAlone_53 : decode cX7_takeOffAlone 53 = .ok (.iastore, 1) := by decide +kernel
theorem dX7_takeOffAlone_54 : decode cX7_takeOffAlone 54 = .ok (.iinc 3 1, 3) := by decide +kernel
theorem dX7_takeOffAlone_57 : decode cX7_takeOffAlone 57 = .ok (.goto (-53), 3) := by decide +kernel
theorem dX7_takeOffAlone_60 : decode cX7_takeOffAlone 60 = .ok (.aload_n 1, 1) := by decide +kernel
theorem dX7_takeOffAlone_61 : decode cX7_takeOffAlone 61 = .ok (.getfield 49, 3) := by decide +kernel
theorem dX7_takeOffAlone_64 : decode cX7_takeOffAlone 64 = .ok (.getfield 129, 3) := by decide +kernel
theorem dX7_takeOffAlone_67 : decode cX7_takeOffAlone 67 = .ok (.iload_n 2, 1) := by decide +kernel
theorem dX7_takeOffAlone_68 : decode cX7_takeOffAlone 68 = .ok (.iconst (-1), 1) := by decide +kernel
theorem dX7_takeOffAlone_69 : decode cX7_takeOffAlone 69 = .ok (.iastore, 1) := by decide +kernel
theorem dX7_takeOffAlone_70 : decode cX7_takeOffAlone 70 = .ok (.aload_n 0, 1) := by decide +kernel
theorem dX7_takeOffAlone_71 : decode cX7_takeOffAlone 71 = .ok (.aload_n 1, 1) := by decide +kernel
theorem dX7_takeOffAlone_72 : decode cX7_takeOffAlone 72 = .ok (.iload_n 2, 1) := by decide +kernel
theorem dX7_takeOffAlone_73 : decode cX7_takeOffAlone 73 = .ok (.iconst 4, 1) := by decide +kernel
theorem dX7_takeOffAlone_74 : decode cX7_takeOffAlone 74 = .ok (.invokevirtual 252, 3) := by decide +kernel
theorem dX7_takeOffAlone_77 : decode cX7_takeOffAlone 77 = .ok (.return_, 1) := by decide +kernel
theorem dX8_init_0 : decode cX8_init 0 = .ok (.aload_n 0, 1) := by decide +kernel
theorem dX8_init_1 : decode cX8_init 1 = .ok (.invokespecial 3, 3) := by decide +kernel
theorem dX8_init_4 : decode cX8_init 4 = .ok (.aload_n 0, 1) := by decide +kernel
theorem dX8_init_5 : decode cX8_init 5 = .ok (.bipush 12, 2) := by decide +kernel
theorem dX8_init_7 : decode cX8_init 7 = .ok (.newarray .int, 2) := by decide +kernel
theorem dX8_init_9 : decode cX8_init 9 = .ok (.putfield 9, 3) := by decide +kernel
theorem dX8_init_12 : decode cX8_init 12 = .ok (.aload_n 0, 1) := by decide +kernel
theorem dX8_init_13 : decode cX8_init 13 = .ok (.bipush 12, 2) := by decide +kernel
theorem dX8_init_15 : decode cX8_init 15 = .ok (.newarray .int, 2) := by decide +kernel
theorem dX8_init_17 : decode cX8_init 17 = .ok (.putfield 15, 3) := by decide +kernel
theorem dX8_init_20 : decode cX8_init 20 = .ok (.aload_n 0, 1) := by decide +kernel
theorem dX8_init_21 : decode cX8_init 21 = .ok (.bipush 12, 2) := by decide +kernel
theorem dX8_init_23 : decode cX8_init 23 = .ok (.newarray .int, 2) := by decide +kernel
theorem dX8_init_25 : decode cX8_init 25 = .ok (.putfield 18, 3) := by decide +kernel
theorem dX8_init_28 : decode cX8_init 28 = .ok (.aload_n 0, 1) := by decide +kernel
theorem dX8_init_29 : decode cX8_init 29 = .ok (.bipush 12, 2) := by decide +kernel
theorem dX8_init_31 : decode cX8_init 31 = .ok (.newarray .int, 2) := by decide +kernel
theorem dX8_init_33 : decode cX8_init 33 = .ok (.putfield 21, 3) := by decide +kernel
theorem dX8_init_36 : decode cX8_init 36 = .ok (.aload_n 0, 1) := by decide +kernel
theorem dX8_init_37 : decode cX8_init 37 = .ok (.bipush 12, 2) := by decide +kernel
theorem dX8_init_39 : decode cX8_init 39 = .ok (.newarray .int, 2) := by decide +kernel
theorem dX8_init_41 : decode cX8_init 41 = .ok (.putfield 24, 3) := by decide +kernel
theorem dX8_init_44 : decode cX8_init 44 = .ok (.return_, 1) := by decide +kernel
theorem dX8_add_0 : decode cX8_add 0 = .ok (.aload_n 0, 1) := by decide +kernel
theorem dX8_add_1 : decode cX8_add 1 = .ok (.getfield 27, 3) := by decide +kernel
theorem dX8_add_4 : decode cX8_add 4 = .ok (.bipush 12, 2) := by decide +kernel
theorem dX8_add_6 : decode cX8_add 6 = .ok (.if_icmp .lt 6, 3) := by decide +kernel
theorem dX8_add_9 : decode cX8_add 9 = .ok (.bipush (-3), 2) := by decide +kernel
theorem dX8_add_11 : decode cX8_add 11 = .ok (.ireturn, 1) := by decide +kernel
theorem dX8_add_12 : decode cX8_add 12 = .ok (.aload_n 0, 1) := by decide +kernel
theorem dX8_add_13 : decode cX8_add 13 = .ok (.getfield 9, 3) := by decide +kernel
theorem dX8_add_16 : decode cX8_add 16 = .ok (.aload_n 0, 1) := by decide +kernel
theorem dX8_add_17 : decode cX8_add 17 = .ok (.getfield 27, 3) := by decide +kernel
theorem dX8_add_20 : decode cX8_add 20 = .ok (.aload_n 0, 1) := by decide +kernel
theorem dX8_add_21 : decode cX8_add 21 = .ok (.getfield 31, 3) := by decide +kernel
theorem dX8_add_24 : decode cX8_add 24 = .ok (.iastore, 1) := by decide +kernel
theorem dX8_add_25 : decode cX8_add 25 = .ok (.aload_n 0, 1) := by decide +kernel
theorem dX8_add_26 : decode cX8_add 26 = .ok (.getfield 15, 3) := by decide +kernel
theorem dX8_add_29 : decode cX8_add 29 = .ok (.aload_n 0, 1) := by decide +kernel
theorem dX8_add_30 : decode cX8_add 30 = .ok (.getfield 27, 3) := by decide +kernel
theorem dX8_add_33 : decode cX8_add 33 = .ok (.iload_n 1, 1) := by decide +kernel
theorem dX8_add_34 : decode cX8_add 34 = .ok (.iastore, 1) := by decide +kernel
theorem dX8_add_35 : decode cX8_add 35 = .ok (.aload_n 0, 1) := by decide +kernel
theorem dX8_add_36 : decode cX8_add 36 = .ok (.getfield 18, 3) := by decide +kernel
theorem dX8_add_39 : decode cX8_add 39 = .ok (.aload_n 0, 1) := by decide +kernel
theorem dX8_add_40 : decode cX8_add 40 = .ok (.getfield 27, 3) := by decide +kernel
theorem dX8_add_43 : decode cX8_add 43 = .ok (.iload_n 2, 1) := by decide +kernel
theorem dX8_add_44 : decode cX8_add 44 = .ok (.iastore, 1) := by decide +kernel
theorem dX8_add_45 : decode cX8_add 45 = .ok (.aload_n 0, 1) := by decide +kernel
theorem dX8_add_46 : decode cX8_add 46 = .ok (.getfield 21, 3) := by decide +kernel
theorem dX8_add_49 : decode cX8_add 49 = .ok (.aload_n 0, 1) := by decide +kernel
theorem dX8_add_50 : decode cX8_add 50 = .ok (.getfield 27, 3) := by decide +kernel
theorem dX8_add_53 : decode cX8_add 53 = .ok (.iload_n 3, 1) := by decide +kernel
theorem dX8_add_54 : decode cX8_add 54 = .ok (.iastore, 1) := by decide +kernel
theorem dX8_add_55 : decode cX8_add 55 = .ok (.aload_n 0, 1) := by decide +kernel
theorem dX8_add_56 : decode cX8_add 56 = .ok (.getfield 24, 3) := by decide +kernel
theorem dX8_add_59 : decode cX8_add 59 = .ok (.aload_n 0, 1) := by decide +kernel
theorem dX8_add_60 : decode cX8_add 60 = .ok (.getfield 27, 3) := by decide +kernel
theorem dX8_add_63 : decode cX8_add 63 = .ok (.iload 4, 2) := by decide +kernel
theorem dX8_add_65 : decode cX8_add 65 = .ok (.iastore, 1) := by decide +kernel
theorem dX8_add_66 : decode cX8_add 66 = .ok (.aload_n 0, 1) := by decide +kernel
theorem dX8_add_67 : decode cX8_add 67 = .ok (.dup, 1) := by decide +kernel
theorem dX8_add_68 : decode cX8_add 68 = .ok (.getfield 27, 3) := by decide +kernel
theorem dX8_add_71 : decode cX8_add 71 = .ok (.iconst 1, 1) := by decide +kernel
theorem dX8_add_72 : decode cX8_add 72 = .ok (.iadd, 1) := by decide +kernel
theorem dX8_add_73 : decode cX8_add 73 = .ok (.putfield 27, 3) := by decide +kernel
theorem dX8_add_76 : decode cX8_add 76 = .ok (.aload_n 0, 1) := by decide +kernel
theorem dX8_add_77 : decode cX8_add 77 = .ok (.dup, 1) := by decide +kernel
theorem dX8_add_78 : decode cX8_add 78 = .ok (.getfield 31, 3) := by decide +kernel
theorem dX8_add_81 : decode cX8_add 81 = .ok (.iconst 1, 1) := by decide +kernel
theorem dX8_add_82 : decode cX8_add 82 = .ok (.iadd, 1) := by decide +kernel
theorem dX8_add_83 : decode cX8_add 83 = .ok (.putfield 31, 3) := by decide +kernel
theorem dX8_add_86 : decode cX8_add 86 = .ok (.aload_n 0, 1) := by decide +kernel
theorem dX8_add_87 : decode cX8_add 87 = .ok (.getfield 31, 3) := by decide +kernel
theorem dX8_add_90 : decode cX8_add 90 = .ok (.iconst 1, 1) := by decide +kernel
theorem dX8_add_91 : decode cX8_add 91 = .ok (.isub, 1) := by decide +kernel
theorem dX8_add_92 : decode cX8_add 92 = .ok (.ireturn, 1) := by decide +kernel
theorem dX8_overlap_0 : decode cX8_overlap 0 = .ok (.iconst 0, 1) := by decide +kernel
theorem dX8_overlap_1 : decode cX8_overlap 1 = .ok (.istore 4, 2) := by decide +kernel
theorem dX8_overlap_3 : decode cX8_overlap 3 = .ok (.iload 4, 2) := by decide +kernel
theorem dX8_overlap_5 : decode cX8_overlap 5 = .ok (.aload_n 0, 1) := by decide +kernel
theorem dX8_overlap_6 : decode cX8_overlap 6 = .ok (.getfield 27, 3) := by decide +kernel
theorem dX8_overlap_9 : decode cX8_overlap 9 = .ok (.if_icmp .ge 45, 3) := by decide +kernel
theorem dX8_overlap_12 : decode cX8_overlap 12 = .ok (.aload_n 0, 1) := by decide +kernel
theorem dX8_overlap_13 : decode cX8_overlap 13 = .ok (.getfield 15, 3) := by decide +kernel
theorem dX8_overlap_16 : decode cX8_overlap 16 = .ok (.iload 4, 2) := by decide +kernel
theorem dX8_overlap_18 : decode cX8_overlap 18 = .ok (.iaload, 1) := by decide +kernel
theorem dX8_overlap_19 : decode cX8_overlap 19 = .ok (.iload_n 1, 1) := by decide +kernel
theorem dX8_overlap_20 : decode cX8_overlap 20 = .ok (.iand, 1) := by decide +kernel
theorem dX8_overlap_21 : decode cX8_overlap 21 = .ok (.ifCond .eq 27, 3) := by decide +kernel
theorem dX8_overlap_24 : decode cX8_overlap 24 = .ok (.iload_n 2, 1) := by decide +kernel
theorem dX8_overlap_25 : decode cX8_overlap 25 = .ok (.aload_n 0, 1) := by decide +kernel
theorem dX8_overlap_26 : decode cX8_overlap 26 = .ok (.getfield 21, 3) := by decide +kernel
theorem dX8_overlap_29 : decode cX8_overlap 29 = .ok (.iload 4, 2) := by decide +kernel
theorem dX8_overlap_31 : decode cX8_overlap 31 = .ok (.iaload, 1) := by decide +kernel
theorem dX8_overlap_32 : decode cX8_overlap 32 = .ok (.if_icmp .ge 16, 3) := by decide +kernel
theorem dX8_overlap_35 : decode cX8_overlap 35 = .ok (.aload_n 0, 1) := by decide +kernel
theorem dX8_overlap_36 : decode cX8_overlap 36 = .ok (.getfield 18, 3) := by decide +kernel
theorem dX8_overlap_39 : decode cX8_overlap 39 = .ok (.iload 4, 2) := by decide +kernel
theorem dX8_overlap_41 : decode cX8_overlap 41 = .ok (.iaload, 1) := by decide +kernel
theorem dX8_overlap_42 : decode cX8_overlap 42 = .ok (.iload_n 3, 1) := by decide +kernel
theorem dX8_overlap_43 : decode cX8_overlap 43 = .ok (.if_icmp .ge 5, 3) := by decide +kernel
theorem dX8_overlap_46 : decode cX8_overlap 46 = .ok (.iconst 1, 1) := by decide +kernel
theorem dX8_overlap_47 : decode cX8_overlap 47 = .ok (.ireturn, 1) := by decide +kernel
theorem dX8_overlap_48 : decode cX8_overlap 48 = .ok (.iinc 4 1, 3) := by decide +kernel
theorem dX8_overlap_51 : decode cX8_overlap 51 = .ok (.goto (-48), 3) := by decide +kernel
theorem dX8_overlap_54 : decode cX8_overlap 54 = .ok (.iconst 0, 1) := by decide +kernel
theorem dX8_overlap_55 : decode cX8_overlap 55 = .ok (.ireturn, 1) := by decide +kernel
theorem dX8_endBy_0 : decode cX8_endBy 0 = .ok (.aload_n 0, 1) := by decide +kernel
theorem dX8_endBy_1 : decode cX8_endBy 1 = .ok (.getfield 27, 3) := by decide +kernel
theorem dX8_endBy_4 : decode cX8_endBy 4 = .ok (.iconst 1, 1) := by decide +kernel
theorem dX8_endBy_5 : decode cX8_endBy 5 = .ok (.isub, 1) := by decide +kernel
theorem dX8_endBy_6 : decode cX8_endBy 6 = .ok (.istore_n 2, 1) := by decide +kernel
theorem dX8_endBy_7 : decode cX8_endBy 7 = .ok (.iload_n 2, 1) := by decide +kernel
theorem dX8_endBy_8 : decode cX8_endBy 8 = .ok (.ifCond .lt 24, 3) := by decide +kernel
theorem dX8_endBy_11 : decode cX8_endBy 11 = .ok (.aload_n 0, 1) := by decide +kernel
theorem dX8_endBy_12 : decode cX8_endBy 12 = .ok (.getfield 21, 3) := by decide +kernel
theorem dX8_endBy_15 : decode cX8_endBy 15 = .ok (.iload_n 2, 1) := by decide +kernel
theorem dX8_endBy_16 : decode cX8_endBy 16 = .ok (.iaload, 1) := by decide +kernel
theorem dX8_endBy_17 : decode cX8_endBy 17 = .ok (.iload_n 1, 1) := by decide +kernel
theorem dX8_endBy_18 : decode cX8_endBy 18 = .ok (.if_icmp .gt 8, 3) := by decide +kernel
theorem dX8_endBy_21 : decode cX8_endBy 21 = .ok (.aload_n 0, 1) := by decide +kernel
theorem dX8_endBy_22 : decode cX8_endBy 22 = .ok (.iload_n 2, 1) := by decide +kernel
theorem dX8_endBy_23 : decode cX8_endBy 23 = .ok (.invokevirtual 34, 3) := by decide +kernel
theorem dX8_endBy_26 : decode cX8_endBy 26 = .ok (.iinc 2 (-1), 3) := by decide +kernel
theorem dX8_endBy_29 : decode cX8_endBy 29 = .ok (.goto (-22), 3) := by decide +kernel
theorem dX8_endBy_32 : decode cX8_endBy 32 = .ok (.return_, 1) := by decide +kernel
theorem dX8_remove_0 : decode cX8_remove 0 = .ok (.aload_n 0, 1) := by decide +kernel
theorem dX8_remove_1 : decode cX8_remove 1 = .ok (.dup, 1) := by decide +kernel
theorem dX8_remove_2 : decode cX8_remove 2 = .ok (.getfield 27, 3) := by decide +kernel
theorem dX8_remove_5 : decode cX8_remove 5 = .ok (.iconst 1, 1) := by decide +kernel
theorem dX8_remove_6 : decode cX8_remove 6 = .ok (.isub, 1) := by decide +kernel
theorem dX8_remove_7 : decode cX8_remove 7 = .ok (.putfield 27, 3) := by decide +kernel
theorem dX8_remove_10 : decode cX8_remove 10 = .ok (.iload_n 1, 1) := by decide +kernel
theorem dX8_remove_11 : decode cX8_remove 11 = .ok (.istore_n 2, 1) := by decide +kernel
theorem dX8_remove_12 : decode cX8_remove 12 = .ok (.iload_n 2, 1) := by decide +kernel
theorem dX8_remove_13 : decode cX8_remove 13 = .ok (.aload_n 0, 1) := by decide +kernel
theorem dX8_remove_14 : decode cX8_remove 14 = .ok (.getfield 27, 3) := by decide +kernel
theorem dX8_remove_17 : decode cX8_remove 17 = .ok (.if_icmp .ge 79, 3) := by decide +kernel
theorem dX8_remove_20 : decode cX8_remove 20 = .ok (.aload_n 0, 1) := by decide +kernel
theorem dX8_remove_21 : decode cX8_remove 21 = .ok (.getfield 9, 3) := by decide +kernel
theorem dX8_remove_24 : decode cX8_remove 24 = .ok (.iload_n 2, 1) := by decide +kernel
theorem dX8_remove_25 : decode cX8_remove 25 = .ok (.aload_n 0, 1) := by decide +kernel
theorem dX8_remove_26 : decode cX8_remove 26 = .ok (.getfield 9, 3) := by decide +kernel
theorem dX8_remove_29 : decode cX8_remove 29 = .ok (.iload_n 2, 1) := by decide +kernel
theorem dX8_remove_30 : decode cX8_remove 30 = .ok (.iconst 1, 1) := by decide +kernel
theorem dX8_remove_31 : decode cX8_remove 31 = .ok (.iadd, 1) := by decide +kernel
theorem dX8_remove_32 : decode cX8_remove 32 = .ok (.iaload, 1) := by decide +kernel
theorem dX8_remove_33 : decode cX8_remove 33 = .ok (.iastore, 1) := by decide +kernel
theorem dX8_remove_34 : decode cX8_remove 34 = .ok (.aload_n 0, 1) := by decide +kernel
theorem dX8_remove_35 : decode cX8_remove 35 = .ok (.getfield 15, 3) := by decide +kernel
theorem dX8_remove_38 : decode cX8_remove 38 = .ok (.iload_n 2, 1) := by decide +kernel
theorem dX8_remove_39 : decode cX8_remove 39 = .ok (.aload_n 0, 1) := by decide +kernel
theorem dX8_remove_40 : decode cX8_remove 40 = .ok (.getfield 15, 3) := by decide +kernel
theorem dX8_remove_43 : decode cX8_remove 43 = .ok (.iload_n 2, 1) := by decide +kernel
theorem dX8_remove_44 : decode cX8_remove 44 = .ok (.iconst 1, 1) := by decide +kernel
theorem dX8_remove_45 : decode cX8_remove 45 = .ok (.iadd, 1) := by decide +kernel
theorem dX8_remove_46 : decode cX8_remove 46 = .ok (.iaload, 1) := by decide +kernel
theorem dX8_remove_47 : decode cX8_remove 47 = .ok (.iastore, 1) := by decide +kernel
theorem dX8_remove_48 : decode cX8_remove 48 = .ok (.aload_n 0, 1) := by decide +kernel
theorem dX8_remove_49 : decode cX8_remove 49 = .ok (.getfield 18, 3) := by decide +kernel
theorem dX8_remove_52 : decode cX8_remove 52 = .ok (.iload_n 2, 1) := by decide +kernel
theorem dX8_remove_53 : decode cX8_remove 53 = .ok (.aload_n 0, 1) := by decide +kernel
theorem dX8_remove_54 : decode cX8_remove 54 = .ok (.getfield 18, 3) := by decide +kernel
theorem dX8_remove_57 : decode cX8_remove 57 = .ok (.iload_n 2, 1) := by decide +kernel
theorem dX8_remove_58 : decode cX8_remove 58 = .ok (.iconst 1, 1) := by decide +kernel
theorem dX8_remove_59 : decode cX8_remove 59 = .ok (.iadd, 1) := by decide +kernel
theorem dX8_remove_60 : decode cX8_remove 60 = .ok (.iaload, 1) := by decide +kernel
theorem dX8_remove_61 : decode cX8_remove 61 = .ok (.iastore, 1) := by decide +kernel
theorem dX8_remove_62 : decode cX8_remove 62 = .ok (.aload_n 0, 1) := by decide +kernel
theorem dX8_remove_63 : decode cX8_remove 63 = .ok (.getfield 21, 3) := by decide +kernel
theorem dX8_remove_66 : decode cX8_remove 66 = .ok (.iload_n 2, 1) := by decide +kernel
theorem dX8_remove_67 : decode cX8_remove 67 = .ok (.aload_n 0, 1) := by decide +kernel
theorem dX8_remove_68 : decode cX8_remove 68 = .ok (.getfield 21, 3) := by decide +kernel
theorem dX8_remove_71 : decode cX8_remove 71 = .ok (.iload_n 2, 1) := by decide +kernel
theorem dX8_remove_72 : decode cX8_remove 72 = .ok (.iconst 1, 1) := by decide +kernel
theorem dX8_remove_73 : decode cX8_remove 73 = .ok (.iadd, 1) := by decide +kernel
theorem dX8_remove_74 : decode cX8_remove 74 = .ok (.iaload, 1) := by decide +kernel
theorem dX8_remove_75 : decode cX8_remove 75 = .ok (.iastore, 1) := by decide +kernel
theorem dX8_remove_76 : decode cX8_remove 76 = .ok (.aload_n 0, 1) := by decide +kernel
theorem dX8_remove_77 : decode cX8_remove 77 = .ok (.getfield 24, 3) := by decide +kernel
theorem dX8_remove_80 : decode cX8_remove 80 = .ok (.iload_n 2, 1) := by decide +kernel
theorem dX8_remove_81 : decode cX8_remove 81 = .ok (.aload_n 0, 1) := by decide +kernel
theorem dX8_remove_82 : decode cX8_remove 82 = .ok (.getfield 24, 3) := by decide +kernel
theorem dX8_remove_85 : decode cX8_remove 85 = .ok (.iload_n 2, 1) := by decide +kernel
theorem dX8_remove_86 : decode cX8_remove 86 = .ok (.iconst 1, 1) := by decide +kernel
theorem dX8_remove_87 : decode cX8_remove 87 = .ok (.iadd, 1) := by decide +kernel
theorem dX8_remove_88 : decode cX8_remove 88 = .ok (.iaload, 1) := by decide +kernel
theorem dX8_remove_89 : decode cX8_remove 89 = .ok (.iastore, 1) := by decide +kernel
theorem dX8_remove_90 : decode cX8_remove 90 = .ok (.iinc 2 1, 3) := by decide +kernel
theorem dX8_remove_93 : decode cX8_remove 93 = .ok (.goto (-81), 3) := by decide +kernel
theorem dX8_remove_96 : decode cX8_remove 96 = .ok (.return_, 1) := by decide +kernel
theorem dX8_copyFrom_0 : decode cX8_copyFrom 0 = .ok (.aload_n 0, 1) := by decide +kernel
theorem dX8_copyFrom_1 : decode cX8_copyFrom 1 = .ok (.aload_n 1, 1) := by decide +kernel
theorem dX8_copyFrom_2 : decode cX8_copyFrom 2 = .ok (.getfield 27, 3) := by decide +kernel
theorem dX8_copyFrom_5 : decode cX8_copyFrom 5 = .ok (.putfield 27, 3) := by decide +kernel
theorem dX8_copyFrom_8 : decode cX8_copyFrom 8 = .ok (.aload_n 0, 1) := by decide +kernel
theorem dX8_copyFrom_9 : decode cX8_copyFrom 9 = .ok (.aload_n 1, 1) := by decide +kernel
theorem dX8_copyFrom_10 : decode cX8_copyFrom 10 = .ok (.getfield 31, 3) := by decide +kernel
theorem dX8_copyFrom_13 : decode cX8_copyFrom 13 = .ok (.putfield 31, 3) := by decide +kernel
theorem dX8_copyFrom_16 : decode cX8_copyFrom 16 = .ok (.aload_n 1, 1) := by decide +kernel
theorem dX8_copyFrom_17 : decode cX8_copyFrom 17 = .ok (.getfield 9, 3) := by decide +kernel
theorem dX8_copyFrom_20 : decode cX8_copyFrom 20 = .ok (.iconst 0, 1) := by decide +kernel
theorem dX8_copyFrom_21 : decode cX8_copyFrom 21 = .ok (.aload_n 0, 1) := by decide +kernel
theorem dX8_copyFrom_22 : decode cX8_copyFrom 22 = .ok (.getfield 9, 3) := by decide +kernel
theorem dX8_copyFrom_25 : decode cX8_copyFrom 25 = .ok (.iconst 0, 1) := by decide +kernel
theorem dX8_copyFrom_26 : decode cX8_copyFrom 26 = .ok (.aload_n 0, 1) := by decide +kernel
theorem dX8_copyFrom_27 : decode cX8_copyFrom 27 = .ok (.getfield 27, 3) := by decide +kernel
theorem dX8_copyFrom_30 : decode cX8_copyFrom 30 = .ok (.invokestatic 38, 3) := by decide +kernel
theorem dX8_copyFrom_33 : decode cX8_copyFrom 33 = .ok (.aload_n 1, 1) := by decide +kernel
theorem dX8_copyFrom_34 : decode cX8_copyFrom 34 = .ok (.getfield 15, 3) := by decide +kernel
theorem dX8_copyFrom_37 : decode cX8_copyFrom 37 = .ok (.iconst 0, 1) := by decide +kernel
theorem dX8_copyFrom_38 : decode cX8_copyFrom 38 = .ok (.aload_n 0, 1) := by decide +kernel
theorem dX8_copyFrom_39 : decode cX8_copyFrom 39 = .ok (.getfield 15, 3) := by decide +kernel
theorem dX8_copyFrom_42 : decode cX8_copyFrom 42 = .ok (.iconst 0, 1) := by decide +kernel
theorem dX8_copyFrom_43 : decode cX8_copyFrom 43 = .ok (.aload_n 0, 1) := by decide +kernel
theorem dX8_copyFrom_44 : decode cX8_copyFrom 44 = .ok (.getfield 27, 3) := by decide +kernel
theorem dX8_copyFrom_47 : decode cX8_copyFrom 47 = .ok (.invokestatic 38, 3) := by decide +kernel
theorem dX8_copyFrom_50 : decode cX8_copyFrom 50 = .ok (.aload_n 1, 1) := by decide +kernel
theorem dX8_copyFrom_51 : decode cX8_copyFrom 51 = .ok (.getfield 18, 3) := by decide +kernel
theorem dX8_copyFrom_54 : decode cX8_copyFrom 54 = .ok (.iconst 0, 1) := by decide +kernel
theorem dX8_copyFrom_55 : decode cX8_copyFrom 55 = .ok (.aload_n 0, 1) := by decide +kernel
theorem dX8_copyFrom_56 : decode cX8_copyFrom 56 = .ok (.getfield 18, 3) := by decide +kernel
theorem dX8_copyFrom_59 : decode cX8_copyFrom 59 = .ok (.iconst 0, 1) := by decide +kernel
theorem dX8_copyFrom_60 : decode cX8_copyFrom 60 = .ok (.aload_n 0, 1) := by decide +kernel
theorem dX8_copyFrom_61 : decode cX8_copyFrom 61 = .ok (.getfield 27, 3) := by decide +kernel
theorem dX8_copyFrom_64 : decode cX8_copyFrom 64 = .ok (.invokestatic 38, 3) := by decide +kernel
theorem dX8_copyFrom_67 : decode cX8_copyFrom 67 = .ok (.aload_n 1, 1) := by decide +kernel
theorem dX8_copyFrom_68 : decode cX8_copyFrom 68 = .ok (.getfield 21, 3) := by decide +kernel
theorem dX8_copyFrom_71 : decode cX8_copyFrom 71 = .ok (.iconst 0, 1) := by decide +kernel
theorem dX8_copyFrom_72 : decode cX8_copyFrom 72 = .ok (.aload_n 0, 1) := by decide +kernel
theorem dX8_copyFrom_73 : decode cX8_copyFrom 73 = .ok (.getfield 21, 3) := by decide +kernel
theorem dX8_copyFrom_76 : decode cX8_copyFrom 76 = .ok (.iconst 0, 1) := by decide +kernel
theorem dX8_copyFrom_77 : decode cX8_copyFrom 77 = .ok (.aload_n 0, 1) := by decide +kernel
theorem dX8_copyFrom_78 : decode cX8_copyFrom 78 = .ok (.getfield 27, 3) := by decide +kernel
theorem dX8_copyFrom_81 : decode cX8_copyFrom 81 = .ok (.invokestatic 38, 3) := by decide +kernel
theorem dX8_copyFrom_84 : decode cX8_copyFrom 84 = .ok (.aload_n 1, 1) := by decide +kernel
theorem dX8_copyFrom_85 : decode cX8_copyFrom 85 = .ok (.getfield 24, 3) := by decide +kernel
theorem dX8_copyFrom_88 : decode cX8_copyFrom 88 = .ok (.iconst 0, 1) := by decide +kernel
theorem dX8_copyFrom_89 : decode cX8_copyFrom 89 = .ok (.aload_n 0, 1) := by decide +kernel
theorem dX8_copyFrom_90 : decode cX8_copyFrom 90 = .ok (.getfield 24, 3) := by decide +kernel
theorem dX8_copyFrom_93 : decode cX8_copyFrom 93 = .ok (.iconst 0, 1) := by decide +kernel
theorem dX8_copyFrom_94 : decode cX8_copyFrom 94 = .ok (.aload_n 0, 1) := by decide +kernel
theorem dX8_copyFrom_95 : decode cX8_copyFrom 95 = .ok (.getfield 27, 3) := by decide +kernel
theorem dX8_copyFrom_98 : decode cX8_copyFrom 98 = .ok (.invokestatic 38, 3) := by decide +kernel
theorem dX8_copyFrom_101 : decode cX8_copyFrom 101 = .ok (.return_, 1) := by decide +kernel
theorem dX9_init_0 : decode cX9_init 0 = .ok (.aload_n 0, 1) := by decide +kernel
theorem dX9_init_1 : decode cX9_init 1 = .ok (.invokespecial 3, 3) := by decide +kernel
theorem dX9_init_4 : decode cX9_init 4 = .ok (.aload_n 0, 1) := by decide +kernel
theorem dX9_init_5 : decode cX9_init 5 = .ok (.bipush 60, 2) := by decide +kernel
theorem dX9_init_7 : decode cX9_init 7 = .ok (.newarray .int, 2) := by decide +kernel
theorem dX9_init_9 : decode cX9_init 9 = .ok (.putfield 11, 3) := by decide +kernel
theorem dX9_init_12 : decode cX9_init 12 = .ok (.return_, 1) := by decide +kernel
theorem dX9_put_0 : decode cX9_put 0 = .ok (.aload_n 0, 1) := by decide +kernel
theorem dX9_put_1 : decode cX9_put 1 = .ok (.getfield 15, 3) := by decide +kernel
theorem dX9_put_4 : decode cX9_put 4 = .ok (.bipush 60, 2) := by decide +kernel
theorem dX9_put_6 : decode cX9_put 6 = .ok (.if_icmp .lt 5, 3) := by decide +kernel
theorem dX9_put_9 : decode cX9_put 9 = .ok (.iconst 0, 1) := by decide +kernel
theorem dX9_put_10 : decode cX9_put 10 = .ok (.ireturn, 1) := by decide +kernel
theorem dX9_put_11 : decode cX9_put 11 = .ok (.aload_n 0, 1) := by decide +kernel
theorem dX9_put_12 : decode cX9_put 12 = .ok (.getfield 11, 3) := by decide +kernel
theorem dX9_put_15 : decode cX9_put 15 = .ok (.aload_n 0, 1) := by decide +kernel
theorem dX9_put_16 : decode cX9_put 16 = .ok (.getfield 15, 3) := by decide +kernel
theorem dX9_put_19 : decode cX9_put 19 = .ok (.iload_n 1, 1) := by decide +kernel
theorem dX9_put_20 : decode cX9_put 20 = .ok (.iastore, 1) := by decide +kernel
theorem dX9_put_21 : decode cX9_put 21 = .ok (.aload_n 0, 1) := by decide +kernel
theorem dX9_put_22 : decode cX9_put 22 = .ok (.dup, 1) := by decide +kernel
theorem dX9_put_23 : decode cX9_put 23 = .ok (.getfield 15, 3) := by decide +kernel
theorem dX9_put_26 : decode cX9_put 26 = .ok (.iconst 1, 1) := by decide +kernel
theorem dX9_put_27 : decode cX9_put 27 = .ok (.iadd, 1) := by decide +kernel
theorem dX9_put_28 : decode cX9_put 28 = .ok (.putfield 15, 3) := by decide +kernel
theorem dX9_put_31 : decode cX9_put 31 = .ok (.iconst 1, 1) := by decide +kernel
theorem dX9_put_32 : decode cX9_put 32 = .ok (.ireturn, 1) := by decide +kernel
theorem dX9_read_0 : decode cX9_read 0 = .ok (.aload_n 0, 1) := by decide +kernel
theorem dX9_read_1 : decode cX9_read 1 = .ok (.aload_n 1, 1) := by decide +kernel
theorem dX9_read_2 : decode cX9_read 2 = .ok (.invokevirtual 19, 3) := by decide +kernel
theorem dX9_read_5 : decode cX9_read 5 = .ok (.istore_n 2, 1) := by decide +kernel
theorem dX9_read_6 : decode cX9_read 6 = .ok (.aload_n 0, 1) := by decide +kernel
theorem dX9_read_7 : decode cX9_read 7 = .ok (.iconst 0, 1) := by decide +kernel
theorem dX9_read_8 : decode cX9_read 8 = .ok (.putfield 15, 3) := by decide +kernel
theorem dX9_read_11 : decode cX9_read 11 = .ok (.iload_n 2, 1) := by decide +kernel
theorem dX9_read_12 : decode cX9_read 12 = .ok (.ireturn, 1) := by decide +kernel
theorem dX9_parse_0 : decode cX9_parse 0 = .ok (.aload_n 1, 1) := by decide +kernel
theorem dX9_parse_1 : decode cX9_parse 1 = .ok (.iconst 0, 1) := by decide +kernel
theorem dX9_parse_2 : decode cX9_parse 2 = .ok (.putfield 23, 3) := by decide +kernel
theorem dX9_parse_5 : decode cX9_parse 5 = .ok (.aload_n 0, 1) := by decide +kernel
theorem dX9_parse_6 : decode cX9_parse 6 = .ok (.iconst 0, 1) := by decide +kernel
theorem dX9_parse_7 : decode cX9_parse 7 = .ok (.putfield 26, 3) := by decide +kernel
theorem dX9_parse_10 : decode cX9_parse 10 = .ok (.iconst 0, 1) := by decide +kernel
theorem dX9_parse_11 : decode cX9_parse 11 = .ok (.istore_n 2, 1) := by decide +kernel
theorem dX9_parse_12 : decode cX9_parse 12 = .ok (.iload_n 2, 1) := by decide +kernel
theorem dX9_parse_13 : decode cX9_parse 13 = .ok (.iconst 4, 1) := by decide +kernel
theorem dX9_parse_14 : decode cX9_parse 14 = .ok (.if_icmp .ge 137, 3) := by decide +kernel
theorem dX9_parse_17 : decode cX9_parse 17 = .ok (.aload_n 0, 1) := by decide +kernel
theorem dX9_parse_18 : decode cX9_parse 18 = .ok (.getfield 26, 3) := by decide +kernel
theorem dX9_parse_21 : decode cX9_parse 21 = .ok (.istore_n 3, 1) := by decide +kernel
theorem dX9_parse_22 : decode cX9_parse 22 = .ok (.aload_n 0, 1) := by decide +kernel
theorem dX9_parse_23 : decode cX9_parse 23 = .ok (.invokevirtual 29, 3) := by decide +kernel
theorem dX9_parse_26 : decode cX9_parse 26 = .ok (.istore 4, 2) := by decide +kernel
theorem dX9_parse_28 : decode cX9_parse 28 = .ok (.iload 4, 2) := by decide +kernel
theorem dX9_parse_30 : decode cX9_parse 30 = .ok (.iconst 1, 1) := by decide +kernel
theorem dX9_parse_31 : decode cX9_parse 31 = .ok (.if_icmp .lt 10, 3) := by decide +kernel
theorem dX9_parse_34 : decode cX9_parse 34 = .ok (.iload 4, 2) := by decide +kernel
theorem dX9_parse_36 : decode cX9_parse 36 = .ok (.bipush 16, 2) := by decide +kernel
theorem dX9_parse_38 : decode cX9_parse 38 = .ok (.if_icmp .le 5, 3) := by decide +kernel
theorem dX9_parse_41 : decode cX9_parse 41 = .ok (.iload_n 3, 1) := by decide +kernel
theorem dX9_parse_42 : decode cX9_parse 42 = .ok (.ireturn, 1) := by decide +kernel
theorem dX9_parse_43 : decode cX9_parse 43 = .ok (.aload_n 0, 1) := by decide +kernel
theorem dX9_parse_44 : decode cX9_parse 44 = .ok (.invokevirtual 33, 3) := by decide +kernel
theorem dX9_parse_47 : decode cX9_parse 47 = .ok (.bipush 120, 2) := by decide +kernel
theorem dX9_parse_49 : decode cX9_parse 49 = .ok (.if_icmp .eq 8, 3) := by decide +kernel
theorem dX9_parse_52 : decode cX9_parse 52 = .ok (.aload_n 0, 1) := by decide +kernel
theorem dX9_parse_53 : decode cX9_parse 53 = .ok (.getfield 26, 3) := by decide +kernel
theorem dX9_parse_56 : decode cX9_parse 56 = .ok (.ireturn, 1) := by decide +kernel
theorem dX9_parse_57 : decode cX9_parse 57 = .ok (.aload_n 0, 1) := by decide +kernel
theorem dX9_parse_58 : decode cX9_parse 58 = .ok (.dup, 1) := by decide +kernel
theorem dX9_parse_59 : decode cX9_parse 59 = .ok (.getfield 26, 3) := by decide +kernel
theorem dX9_parse_62 : decode cX9_parse 62 = .ok (.iconst 1, 1) := by decide +kernel
theorem dX9_parse_63 : decode cX9_parse 63 = .ok (.iadd, 1) := by decide +kernel
theorem dX9_parse_64 : decode cX9_parse 64 = .ok (.putfield 26, 3) := by decide +kernel
theorem dX9_parse_67 : decode cX9_parse 67 = .ok (.aload_n 0, 1) := by decide +kernel
theorem dX9_parse_68 : decode cX9_parse 68 = .ok (.getfield 26, 3) := by decide +kernel
theorem dX9_parse_71 : decode cX9_parse 71 = .ok (.istore 5, 2) := by decide +kernel
theorem dX9_parse_73 : decode cX9_parse 73 = .ok (.aload_n 0, 1) := by decide +kernel
theorem dX9_parse_74 : decode cX9_parse 74 = .ok (.invokevirtual 29, 3) := by decide +kernel
theorem dX9_parse_77 : decode cX9_parse 77 = .ok (.istore 6, 2) := by decide +kernel
theorem dX9_parse_79 : decode cX9_parse 79 = .ok (.iload 6, 2) := by decide +kernel
theorem dX9_parse_81 : decode cX9_parse 81 = .ok (.iconst 1, 1) := by decide +kernel
theorem dX9_parse_82 : decode cX9_parse 82 = .ok (.if_icmp .lt 11, 3) := by decide +kernel
theorem dX9_parse_85 : decode cX9_parse 85 = .ok (.iload 6, 2) := by decide +kernel
theorem dX9_parse_87 : decode cX9_parse 87 = .ok (.sipush 200, 3) := by decide +kernel
theorem dX9_parse_90 : decode cX9_parse 90 = .ok (.if_icmp .le 6, 3) := by decide +kernel
theorem dX9_parse_93 : decode cX9_parse 93 = .ok (.iload 5, 2) := by decide +kernel
theorem dX9_parse_95 : decode cX9_parse 95 = .ok (.ireturn, 1) := by decide +kernel
theorem dX9_parse_96 : decode cX9_parse 96 = .ok (.aload_n 1, 1) := by decide +kernel
theorem dX9_parse_97 : decode cX9_parse 97 = .ok (.iload 4, 2) := by decide +kernel
theorem dX9_parse_99 : decode cX9_parse 99 = .ok (.iload 6, 2) := by decide +kernel
theorem dX9_parse_101 : decode cX9_parse 101 = .ok (.invokevirtual 36, 3) := by decide +kernel
theorem dX9_parse_104 : decode cX9_parse 104 = .ok (.aload_n 0, 1) := by decide +kernel
theorem dX9_parse_105 : decode cX9_parse 105 = .ok (.getfield 26, 3) := by decide +kernel
theorem dX9_parse_108 : decode cX9_parse 108 = .ok (.aload_n 0, 1) := by decide +kernel
theorem dX9_parse_109 : decode cX9_parse 109 = .ok (.getfield 15, 3) := by decide +kernel
theorem dX9_parse_112 : decode cX9_parse 112 = .ok (.if_icmp .ne 9, 3) := by decide +kernel
theorem dX9_parse_115 : decode cX9_parse 115 = .ok (.aload_n 1, 1) := by decide +kernel
theorem dX9_parse_116 : decode cX9_parse 116 = .ok (.invokevirtual 40, 3) := by decide +kernel
theorem dX9_parse_119 : decode cX9_parse 119 = .ok (.iconst (-1), 1) := by decide +kernel
theorem dX9_parse_120 : decode cX9_parse 120 = .ok (.ireturn, 1) := by decide +kernel
theorem dX9_parse_121 : decode cX9_parse 121 = .ok (.aload_n 0, 1) := by decide +kernel
theorem dX9_parse_122 : decode cX9_parse 122 = .ok (.invokevirtual 33, 3) := by decide +kernel
theorem dX9_parse_125 : decode cX9_parse 125 = .ok (.bipush 44, 2) := by decide +kernel
theorem dX9_parse_127 : decode cX9_parse 127 = .ok (.if_icmp .eq 8, 3) := by decide +kernel
theorem dX9_parse_130 : decode cX9_parse 130 = .ok (.aload_n 0, 1) := by decide +kernel
theorem dX9_parse_131 : decode cX9_parse 131 = .ok (.getfield 26, 3) := by decide +kernel
theorem dX9_parse_134 : decode cX9_parse 134 = .ok (.ireturn, 1) := by decide +kernel
theorem dX9_parse_135 : decode cX9_parse 135 = .ok (.aload_n 0, 1) := by decide +kernel
theorem dX9_parse_136 : decode cX9_parse 136 = .ok (.dup, 1) := by decide +kernel
theorem dX9_parse_137 : decode cX9_parse 137 = .ok (.getfield 26, 3) := by decide +kernel
theorem dX9_parse_140 : decode cX9_parse 140 = .ok (.iconst 1, 1) := by decide +kernel
theorem dX9_parse_141 : decode cX9_parse 141 = .ok (.iadd, 1) := by decide +kernel
theorem dX9_parse_142 : decode cX9_parse 142 = .ok (.putfield 26, 3) := by decide +kernel
theorem dX9_parse_145 : decode cX9_parse 145 = .ok (.iinc 2 1, 3) := by decide +kernel
theorem dX9_parse_148 : decode cX9_parse 148 = .ok (.goto (-136), 3) := by decide +kernel
theorem dX9_parse_151 : decode cX9_parse 151 = .ok (.aload_n 0, 1) := by decide +kernel
theorem dX9_parse_152 : decode cX9_parse 152 = .ok (.getfield 26, 3) := by decide +kernel
theorem dX9_parse_155 : decode cX9_parse 155 = .ok (.iconst 1, 1) := by decide +kernel
theorem dX9_parse_156 : decode cX9_parse 156 = .ok (.isub, 1) := by decide +kernel
theorem dX9_parse_157 : decode cX9_parse 157 = .ok (.ireturn, 1) := by decide +kernel
theorem dX9_next_0 : decode cX9_next 0 = .ok (.aload_n 0, 1) := by decide +kernel
theorem dX9_next_1 : decode cX9_next 1 = .ok (.getfield 26, 3) := by decide +kernel
theorem dX9_next_4 : decode cX9_next 4 = .ok (.aload_n 0, 1) := by decide +kernel
theorem dX9_next_5 : decode cX9_next 5 = .ok (.getfield 15, 3) := by decide +kernel
theorem dX9_next_8 : decode cX9_next 8 = .ok (.if_icmp .ge 15, 3) := by decide +kernel
theorem dX9_next_11 : decode cX9_next 11 = .ok (.aload_n 0, 1) := by decide +kernel
theorem dX9_next_12 : decode cX9_next 12 = .ok (.getfield 11, 3) := by decide +kernel
theorem dX9_next_15 : decode cX9_next 15 = .ok (.aload_n 0, 1) := by decide +kernel
theorem dX9_next_16 : decode cX9_next 16 = .ok (.getfield 26, 3) := by decide +kernel
theorem dX9_next_19 : decode cX9_next 19 = .ok (.iaload, 1) := by decide +kernel
theorem dX9_next_20 : decode cX9_next 20 = .ok (.goto 4, 3) := by decide +kernel
theorem dX9_next_23 : decode cX9_next 23 = .ok (.iconst (-1), 1) := by decide +kernel
theorem dX9_next_24 : decode cX9_next 24 = .ok (.ireturn, 1) := by decide +kernel
theorem dX9_number_0 : decode cX9_number 0 = .ok (.iconst 0, 1) := by decide +kernel
theorem dX9_number_1 : decode cX9_number 1 = .ok (.istore_n 1, 1) := by decide +kernel
theorem dX9_number_2 : decode cX9_number 2 = .ok (.iconst 0, 1) := by decide +kernel
theorem dX9_number_3 : decode cX9_number 3 = .ok (.istore_n 2, 1) := by decide +kernel
theorem dX9_number_4 : decode cX9_number 4 = .ok (.iload_n 2, 1) := by decide +kernel
theorem dX9_number_5 : decode cX9_number 5 = .ok (.iconst 3, 1) := by decide +kernel
theorem dX9_number_6 : decode cX9_number 6 = .ok (.if_icmp .ge 50, 3) := by decide +kernel
theorem dX9_number_9 : decode cX9_number 9 = .ok (.aload_n 0, 1) := by decide +kernel
theorem dX9_number_10 : decode cX9_number 10 = .ok (.invokevirtual 33, 3) := by decide +kernel
theorem dX9_number_13 : decode cX9_number 13 = .ok (.bipush 48, 2) := by decide +kernel
theorem dX9_number_15 : decode cX9_number 15 = .ok (.if_icmp .lt 41, 3) := by decide +kernel
theorem dX9_number_18 : decode cX9_number 18 = .ok (.aload_n 0, 1) := by decide +kernel
theorem dX9_number_19 : decode cX9_number 19 = .ok (.invokevirtual 33, 3) := by decide +kernel
theorem dX9_number_22 : decode cX9_number 22 = .ok (.bipush 57, 2) := by decide +kernel
theorem dX9_number_24 : decode cX9_number 24 = .ok (.if_icmp .gt 32, 3) := by decide +kernel
theorem dX9_number_27 : decode cX9_number 27 = .ok (.iload_n 1, 1) := by decide +kernel
theorem dX9_number_28 : decode cX9_number 28 = .ok (.bipush 10, 2) := by decide +kernel
theorem dX9_number_30 : decode cX9_number 30 = .ok (.imul, 1) := by decide +kernel
theorem dX9_number_31 : decode cX9_number 31 = .ok (.aload_n 0, 1) := by decide +kernel
theorem dX9_number_32 : decode cX9_number 32 = .ok (.invokevirtual 33, 3) := by decide +kernel
theorem dX9_number_35 : decode cX9_number 35 = .ok (.iadd, 1) := by decide +kernel
theorem dX9_number_36 : decode cX9_number 36 = .ok (.bipush 48, 2) := by decide +kernel
theorem dX9_number_38 : decode cX9_number 38 = .ok (.isub, 1) := by decide +kernel
theorem dX9_number_39 : decode cX9_number 39 = .ok (.istore_n 1, 1) := by decide +kernel
theorem dX9_number_40 : decode cX9_number 40 = .ok (.aload_n 0, 1) := by decide +kernel
theorem dX9_number_41 : decode cX9_number 41 = .ok (.dup, 1) := by decide +kernel
theorem dX9_number_42 : decode cX9_number 42 = .ok (.getfield 26, 3) := by decide +kernel
theorem dX9_number_45 : decode cX9_number 45 = .ok (.iconst 1, 1) := by decide +kernel
theorem dX9_number_46 : decode cX9_number 46 = .ok (.iadd, 1) := by decide +kernel
theorem dX9_number_47 : decode cX9_number 47 = .ok (.putfield 26, 3) := by decide +kernel
theorem dX9_number_50 : decode cX9_number 50 = .ok (.iinc 2 1, 3) := by decide +kernel
theorem dX9_number_53 : decode cX9_number 53 = .ok (.goto (-49), 3) := by decide +kernel
theorem dX9_number_56 : decode cX9_number 56 = .ok (.iload_n 1, 1) := by decide +kernel
theorem dX9_number_57 : decode cX9_number 57 = .ok (.ireturn, 1) := by decide +kernel
theorem dX10_init_0 : decode cX10_init 0 = .ok (.aload_n 0, 1) := by decide +kernel
theorem dX10_init_1 : decode cX10_init 1 = .ok (.invokespecial 3, 3) := by decide +kernel
theorem dX10_init_4 : decode cX10_init 4 = .ok (.aload_n 0, 1) := by decide +kernel
theorem dX10_init_5 : decode cX10_init 5 = .ok (.new 9, 3) := by decide +kernel
theorem dX10_init_8 : decode cX10_init 8 = .ok (.dup, 1) := by decide +kernel
theorem dX10_init_9 : decode cX10_init 9 = .ok (.iconst 1, 1) := by decide +kernel
theorem dX10_init_10 : decode cX10_init 10 = .ok (.invokespecial 11, 3) := by decide +kernel
theorem dX10_init_13 : decode cX10_init 13 = .ok (.putfield 14, 3) := by decide +kernel
theorem dX10_init_16 : decode cX10_init 16 = .ok (.aload_n 0, 1) := by decide +kernel
theorem dX10_init_17 : decode cX10_init 17 = .ok (.new 20, 3) := by decide +kernel
theorem dX10_init_20 : decode cX10_init 20 = .ok (.dup, 1) := by decide +kernel
theorem dX10_init_21 : decode cX10_init 21 = .ok (.invokespecial 22, 3) := by decide +kernel
theorem dX10_init_24 : decode cX10_init 24 = .ok (.putfield 23, 3) := by decide +kernel
theorem dX10_init_27 : decode cX10_init 27 = .ok (.aload_n 0, 1) := by decide +kernel
theorem dX10_init_28 : decode cX10_init 28 = .ok (.bipush 80, 2) := by decide +kernel
theorem dX10_init_30 : decode cX10_init 30 = .ok (.newarray .int, 2) := by decide +kernel
theorem dX10_init_32 : decode cX10_init 32 = .ok (.putfield 27, 3) := by decide +kernel
theorem dX10_init_35 : decode cX10_init 35 = .ok (.aload_n 0, 1) := by decide +kernel
theorem dX10_init_36 : decode cX10_init 36 = .ok (.new 31, 3) := by decide +kernel
theorem dX10_init_39 : decode cX10_init 39 = .ok (.dup, 1) := by decide +kernel
theorem dX10_init_40 : decode cX10_init 40 = .ok (.invokespecial 33, 3) := by decide +kernel
theorem dX10_init_43 : decode cX10_init 43 = .ok (.putfield 34, 3) := by decide +kernel
theorem dX10_init_46 : decode cX10_init 46 = .ok (.aload_n 0, 1) := by decide +kernel
theorem dX10_init_47 : decode cX10_init 47 = .ok (.new 38, 3) := by decide +kernel
theorem dX10_init_50 : decode cX10_init 50 = .ok (.dup, 1) := by decide +kernel
theorem dX10_init_51 : decode cX10_init 51 = .ok (.invokespecial 40, 3) := by decide +kernel
theorem dX10_init_54 : decode cX10_init 54 = .ok (.putfield 41, 3) := by decide +kernel
theorem dX10_init_57 : decode cX10_init 57 = .ok (.aload_n 0, 1) := by decide +kernel
theorem dX10_init_58 : decode cX10_init 58 = .ok (.bipush 16, 2) := by decide +kernel
theorem dX10_init_60 : decode cX10_init 60 = .ok (.newarray .int, 2) := by decide +kernel
theorem dX10_init_62 : decode cX10_init 62 = .ok (.putfield 45, 3) := by decide +kernel
theorem dX10_init_65 : decode cX10_init 65 = .ok (.aload_n 0, 1) := by decide +kernel
theorem dX10_init_66 : decode cX10_init 66 = .ok (.iconst 4, 1) := by decide +kernel
theorem dX10_init_67 : decode cX10_init 67 = .ok (.newarray .int, 2) := by decide +kernel
theorem dX10_init_69 : decode cX10_init 69 = .ok (.putfield 48, 3) := by decide +kernel
theorem dX10_init_72 : decode cX10_init 72 = .ok (.return_, 1) := by decide +kernel
theorem dX10_beginAs_0 : decode cX10_beginAs 0 = .ok (.aload_n 0, 1) := by decide +kernel
theorem dX10_beginAs_1 : decode cX10_beginAs 1 = .ok (.getfield 14, 3) := by decide +kernel
theorem dX10_beginAs_4 : decode cX10_beginAs 4 = .ok (.aload_n 1, 1) := by decide +kernel
theorem dX10_beginAs_5 : decode cX10_beginAs 5 = .ok (.invokevirtual 51, 3) := by decide +kernel
theorem dX10_beginAs_8 : decode cX10_beginAs 8 = .ok (.aload_n 0, 1) := by decide +kernel
theorem dX10_beginAs_9 : decode cX10_beginAs 9 = .ok (.getfield 14, 3) := by decide +kernel
theorem dX10_beginAs_12 : decode cX10_beginAs 12 = .ok (.getfield 55, 3) := by decide +kernel
theorem dX10_beginAs_15 : decode cX10_beginAs 15 = .ok (.iconst 0, 1) := by decide +kernel
theorem dX10_beginAs_16 : decode cX10_beginAs 16 = .ok (.putfield 59, 3) := by decide +kernel
theorem dX10_beginAs_19 : decode cX10_beginAs 19 = .ok (.iconst 0, 1) := by decide +kernel
theorem dX10_beginAs_20 : decode cX10_beginAs 20 = .ok (.istore_n 2, 1) := by decide +kernel
theorem dX10_beginAs_21 : decode cX10_beginAs 21 = .ok (.iload_n 2, 1) := by decide +kernel
theorem dX10_beginAs_22 : decode cX10_beginAs 22 = .ok (.aload_n 0, 1) := by decide +kernel
theorem dX10_beginAs_23 : decode cX10_beginAs 23 = .ok (.getfield 14, 3) := by decide +kernel
theorem dX10_beginAs_26 : decode cX10_beginAs 26 = .ok (.getfield 65, 3) := by decide +kernel
theorem dX10_beginAs_29 : decode cX10_beginAs 29 = .ok (.getfield 69, 3) := by decide +kernel
theorem dX10_beginAs_32 : decode cX10_beginAs 32 = .ok (.if_icmp .ge 23, 3) := by decide +kernel
theorem dX10_beginAs_35 : decode cX10_beginAs 35 = .ok (.aload_n 0, 1) := by decide +kernel
theorem dX10_beginAs_36 : decode cX10_beginAs 36 = .ok (.getfield 14, 3) := by decide +kernel
theorem dX10_beginAs_39 : decode cX10_beginAs 39 = .ok (.getfield 65, 3) := by decide +kernel
theorem dX10_beginAs_42 : decode cX10_beginAs 42 = .ok (.getfield 74, 3) := by decide +kernel
theorem dX10_beginAs_45 : decode cX10_beginAs 45 = .ok (.iload_n 2, 1) := by decide +kernel
theorem dX10_beginAs_46 : decode cX10_beginAs 46 = .ok (.bipush 100, 2) := by decide +kernel
theorem dX10_beginAs_48 : decode cX10_beginAs 48 = .ok (.iastore, 1) := by decide +kernel
theorem dX10_beginAs_49 : decode cX10_beginAs 49 = .ok (.iinc 2 1, 3) := by decide +kernel
theorem dX10_beginAs_52 : decode cX10_beginAs 52 = .ok (.goto (-31), 3) := by decide +kernel
theorem dX10_beginAs_55 : decode cX10_beginAs 55 = .ok (.iconst 0, 1) := by decide +kernel
theorem dX10_beginAs_56 : decode cX10_beginAs 56 = .ok (.istore_n 2, 1) := by decide +kernel
theorem dX10_beginAs_57 : decode cX10_beginAs 57 = .ok (.iload_n 2, 1) := by decide +kernel
theorem dX10_beginAs_58 : decode cX10_beginAs 58 = .ok (.bipush 16, 2) := by decide +kernel
theorem dX10_beginAs_60 : decode cX10_beginAs 60 = .ok (.if_icmp .ge 47, 3) := by decide +kernel
theorem dX10_beginAs_63 : decode cX10_beginAs 63 = .ok (.aload_n 0, 1) := by decide +kernel
theorem dX10_beginAs_64 : decode cX10_beginAs 64 = .ok (.getfield 14, 3) := by decide +kernel
theorem dX10_beginAs_67 : decode cX10_beginAs 67 = .ok (.getfield 77, 3) := by decide +kernel
theorem dX10_beginAs_70 : decode cX10_beginAs 70 = .ok (.getfield 81, 3) := by decide +kernel
theorem dX10_beginAs_73 : decode cX10_beginAs 73 = .ok (.iload_n 2, 1) := by decide +kernel
theorem dX10_beginAs_74 : decode cX10_beginAs 74 = .ok (.iaload, 1) := by decide +kernel
theorem dX10_beginAs_75 : decode cX10_beginAs 75 = .ok (.istore_n 3, 1) := by decide +kernel
theorem dX10_beginAs_76 : decode cX10_beginAs 76 = .ok (.iload_n 3, 1) := by decide +kernel
theorem dX10_beginAs_77 : decode cX10_beginAs 77 = .ok (.iconst (-1), 1) := by decide +kernel
theorem dX10_beginAs_78 : decode cX10_beginAs 78 = .ok (.if_icmp .eq 23, 3) := by decide +kernel
theorem dX10_beginAs_81 : decode cX10_beginAs 81 = .ok (.aload_n 0, 1) := by decide +kernel
theorem dX10_beginAs_82 : decode cX10_beginAs 82 = .ok (.getfield 14, 3) := by decide +kernel
theorem dX10_beginAs_85 : decode cX10_beginAs 85 = .ok (.getfield 77, 3) := by decide +kernel
theorem dX10_beginAs_88 : decode cX10_beginAs 88 = .ok (.getfield 86, 3) := by decide +kernel
theorem dX10_beginAs_91 : decode cX10_beginAs 91 = .ok (.iload_n 3, 1) := by decide +kernel
theorem dX10_beginAs_92 : decode cX10_beginAs 92 = .ok (.aload_n 0, 1) := by decide +kernel
theorem dX10_beginAs_93 : decode cX10_beginAs 93 = .ok (.getfield 14, 3) := by decide +kernel
theorem dX10_beginAs_96 : decode cX10_beginAs 96 = .ok (.iload_n 3, 1) := by decide +kernel
theorem dX10_beginAs_97 : decode cX10_beginAs 97 = .ok (.invokevirtual 89, 3) := by decide +kernel
theorem dX10_beginAs_100 : decode cX10_beginAs 100 = .ok (.iastore, 1) := by decide +kernel
theorem dX10_beginAs_101 : decode cX10_beginAs 101 = .ok (.iinc 2 1, 3) := by decide +kernel
theorem dX10_beginAs_104 : decode cX10_beginAs 104 = .ok (.goto (-47), 3) := by decide +kernel
theorem dX10_beginAs_107 : decode cX10_beginAs 107 = .ok (.return_, 1) := by decide +kernel
theorem dX10_letGoBy_0 : decode cX10_letGoBy 0 = .ok (.iconst 0, 1) := by decide +kernel
theorem dX10_letGoBy_1 : decode cX10_letGoBy 1 = .ok (.istore_n 2, 1) := by decide +kernel
theorem dX10_letGoBy_2 : decode cX10_letGoBy 2 = .ok (.iload_n 2, 1) := by decide +kernel
theorem dX10_letGoBy_3 : decode cX10_letGoBy 3 = .ok (.sipush 300, 3) := by decide +kernel
theorem dX10_letGoBy_6 : decode cX10_letGoBy 6 = .ok (.if_icmp .ge 57, 3) := by decide +kernel
theorem dX10_letGoBy_9 : decode cX10_letGoBy 9 = .ok (.aload_n 0, 1) := by decide +kernel
theorem dX10_letGoBy_10 : decode cX10_letGoBy 10 = .ok (.getfield 14, 3) := by decide +kernel
theorem dX10_letGoBy_13 : decode cX10_letGoBy 13 = .ok (.getfield 65, 3) := by decide +kernel
theorem dX10_letGoBy_16 : decode cX10_letGoBy 16 = .ok (.invokevirtual 93, 3) := by decide +kernel
theorem dX10_letGoBy_19 : decode cX10_letGoBy 19 = .ok (.ifCond .eq 44, 3) := by decide +kernel
theorem dX10_letGoBy_22 : decode cX10_letGoBy 22 = .ok (.aload_n 0, 1) := by decide +kernel
theorem dX10_letGoBy_23 : decode cX10_letGoBy 23 = .ok (.getfield 23, 3) := by decide +kernel
theorem dX10_letGoBy_26 : decode cX10_letGoBy 26 = .ok (.aload_n 0, 1) := by decide +kernel
theorem dX10_letGoBy_27 : decode cX10_letGoBy 27 = .ok (.getfield 14, 3) := by decide +kernel
theorem dX10_letGoBy_30 : decode cX10_letGoBy 30 = .ok (.invokevirtual 97, 3) := by decide +kernel
theorem dX10_letGoBy_33 : decode cX10_letGoBy 33 = .ok (.iload_n 1, 1) := by decide +kernel
theorem dX10_letGoBy_34 : decode cX10_letGoBy 34 = .ok (.iconst (-1), 1) := by decide +kernel
theorem dX10_letGoBy_35 : decode cX10_letGoBy 35 = .ok (.if_icmp .eq 22, 3) := by decide +kernel
theorem dX10_letGoBy_38 : decode cX10_letGoBy 38 = .ok (.aload_n 0, 1) := by decide +kernel
theorem dX10_letGoBy_39 : decode cX10_letGoBy 39 = .ok (.getfield 14, 3) := by decide +kernel
theorem dX10_letGoBy_42 : decode cX10_letGoBy 42 = .ok (.getfield 65, 3) := by decide +kernel
theorem dX10_letGoBy_45 : decode cX10_letGoBy 45 = .ok (.getfield 100, 3) := by decide +kernel
theorem dX10_letGoBy_48 : decode cX10_letGoBy 48 = .ok (.iload_n 1, 1) := by decide +kernel
theorem dX10_letGoBy_49 : decode cX10_letGoBy 49 = .ok (.iaload, 1) := by decide +kernel
theorem dX10_letGoBy_50 : decode cX10_letGoBy 50 = .ok (.iconst (-1), 1) := by decide +kernel
theorem dX10_letGoBy_51 : decode cX10_letGoBy 51 = .ok (.if_icmp .eq 6, 3) := by decide +kernel
theorem dX10_letGoBy_54 : decode cX10_letGoBy 54 = .ok (.goto 9, 3) := by decide +kernel
theorem dX10_letGoBy_57 : decode cX10_letGoBy 57 = .ok (.iinc 2 1, 3) := by decide +kernel
theorem dX10_letGoBy_60 : decode cX10_letGoBy 60 = .ok (.goto (-58), 3) := by decide +kernel
theorem dX10_letGoBy_63 : decode cX10_letGoBy 63 = .ok (.return_, 1) := by decide +kernel
theorem dX10_startOf_0 : decode cX10_startOf 0 = .ok (.aload_n 0, 1) := by decide +kernel
theorem dX10_startOf_1 : decode cX10_startOf 1 = .ok (.aload_n 1, 1) := by decide +kernel
theorem dX10_startOf_2 : decode cX10_startOf 2 = .ok (.invokevirtual 103, 3) := by decide +kernel
theorem dX10_startOf_5 : decode cX10_startOf 5 = .ok (.aload_n 0, 1) := by decide +kernel
theorem dX10_startOf_6 : decode cX10_startOf 6 = .ok (.iload_n 2, 1) := by decide +kernel
theorem dX10_startOf_7 : decode cX10_startOf 7 = .ok (.invokevirtual 106, 3) := by decide +kernel
theorem dX10_startOf_10 : decode cX10_startOf 10 = .ok (.aload_n 0, 1) := by decide +kernel
theorem dX10_startOf_11 : decode cX10_startOf 11 = .ok (.getfield 14, 3) := by decide +kernel
theorem dX10_startOf_14 : decode cX10_startOf 14 = .ok (.getfield 65, 3) := by decide +kernel
theorem dX10_startOf_17 : decode cX10_startOf 17 = .ok (.getfield 100, 3) := by decide +kernel
theorem dX10_startOf_20 : decode cX10_startOf 20 = .ok (.iload_n 2, 1) := by decide +kernel
theorem dX10_startOf_21 : decode cX10_startOf 21 = .ok (.iaload, 1) := by decide +kernel
theorem dX10_startOf_22 : decode cX10_startOf 22 = .ok (.ireturn, 1) := by decide +kernel
theorem dX10_seen_0 : decode cX10_seen 0 = .ok (.aload_n 0, 1) := by decide +kernel
theorem dX10_seen_1 : decode cX10_seen 1 = .ok (.aload_n 1, 1) := by decide +kernel
theorem dX10_seen_2 : decode cX10_seen 2 = .ok (.invokevirtual 103, 3) := by decide +kernel
theorem dX10_seen_5 : decode cX10_seen 5 = .ok (.aload_n 0, 1) := by decide +kernel
theorem dX10_seen_6 : decode cX10_seen 6 = .ok (.iconst (-1), 1) := by decide +kernel
theorem dX10_seen_7 : decode cX10_seen 7 = .ok (.invokevirtual 106, 3) := by decide +kernel
theorem dX10_seen_10 : decode cX10_seen 10 = .ok (.aload_n 0, 1) := by decide +kernel
theorem dX10_seen_11 : decode cX10_seen 11 = .ok (.getfield 14, 3) := by decide +kernel
theorem dX10_seen_14 : decode cX10_seen 14 = .ok (.getfield 55, 3) := by decide +kernel
theorem dX10_seen_17 : decode cX10_seen 17 = .ok (.areturn, 1) := by decide +kernel
theorem dX10_underRule_0 : decode cX10_underRule 0 = .ok (.aload_n 0, 1) := by decide +kernel
theorem dX10_underRule_1 : decode cX10_underRule 1 = .ok (.aload_n 1, 1) := by decide +kernel
theorem dX10_underRule_2 : decode cX10_underRule 2 = .ok (.invokevirtual 103, 3) := by decide +kernel
theorem dX10_underRule_5 : decode cX10_underRule 5 = .ok (.aload_n 0, 1) := by decide +kernel
theorem dX10_underRule_6 : decode cX10_underRule 6 = .ok (.getfield 14, 3) := by decide +kernel
theorem dX10_underRule_9 : decode cX10_underRule 9 = .ok (.getfield 110, 3) := by decide +kernel
theorem dX10_underRule_12 : decode cX10_underRule 12 = .ok (.iload_n 2, 1) := by decide +kernel
theorem dX10_underRule_13 : decode cX10_underRule 13 = .ok (.iload_n 3, 1) := by decide +kernel
theorem dX10_underRule_14 : decode cX10_underRule 14 = .ok (.iastore, 1) := by decide +kernel
theorem dX10_underRule_15 : decode cX10_underRule 15 = .ok (.aload_n 0, 1) := by decide +kernel
theorem dX10_underRule_16 : decode cX10_underRule 16 = .ok (.iconst (-1), 1) := by decide +kernel
theorem dX10_underRule_17 : decode cX10_underRule 17 = .ok (.invokevirtual 106, 3) := by decide +kernel
theorem dX10_underRule_20 : decode cX10_underRule 20 = .ok (.iconst 0, 1) := by decide +kernel
theorem dX10_underRule_21 : decode cX10_underRule 21 = .ok (.istore 5, 2) := by decide +kernel
theorem dX10_underRule_23 : decode cX10_underRule 23 = .ok (.iconst (-1), 1) := by decide +kernel
theorem dX10_underRule_24 : decode cX10_underRule 24 = .ok (.istore 6, 2) := by decide +kernel
theorem dX10_underRule_26 : decode cX10_underRule 26 = .ok (.iconst 0, 1) := by decide +kernel
theorem dX10_underRule_27 : decode cX10_underRule 27 = .ok (.istore 7, 2) := by decide +kernel
theorem dX10_underRule_29 : decode cX10_underRule 29 = .ok (.iload 7, 2) := by decide +kernel
theorem dX10_underRule_31 : decode cX10_underRule 31 = .ok (.aload_n 0, 1) := by decide +kernel
theorem dX10_underRule_32 : decode cX10_underRule 32 = .ok (.getfield 14, 3) := by decide +kernel
theorem dX10_underRule_35 : decode cX10_underRule 35 = .ok (.getfield 55, 3) := by decide +kernel
theorem dX10_underRule_38 : decode cX10_underRule 38 = .ok (.getfield 59, 3) := by decide +kernel
theorem dX10_underRule_41 : decode cX10_underRule 41 = .ok (.if_icmp .ge 56, 3) := by decide +kernel
theorem dX10_underRule_44 : decode cX10_underRule 44 = .ok (.aload_n 0, 1) := by decide +kernel
theorem dX10_underRule_45 : decode cX10_underRule 45 = .ok (.getfield 14, 3) := by decide +kernel
theorem dX10_underRule_48 : decode cX10_underRule 48 = .ok (.getfield 65, 3) := by decide +kernel
theorem dX10_underRule_51 : decode cX10_underRule 51 = .ok (.getfield 100, 3) := by decide +kernel
theorem dX10_underRule_54 : decode cX10_underRule 54 = .ok (.aload_n 0, 1) := by decide +kernel
theorem dX10_underRule_55 : decode cX10_underRule 55 = .ok (.getfield 14, 3) := by decide +kernel
theorem dX10_underRule_58 : decode cX10_underRule 58 = .ok (.getfield 55, 3) := by decide +kernel
theorem dX10_underRule_61 : decode cX10_underRule 61 = .ok (.getfield 113, 3) := by decide +kernel
theorem dX10_underRule_64 : decode cX10_underRule 64 = .ok (.iload 7, 2) := by decide +kernel
theorem dX10_underRule_66 : decode cX10_underRule 66 = .ok (.iaload, 1) := by decide +kernel
theorem dX10_underRule_67 : decode cX10_underRule 67 = .ok (.iaload, 1) := by decide +kernel
theorem dX10_underRule_68 : decode cX10_underRule 68 = .ok (.aload_n 1, 1) := by decide +kernel
theorem dX10_underRule_69 : decode cX10_underRule 69 = .ok (.getfield 116, 3) := by decide +kernel
theorem dX10_underRule_72 : decode cX10_underRule 72 = .ok (.isub, 1) := by decide +kernel
theorem dX10_underRule_73 : decode cX10_underRule 73 = .ok (.istore 8, 2) := by decide +kernel
theorem dX10_underRule_75 : decode cX10_underRule 75 = .ok (.iload 5, 2) := by decide +kernel
theorem dX10_underRule_77 : decode cX10_underRule 77 = .ok (.iload 8, 2) := by decide +kernel
theorem dX10_underRule_79 : decode cX10_underRule 79 = .ok (.iadd, 1) := by decide +kernel
theorem dX10_underRule_80 : decode cX10_underRule 80 = .ok (.istore 5, 2) := by decide +kernel
theorem dX10_underRule_82 : decode cX10_underRule 82 = .ok (.iload 6, 2) := by decide +kernel
theorem dX10_underRule_84 : decode cX10_underRule 84 = .ok (.iload 8, 2) := by decide +kernel
theorem dX10_underRule_86 : decode cX10_underRule 86 = .ok (.invokestatic 119, 3) := by decide +kernel
theorem dX10_underRule_89 : decode cX10_underRule 89 = .ok (.istore 6, 2) := by decide +kernel
theorem dX10_underRule_91 : decode cX10_underRule 91 = .ok (.iinc 7 1, 3) := by decide +kernel
theorem dX10_underRule_94 : decode cX10_underRule 94 = .ok (.goto (-65), 3) := by decide +kernel
theorem dX10_underRule_97 : decode cX10_underRule 97 = .ok (.iload 4, 2) := by decide +kernel
theorem dX10_underRule_99 : decode cX10_underRule 99 = .ok (.ifCond .ne 14, 3) := by decide +kernel
theorem dX10_underRule_102 : decode cX10_underRule 102 = .ok (.aload_n 0, 1) := by decide +kernel
theorem dX10_underRule_103 : decode cX10_underRule 103 = .ok (.getfield 14, 3) := by decide +kernel
theorem dX10_underRule_106 : decode cX10_underRule 106 = .ok (.getfield 55, 3) := by decide +kernel
theorem dX10_underRule_109 : decode cX10_underRule 109 = .ok (.getfield 59, 3) := by decide +kernel
theorem dX10_underRule_112 : decode cX10_underRule 112 = .ok (.ireturn, 1) := by decide +kernel
theorem dX10_underRule_113 : decode cX10_underRule 113 = .ok (.iload 4, 2) := by decide +kernel
theorem dX10_underRule_115 : decode cX10_underRule 115 = .ok (.iconst 1, 1) := by decide +kernel
theorem dX10_underRule_116 : decode cX10_underRule 116 = .ok (.if_icmp .ne 8, 3) := by decide +kernel
theorem dX10_underRule_119 : decode cX10_underRule 119 = .ok (.iload 5, 2) := by decide +kernel
theorem dX10_underRule_121 : decode cX10_underRule 121 = .ok (.goto 5, 3) := by decide +kernel
theorem dX10_underRule_124 : decode cX10_underRule 124 = .ok (.iload 6, 2) := by decide +kernel
theorem dX10_underRule_126 : decode cX10_underRule 126 = .ok (.ireturn, 1) := by decide +kernel
theorem dX10_startOfNew_0 : decode cX10_startOfNew 0 = .ok (.aload_n 0, 1) := by decide +kernel
theorem dX10_startOfNew_1 : decode cX10_startOfNew 1 = .ok (.aload_n 1, 1) := by decide +kernel
theorem dX10_startOfNew_2 : decode cX10_startOfNew 2 = .ok (.invokevirtual 103, 3) := by decide +kernel
theorem dX10_startOfNew_5 : decode cX10_startOfNew 5 = .ok (.aload_n 0, 1) := by decide +kernel
theorem dX10_startOfNew_6 : decode cX10_startOfNew 6 = .ok (.getfield 14, 3) := by decide +kernel
theorem dX10_startOfNew_9 : decode cX10_startOfNew 9 = .ok (.aload_n 2, 1) := by decide +kernel
theorem dX10_startOfNew_10 : decode cX10_startOfNew 10 = .ok (.iload_n 3, 1) := by decide +kernel
theorem dX10_startOfNew_11 : decode cX10_startOfNew 11 = .ok (.iload 4, 2) := by decide +kernel
theorem dX10_startOfNew_13 : decode cX10_startOfNew 13 = .ok (.bipush 100, 2) := by decide +kernel
theorem dX10_startOfNew_15 : decode cX10_startOfNew 15 = .ok (.iconst (-1), 1) := by decide +kernel
theorem dX10_startOfNew_16 : decode cX10_startOfNew 16 = .ok (.invokevirtual 125, 3) := by decide +kernel
theorem dX10_startOfNew_19 : decode cX10_startOfNew 19 = .ok (.istore 5, 2) := by decide +kernel
theorem dX10_startOfNew_21 : decode cX10_startOfNew 21 = .ok (.aload_n 0, 1) := by decide +kernel
theorem dX10_startOfNew_22 : decode cX10_startOfNew 22 = .ok (.iload 5, 2) := by decide +kernel
theorem dX10_startOfNew_24 : decode cX10_startOfNew 24 = .ok (.invokevirtual 106, 3) := by decide +kernel
theorem dX10_startOfNew_27 : decode cX10_startOfNew 27 = .ok (.aload_n 0, 1) := by decide +kernel
theorem dX10_startOfNew_28 : decode cX10_startOfNew 28 = .ok (.getfield 14, 3) := by decide +kernel
theorem dX10_startOfNew_31 : decode cX10_startOfNew 31 = .ok (.getfield 65, 3) := by decide +kernel
theorem dX10_startOfNew_34 : decode cX10_startOfNew 34 = .ok (.getfield 100, 3) := by decide +kernel
theorem dX10_startOfNew_37 : decode cX10_startOfNew 37 = .ok (.iload 5, 2) := by decide +kernel
theorem dX10_startOfNew_39 : decode cX10_startOfNew 39 = .ok (.iaload, 1) := by decide +kernel
theorem dX10_startOfNew_40 : decode cX10_startOfNew 40 = .ok (.ireturn, 1) := by decide +kernel
theorem dX10_delayByNew_0 : decode cX10_delayByNew 0 = .ok (.aload_n 0, 1) := by decide +kernel
theorem dX10_delayByNew_1 : decode cX10_delayByNew 1 = .ok (.aload_n 1, 1) := by decide +kernel
theorem dX10_delayByNew_2 : decode cX10_delayByNew 2 = .ok (.invokevirtual 103, 3) := by decide +kernel
theorem dX10_delayByNew_5 : decode cX10_delayByNew 5 = .ok (.aload_n 0, 1) := by decide +kernel
theorem dX10_delayByNew_6 : decode cX10_delayByNew 6 = .ok (.iconst (-1), 1) := by decide +kernel
theorem dX10_delayByNew_7 : decode cX10_delayByNew 7 = .ok (.invokevirtual 106, 3) := by decide +kernel
theorem dX10_delayByNew_10 : decode cX10_delayByNew 10 = .ok (.aload_n 0, 1) := by decide +kernel
theorem dX10_delayByNew_11 : decode cX10_delayByNew 11 = .ok (.getfield 14, 3) := by decide +kernel
theorem dX10_delayByNew_14 : decode cX10_delayByNew 14 = .ok (.getfield 65, 3) := by decide +kernel
theorem dX10_delayByNew_17 : decode cX10_delayByNew 17 = .ok (.getfield 69, 3) := by decide +kernel
theorem dX10_delayByNew_20 : decode cX10_delayByNew 20 = .ok (.istore 5, 2) := by decide +kernel
theorem dX10_delayByNew_22 : decode cX10_delayByNew 22 = .ok (.aload_n 0, 1) := by decide +kernel
theorem dX10_delayByNew_23 : decode cX10_delayByNew 23 = .ok (.getfield 14, 3) := by decide +kernel
theorem dX10_delayByNew_26 : decode cX10_delayByNew 26 = .ok (.getfield 65, 3) := by decide +kernel
theorem dX10_delayByNew_29 : decode cX10_delayByNew 29 = .ok (.getfield 100, 3) := by decide +kernel
theorem dX10_delayByNew_32 : decode cX10_delayByNew 32 = .ok (.iconst 0, 1) := by decide +kernel
theorem dX10_delayByNew_33 : decode cX10_delayByNew 33 = .ok (.aload_n 0, 1) := by decide +kernel
theorem dX10_delayByNew_34 : decode cX10_delayByNew 34 = .ok (.getfield 27, 3) := by decide +kernel
theorem dX10_delayByNew_37 : decode cX10_delayByNew 37 = .ok (.iconst 0, 1) := by decide +kernel
theorem dX10_delayByNew_38 : decode cX10_delayByNew 38 = .ok (.iload 5, 2) := by decide +kernel
theorem dX10_delayByNew_40 : decode cX10_delayByNew 40 = .ok (.invokestatic 129, 3) := by decide +kernel
theorem dX10_delayByNew_43 : decode cX10_delayByNew 43 = .ok (.aload_n 0, 1) := by decide +kernel
theorem dX10_delayByNew_44 : decode cX10_delayByNew 44 = .ok (.aload_n 1, 1) := by decide +kernel
theorem dX10_delayByNew_45 : decode cX10_delayByNew 45 = .ok (.invokevirtual 103, 3) := by decide +kernel
theorem dX10_delayByNew_48 : decode cX10_delayByNew 48 = .ok (.aload_n 0, 1) := by decide +kernel
theorem dX10_delayByNew_49 : decode cX10_delayByNew 49 = .ok (.getfield 14, 3) := by decide +kernel
theorem dX10_delayByNew_52 : decode cX10_delayByNew 52 = .ok (.aload_n 2, 1) := by decide +kernel
theorem dX10_delayByNew_53 : decode cX10_delayByNew 53 = .ok (.iload_n 3, 1) := by decide +kernel
theorem dX10_delayByNew_54 : decode cX10_delayByNew 54 = .ok (.iload 4, 2) := by decide +kernel
theorem dX10_delayByNew_56 : decode cX10_delayByNew 56 = .ok (.bipush 100, 2) := by decide +kernel
theorem dX10_delayByNew_58 : decode cX10_delayByNew 58 = .ok (.iconst (-1), 1) := by decide +kernel
theorem dX10_delayByNew_59 : decode cX10_delayByNew 59 = .ok (.invokevirtual 125, 3) := by decide +kernel
theorem dX10_delayByNew_62 : decode cX10_delayByNew 62 = .ok (.pop, 1) := by decide +kernel
theorem dX10_delayByNew_63 : decode cX10_delayByNew 63 = .ok (.aload_n 0, 1) := by decide +kernel
theorem dX10_delayByNew_64 : decode cX10_delayByNew 64 = .ok (.iconst (-1), 1) := by decide +kernel
theorem dX10_delayByNew_65 : decode cX10_delayByNew 65 = .ok (.invokevirtual 106, 3) := by decide +kernel
theorem dX10_delayByNew_68 : decode cX10_delayByNew 68 = .ok (.iconst 0, 1) := by decide +kernel
theorem dX10_delayByNew_69 : decode cX10_delayByNew 69 = .ok (.istore 6, 2) := by decide +kernel
theorem dX10_delayByNew_71 : decode cX10_delayByNew 71 = .ok (.iconst 0, 1) := by decide +kernel
theorem dX10_delayByNew_72 : decode cX10_delayByNew 72 = .ok (.istore 7, 2) := by decide +kernel
theorem dX10_delayByNew_74 : decode cX10_delayByNew 74 = .ok (.iload 7, 2) := by decide +kernel
theorem dX10_delayByNew_76 : decode cX10_delayByNew 76 = .ok (.iload 5, 2) := by decide +kernel
theorem dX10_delayByNew_78 : decode cX10_delayByNew 78 = .ok (.if_icmp .ge 67, 3) := by decide +kernel
theorem dX10_delayByNew_81 : decode cX10_delayByNew 81 = .ok (.aload_n 0, 1) := by decide +kernel
theorem dX10_delayByNew_82 : decode cX10_delayByNew 82 = .ok (.getfield 27, 3) := by decide +kernel
theorem dX10_delayByNew_85 : decode cX10_delayByNew 85 = .ok (.iload 7, 2) := by decide +kernel
theorem dX10_delayByNew_87 : decode cX10_delayByNew 87 = .ok (.iaload, 1) := by decide +kernel
theorem dX10_delayByNew_88 : decode cX10_delayByNew 88 = .ok (.iconst (-1), 1) := by decide +kernel
theorem dX10_delayByNew_89 : decode cX10_delayByNew 89 = .ok (.if_icmp .eq 50, 3) := by decide +kernel
theorem dX10_delayByNew_92 : decode cX10_delayByNew 92 = .ok (.aload_n 0, 1) := by decide +kernel
theorem dX10_delayByNew_93 : decode cX10_delayByNew 93 = .ok (.getfield 14, 3) := by decide +kernel
theorem dX10_delayByNew_96 : decode cX10_delayByNew 96 = .ok (.getfield 65, 3) := by decide +kernel
theorem dX10_delayByNew_99 : decode cX10_delayByNew 99 = .ok (.getfield 100, 3) := by decide +kernel
theorem dX10_delayByNew_102 : decode cX10_delayByNew 102 = .ok (.iload 7, 2) := by decide +kernel
theorem dX10_delayByNew_104 : decode cX10_delayByNew 104 = .ok (.iaload, 1) := by decide +kernel
theorem dX10_delayByNew_105 : decode cX10_delayByNew 105 = .ok (.iconst (-1), 1) := by decide +kernel
theorem dX10_delayByNew_106 : decode cX10_delayByNew 106 = .ok (.if_icmp .eq 33, 3) := by decide +kernel
theorem dX10_delayByNew_109 : decode cX10_delayByNew 109 = .ok (.iload 6, 2) := by decide +kernel
theorem dX10_delayByNew_111 : decode cX10_delayByNew 111 = .ok (.iconst 0, 1) := by decide +kernel
theorem dX10_delayByNew_112 : decode cX10_delayByNew 112 = .ok (.aload_n 0, 1) := by decide +kernel
theorem dX10_delayByNew_113 : decode cX10_delayByNew 113 = .ok (.getfield 14, 3) := by decide +kernel
theorem dX10_delayByNew_116 : decode cX10_delayByNew 116 = .ok (.getfield 65, 3) := by decide +kernel
theorem dX10_delayByNew_119 : decode cX10_delayByNew 119 = .ok (.getfield 100, 3) := by decide +kernel
theorem dX10_delayByNew_122 : decode cX10_delayByNew 122 = .ok (.iload 7, 2) := by decide +kernel
theorem dX10_delayByNew_124 : decode cX10_delayByNew 124 = .ok (.iaload, 1) := by decide +kernel
theorem dX10_delayByNew_125 : decode cX10_delayByNew 125 = .ok (.aload_n 0, 1) := by decide +kernel
theorem dX10_delayByNew_126 : decode cX10_delayByNew 126 = .ok (.getfield 27, 3) := by decide +kernel
theorem dX10_delayByNew_129 : decode cX10_delayByNew 129 = .ok (.iload 7, 2) := by decide +kernel
theorem dX10_delayByNew_131 : decode cX10_delayByNew 131 = .ok (.iaload, 1) := by decide +kernel
theorem dX10_delayByNew_132 : decode cX10_delayByNew 132 = .ok (.isub, 1) := by decide +kernel
theorem dX10_delayByNew_133 : decode cX10_delayByNew 133 = .ok (.invokestatic 119, 3) := by decide +kernel
theorem dX10_delayByNew_136 : decode cX10_delayByNew 136 = .ok (.iadd, 1) := by decide +kernel
theorem dX10_delayByNew_137 : decode cX10_delayByNew 137 = .ok (.istore 6, 2) := by decide +kernel
theorem dX10_delayByNew_139 : decode cX10_delayByNew 139 = .ok (.iinc 7 1, 3) := by decide +kernel
theorem dX10_delayByNew_142 : decode cX10_delayByNew 142 = .ok (.goto (-68), 3) := by decide +kernel
theorem dX10_delayByNew_145 : decode cX10_delayByNew 145 = .ok (.iload 6, 2) := by decide +kernel
theorem dX10_delayByNew_147 : decode cX10_delayByNew 147 = .ok (.ireturn, 1) := by decide +kernel
theorem dX10_greatestPart_0 : decode cX10_greatestPart 0 = .ok (.aload_n 0, 1) := by decide +kernel
theorem dX10_greatestPart_1 : decode cX10_greatestPart 1 = .ok (.aload_n 1, 1) := by decide +kernel
theorem dX10_greatestPart_2 : decode cX10_greatestPart 2 = .ok (.iload_n 2, 1) := by decide +kernel
theorem dX10_greatestPart_3 : decode cX10_greatestPart 3 = .ok (.iconst (-1), 1) := by decide +kernel
theorem dX10_greatestPart_4 : decode cX10_greatestPart 4 = .ok (.invokevirtual 135, 3) := by decide +kernel
theorem dX10_greatestPart_7 : decode cX10_greatestPart 7 = .ok (.bipush 100, 2) := by decide +kernel
theorem dX10_greatestPart_9 : decode cX10_greatestPart 9 = .ok (.istore_n 3, 1) := by decide +kernel
theorem dX10_greatestPart_10 : decode cX10_greatestPart 10 = .ok (.iload_n 3, 1) := by decide +kernel
theorem dX10_greatestPart_11 : decode cX10_greatestPart 11 = .ok (.iconst 1, 1) := by decide +kernel
theorem dX10_greatestPart_12 : decode cX10_greatestPart 12 = .ok (.if_icmp .lt 97, 3) := by decide +kernel
theorem dX10_greatestPart_15 : decode cX10_greatestPart 15 = .ok (.aload_n 0, 1) := by decide +kernel
theorem dX10_greatestPart_16 : decode cX10_greatestPart 16 = .ok (.getfield 41, 3) := by decide +kernel
theorem dX10_greatestPart_19 : decode cX10_greatestPart 19 = .ok (.aload_n 1, 1) := by decide +kernel
theorem dX10_greatestPart_20 : decode cX10_greatestPart 20 = .ok (.iload_n 2, 1) := by decide +kernel
theorem dX10_greatestPart_21 : decode cX10_greatestPart 21 = .ok (.invokevirtual 139, 3) := by decide +kernel
theorem dX10_greatestPart_24 : decode cX10_greatestPart 24 = .ok (.iconst 0, 1) := by decide +kernel
theorem dX10_greatestPart_25 : decode cX10_greatestPart 25 = .ok (.istore 4, 2) := by decide +kernel
theorem dX10_greatestPart_27 : decode cX10_greatestPart 27 = .ok (.iload 4, 2) := by decide +kernel
theorem dX10_greatestPart_29 : decode cX10_greatestPart 29 = .ok (.aload_n 0, 1) := by decide +kernel
theorem dX10_greatestPart_30 : decode cX10_greatestPart 30 = .ok (.getfield 41, 3) := by decide +kernel
theorem dX10_greatestPart_33 : decode cX10_greatestPart 33 = .ok (.getfield 143, 3) := by decide +kernel
theorem dX10_greatestPart_36 : decode cX10_greatestPart 36 = .ok (.if_icmp .ge 38, 3) := by decide +kernel
theorem dX10_greatestPart_39 : decode cX10_greatestPart 39 = .ok (.aload_n 0, 1) := by decide +kernel
theorem dX10_greatestPart_40 : decode cX10_greatestPart 40 = .ok (.getfield 41, 3) := by decide +kernel
theorem dX10_greatestPart_43 : decode cX10_greatestPart 43 = .ok (.getfield 144, 3) := by decide +kernel
theorem dX10_greatestPart_46 : decode cX10_greatestPart 46 = .ok (.iload 4, 2) := by decide +kernel
theorem dX10_greatestPart_48 : decode cX10_greatestPart 48 = .ok (.iconst 1, 1) := by decide +kernel
theorem dX10_greatestPart_49 : decode cX10_greatestPart 49 = .ok (.aload_n 0, 1) := by decide +kernel
theorem dX10_greatestPart_50 : decode cX10_greatestPart 50 = .ok (.getfield 41, 3) := by decide +kernel
theorem dX10_greatestPart_53 : decode cX10_greatestPart 53 = .ok (.getfield 144, 3) := by decide +kernel
theorem dX10_greatestPart_56 : decode cX10_greatestPart 56 = .ok (.iload 4, 2) := by decide +kernel
theorem dX10_greatestPart_58 : decode cX10_greatestPart 58 = .ok (.iaload, 1) := by decide +kernel
theorem dX10_greatestPart_59 : decode cX10_greatestPart 59 = .ok (.iload_n 3, 1) := by decide +kernel
theorem dX10_greatestPart_60 : decode cX10_greatestPart 60 = .ok (.imul, 1) := by decide +kernel
theorem dX10_greatestPart_61 : decode cX10_greatestPart 61 = .ok (.bipush 100, 2) := by decide +kernel
theorem dX10_greatestPart_63 : decode cX10_greatestPart 63 = .ok (.idiv, 1) := by decide +kernel
theorem dX10_greatestPart_64 : decode cX10_greatestPart 64 = .ok (.invokestatic 119, 3) := by decide +kernel
theorem dX10_greatestPart_67 : decode cX10_greatestPart 67 = .ok (.iastore, 1) := by decide +kernel
theorem dX10_greatestPart_68 : decode cX10_greatestPart 68 = .ok (.iinc 4 1, 3) := by decide +kernel
theorem dX10_greatestPart_71 : decode cX10_greatestPart 71 = .ok (.goto (-44), 3) := by decide +kernel
theorem dX10_greatestPart_74 : decode cX10_greatestPart 74 = .ok (.aload_n 0, 1) := by decide +kernel
theorem dX10_greatestPart_75 : decode cX10_greatestPart 75 = .ok (.getfield 34, 3) := by decide +kernel
theorem dX10_greatestPart_78 : decode cX10_greatestPart 78 = .ok (.aload_n 0, 1) := by decide +kernel
theorem dX10_greatestPart_79 : decode cX10_greatestPart 79 = .ok (.getfield 41, 3) := by decide +kernel
theorem dX10_greatestPart_82 : decode cX10_greatestPart 82 = .ok (.aload_n 1, 1) := by decide +kernel
theorem dX10_greatestPart_83 : decode cX10_greatestPart 83 = .ok (.getfield 65, 3) := by decide +kernel
theorem dX10_greatestPart_86 : decode cX10_greatestPart 86 = .ok (.getfield 147, 3) := by decide +kernel
theorem dX10_greatestPart_89 : decode cX10_greatestPart 89 = .ok (.iload_n 2, 1) := by decide +kernel
theorem dX10_greatestPart_90 : decode cX10_greatestPart 90 = .ok (.iaload, 1) := by decide +kernel
theorem dX10_greatestPart_91 : decode cX10_greatestPart 91 = .ok (.aload_n 1, 1) := by decide +kernel
theorem dX10_greatestPart_92 : decode cX10_greatestPart 92 = .ok (.getfield 116, 3) := by decide +kernel
theorem dX10_greatestPart_95 : decode cX10_greatestPart 95 = .ok (.invokevirtual 150, 3) := by decide +kernel
theorem dX10_greatestPart_98 : decode cX10_greatestPart 98 = .ok (.ifCond .eq 5, 3) := by decide +kernel
theorem dX10_greatestPart_101 : decode cX10_greatestPart 101 = .ok (.iload_n 3, 1) := by decide +kernel
theorem dX10_greatestPart_102 : decode cX10_greatestPart 102 = .ok (.ireturn, 1) := by decide +kernel
theorem dX10_greatestPart_103 : decode cX10_greatestPart 103 = .ok (.iinc 3 (-1), 3) := by decide +kernel
theorem dX10_greatestPart_106 : decode cX10_greatestPart 106 = .ok (.goto (-96), 3) := by decide +kernel
theorem dX10_greatestPart_109 : decode cX10_greatestPart 109 = .ok (.iconst (-1), 1) := by decide +kernel
theorem dX10_greatestPart_110 : decode cX10_greatestPart 110 = .ok (.ireturn, 1) := by decide +kernel
theorem dX10_loadWithout_0 : decode cX10_loadWithout 0 = .ok (.aload_n 0, 1) := by decide +kernel
theorem dX10_loadWithout_1 : decode cX10_loadWithout 1 = .ok (.getfield 34, 3) := by decide +kernel
theorem dX10_loadWithout_4 : decode cX10_loadWithout 4 = .ok (.aload_n 1, 1) := by decide +kernel
theorem dX10_loadWithout_5 : decode cX10_loadWithout 5 = .ok (.iconst (-1), 1) := by decide +kernel
theorem dX10_loadWithout_6 : decode cX10_loadWithout 6 = .ok (.iconst (-1), 1) := by decide +kernel
theorem dX10_loadWithout_7 : decode cX10_loadWithout 7 = .ok (.invokevirtual 154, 3) := by decide +kernel
theorem dX10_loadWithout_10 : decode cX10_loadWithout 10 = .ok (.aload_n 0, 1) := by decide +kernel
theorem dX10_loadWithout_11 : decode cX10_loadWithout 11 = .ok (.getfield 34, 3) := by decide +kernel
theorem dX10_loadWithout_14 : decode cX10_loadWithout 14 = .ok (.aload_n 1, 1) := by decide +kernel
theorem dX10_loadWithout_15 : decode cX10_loadWithout 15 = .ok (.iload_n 2, 1) := by decide +kernel
theorem dX10_loadWithout_16 : decode cX10_loadWithout 16 = .ok (.iload_n 3, 1) := by decide +kernel
theorem dX10_loadWithout_17 : decode cX10_loadWithout 17 = .ok (.invokevirtual 157, 3) := by decide +kernel
theorem dX10_loadWithout_20 : decode cX10_loadWithout 20 = .ok (.return_, 1) := by decide +kernel
theorem dX10_fewestMoves_0 : decode cX10_fewestMoves 0 = .ok (.aload_n 0, 1) := by decide +kernel
theorem dX10_fewestMoves_1 : decode cX10_fewestMoves 1 = .ok (.getfield 41, 3) := by decide +kernel
theorem dX10_fewestMoves_4 : decode cX10_fewestMoves 4 = .ok (.aload_n 1, 1) := by decide +kernel
theorem dX10_fewestMoves_5 : decode cX10_fewestMoves 5 = .ok (.iload_n 2, 1) := by decide +kernel
theorem dX10_fewestMoves_6 : decode cX10_fewestMoves 6 = .ok (.invokevirtual 139, 3) := by decide +kernel
theorem dX10_fewestMoves_9 : decode cX10_fewestMoves 9 = .ok (.aload_n 0, 1) := by decide +kernel
theorem dX10_fewestMoves_10 : decode cX10_fewestMoves 10 = .ok (.aload_n 1, 1) := by decide +kernel
theorem dX10_fewestMoves_11 : decode cX10_fewestMoves 11 = .ok (.invokevirtual 160, 3) := by decide +kernel
theorem dX10_fewestMoves_14 : decode cX10_fewestMoves 14 = .ok (.aload_n 0, 1) := by decide +kernel
theorem dX10_fewestMoves_15 : decode cX10_fewestMoves 15 = .ok (.aload_n 1, 1) := by decide +kernel
theorem dX10_fewestMoves_16 : decode cX10_fewestMoves 16 = .ok (.iload_n 2, 1) := by decide +kernel
theorem dX10_fewestMoves_17 : decode cX10_fewestMoves 17 = .ok (.iconst (-1), 1) := by decide +kernel
theorem dX10_fewestMoves_18 : decode cX10_fewestMoves 18 = .ok (.iconst (-1), 1) := by decide +kernel
theorem dX10_fewestMoves_19 : decode cX10_fewestMoves 19 = .ok (.invokevirtual 163, 3) := by decide +kernel
theorem dX10_fewestMoves_22 : decode cX10_fewestMoves 22 = .ok (.ifCond .eq 5, 3) := by decide +kernel
theorem dX10_fewestMoves_25 : decode cX10_fewestMoves 25 = .ok (.iconst 0, 1) := by decide +kernel
theorem dX10_fewestMoves_26 : decode cX10_fewestMoves 26 = .ok (.ireturn, 1) := by decide +kernel
theorem dX10_fewestMoves_27 : decode cX10_fewestMoves 27 = .ok (.iconst 0, 1) := by decide +kernel
theorem dX10_fewestMoves_28 : decode cX10_fewestMoves 28 = .ok (.istore_n 3, 1) := by decide +kernel
theorem dX10_fewestMoves_29 : decode cX10_fewestMoves 29 = .ok (.iload_n 3, 1) := by decide +kernel
theorem dX10_fewestMoves_30 : decode cX10_fewestMoves 30 = .ok (.aload_n 0, 1) := by decide +kernel
theorem dX10_fewestMoves_31 : decode cX10_fewestMoves 31 = .ok (.getfield 167, 3) := by decide +kernel
theorem dX10_fewestMoves_34 : decode cX10_fewestMoves 34 = .ok (.if_icmp .ge 27, 3) := by decide +kernel
theorem dX10_fewestMoves_37 : decode cX10_fewestMoves 37 = .ok (.aload_n 0, 1) := by decide +kernel
theorem dX10_fewestMoves_38 : decode cX10_fewestMoves 38 = .ok (.aload_n 1, 1) := by decide +kernel
theorem dX10_fewestMoves_39 : decode cX10_fewestMoves 39 = .ok (.iload_n 2, 1) := by decide +kernel
theorem dX10_fewestMoves_40 : decode cX10_fewestMoves 40 = .ok (.aload_n 0, 1) := by decide +kernel
theorem dX10_fewestMoves_41 : decode cX10_fewestMoves 41 = .ok (.getfield 45, 3) := by decide +kernel
theorem dX10_fewestMoves_44 : decode cX10_fewestMoves 44 = .ok (.iload_n 3, 1) := by decide +kernel
theorem dX10_fewestMoves_45 : decode cX10_fewestMoves 45 = .ok (.iaload, 1) := by decide +kernel
theorem dX10_fewestMoves_46 : decode cX10_fewestMoves 46 = .ok (.iconst (-1), 1) := by decide +kernel
theorem dX10_fewestMoves_47 : decode cX10_fewestMoves 47 = .ok (.invokevirtual 163, 3) := by decide +kernel
theorem dX10_fewestMoves_50 : decode cX10_fewestMoves 50 = .ok (.ifCond .eq 5, 3) := by decide +kernel
theorem dX10_fewestMoves_53 : decode cX10_fewestMoves 53 = .ok (.iconst 1, 1) := by decide +kernel
theorem dX10_fewestMoves_54 : decode cX10_fewestMoves 54 = .ok (.ireturn, 1) := by decide +kernel
theorem dX10_fewestMoves_55 : decode cX10_fewestMoves 55 = .ok (.iinc 3 1, 3) := by decide +kernel
theorem dX10_fewestMoves_58 : decode cX10_fewestMoves 58 = .ok (.goto (-29), 3) := by decide +kernel
theorem dX10_fewestMoves_61 : decode cX10_fewestMoves 61 = .ok (.iconst 0, 1) := by decide +kernel
theorem dX10_fewestMoves_62 : decode cX10_fewestMoves 62 = .ok (.istore_n 3, 1) := by decide +kernel
theorem dX10_fewestMoves_63 : decode cX10_fewestMoves 63 = .ok (.iload_n 3, 1) := by decide +kernel
theorem dX10_fewestMoves_64 : decode cX10_fewestMoves 64 = .ok (.aload_n 0, 1) := by decide +kernel
theorem dX10_fewestMoves_65 : decode cX10_fewestMoves 65 = .ok (.getfield 167, 3) := by decide +kernel
theorem dX10_fewestMoves_68 : decode cX10_fewestMoves 68 = .ok (.if_icmp .ge 53, 3) := by decide +kernel
theorem dX10_fewestMoves_71 : decode cX10_fewestMoves 71 = .ok (.iload_n 3, 1) := by decide +kernel
theorem dX10_fewestMoves_72 : decode cX10_fewestMoves 72 = .ok (.iconst 1, 1) := by decide +kernel
theorem dX10_fewestMoves_73 : decode cX10_fewestMoves 73 = .ok (.iadd, 1) := by decide +kernel
theorem dX10_fewestMoves_74 : decode cX10_fewestMoves 74 = .ok (.istore 4, 2) := by decide +kernel
theorem dX10_fewestMoves_76 : decode cX10_fewestMoves 76 = .ok (.iload 4, 2) := by decide +kernel
theorem dX10_fewestMoves_78 : decode cX10_fewestMoves 78 = .ok (.aload_n 0, 1) := by decide +kernel
theorem dX10_fewestMoves_79 : decode cX10_fewestMoves 79 = .ok (.getfield 167, 3) := by decide +kernel
theorem dX10_fewestMoves_82 : decode cX10_fewestMoves 82 = .ok (.if_icmp .ge 33, 3) := by decide +kernel
theorem dX10_fewestMoves_85 : decode cX10_fewestMoves 85 = .ok (.aload_n 0, 1) := by decide +kernel
theorem dX10_fewestMoves_86 : decode cX10_fewestMoves 86 = .ok (.aload_n 1, 1) := by decide +kernel
theorem dX10_fewestMoves_87 : decode cX10_fewestMoves 87 = .ok (.iload_n 2, 1) := by decide +kernel
theorem dX10_fewestMoves_88 : decode cX10_fewestMoves 88 = .ok (.aload_n 0, 1) := by decide +kernel
theorem dX10_fewestMoves_89 : decode cX10_fewestMoves 89 = .ok (.getfield 45, 3) := by decide +kernel
theorem dX10_fewestMoves_92 : decode cX10_fewestMoves 92 = .ok (.iload_n 3, 1) := by decide +kernel
theorem dX10_fewestMoves_93 : decode cX10_fewestMoves 93 = .ok (.iaload, 1) := by decide +kernel
theorem dX10_fewestMoves_94 : decode cX10_fewestMoves 94 = .ok (.aload_n 0, 1) := by decide +kernel
theorem dX10_fewestMoves_95 : decode cX10_fewestMoves 95 = .ok (.getfield 45, 3) := by decide +kernel
theorem dX10_fewestMoves_98 : decode cX10_fewestMoves 98 = .ok (.iload 4, 2) := by decide +kernel
theorem dX10_fewestMoves_100 : decode cX10_fewestMoves 100 = .ok (.iaload, 1) := by decide +kernel
theorem dX10_fewestMoves_101 : decode cX10_fewestMoves 101 = .ok (.invokevirtual 163, 3) := by decide +kernel
theorem dX10_fewestMoves_104 : decode cX10_fewestMoves 104 = .ok (.ifCond .eq 5, 3) := by decide +kernel
theorem dX10_fewestMoves_107 : decode cX10_fewestMoves 107 = .ok (.iconst 2, 1) := by decide +kernel
theorem dX10_fewestMoves_108 : decode cX10_fewestMoves 108 = .ok (.ireturn, 1) := by decide +kernel
theorem dX10_fewestMoves_109 : decode cX10_fewestMoves 109 = .ok (.iinc 4 1, 3) := by decide +kernel
theorem dX10_fewestMoves_112 : decode cX10_fewestMoves 112 = .ok (.goto (-36), 3) := by decide +kernel
theorem dX10_fewestMoves_115 : decode cX10_fewestMoves 115 = .ok (.iinc 3 1, 3) := by decide +kernel
theorem dX10_fewestMoves_118 : decode cX10_fewestMoves 118 = .ok (.goto (-55), 3) := by decide +kernel
theorem dX10_fewestMoves_121 : decode cX10_fewestMoves 121 = .ok (.iconst (-1), 1) := by decide +kernel
theorem dX10_fewestMoves_122 : decode cX10_fewestMoves 122 = .ok (.ireturn, 1) := by decide +kernel
theorem dX10_listRunners_0 : decode cX10_listRunners 0 = .ok (.aload_n 1, 1) := by decide +kernel
theorem dX10_listRunners_1 : decode cX10_listRunners 1 = .ok (.getfield 77, 3) := by decide +kernel
theorem dX10_listRunners_4 : decode cX10_listRunners 4 = .ok (.astore_n 2, 1) := by decide +kernel
theorem dX10_listRunners_5 : decode cX10_listRunners 5 = .ok (.aload_n 0, 1) := by decide +kernel
theorem dX10_listRunners_6 : decode cX10_listRunners 6 = .ok (.iconst 0, 1) := by decide +kernel
theorem dX10_listRunners_7 : decode cX10_listRunners 7 = .ok (.putfield 167, 3) := by decide +kernel
theorem dX10_listRunners_10 : decode cX10_listRunners 10 = .ok (.iconst 0, 1) := by decide +kernel
theorem dX10_listRunners_11 : decode cX10_listRunners 11 = .ok (.istore_n 3, 1) := by decide +kernel
theorem dX10_listRunners_12 : decode cX10_listRunners 12 = .ok (.iload_n 3, 1) := by decide +kernel
theorem dX10_listRunners_13 : decode cX10_listRunners 13 = .ok (.bipush 16, 2) := by decide +kernel
theorem dX10_listRunners_15 : decode cX10_listRunners 15 = .ok (.if_icmp .ge 108, 3) := by decide +kernel
theorem dX10_listRunners_18 : decode cX10_listRunners 18 = .ok (.aload_n 2, 1) := by decide +kernel
theorem dX10_listRunners_19 : decode cX10_listRunners 19 = .ok (.getfield 81, 3) := by decide +kernel
theorem dX10_listRunners_22 : decode cX10_listRunners 22 = .ok (.iload_n 3, 1) := by decide +kernel
theorem dX10_listRunners_23 : decode cX10_listRunners 23 = .ok (.iaload, 1) := by decide +kernel
theorem dX10_listRunners_24 : decode cX10_listRunners 24 = .ok (.istore 4, 2) := by decide +kernel
theorem dX10_listRunners_26 : decode cX10_listRunners 26 = .ok (.iload 4, 2) := by decide +kernel
theorem dX10_listRunners_28 : decode cX10_listRunners 28 = .ok (.iconst (-1), 1) := by decide +kernel
theorem dX10_listRunners_29 : decode cX10_listRunners 29 = .ok (.if_icmp .eq 88, 3) := by decide +kernel
theorem dX10_listRunners_32 : decode cX10_listRunners 32 = .ok (.aload_n 2, 1) := by decide +kernel
theorem dX10_listRunners_33 : decode cX10_listRunners 33 = .ok (.getfield 170, 3) := by decide +kernel
theorem dX10_listRunners_36 : decode cX10_listRunners 36 = .ok (.iload 4, 2) := by decide +kernel
theorem dX10_listRunners_38 : decode cX10_listRunners 38 = .ok (.iaload, 1) := by decide +kernel
theorem dX10_listRunners_39 : decode cX10_listRunners 39 = .ok (.iload_n 3, 1) := by decide +kernel
theorem dX10_listRunners_40 : decode cX10_listRunners 40 = .ok (.if_icmp .eq 6, 3) := by decide +kernel
theorem dX10_listRunners_43 : decode cX10_listRunners 43 = .ok (.goto 74, 3) := by decide +kernel
theorem dX10_listRunners_46 : decode cX10_listRunners 46 = .ok (.aload_n 0, 1) := by decide +kernel
theorem dX10_listRunners_47 : decode cX10_listRunners 47 = .ok (.getfield 167, 3) := by decide +kernel
theorem dX10_listRunners_50 : decode cX10_listRunners 50 = .ok (.istore 5, 2) := by decide +kernel
theorem dX10_listRunners_52 : decode cX10_listRunners 52 = .ok (.iload 5, 2) := by decide +kernel
theorem dX10_listRunners_54 : decode cX10_listRunners 54 = .ok (.ifCond .le 44, 3) := by decide +kernel
theorem dX10_listRunners_57 : decode cX10_listRunners 57 = .ok (.aload_n 0, 1) := by decide +kernel
theorem dX10_listRunners_58 : decode cX10_listRunners 58 = .ok (.aload_n 2, 1) := by decide +kernel
theorem dX10_listRunners_59 : decode cX10_listRunners 59 = .ok (.aload_n 0, 1) := by decide +kernel
theorem dX10_listRunners_60 : decode cX10_listRunners 60 = .ok (.getfield 45, 3) := by decide +kernel
theorem dX10_listRunners_63 : decode cX10_listRunners 63 = .ok (.iload 5, 2) := by decide +kernel
theorem dX10_listRunners_65 : decode cX10_listRunners 65 = .ok (.iconst 1, 1) := by decide +kernel
theorem dX10_listRunners_66 : decode cX10_listRunners 66 = .ok (.isub, 1) := by decide +kernel
theorem dX10_listRunners_67 : decode cX10_listRunners 67 = .ok (.iaload, 1) := by decide +kernel
theorem dX10_listRunners_68 : decode cX10_listRunners 68 = .ok (.iload 4, 2) := by decide +kernel
theorem dX10_listRunners_70 : decode cX10_listRunners 70 = .ok (.invokevirtual 173, 3) := by decide +kernel
theorem dX10_listRunners_73 : decode cX10_listRunners 73 = .ok (.ifCond .eq 25, 3) := by decide +kernel
theorem dX10_listRunners_76 : decode cX10_listRunners 76 = .ok (.aload_n 0, 1) := by decide +kernel
theorem dX10_listRunners_77 : decode cX10_listRunners 77 = .ok (.getfield 45, 3) := by decide +kernel
theorem dX10_listRunners_80 : decode cX10_listRunners 80 = .ok (.iload 5, 2) := by decide +kernel
theorem dX10_listRunners_82 : decode cX10_listRunners 82 = .ok (.aload_n 0, 1) := by decide +kernel
theorem dX10_listRunners_83 : decode cX10_listRunners 83 = .ok (.getfield 45, 3) := by decide +kernel
theorem dX10_listRunners_86 : decode cX10_listRunners 86 = .ok (.iload 5, 2) := by decide +kernel
theorem dX10_listRunners_88 : decode cX10_listRunners 88 = .ok (.iconst 1, 1) := by decide +kernel
theorem dX10_listRunners_89 : decode cX10_listRunners 89 = .ok (.isub, 1) := by decide +kernel
theorem dX10_listRunners_90 : decode cX10_listRunners 90 = .ok (.iaload, 1) := by decide +kernel
theorem dX10_listRunners_91 : decode cX10_listRunners 91 = .ok (.iastore, 1) := by decide +kernel
theorem dX10_listRunners_92 : decode cX10_listRunners 92 = .ok (.iinc 5 (-1), 3) := by decide +kernel
theorem dX10_listRunners_95 : decode cX10_listRunners 95 = .ok (.goto (-43), 3) := by decide +kernel
theorem dX10_listRunners_98 : decode cX10_listRunners 98 = .ok (.aload_n 0, 1) := by decide +kernel
theorem dX10_listRunners_99 : decode cX10_listRunners 99 = .ok (.getfield 45, 3) := by decide +kernel
theorem dX10_listRunners_102 : decode cX10_listRunners 102 = .ok (.iload 5, 2) := by decide +kernel
theorem dX10_listRunners_104 : decode cX10_listRunners 104 = .ok (.iload 4, 2) := by decide +kernel
theorem dX10_listRunners_106 : decode cX10_listRunners 106 = .ok (.iastore, 1) := by decide +kernel
theorem dX10_listRunners_107 : decode cX10_listRunners 107 = .ok (.aload_n 0, 1) := by decide +kernel
theorem dX10_listRunners_108 : decode cX10_listRunners 108 = .ok (.dup, 1) := by decide +kernel
theorem dX10_listRunners_109 : decode cX10_listRunners 109 = .ok (.getfield 167, 3) := by decide +kernel
theorem dX10_listRunners_112 : decode cX10_listRunners 112 = .ok (.iconst 1, 1) := by decide +kernel
theorem dX10_listRunners_113 : decode cX10_listRunners 113 = .ok (.iadd, 1) := by decide +kernel
theorem dX10_listRunners_114 : decode cX10_listRunners 114 = .ok (.putfield 167, 3) := by decide +kernel
theorem dX10_listRunners_117 : decode cX10_listRunners 117 = .ok (.iinc 3 1, 3) := by decide +kernel
theorem dX10_listRunners_120 : decode cX10_listRunners 120 = .ok (.goto (-108), 3) := by decide +kernel
theorem dX10_listRunners_123 : decode cX10_listRunners 123 = .ok (.return_, 1) := by decide +kernel
theorem dX10_isBehind_0 : decode cX10_isBehind 0 = .ok (.aload_n 1, 1) := by decide +kernel
theorem dX10_isBehind_1 : decode cX10_isBehind 1 = .ok (.getfield 177, 3) := by decide +kernel
theorem dX10_isBehind_4 : decode cX10_isBehind 4 = .ok (.iload_n 3, 1) := by decide +kernel
theorem dX10_isBehind_5 : decode cX10_isBehind 5 = .ok (.iaload, 1) := by decide +kernel
theorem dX10_isBehind_6 : decode cX10_isBehind 6 = .ok (.aload_n 1, 1) := by decide +kernel
theorem dX10_isBehind_7 : decode cX10_isBehind 7 = .ok (.getfield 177, 3) := by decide +kernel
theorem dX10_isBehind_10 : decode cX10_isBehind 10 = .ok (.iload_n 2, 1) := by decide +kernel
theorem dX10_isBehind_11 : decode cX10_isBehind 11 = .ok (.iaload, 1) := by decide +kernel
theorem dX10_isBehind_12 : decode cX10_isBehind 12 = .ok (.isub, 1) := by decide +kernel
theorem dX10_isBehind_13 : decode cX10_isBehind 13 = .ok (.istore 4, 2) := by decide +kernel
theorem dX10_isBehind_15 : decode cX10_isBehind 15 = .ok (.iload 4, 2) := by decide +kernel
theorem dX10_isBehind_17 : decode cX10_isBehind 17 = .ok (.ifCond .gt 13, 3) := by decide +kernel
theorem dX10_isBehind_20 : decode cX10_isBehind 20 = .ok (.iload 4, 2) := by decide +kernel
theorem dX10_isBehind_22 : decode cX10_isBehind 22 = .ok (.ifCond .ne 12, 3) := by decide +kernel
theorem dX10_isBehind_25 : decode cX10_isBehind 25 = .ok (.iload_n 3, 1) := by decide +kernel
theorem dX10_isBehind_26 : decode cX10_isBehind 26 = .ok (.iload_n 2, 1) := by decide +kernel
theorem dX10_isBehind_27 : decode cX10_isBehind 27 = .ok (.if_icmp .ge 7, 3) := by decide +kernel
theorem dX10_isBehind_30 : decode cX10_isBehind 30 = .ok (.iconst 1, 1) := by decide +kernel
theorem dX10_isBehind_31 : decode cX10_isBehind 31 = .ok (.goto 4, 3) := by decide +kernel
theorem dX10_isBehind_34 : decode cX10_isBehind 34 = .ok (.iconst 0, 1) := by decide +kernel
theorem dX10_isBehind_35 : decode cX10_isBehind 35 = .ok (.ireturn, 1) := by decide +kernel
theorem dX10_fitsMoving_0 : decode cX10_fitsMoving 0 = .ok (.aload_n 0, 1) := by decide +kernel
theorem dX10_fitsMoving_1 : decode cX10_fitsMoving 1 = .ok (.getfield 34, 3) := by decide +kernel
theorem dX10_fitsMoving_4 : decode cX10_fitsMoving 4 = .ok (.aload_n 1, 1) := by decide +kernel
theorem dX10_fitsMoving_5 : decode cX10_fitsMoving 5 = .ok (.iload_n 3, 1) := by decide +kernel
theorem dX10_fitsMoving_6 : decode cX10_fitsMoving 6 = .ok (.iload 4, 2) := by decide +kernel
theorem dX10_fitsMoving_8 : decode cX10_fitsMoving 8 = .ok (.invokevirtual 154, 3) := by decide +kernel
theorem dX10_fitsMoving_11 : decode cX10_fitsMoving 11 = .ok (.aload_n 0, 1) := by decide +kernel
theorem dX10_fitsMoving_12 : decode cX10_fitsMoving 12 = .ok (.getfield 34, 3) := by decide +kernel
theorem dX10_fitsMoving_15 : decode cX10_fitsMoving 15 = .ok (.aload_n 1, 1) := by decide +kernel
theorem dX10_fitsMoving_16 : decode cX10_fitsMoving 16 = .ok (.iload_n 2, 1) := by decide +kernel
theorem dX10_fitsMoving_17 : decode cX10_fitsMoving 17 = .ok (.iconst (-1), 1) := by decide +kernel
theorem dX10_fitsMoving_18 : decode cX10_fitsMoving 18 = .ok (.invokevirtual 157, 3) := by decide +kernel
theorem dX10_fitsMoving_21 : decode cX10_fitsMoving 21 = .ok (.aload_n 0, 1) := by decide +kernel
theorem dX10_fitsMoving_22 : decode cX10_fitsMoving 22 = .ok (.getfield 34, 3) := by decide +kernel
theorem dX10_fitsMoving_25 : decode cX10_fitsMoving 25 = .ok (.aload_n 0, 1) := by decide +kernel
theorem dX10_fitsMoving_26 : decode cX10_fitsMoving 26 = .ok (.getfield 41, 3) := by decide +kernel
theorem dX10_fitsMoving_29 : decode cX10_fitsMoving 29 = .ok (.aload_n 1, 1) := by decide +kernel
theorem dX10_fitsMoving_30 : decode cX10_fitsMoving 30 = .ok (.getfield 65, 3) := by decide +kernel
theorem dX10_fitsMoving_33 : decode cX10_fitsMoving 33 = .ok (.getfield 147, 3) := by decide +kernel
theorem dX10_fitsMoving_36 : decode cX10_fitsMoving 36 = .ok (.iload_n 2, 1) := by decide +kernel
theorem dX10_fitsMoving_37 : decode cX10_fitsMoving 37 = .ok (.iaload, 1) := by decide +kernel
theorem dX10_fitsMoving_38 : decode cX10_fitsMoving 38 = .ok (.aload_n 1, 1) := by decide +kernel
theorem dX10_fitsMoving_39 : decode cX10_fitsMoving 39 = .ok (.getfield 116, 3) := by decide +kernel
theorem dX10_fitsMoving_42 : decode cX10_fitsMoving 42 = .ok (.invokevirtual 150, 3) := by decide +kernel
theorem dX10_fitsMoving_45 : decode cX10_fitsMoving 45 = .ok (.ifCond .eq 26, 3) := by decide +kernel
theorem dX10_fitsMoving_48 : decode cX10_fitsMoving 48 = .ok (.aload_n 0, 1) := by decide +kernel
theorem dX10_fitsMoving_49 : decode cX10_fitsMoving 49 = .ok (.aload_n 1, 1) := by decide +kernel
theorem dX10_fitsMoving_50 : decode cX10_fitsMoving 50 = .ok (.iload_n 3, 1) := by decide +kernel
theorem dX10_fitsMoving_51 : decode cX10_fitsMoving 51 = .ok (.invokevirtual 180, 3) := by decide +kernel
theorem dX10_fitsMoving_54 : decode cX10_fitsMoving 54 = .ok (.ifCond .eq 17, 3) := by decide +kernel
theorem dX10_fitsMoving_57 : decode cX10_fitsMoving 57 = .ok (.aload_n 0, 1) := by decide +kernel
theorem dX10_fitsMoving_58 : decode cX10_fitsMoving 58 = .ok (.aload_n 1, 1) := by decide +kernel
theorem dX10_fitsMoving_59 : decode cX10_fitsMoving 59 = .ok (.iload 4, 2) := by decide +kernel
theorem dX10_fitsMoving_61 : decode cX10_fitsMoving 61 = .ok (.invokevirtual 180, 3) := by decide +kernel
theorem dX10_fitsMoving_64 : decode cX10_fitsMoving 64 = .ok (.ifCond .eq 7, 3) := by decide +kernel
theorem dX10_fitsMoving_67 : decode cX10_fitsMoving 67 = .ok (.iconst 1, 1) := by decide +kernel
theorem dX10_fitsMoving_68 : decode cX10_fitsMoving 68 = .ok (.goto 4, 3) := by decide +kernel
theorem dX10_fitsMoving_71 : decode cX10_fitsMoving 71 = .ok (.iconst 0, 1) := by decide +kernel
theorem dX10_fitsMoving_72 : decode cX10_fitsMoving 72 = .ok (.ireturn, 1) := by decide +kernel
theorem dX10_settles_0 : decode cX10_settles 0 = .ok (.iload_n 2, 1) := by decide +kernel
theorem dX10_settles_1 : decode cX10_settles 1 = .ok (.iconst (-1), 1) := by decide +kernel
theorem dX10_settles_2 : decode cX10_settles 2 = .ok (.if_icmp .ne 5, 3) := by decide +kernel
theorem dX10_settles_5 : decode cX10_settles 5 = .ok (.iconst 1, 1) := by decide +kernel
theorem dX10_settles_6 : decode cX10_settles 6 = .ok (.ireturn, 1) := by decide +kernel
theorem dX10_settles_7 : decode cX10_settles 7 = .ok (.aload_n 1, 1) := by decide +kernel
theorem dX10_settles_8 : decode cX10_settles 8 = .ok (.iload_n 2, 1) := by decide +kernel
theorem dX10_settles_9 : decode cX10_settles 9 = .ok (.invokevirtual 89, 3) := by decide +kernel
theorem dX10_settles_12 : decode cX10_settles 12 = .ok (.aload_n 1, 1) := by decide +kernel
theorem dX10_settles_13 : decode cX10_settles 13 = .ok (.getfield 116, 3) := by decide +kernel
theorem dX10_settles_16 : decode cX10_settles 16 = .ok (.isub, 1) := by decide +kernel
theorem dX10_settles_17 : decode cX10_settles 17 = .ok (.istore_n 3, 1) := by decide +kernel
theorem dX10_settles_18 : decode cX10_settles 18 = .ok (.aload_n 0, 1) := by decide +kernel
theorem dX10_settles_19 : decode cX10_settles 19 = .ok (.getfield 34, 3) := by decide +kernel
theorem dX10_settles_22 : decode cX10_settles 22 = .ok (.aload_n 1, 1) := by decide +kernel
theorem dX10_settles_23 : decode cX10_settles 23 = .ok (.iload_n 2, 1) := by decide +kernel
theorem dX10_settles_24 : decode cX10_settles 24 = .ok (.invokevirtual 184, 3) := by decide +kernel
theorem dX10_settles_27 : decode cX10_settles 27 = .ok (.aload_n 1, 1) := by decide +kernel
theorem dX10_settles_28 : decode cX10_settles 28 = .ok (.getfield 116, 3) := by decide +kernel
theorem dX10_settles_31 : decode cX10_settles 31 = .ok (.iload_n 3, 1) := by decide +kernel
theorem dX10_settles_32 : decode cX10_settles 32 = .ok (.invokevirtual 187, 3) := by decide +kernel
theorem dX10_settles_35 : decode cX10_settles 35 = .ok (.aload_n 0, 1) := by decide +kernel
theorem dX10_settles_36 : decode cX10_settles 36 = .ok (.getfield 41, 3) := by decide +kernel
theorem dX10_settles_39 : decode cX10_settles 39 = .ok (.getfield 191, 3) := by decide +kernel
theorem dX10_settles_42 : decode cX10_settles 42 = .ok (.iconst (-1), 1) := by decide +kernel
theorem dX10_settles_43 : decode cX10_settles 43 = .ok (.ixor, 1) := by decide +kernel
theorem dX10_settles_44 : decode cX10_settles 44 = .ok (.iand, 1) := by decide +kernel
theorem dX10_settles_45 : decode cX10_settles 45 = .ok (.istore 4, 2) := by decide +kernel
theorem dX10_settles_47 : decode cX10_settles 47 = .ok (.iload 4, 2) := by decide +kernel
theorem dX10_settles_49 : decode cX10_settles 49 = .ok (.aload_n 1, 1) := by decide +kernel
theorem dX10_settles_50 : decode cX10_settles 50 = .ok (.getfield 77, 3) := by decide +kernel
theorem dX10_settles_53 : decode cX10_settles 53 = .ok (.getfield 177, 3) := by decide +kernel
theorem dX10_settles_56 : decode cX10_settles 56 = .ok (.iload_n 2, 1) := by decide +kernel
theorem dX10_settles_57 : decode cX10_settles 57 = .ok (.iaload, 1) := by decide +kernel
theorem dX10_settles_58 : decode cX10_settles 58 = .ok (.invokestatic 194, 3) := by decide +kernel
theorem dX10_settles_61 : decode cX10_settles 61 = .ok (.istore 5, 2) := by decide +kernel
theorem dX10_settles_63 : decode cX10_settles 63 = .ok (.iload 5, 2) := by decide +kernel
theorem dX10_settles_65 : decode cX10_settles 65 = .ok (.iconst (-1), 1) := by decide +kernel
theorem dX10_settles_66 : decode cX10_settles 66 = .ok (.if_icmp .ne 5, 3) := by decide +kernel
theorem dX10_settles_69 : decode cX10_settles 69 = .ok (.iconst 0, 1) := by decide +kernel
theorem dX10_settles_70 : decode cX10_settles 70 = .ok (.ireturn, 1) := by decide +kernel
theorem dX10_settles_71 : decode cX10_settles 71 = .ok (.aload_n 0, 1) := by decide +kernel
theorem dX10_settles_72 : decode cX10_settles 72 = .ok (.getfield 41, 3) := by decide +kernel
theorem dX10_settles_75 : decode cX10_settles 75 = .ok (.dup, 1) := by decide +kernel
theorem dX10_settles_76 : decode cX10_settles 76 = .ok (.getfield 191, 3) := by decide +kernel
theorem dX10_settles_79 : decode cX10_settles 79 = .ok (.iload 5, 2) := by decide +kernel
theorem dX10_settles_81 : decode cX10_settles 81 = .ok (.aload_n 1, 1) := by decide +kernel
theorem dX10_settles_82 : decode cX10_settles 82 = .ok (.getfield 77, 3) := by decide +kernel
theorem dX10_settles_85 : decode cX10_settles 85 = .ok (.getfield 177, 3) := by decide +kernel
theorem dX10_settles_88 : decode cX10_settles 88 = .ok (.iload_n 2, 1) := by decide +kernel
theorem dX10_settles_89 : decode cX10_settles 89 = .ok (.iaload, 1) := by decide +kernel
theorem dX10_settles_90 : decode cX10_settles 90 = .ok (.invokestatic 197, 3) := by decide +kernel
theorem dX10_settles_93 : decode cX10_settles 93 = .ok (.ior, 1) := by decide +kernel
theorem dX10_settles_94 : decode cX10_settles 94 = .ok (.putfield 191, 3) := by decide +kernel
theorem dX10_settles_97 : decode cX10_settles 97 = .ok (.iconst 1, 1) := by decide +kernel
theorem dX10_settles_98 : decode cX10_settles 98 = .ok (.ireturn, 1) := by decide +kernel
theorem dX10_sideBySide_0 : decode cX10_sideBySide 0 = .ok (.aload_n 0, 1) := by decide +kernel
theorem dX10_sideBySide_1 : decode cX10_sideBySide 1 = .ok (.aload_n 1, 1) := by decide +kernel
theorem dX10_sideBySide_2 : decode cX10_sideBySide 2 = .ok (.iload_n 2, 1) := by decide +kernel
theorem dX10_sideBySide_3 : decode cX10_sideBySide 3 = .ok (.iload_n 3, 1) := by decide +kernel
theorem dX10_sideBySide_4 : decode cX10_sideBySide 4 = .ok (.invokevirtual 200, 3) := by decide +kernel
theorem dX10_sideBySide_7 : decode cX10_sideBySide 7 = .ok (.ifCond .eq 7, 3) := by decide +kernel
theorem dX10_sideBySide_10 : decode cX10_sideBySide 10 = .ok (.iconst 1, 1) := by decide +kernel
theorem dX10_sideBySide_11 : decode cX10_sideBySide 11 = .ok (.goto 4, 3) := by decide +kernel
theorem dX10_sideBySide_14 : decode cX10_sideBySide 14 = .ok (.iconst 0, 1) := by decide +kernel
theorem dX10_sideBySide_15 : decode cX10_sideBySide 15 = .ok (.aload_n 0, 1) := by decide +kernel
theorem dX10_sideBySide_16 : decode cX10_sideBySide 16 = .ok (.aload_n 1, 1) := by decide +kernel
theorem dX10_sideBySide_17 : decode cX10_sideBySide 17 = .ok (.iload_n 3, 1) := by decide +kernel
theorem dX10_sideBySide_18 : decode cX10_sideBySide 18 = .ok (.iload_n 2, 1) := by decide +kernel
theorem dX10_sideBySide_19 : decode cX10_sideBySide 19 = .ok (.invokevirtual 200, 3) := by decide +kernel
theorem dX10_sideBySide_22 : decode cX10_sideBySide 22 = .ok (.ifCond .eq 7, 3) := by decide +kernel
theorem dX10_sideBySide_25 : decode cX10_sideBySide 25 = .ok (.iconst 2, 1) := by decide +kernel
theorem dX10_sideBySide_26 : decode cX10_sideBySide 26 = .ok (.goto 4, 3) := by decide +kernel
theorem dX10_sideBySide_29 : decode cX10_sideBySide 29 = .ok (.iconst 0, 1) := by decide +kernel
theorem dX10_sideBySide_30 : decode cX10_sideBySide 30 = .ok (.ior, 1) := by decide +kernel
theorem dX10_sideBySide_31 : decode cX10_sideBySide 31 = .ok (.ireturn, 1) := by decide +kernel
theorem dX10_fitBehind_0 : decode cX10_fitBehind 0 = .ok (.aload_n 0, 1) := by decide +kernel
theorem dX10_fitBehind_1 : decode cX10_fitBehind 1 = .ok (.aload_n 1, 1) := by decide +kernel
theorem dX10_fitBehind_2 : decode cX10_fitBehind 2 = .ok (.iload_n 2, 1) := by decide +kernel
theorem dX10_fitBehind_3 : decode cX10_fitBehind 3 = .ok (.iload_n 3, 1) := by decide +kernel
theorem dX10_fitBehind_4 : decode cX10_fitBehind 4 = .ok (.invokevirtual 135, 3) := by decide +kernel
theorem dX10_fitBehind_7 : decode cX10_fitBehind 7 = .ok (.aload_n 0, 1) := by decide +kernel
theorem dX10_fitBehind_8 : decode cX10_fitBehind 8 = .ok (.getfield 41, 3) := by decide +kernel
theorem dX10_fitBehind_11 : decode cX10_fitBehind 11 = .ok (.aload_n 1, 1) := by decide +kernel
theorem dX10_fitBehind_12 : decode cX10_fitBehind 12 = .ok (.iload_n 2, 1) := by decide +kernel
theorem dX10_fitBehind_13 : decode cX10_fitBehind 13 = .ok (.invokevirtual 139, 3) := by decide +kernel
theorem dX10_fitBehind_16 : decode cX10_fitBehind 16 = .ok (.aload_n 0, 1) := by decide +kernel
theorem dX10_fitBehind_17 : decode cX10_fitBehind 17 = .ok (.getfield 34, 3) := by decide +kernel
theorem dX10_fitBehind_20 : decode cX10_fitBehind 20 = .ok (.aload_n 0, 1) := by decide +kernel
theorem dX10_fitBehind_21 : decode cX10_fitBehind 21 = .ok (.getfield 41, 3) := by decide +kernel
theorem dX10_fitBehind_24 : decode cX10_fitBehind 24 = .ok (.aload_n 1, 1) := by decide +kernel
theorem dX10_fitBehind_25 : decode cX10_fitBehind 25 = .ok (.getfield 65, 3) := by decide +kernel
theorem dX10_fitBehind_28 : decode cX10_fitBehind 28 = .ok (.getfield 147, 3) := by decide +kernel
theorem dX10_fitBehind_31 : decode cX10_fitBehind 31 = .ok (.iload_n 2, 1) := by decide +kernel
theorem dX10_fitBehind_32 : decode cX10_fitBehind 32 = .ok (.iaload, 1) := by decide +kernel
theorem dX10_fitBehind_33 : decode cX10_fitBehind 33 = .ok (.aload_n 1, 1) := by decide +kernel
theorem dX10_fitBehind_34 : decode cX10_fitBehind 34 = .ok (.getfield 116, 3) := by decide +kernel
theorem dX10_fitBehind_37 : decode cX10_fitBehind 37 = .ok (.invokevirtual 150, 3) := by decide +kernel
theorem dX10_fitBehind_40 : decode cX10_fitBehind 40 = .ok (.ifCond .ne 5, 3) := by decide +kernel
theorem dX10_fitBehind_43 : decode cX10_fitBehind 43 = .ok (.iconst 0, 1) := by decide +kernel
theorem dX10_fitBehind_44 : decode cX10_fitBehind 44 = .ok (.ireturn, 1) := by decide +kernel
theorem dX10_fitBehind_45 : decode cX10_fitBehind 45 = .ok (.aload_n 0, 1) := by decide +kernel
theorem dX10_fitBehind_46 : decode cX10_fitBehind 46 = .ok (.getfield 34, 3) := by decide +kernel
theorem dX10_fitBehind_49 : decode cX10_fitBehind 49 = .ok (.aload_n 0, 1) := by decide +kernel
theorem dX10_fitBehind_50 : decode cX10_fitBehind 50 = .ok (.getfield 41, 3) := by decide +kernel
theorem dX10_fitBehind_53 : decode cX10_fitBehind 53 = .ok (.getfield 191, 3) := by decide +kernel
theorem dX10_fitBehind_56 : decode cX10_fitBehind 56 = .ok (.aload_n 1, 1) := by decide +kernel
theorem dX10_fitBehind_57 : decode cX10_fitBehind 57 = .ok (.getfield 116, 3) := by decide +kernel
theorem dX10_fitBehind_60 : decode cX10_fitBehind 60 = .ok (.aload_n 1, 1) := by decide +kernel
theorem dX10_fitBehind_61 : decode cX10_fitBehind 61 = .ok (.getfield 116, 3) := by decide +kernel
theorem dX10_fitBehind_64 : decode cX10_fitBehind 64 = .ok (.iconst 1, 1) := by decide +kernel
theorem dX10_fitBehind_65 : decode cX10_fitBehind 65 = .ok (.iadd, 1) := by decide +kernel
theorem dX10_fitBehind_66 : decode cX10_fitBehind 66 = .ok (.iconst (-1), 1) := by decide +kernel
theorem dX10_fitBehind_67 : decode cX10_fitBehind 67 = .ok (.invokevirtual 204, 3) := by decide +kernel
theorem dX10_fitBehind_70 : decode cX10_fitBehind 70 = .ok (.aload_n 0, 1) := by decide +kernel
theorem dX10_fitBehind_71 : decode cX10_fitBehind 71 = .ok (.getfield 41, 3) := by decide +kernel
theorem dX10_fitBehind_74 : decode cX10_fitBehind 74 = .ok (.aload_n 1, 1) := by decide +kernel
theorem dX10_fitBehind_75 : decode cX10_fitBehind 75 = .ok (.iload_n 3, 1) := by decide +kernel
theorem dX10_fitBehind_76 : decode cX10_fitBehind 76 = .ok (.invokevirtual 139, 3) := by decide +kernel
theorem dX10_fitBehind_79 : decode cX10_fitBehind 79 = .ok (.aload_n 0, 1) := by decide +kernel
theorem dX10_fitBehind_80 : decode cX10_fitBehind 80 = .ok (.getfield 34, 3) := by decide +kernel
theorem dX10_fitBehind_83 : decode cX10_fitBehind 83 = .ok (.aload_n 0, 1) := by decide +kernel
theorem dX10_fitBehind_84 : decode cX10_fitBehind 84 = .ok (.getfield 41, 3) := by decide +kernel
theorem dX10_fitBehind_87 : decode cX10_fitBehind 87 = .ok (.aload_n 1, 1) := by decide +kernel
theorem dX10_fitBehind_88 : decode cX10_fitBehind 88 = .ok (.getfield 65, 3) := by decide +kernel
theorem dX10_fitBehind_91 : decode cX10_fitBehind 91 = .ok (.getfield 147, 3) := by decide +kernel
theorem dX10_fitBehind_94 : decode cX10_fitBehind 94 = .ok (.iload_n 3, 1) := by decide +kernel
theorem dX10_fitBehind_95 : decode cX10_fitBehind 95 = .ok (.iaload, 1) := by decide +kernel
theorem dX10_fitBehind_96 : decode cX10_fitBehind 96 = .ok (.aload_n 1, 1) := by decide +kernel
theorem dX10_fitBehind_97 : decode cX10_fitBehind 97 = .ok (.getfield 116, 3) := by decide +kernel
theorem dX10_fitBehind_100 : decode cX10_fitBehind 100 = .ok (.invokevirtual 150, 3) := by decide +kernel
theorem dX10_fitBehind_103 : decode cX10_fitBehind 103 = .ok (.ireturn, 1) := by decide +kernel
theorem dX10_gapOf_0 : decode cX10_gapOf 0 = .ok (.aload_n 0, 1) := by decide +kernel
theorem dX10_gapOf_1 : decode cX10_gapOf 1 = .ok (.aload_n 1, 1) := by decide +kernel
theorem dX10_gapOf_2 : decode cX10_gapOf 2 = .ok (.iconst (-1), 1) := by decide +kernel
theorem dX10_gapOf_3 : decode cX10_gapOf 3 = .ok (.iconst (-1), 1) := by decide +kernel
theorem dX10_gapOf_4 : decode cX10_gapOf 4 = .ok (.invokevirtual 135, 3) := by decide +kernel
theorem dX10_gapOf_7 : decode cX10_gapOf 7 = .ok (.aload_n 0, 1) := by decide +kernel
theorem dX10_gapOf_8 : decode cX10_gapOf 8 = .ok (.getfield 34, 3) := by decide +kernel
theorem dX10_gapOf_11 : decode cX10_gapOf 11 = .ok (.iload_n 2, 1) := by decide +kernel
theorem dX10_gapOf_12 : decode cX10_gapOf 12 = .ok (.aload_n 1, 1) := by decide +kernel
theorem dX10_gapOf_13 : decode cX10_gapOf 13 = .ok (.getfield 116, 3) := by decide +kernel
theorem dX10_gapOf_16 : decode cX10_gapOf 16 = .ok (.invokevirtual 208, 3) := by decide +kernel
theorem dX10_gapOf_19 : decode cX10_gapOf 19 = .ok (.istore 5, 2) := by decide +kernel
theorem dX10_gapOf_21 : decode cX10_gapOf 21 = .ok (.aload_n 0, 1) := by decide +kernel
theorem dX10_gapOf_22 : decode cX10_gapOf 22 = .ok (.getfield 34, 3) := by decide +kernel
theorem dX10_gapOf_25 : decode cX10_gapOf 25 = .ok (.iload_n 2, 1) := by decide +kernel
theorem dX10_gapOf_26 : decode cX10_gapOf 26 = .ok (.iload 5, 2) := by decide +kernel
theorem dX10_gapOf_28 : decode cX10_gapOf 28 = .ok (.invokevirtual 211, 3) := by decide +kernel
theorem dX10_gapOf_31 : decode cX10_gapOf 31 = .ok (.istore 6, 2) := by decide +kernel
theorem dX10_gapOf_33 : decode cX10_gapOf 33 = .ok (.iconst 0, 1) := by decide +kernel
theorem dX10_gapOf_34 : decode cX10_gapOf 34 = .ok (.istore 7, 2) := by decide +kernel
theorem dX10_gapOf_36 : decode cX10_gapOf 36 = .ok (.iload 7, 2) := by decide +kernel
theorem dX10_gapOf_38 : decode cX10_gapOf 38 = .ok (.iload_n 3, 1) := by decide +kernel
theorem dX10_gapOf_39 : decode cX10_gapOf 39 = .ok (.if_icmp .ge 41, 3) := by decide +kernel
theorem dX10_gapOf_42 : decode cX10_gapOf 42 = .ok (.iload 6, 2) := by decide +kernel
theorem dX10_gapOf_44 : decode cX10_gapOf 44 = .ok (.iconst (-1), 1) := by decide +kernel
theorem dX10_gapOf_45 : decode cX10_gapOf 45 = .ok (.if_icmp .ne 5, 3) := by decide +kernel
theorem dX10_gapOf_48 : decode cX10_gapOf 48 = .ok (.iconst (-1), 1) := by decide +kernel
theorem dX10_gapOf_49 : decode cX10_gapOf 49 = .ok (.ireturn, 1) := by decide +kernel
theorem dX10_gapOf_50 : decode cX10_gapOf 50 = .ok (.aload_n 0, 1) := by decide +kernel
theorem dX10_gapOf_51 : decode cX10_gapOf 51 = .ok (.getfield 34, 3) := by decide +kernel
theorem dX10_gapOf_54 : decode cX10_gapOf 54 = .ok (.iload_n 2, 1) := by decide +kernel
theorem dX10_gapOf_55 : decode cX10_gapOf 55 = .ok (.iload 6, 2) := by decide +kernel
theorem dX10_gapOf_57 : decode cX10_gapOf 57 = .ok (.invokevirtual 208, 3) := by decide +kernel
theorem dX10_gapOf_60 : decode cX10_gapOf 60 = .ok (.istore 5, 2) := by decide +kernel
theorem dX10_gapOf_62 : decode cX10_gapOf 62 = .ok (.aload_n 0, 1) := by decide +kernel
theorem dX10_gapOf_63 : decode cX10_gapOf 63 = .ok (.getfield 34, 3) := by decide +kernel
theorem dX10_gapOf_66 : decode cX10_gapOf 66 = .ok (.iload_n 2, 1) := by decide +kernel
theorem dX10_gapOf_67 : decode cX10_gapOf 67 = .ok (.iload 5, 2) := by decide +kernel
theorem dX10_gapOf_69 : decode cX10_gapOf 69 = .ok (.invokevirtual 211, 3) := by decide +kernel
theorem dX10_gapOf_72 : decode cX10_gapOf 72 = .ok (.istore 6, 2) := by decide +kernel
theorem dX10_gapOf_74 : decode cX10_gapOf 74 = .ok (.iinc 7 1, 3) := by decide +kernel
theorem dX10_gapOf_77 : decode cX10_gapOf 77 = .ok (.goto (-41), 3) := by decide +kernel
theorem dX10_gapOf_80 : decode cX10_gapOf 80 = .ok (.iload 4, 2) := by decide +kernel
theorem dX10_gapOf_82 : decode cX10_gapOf 82 = .ok (.ifCond .ne 6, 3) := by decide +kernel
theorem dX10_gapOf_85 : decode cX10_gapOf 85 = .ok (.iload 5, 2) := by decide +kernel
theorem dX10_gapOf_87 : decode cX10_gapOf 87 = .ok (.ireturn, 1) := by decide +kernel
theorem dX10_gapOf_88 : decode cX10_gapOf 88 = .ok (.iload 6, 2) := by decide +kernel
theorem dX10_gapOf_90 : decode cX10_gapOf 90 = .ok (.iconst (-1), 1) := by decide +kernel
theorem dX10_gapOf_91 : decode cX10_gapOf 91 = .ok (.if_icmp .ne 7, 3) := by decide +kernel
theorem dX10_gapOf_94 : decode cX10_gapOf 94 = .ok (.iconst (-1), 1) := by decide +kernel
theorem dX10_gapOf_95 : decode cX10_gapOf 95 = .ok (.goto 8, 3) := by decide +kernel
theorem dX10_gapOf_98 : decode cX10_gapOf 98 = .ok (.iload 6, 2) := by decide +kernel
theorem dX10_gapOf_100 : decode cX10_gapOf 100 = .ok (.iload 5, 2) := by decide +kernel
theorem dX10_gapOf_102 : decode cX10_gapOf 102 = .ok (.isub, 1) := by decide +kernel
theorem dX10_gapOf_103 : decode cX10_gapOf 103 = .ok (.ireturn, 1) := by decide +kernel
theorem dX10_goodOrders_0 : decode cX10_goodOrders 0 = .ok (.aload_n 0, 1) := by decide +kernel
theorem dX10_goodOrders_1 : decode cX10_goodOrders 1 = .ok (.aload_n 1, 1) := by decide +kernel
theorem dX10_goodOrders_2 : decode cX10_goodOrders 2 = .ok (.iload_n 2, 1) := by decide +kernel
theorem dX10_goodOrders_3 : decode cX10_goodOrders 3 = .ok (.iconst (-1), 1) := by decide +kernel
theorem dX10_goodOrders_4 : decode cX10_goodOrders 4 = .ok (.invokevirtual 135, 3) := by decide +kernel
theorem dX10_goodOrders_7 : decode cX10_goodOrders 7 = .ok (.aload_n 0, 1) := by decide +kernel
theorem dX10_goodOrders_8 : decode cX10_goodOrders 8 = .ok (.getfield 41, 3) := by decide +kernel
theorem dX10_goodOrders_11 : decode cX10_goodOrders 11 = .ok (.aload_n 1, 1) := by decide +kernel
theorem dX10_goodOrders_12 : decode cX10_goodOrders 12 = .ok (.iload_n 2, 1) := by decide +kernel
theorem dX10_goodOrders_13 : decode cX10_goodOrders 13 = .ok (.invokevirtual 139, 3) := by decide +kernel
theorem dX10_goodOrders_16 : decode cX10_goodOrders 16 = .ok (.iconst 1, 1) := by decide +kernel
theorem dX10_goodOrders_17 : decode cX10_goodOrders 17 = .ok (.istore 4, 2) := by decide +kernel
theorem dX10_goodOrders_19 : decode cX10_goodOrders 19 = .ok (.iconst 0, 1) := by decide +kernel
theorem dX10_goodOrders_20 : decode cX10_goodOrders 20 = .ok (.istore 5, 2) := by decide +kernel
theorem dX10_goodOrders_22 : decode cX10_goodOrders 22 = .ok (.iload 5, 2) := by decide +kernel
theorem dX10_goodOrders_24 : decode cX10_goodOrders 24 = .ok (.aload_n 0, 1) := by decide +kernel
theorem dX10_goodOrders_25 : decode cX10_goodOrders 25 = .ok (.getfield 41, 3) := by decide +kernel
theorem dX10_goodOrders_28 : decode cX10_goodOrders 28 = .ok (.getfield 143, 3) := by decide +kernel
theorem dX10_goodOrders_31 : decode cX10_goodOrders 31 = .ok (.if_icmp .ge 49, 3) := by decide +kernel
theorem dX10_goodOrders_34 : decode cX10_goodOrders 34 = .ok (.aload_n 0, 1) := by decide +kernel
theorem dX10_goodOrders_35 : decode cX10_goodOrders 35 = .ok (.getfield 48, 3) := by decide +kernel
theorem dX10_goodOrders_38 : decode cX10_goodOrders 38 = .ok (.iload 5, 2) := by decide +kernel
theorem dX10_goodOrders_40 : decode cX10_goodOrders 40 = .ok (.aload_n 0, 1) := by decide +kernel
theorem dX10_goodOrders_41 : decode cX10_goodOrders 41 = .ok (.getfield 34, 3) := by decide +kernel
theorem dX10_goodOrders_44 : decode cX10_goodOrders 44 = .ok (.aload_n 1, 1) := by decide +kernel
theorem dX10_goodOrders_45 : decode cX10_goodOrders 45 = .ok (.getfield 65, 3) := by decide +kernel
theorem dX10_goodOrders_48 : decode cX10_goodOrders 48 = .ok (.getfield 147, 3) := by decide +kernel
theorem dX10_goodOrders_51 : decode cX10_goodOrders 51 = .ok (.iload_n 2, 1) := by decide +kernel
theorem dX10_goodOrders_52 : decode cX10_goodOrders 52 = .ok (.iaload, 1) := by decide +kernel
theorem dX10_goodOrders_53 : decode cX10_goodOrders 53 = .ok (.iload_n 3, 1) := by decide +kernel
theorem dX10_goodOrders_54 : decode cX10_goodOrders 54 = .ok (.aload_n 0, 1) := by decide +kernel
theorem dX10_goodOrders_55 : decode cX10_goodOrders 55 = .ok (.getfield 41, 3) := by decide +kernel
theorem dX10_goodOrders_58 : decode cX10_goodOrders 58 = .ok (.getfield 144, 3) := by decide +kernel
theorem dX10_goodOrders_61 : decode cX10_goodOrders 61 = .ok (.iload 5, 2) := by decide +kernel
theorem dX10_goodOrders_63 : decode cX10_goodOrders 63 = .ok (.iaload, 1) := by decide +kernel
theorem dX10_goodOrders_64 : decode cX10_goodOrders 64 = .ok (.invokevirtual 187, 3) := by decide +kernel
theorem dX10_goodOrders_67 : decode cX10_goodOrders 67 = .ok (.iastore, 1) := by decide +kernel
theorem dX10_goodOrders_68 : decode cX10_goodOrders 68 = .ok (.iload 4, 2) := by decide +kernel
theorem dX10_goodOrders_70 : decode cX10_goodOrders 70 = .ok (.iconst 4, 1) := by decide +kernel
theorem dX10_goodOrders_71 : decode cX10_goodOrders 71 = .ok (.imul, 1) := by decide +kernel
theorem dX10_goodOrders_72 : decode cX10_goodOrders 72 = .ok (.istore 4, 2) := by decide +kernel
theorem dX10_goodOrders_74 : decode cX10_goodOrders 74 = .ok (.iinc 5 1, 3) := by decide +kernel
theorem dX10_goodOrders_77 : decode cX10_goodOrders 77 = .ok (.goto (-55), 3) := by decide +kernel
theorem dX10_goodOrders_80 : decode cX10_goodOrders 80 = .ok (.iconst 0, 1) := by decide +kernel
theorem dX10_goodOrders_81 : decode cX10_goodOrders 81 = .ok (.istore 5, 2) := by decide +kernel
theorem dX10_goodOrders_83 : decode cX10_goodOrders 83 = .ok (.iconst 0, 1) := by decide +kernel
theorem dX10_goodOrders_84 : decode cX10_goodOrders 84 = .ok (.istore 6, 2) := by decide +kernel
theorem dX10_goodOrders_86 : decode cX10_goodOrders 86 = .ok (.iload 6, 2) := by decide +kernel
theorem dX10_goodOrders_88 : decode cX10_goodOrders 88 = .ok (.iload 4, 2) := by decide +kernel
theorem dX10_goodOrders_90 : decode cX10_goodOrders 90 = .ok (.if_icmp .ge 28, 3) := by decide +kernel
theorem dX10_goodOrders_93 : decode cX10_goodOrders 93 = .ok (.iload 5, 2) := by decide +kernel
theorem dX10_goodOrders_95 : decode cX10_goodOrders 95 = .ok (.aload_n 0, 1) := by decide +kernel
theorem dX10_goodOrders_96 : decode cX10_goodOrders 96 = .ok (.iload 6, 2) := by decide +kernel
theorem dX10_goodOrders_98 : decode cX10_goodOrders 98 = .ok (.invokevirtual 214, 3) := by decide +kernel
theorem dX10_goodOrders_101 : decode cX10_goodOrders 101 = .ok (.ifCond .eq 7, 3) := by decide +kernel
theorem dX10_goodOrders_104 : decode cX10_goodOrders 104 = .ok (.iconst 1, 1) := by decide +kernel
theorem dX10_goodOrders_105 : decode cX10_goodOrders 105 = .ok (.goto 4, 3) := by decide +kernel
theorem dX10_goodOrders_108 : decode cX10_goodOrders 108 = .ok (.iconst 0, 1) := by decide +kernel
theorem dX10_goodOrders_109 : decode cX10_goodOrders 109 = .ok (.iadd, 1) := by decide +kernel
theorem dX10_goodOrders_110 : decode cX10_goodOrders 110 = .ok (.istore 5, 2) := by decide +kernel
theorem dX10_goodOrders_112 : decode cX10_goodOrders 112 = .ok (.iinc 6 1, 3) := by decide +kernel
theorem dX10_goodOrders_115 : decode cX10_goodOrders 115 = .ok (.goto (-29), 3) := by decide +kernel
theorem dX10_goodOrders_118 : decode cX10_goodOrders 118 = .ok (.iload 5, 2) := by decide +kernel
theorem dX10_goodOrders_120 : decode cX10_goodOrders 120 = .ok (.ireturn, 1) := by decide +kernel
theorem dX10_isGoodOrder_0 : decode cX10_isGoodOrder 0 = .ok (.iconst 0, 1) := by decide +kernel
theorem dX10_isGoodOrder_1 : decode cX10_isGoodOrder 1 = .ok (.istore_n 2, 1) := by decide +kernel
theorem dX10_isGoodOrder_2 : decode cX10_isGoodOrder 2 = .ok (.iconst 0, 1) := by decide +kernel
theorem dX10_isGoodOrder_3 : decode cX10_isGoodOrder 3 = .ok (.istore_n 3, 1) := by decide +kernel
theorem dX10_isGoodOrder_4 : decode cX10_isGoodOrder 4 = .ok (.iconst 0, 1) := by decide +kernel
theorem dX10_isGoodOrder_5 : decode cX10_isGoodOrder 5 = .ok (.istore 4, 2) := by decide +kernel
theorem dX10_isGoodOrder_7 : decode cX10_isGoodOrder 7 = .ok (.iload 4, 2) := by decide +kernel
theorem dX10_isGoodOrder_9 : decode cX10_isGoodOrder 9 = .ok (.aload_n 0, 1) := by decide +kernel
theorem dX10_isGoodOrder_10 : decode cX10_isGoodOrder 10 = .ok (.getfield 41, 3) := by decide +kernel
theorem dX10_isGoodOrder_13 : decode cX10_isGoodOrder 13 = .ok (.getfield 143, 3) := by decide +kernel
theorem dX10_isGoodOrder_16 : decode cX10_isGoodOrder 16 = .ok (.if_icmp .ge 101, 3) := by decide +kernel
theorem dX10_isGoodOrder_19 : decode cX10_isGoodOrder 19 = .ok (.iload_n 1, 1) := by decide +kernel
theorem dX10_isGoodOrder_20 : decode cX10_isGoodOrder 20 = .ok (.iconst 2, 1) := by decide +kernel
theorem dX10_isGoodOrder_21 : decode cX10_isGoodOrder 21 = .ok (.iload 4, 2) := by decide +kernel
theorem dX10_isGoodOrder_23 : decode cX10_isGoodOrder 23 = .ok (.imul, 1) := by decide +kernel
theorem dX10_isGoodOrder_24 : decode cX10_isGoodOrder 24 = .ok (.ishr, 1) := by decide +kernel
theorem dX10_isGoodOrder_25 : decode cX10_isGoodOrder 25 = .ok (.iconst 3, 1) := by decide +kernel
theorem dX10_isGoodOrder_26 : decode cX10_isGoodOrder 26 = .ok (.iand, 1) := by decide +kernel
theorem dX10_isGoodOrder_27 : decode cX10_isGoodOrder 27 = .ok (.istore 5, 2) := by decide +kernel
theorem dX10_isGoodOrder_29 : decode cX10_isGoodOrder 29 = .ok (.iload 5, 2) := by decide +kernel
theorem dX10_isGoodOrder_31 : decode cX10_isGoodOrder 31 = .ok (.aload_n 0, 1) := by decide +kernel
theorem dX10_isGoodOrder_32 : decode cX10_isGoodOrder 32 = .ok (.getfield 41, 3) := by decide +kernel
theorem dX10_isGoodOrder_35 : decode cX10_isGoodOrder 35 = .ok (.getfield 143, 3) := by decide +kernel
theorem dX10_isGoodOrder_38 : decode cX10_isGoodOrder 38 = .ok (.if_icmp .ge 12, 3) := by decide +kernel
theorem dX10_isGoodOrder_41 : decode cX10_isGoodOrder 41 = .ok (.iload_n 2, 1) := by decide +kernel
theorem dX10_isGoodOrder_42 : decode cX10_isGoodOrder 42 = .ok (.iload 5, 2) := by decide +kernel
theorem dX10_isGoodOrder_44 : decode cX10_isGoodOrder 44 = .ok (.ishr, 1) := by decide +kernel
theorem dX10_isGoodOrder_45 : decode cX10_isGoodOrder 45 = .ok (.iconst 1, 1) := by decide +kernel
theorem dX10_isGoodOrder_46 : decode cX10_isGoodOrder 46 = .ok (.iand, 1) := by decide +kernel
theorem dX10_isGoodOrder_47 : decode cX10_isGoodOrder 47 = .ok (.ifCond .eq 5, 3) := by decide +kernel
theorem dX10_isGoodOrder_50 : decode cX10_isGoodOrder 50 = .ok (.iconst 0, 1) := by decide +kernel
theorem dX10_isGoodOrder_51 : decode cX10_isGoodOrder 51 = .ok (.ireturn, 1) := by decide +kernel
theorem dX10_isGoodOrder_52 : decode cX10_isGoodOrder 52 = .ok (.iload_n 2, 1) := by decide +kernel
theorem dX10_isGoodOrder_53 : decode cX10_isGoodOrder 53 = .ok (.iconst 1, 1) := by decide +kernel
theorem dX10_isGoodOrder_54 : decode cX10_isGoodOrder 54 = .ok (.iload 5, 2) := by decide +kernel
theorem dX10_isGoodOrder_56 : decode cX10_isGoodOrder 56 = .ok (.ishl, 1) := by decide +kernel
theorem dX10_isGoodOrder_57 : decode cX10_isGoodOrder 57 = .ok (.ior, 1) := by decide +kernel
theorem dX10_isGoodOrder_58 : decode cX10_isGoodOrder 58 = .ok (.istore_n 2, 1) := by decide +kernel
theorem dX10_isGoodOrder_59 : decode cX10_isGoodOrder 59 = .ok (.aload_n 0, 1) := by decide +kernel
theorem dX10_isGoodOrder_60 : decode cX10_isGoodOrder 60 = .ok (.getfield 48, 3) := by decide +kernel
theorem dX10_isGoodOrder_63 : decode cX10_isGoodOrder 63 = .ok (.iload 5, 2) := by decide +kernel
theorem dX10_isGoodOrder_65 : decode cX10_isGoodOrder 65 = .ok (.iaload, 1) := by decide +kernel
theorem dX10_isGoodOrder_66 : decode cX10_isGoodOrder 66 = .ok (.iload_n 3, 1) := by decide +kernel
theorem dX10_isGoodOrder_67 : decode cX10_isGoodOrder 67 = .ok (.iconst (-1), 1) := by decide +kernel
theorem dX10_isGoodOrder_68 : decode cX10_isGoodOrder 68 = .ok (.ixor, 1) := by decide +kernel
theorem dX10_isGoodOrder_69 : decode cX10_isGoodOrder 69 = .ok (.iand, 1) := by decide +kernel
theorem dX10_isGoodOrder_70 : decode cX10_isGoodOrder 70 = .ok (.aload_n 0, 1) := by decide +kernel
theorem dX10_isGoodOrder_71 : decode cX10_isGoodOrder 71 = .ok (.getfield 41, 3) := by decide +kernel
theorem dX10_isGoodOrder_74 : decode cX10_isGoodOrder 74 = .ok (.getfield 218, 3) := by decide +kernel
theorem dX10_isGoodOrder_77 : decode cX10_isGoodOrder 77 = .ok (.iload 5, 2) := by decide +kernel
theorem dX10_isGoodOrder_79 : decode cX10_isGoodOrder 79 = .ok (.iaload, 1) := by decide +kernel
theorem dX10_isGoodOrder_80 : decode cX10_isGoodOrder 80 = .ok (.invokestatic 194, 3) := by decide +kernel
theorem dX10_isGoodOrder_83 : decode cX10_isGoodOrder 83 = .ok (.istore 6, 2) := by decide +kernel
theorem dX10_isGoodOrder_85 : decode cX10_isGoodOrder 85 = .ok (.iload 6, 2) := by decide +kernel
theorem dX10_isGoodOrder_87 : decode cX10_isGoodOrder 87 = .ok (.iconst (-1), 1) := by decide +kernel
theorem dX10_isGoodOrder_88 : decode cX10_isGoodOrder 88 = .ok (.if_icmp .ne 5, 3) := by decide +kernel
theorem dX10_isGoodOrder_91 : decode cX10_isGoodOrder 91 = .ok (.iconst 0, 1) := by decide +kernel
theorem dX10_isGoodOrder_92 : decode cX10_isGoodOrder 92 = .ok (.ireturn, 1) := by decide +kernel
theorem dX10_isGoodOrder_93 : decode cX10_isGoodOrder 93 = .ok (.iload_n 3, 1) := by decide +kernel
theorem dX10_isGoodOrder_94 : decode cX10_isGoodOrder 94 = .ok (.iload 6, 2) := by decide +kernel
theorem dX10_isGoodOrder_96 : decode cX10_isGoodOrder 96 = .ok (.aload_n 0, 1) := by decide +kernel
theorem dX10_isGoodOrder_97 : decode cX10_isGoodOrder 97 = .ok (.getfield 41, 3) := by decide +kernel
theorem dX10_isGoodOrder_100 : decode cX10_isGoodOrder 100 = .ok (.getfield 218, 3) := by decide +kernel
theorem dX10_isGoodOrder_103 : decode cX10_isGoodOrder 103 = .ok (.iload 5, 2) := by decide +kernel
theorem dX10_isGoodOrder_105 : decode cX10_isGoodOrder 105 = .ok (.iaload, 1) := by decide +kernel
theorem dX10_isGoodOrder_106 : decode cX10_isGoodOrder 106 = .ok (.invokestatic 197, 3) := by decide +kernel
theorem dX10_isGoodOrder_109 : decode cX10_isGoodOrder 109 = .ok (.ior, 1) := by decide +kernel
theorem dX10_isGoodOrder_110 : decode cX10_isGoodOrder 110 = .ok (.istore_n 3, 1) := by decide +kernel
theorem dX10_isGoodOrder_111 : decode cX10_isGoodOrder 111 = .ok (.iinc 4 1, 3) := by decide +kernel
theorem dX10_isGoodOrder_114 : decode cX10_isGoodOrder 114 = .ok (.goto (-107), 3) := by decide +kernel
theorem dX10_isGoodOrder_117 : decode cX10_isGoodOrder 117 = .ok (.iconst 1, 1) := by decide +kernel
theorem dX10_isGoodOrder_118 : decode cX10_isGoodOrder 118 = .ok (.ireturn, 1) := by decide +kernel
theorem dX10_firstTick_0 : decode cX10_firstTick 0 = .ok (.aload_n 0, 1) := by decide +kernel
theorem dX10_firstTick_1 : decode cX10_firstTick 1 = .ok (.aload_n 1, 1) := by decide +kernel
theorem dX10_firstTick_2 : decode cX10_firstTick 2 = .ok (.iconst (-1), 1) := by decide +kernel
theorem dX10_firstTick_3 : decode cX10_firstTick 3 = .ok (.iconst (-1), 1) := by decide +kernel
theorem dX10_firstTick_4 : decode cX10_firstTick 4 = .ok (.invokevirtual 135, 3) := by decide +kernel
theorem dX10_firstTick_7 : decode cX10_firstTick 7 = .ok (.aload_n 0, 1) := by decide +kernel
theorem dX10_firstTick_8 : decode cX10_firstTick 8 = .ok (.getfield 34, 3) := by decide +kernel
theorem dX10_firstTick_11 : decode cX10_firstTick 11 = .ok (.aload_n 2, 1) := by decide +kernel
theorem dX10_firstTick_12 : decode cX10_firstTick 12 = .ok (.iload_n 3, 1) := by decide +kernel
theorem dX10_firstTick_13 : decode cX10_firstTick 13 = .ok (.aload_n 1, 1) := by decide +kernel
theorem dX10_firstTick_14 : decode cX10_firstTick 14 = .ok (.getfield 116, 3) := by decide +kernel
theorem dX10_firstTick_17 : decode cX10_firstTick 17 = .ok (.aload_n 1, 1) := by decide +kernel
theorem dX10_firstTick_18 : decode cX10_firstTick 18 = .ok (.getfield 116, 3) := by decide +kernel
theorem dX10_firstTick_21 : decode cX10_firstTick 21 = .ok (.sipush 20000, 3) := by decide +kernel
theorem dX10_firstTick_24 : decode cX10_firstTick 24 = .ok (.iadd, 1) := by decide +kernel
theorem dX10_firstTick_25 : decode cX10_firstTick 25 = .ok (.invokevirtual 219, 3) := by decide +kernel
theorem dX10_firstTick_28 : decode cX10_firstTick 28 = .ok (.ireturn, 1) := by decide +kernel
theorem dX10_openColumns_0 : decode cX10_openColumns 0 = .ok (.aload_n 0, 1) := by decide +kernel
theorem dX10_openColumns_1 : decode cX10_openColumns 1 = .ok (.aload_n 1, 1) := by decide +kernel
theorem dX10_openColumns_2 : decode cX10_openColumns 2 = .ok (.iconst (-1), 1) := by decide +kernel
theorem dX10_openColumns_3 : decode cX10_openColumns 3 = .ok (.iconst (-1), 1) := by decide +kernel
theorem dX10_openColumns_4 : decode cX10_openColumns 4 = .ok (.invokevirtual 135, 3) := by decide +kernel
theorem dX10_openColumns_7 : decode cX10_openColumns 7 = .ok (.aload_n 0, 1) := by decide +kernel
theorem dX10_openColumns_8 : decode cX10_openColumns 8 = .ok (.getfield 34, 3) := by decide +kernel
theorem dX10_openColumns_11 : decode cX10_openColumns 11 = .ok (.iconst (-1), 1) := by decide +kernel
theorem dX10_openColumns_12 : decode cX10_openColumns 12 = .ok (.iload_n 2, 1) := by decide +kernel
theorem dX10_openColumns_13 : decode cX10_openColumns 13 = .ok (.iload_n 3, 1) := by decide +kernel
theorem dX10_openColumns_14 : decode cX10_openColumns 14 = .ok (.invokevirtual 187, 3) := by decide +kernel
theorem dX10_openColumns_17 : decode cX10_openColumns 17 = .ok (.ireturn, 1) := by decide +kernel
theorem dX11_init_0 : decode cX11_init 0 = .ok (.aload_n 0, 1) := by decide +kernel
theorem dX11_init_1 : decode cX11_init 1 = .ok (.invokespecial 1, 3) := by decide +kernel
theorem dX11_init_4 : decode cX11_init 4 = .ok (.aload_n 0, 1) := by decide +kernel
theorem dX11_init_5 : decode cX11_init 5 = .ok (.new 7, 3) := by decide +kernel
theorem dX11_init_8 : decode cX11_init 8 = .ok (.dup, 1) := by decide +kernel
theorem dX11_init_9 : decode cX11_init 9 = .ok (.iconst 0, 1) := by decide +kernel
theorem dX11_init_10 : decode cX11_init 10 = .ok (.invokespecial 9, 3) := by decide +kernel
theorem dX11_init_13 : decode cX11_init 13 = .ok (.putfield 12, 3) := by decide +kernel
theorem dX11_init_16 : decode cX11_init 16 = .ok (.aload_n 0, 1) := by decide +kernel
theorem dX11_init_17 : decode cX11_init 17 = .ok (.new 7, 3) := by decide +kernel
theorem dX11_init_20 : decode cX11_init 20 = .ok (.dup, 1) := by decide +kernel
theorem dX11_init_21 : decode cX11_init 21 = .ok (.iconst 0, 1) := by decide +kernel
theorem dX11_init_22 : decode cX11_init 22 = .ok (.invokespecial 9, 3) := by decide +kernel
theorem dX11_init_25 : decode cX11_init 25 = .ok (.putfield 18, 3) := by decide +kernel
theorem dX11_init_28 : decode cX11_init 28 = .ok (.aload_n 0, 1) := by decide +kernel
theorem dX11_init_29 : decode cX11_init 29 = .ok (.new 21, 3) := by decide +kernel
theorem dX11_init_32 : decode cX11_init 32 = .ok (.dup, 1) := by decide +kernel
theorem dX11_init_33 : decode cX11_init 33 = .ok (.invokespecial 23, 3) := by decide +kernel
theorem dX11_init_36 : decode cX11_init 36 = .ok (.putfield 24, 3) := by decide +kernel
theorem dX11_init_39 : decode cX11_init 39 = .ok (.aload_n 0, 1) := by decide +kernel
theorem dX11_init_40 : decode cX11_init 40 = .ok (.new 28, 3) := by decide +kernel
theorem dX11_init_43 : decode cX11_init 43 = .ok (.dup, 1) := by decide +kernel
theorem dX11_init_44 : decode cX11_init 44 = .ok (.invokespecial 30, 3) := by decide +kernel
theorem dX11_init_47 : decode cX11_init 47 = .ok (.putfield 31, 3) := by decide +kernel
theorem dX11_init_50 : decode cX11_init 50 = .ok (.aload_n 0, 1) := by decide +kernel
theorem dX11_init_51 : decode cX11_init 51 = .ok (.new 35, 3) := by decide +kernel
theorem dX11_init_54 : decode cX11_init 54 = .ok (.dup, 1) := by decide +kernel
theorem dX11_init_55 : decode cX11_init 55 = .ok (.invokespecial 37, 3) := by decide +kernel
theorem dX11_init_58 : decode cX11_init 58 = .ok (.putfield 38, 3) := by decide +kernel
theorem dX11_init_61 : decode cX11_init 61 = .ok (.aload_n 0, 1) := by decide +kernel
theorem dX11_init_62 : decode cX11_init 62 = .ok (.new 42, 3) := by decide +kernel
theorem dX11_init_65 : decode cX11_init 65 = .ok (.dup, 1) := by decide +kernel
theorem dX11_init_66 : decode cX11_init 66 = .ok (.invokespecial 44, 3) := by decide +kernel
theorem dX11_init_69 : decode cX11_init 69 = .ok (.putfield 45, 3) := by decide +kernel
theorem dX11_init_72 : decode cX11_init 72 = .ok (.aload_n 0, 1) := by decide +kernel
theorem dX11_init_73 : decode cX11_init 73 = .ok (.new 49, 3) := by decide +kernel
theorem dX11_init_76 : decode cX11_init 76 = .ok (.dup, 1) := by decide +kernel
theorem dX11_init_77 : decode cX11_init 77 = .ok (.invokespecial 51, 3) := by decide +kernel
theorem dX11_init_80 : decode cX11_init 80 = .ok (.putfield 52, 3) := by decide +kernel
theorem dX11_init_83 : decode cX11_init 83 = .ok (.aload_n 0, 1) := by decide +kernel
theorem dX11_init_84 : decode cX11_init 84 = .ok (.new 56, 3) := by decide +kernel
theorem dX11_init_87 : decode cX11_init 87 = .ok (.dup, 1) := by decide +kernel
theorem dX11_init_88 : decode cX11_init 88 = .ok (.invokespecial 58, 3) := by decide +kernel
theorem dX11_init_91 : decode cX11_init 91 = .ok (.putfield 59, 3) := by decide +kernel
theorem dX11_init_94 : decode cX11_init 94 = .ok (.return_, 1) := by decide +kernel
theorem dX11_weight_0 : decode cX11_weight 0 = .ok (.iload_n 1, 1) := by decide +kernel
theorem dX11_weight_1 : decode cX11_weight 1 = .ok (.invokestatic 63, 3) := by decide +kernel
theorem dX11_weight_4 : decode cX11_weight 4 = .ok (.ifCond .eq 14, 3) := by decide +kernel
theorem dX11_weight_7 : decode cX11_weight 7 = .ok (.iload_n 2, 1) := by decide +kernel
theorem dX11_weight_8 : decode cX11_weight 8 = .ok (.iconst 1, 1) := by decide +kernel
theorem dX11_weight_9 : decode cX11_weight 9 = .ok (.if_icmp .lt 9, 3) := by decide +kernel
theorem dX11_weight_12 : decode cX11_weight 12 = .ok (.iload_n 2, 1) := by decide +kernel
theorem dX11_weight_13 : decode cX11_weight 13 = .ok (.bipush 100, 2) := by decide +kernel
theorem dX11_weight_15 : decode cX11_weight 15 = .ok (.if_icmp .le 5, 3) := by decide +kernel
theorem dX11_weight_18 : decode cX11_weight 18 = .ok (.iconst (-1), 1) := by decide +kernel
theorem dX11_weight_19 : decode cX11_weight 19 = .ok (.ireturn, 1) := by decide +kernel
theorem dX11_weight_20 : decode cX11_weight 20 = .ok (.aload_n 0, 1) := by decide +kernel
theorem dX11_weight_21 : decode cX11_weight 21 = .ok (.getfield 12, 3) := by decide +kernel
theorem dX11_weight_24 : decode cX11_weight 24 = .ok (.getfield 67, 3) := by decide +kernel
theorem dX11_weight_27 : decode cX11_weight 27 = .ok (.iload_n 1, 1) := by decide +kernel
theorem dX11_weight_28 : decode cX11_weight 28 = .ok (.iaload, 1) := by decide +kernel
theorem dX11_weight_29 : decode cX11_weight 29 = .ok (.istore_n 3, 1) := by decide +kernel
theorem dX11_weight_30 : decode cX11_weight 30 = .ok (.aload_n 0, 1) := by decide +kernel
theorem dX11_weight_31 : decode cX11_weight 31 = .ok (.getfield 12, 3) := by decide +kernel
theorem dX11_weight_34 : decode cX11_weight 34 = .ok (.getfield 67, 3) := by decide +kernel
theorem dX11_weight_37 : decode cX11_weight 37 = .ok (.iload_n 1, 1) := by decide +kernel
theorem dX11_weight_38 : decode cX11_weight 38 = .ok (.iload_n 2, 1) := by decide +kernel
theorem dX11_weight_39 : decode cX11_weight 39 = .ok (.iastore, 1) := by decide +kernel
theorem dX11_weight_40 : decode cX11_weight 40 = .ok (.iload_n 3, 1) := by decide +kernel
theorem dX11_weight_41 : decode cX11_weight 41 = .ok (.ireturn, 1) := by decide +kernel
theorem dX11_limit_0 : decode cX11_limit 0 = .ok (.iload_n 1, 1) := by decide +kernel
theorem dX11_limit_1 : decode cX11_limit 1 = .ok (.invokestatic 63, 3) := by decide +kernel
theorem dX11_limit_4 : decode cX11_limit 4 = .ok (.ifCond .eq 13, 3) := by decide +kernel
theorem dX11_limit_7 : decode cX11_limit 7 = .ok (.iload_n 2, 1) := by decide +kernel
theorem dX11_limit_8 : decode cX11_limit 8 = .ok (.ifCond .lt 9, 3) := by decide +kernel
theorem dX11_limit_11 : decode cX11_limit 11 = .ok (.iload_n 2, 1) := by decide +kernel
theorem dX11_limit_12 : decode cX11_limit 12 = .ok (.bipush 16, 2) := by decide +kernel
theorem dX11_limit_14 : decode cX11_limit 14 = .ok (.if_icmp .le 5, 3) := by decide +kernel
theorem dX11_limit_17 : decode cX11_limit 17 = .ok (.iconst (-1), 1) := by decide +kernel
theorem dX11_limit_18 : decode cX11_limit 18 = .ok (.ireturn, 1) := by decide +kernel
theorem dX11_limit_19 : decode cX11_limit 19 = .ok (.aload_n 0, 1) := by decide +kernel
theorem dX11_limit_20 : decode cX11_limit 20 = .ok (.getfield 12, 3) := by decide +kernel
theorem dX11_limit_23 : decode cX11_limit 23 = .ok (.getfield 71, 3) := by decide +kernel
theorem dX11_limit_26 : decode cX11_limit 26 = .ok (.iload_n 1, 1) := by decide +kernel
theorem dX11_limit_27 : decode cX11_limit 27 = .ok (.iaload, 1) := by decide +kernel
theorem dX11_limit_28 : decode cX11_limit 28 = .ok (.istore_n 3, 1) := by decide +kernel
theorem dX11_limit_29 : decode cX11_limit 29 = .ok (.aload_n 0, 1) := by decide +kernel
theorem dX11_limit_30 : decode cX11_limit 30 = .ok (.getfield 12, 3) := by decide +kernel
theorem dX11_limit_33 : decode cX11_limit 33 = .ok (.getfield 71, 3) := by decide +kernel
theorem dX11_limit_36 : decode cX11_limit 36 = .ok (.iload_n 1, 1) := by decide +kernel
theorem dX11_limit_37 : decode cX11_limit 37 = .ok (.iload_n 2, 1) := by decide +kernel
theorem dX11_limit_38 : decode cX11_limit 38 = .ok (.iastore, 1) := by decide +kernel
theorem dX11_limit_39 : decode cX11_limit 39 = .ok (.iload_n 3, 1) := by decide +kernel
theorem dX11_limit_40 : decode cX11_limit 40 = .ok (.ireturn, 1) := by decide +kernel
theorem dX11_rule_0 : decode cX11_rule 0 = .ok (.iload_n 1, 1) := by decide +kernel
theorem dX11_rule_1 : decode cX11_rule 1 = .ok (.iload_n 2, 1) := by decide +kernel
theorem dX11_rule_2 : decode cX11_rule 2 = .ok (.invokestatic 78, 3) := by decide +kernel
theorem dX11_rule_5 : decode cX11_rule 5 = .ok (.ifCond .ne 5, 3) := by decide +kernel
theorem dX11_rule_8 : decode cX11_rule 8 = .ok (.iconst (-1), 1) := by decide +kernel
theorem dX11_rule_9 : decode cX11_rule 9 = .ok (.ireturn, 1) := by decide +kernel
theorem dX11_rule_10 : decode cX11_rule 10 = .ok (.aload_n 0, 1) := by decide +kernel
theorem dX11_rule_11 : decode cX11_rule 11 = .ok (.getfield 12, 3) := by decide +kernel
theorem dX11_rule_14 : decode cX11_rule 14 = .ok (.getfield 82, 3) := by decide +kernel
theorem dX11_rule_17 : decode cX11_rule 17 = .ok (.iload_n 1, 1) := by decide +kernel
theorem dX11_rule_18 : decode cX11_rule 18 = .ok (.iaload, 1) := by decide +kernel
theorem dX11_rule_19 : decode cX11_rule 19 = .ok (.istore_n 3, 1) := by decide +kernel
theorem dX11_rule_20 : decode cX11_rule 20 = .ok (.aload_n 0, 1) := by decide +kernel
theorem dX11_rule_21 : decode cX11_rule 21 = .ok (.getfield 12, 3) := by decide +kernel
theorem dX11_rule_24 : decode cX11_rule 24 = .ok (.getfield 82, 3) := by decide +kernel
theorem dX11_rule_27 : decode cX11_rule 27 = .ok (.iload_n 1, 1) := by decide +kernel
theorem dX11_rule_28 : decode cX11_rule 28 = .ok (.iload_n 2, 1) := by decide +kernel
theorem dX11_rule_29 : decode cX11_rule 29 = .ok (.iastore, 1) := by decide +kernel
theorem dX11_rule_30 : decode cX11_rule 30 = .ok (.iload_n 3, 1) := by decide +kernel
theorem dX11_rule_31 : decode cX11_rule 31 = .ok (.ireturn, 1) := by decide +kernel
theorem dX11_used_0 : decode cX11_used 0 = .ok (.iload_n 1, 1) := by decide +kernel
theorem dX11_used_1 : decode cX11_used 1 = .ok (.invokestatic 63, 3) := by decide +kernel
theorem dX11_used_4 : decode cX11_used 4 = .ok (.ifCond .eq 15, 3) := by decide +kernel
theorem dX11_used_7 : decode cX11_used 7 = .ok (.aload_n 0, 1) := by decide +kernel
theorem dX11_used_8 : decode cX11_used 8 = .ok (.getfield 12, 3) := by decide +kernel
theorem dX11_used_11 : decode cX11_used 11 = .ok (.getfield 85, 3) := by decide +kernel
theorem dX11_used_14 : decode cX11_used 14 = .ok (.iload_n 1, 1) := by decide +kernel
theorem dX11_used_15 : decode cX11_used 15 = .ok (.laload, 1) := by decide +kernel
theorem dX11_used_16 : decode cX11_used 16 = .ok (.goto 6, 3) := by decide +kernel
theorem dX11_used_19 : decode cX11_used 19 = .ok (.ldc2_w 89, 3) := by decide +kernel
theorem dX11_used_22 : decode cX11_used 22 = .ok (.lreturn, 1) := by decide +kernel
theorem dX11_feed_0 : decode cX11_feed 0 = .ok (.iload_n 1, 1) := by decide +kernel
theorem dX11_feed_1 : decode cX11_feed 1 = .ok (.bipush 32, 2) := by decide +kernel
theorem dX11_feed_3 : decode cX11_feed 3 = .ok (.if_icmp .lt 9, 3) := by decide +kernel
theorem dX11_feed_6 : decode cX11_feed 6 = .ok (.iload_n 1, 1) := by decide +kernel
theorem dX11_feed_7 : decode cX11_feed 7 = .ok (.bipush 126, 2) := by decide +kernel
theorem dX11_feed_9 : decode cX11_feed 9 = .ok (.if_icmp .le 5, 3) := by decide +kernel
theorem dX11_feed_12 : decode cX11_feed 12 = .ok (.iconst (-1), 1) := by decide +kernel
theorem dX11_feed_13 : decode cX11_feed 13 = .ok (.ireturn, 1) := by decide +kernel
theorem dX11_feed_14 : decode cX11_feed 14 = .ok (.aload_n 0, 1) := by decide +kernel
theorem dX11_feed_15 : decode cX11_feed 15 = .ok (.getfield 38, 3) := by decide +kernel
theorem dX11_feed_18 : decode cX11_feed 18 = .ok (.iload_n 1, 1) := by decide +kernel
theorem dX11_feed_19 : decode cX11_feed 19 = .ok (.invokevirtual 91, 3) := by decide +kernel
theorem dX11_feed_22 : decode cX11_feed 22 = .ok (.ifCond .eq 13, 3) := by decide +kernel
theorem dX11_feed_25 : decode cX11_feed 25 = .ok (.aload_n 0, 1) := by decide +kernel
theorem dX11_feed_26 : decode cX11_feed 26 = .ok (.getfield 38, 3) := by decide +kernel
theorem dX11_feed_29 : decode cX11_feed 29 = .ok (.getfield 94, 3) := by decide +kernel
theorem dX11_feed_32 : decode cX11_feed 32 = .ok (.goto 5, 3) := by decide +kernel
theorem dX11_feed_35 : decode cX11_feed 35 = .ok (.bipush (-3), 2) := by decide +kernel
theorem dX11_feed_37 : decode cX11_feed 37 = .ok (.ireturn, 1) := by decide +kernel
theorem dX11_job_0 : decode cX11_job 0 = .ok (.iload_n 1, 1) := by decide +kernel
theorem dX11_job_1 : decode cX11_job 1 = .ok (.invokestatic 63, 3) := by decide +kernel
theorem dX11_job_4 : decode cX11_job 4 = .ok (.ifCond .eq 22, 3) := by decide +kernel
theorem dX11_job_7 : decode cX11_job 7 = .ok (.iload_n 2, 1) := by decide +kernel
theorem dX11_job_8 : decode cX11_job 8 = .ok (.invokestatic 98, 3) := by decide +kernel
theorem dX11_job_11 : decode cX11_job 11 = .ok (.ifCond .eq 15, 3) := by decide +kernel
theorem dX11_job_14 : decode cX11_job 14 = .ok (.iload_n 3, 1) := by decide +kernel
theorem dX11_job_15 : decode cX11_job 15 = .ok (.iconst 1, 1) := by decide +kernel
theorem dX11_job_16 : decode cX11_job 16 = .ok (.if_icmp .lt 10, 3) := by decide +kernel
theorem dX11_job_19 : decode cX11_job 19 = .ok (.iload_n 3, 1) := by decide +kernel
theorem dX11_job_20 : decode cX11_job 20 = .ok (.sipush 150, 3) := by decide +kernel
theorem dX11_job_23 : decode cX11_job 23 = .ok (.if_icmp .le 5, 3) := by decide +kernel
theorem dX11_job_26 : decode cX11_job 26 = .ok (.iconst (-1), 1) := by decide +kernel
theorem dX11_job_27 : decode cX11_job 27 = .ok (.ireturn, 1) := by decide +kernel
theorem dX11_job_28 : decode cX11_job 28 = .ok (.iload 4, 2) := by decide +kernel
theorem dX11_job_30 : decode cX11_job 30 = .ok (.iconst (-1), 1) := by decide +kernel
theorem dX11_job_31 : decode cX11_job 31 = .ok (.if_icmp .eq 14, 3) := by decide +kernel
theorem dX11_job_34 : decode cX11_job 34 = .ok (.aload_n 0, 1) := by decide +kernel
theorem dX11_job_35 : decode cX11_job 35 = .ok (.iload 4, 2) := by decide +kernel
theorem dX11_job_37 : decode cX11_job 37 = .ok (.invokevirtual 101, 3) := by decide +kernel
theorem dX11_job_40 : decode cX11_job 40 = .ok (.ifCond .ne 5, 3) := by decide +kernel
theorem dX11_job_43 : decode cX11_job 43 = .ok (.iconst (-1), 1) := by decide +kernel
theorem dX11_job_44 : decode cX11_job 44 = .ok (.ireturn, 1) := by decide +kernel
theorem dX11_job_45 : decode cX11_job 45 = .ok (.aload_n 0, 1) := by decide +kernel
theorem dX11_job_46 : decode cX11_job 46 = .ok (.getfield 12, 3) := by decide +kernel
theorem dX11_job_49 : decode cX11_job 49 = .ok (.getfield 104, 3) := by decide +kernel
theorem dX11_job_52 : decode cX11_job 52 = .ok (.getfield 108, 3) := by decide +kernel
theorem dX11_job_55 : decode cX11_job 55 = .ok (.bipush 80, 2) := by decide +kernel
theorem dX11_job_57 : decode cX11_job 57 = .ok (.if_icmp .lt 6, 3) := by decide +kernel
theorem dX11_job_60 : decode cX11_job 60 = .ok (.bipush (-3), 2) := by decide +kernel
theorem dX11_job_62 : decode cX11_job 62 = .ok (.ireturn, 1) := by decide +kernel
theorem dX11_job_63 : decode cX11_job 63 = .ok (.iload 4, 2) := by decide +kernel
theorem dX11_job_65 : decode cX11_job 65 = .ok (.iconst (-1), 1) := by decide +kernel
theorem dX11_job_66 : decode cX11_job 66 = .ok (.if_icmp .eq 23, 3) := by decide +kernel
theorem dX11_job_69 : decode cX11_job 69 = .ok (.aload_n 0, 1) := by decide +kernel
theorem dX11_job_70 : decode cX11_job 70 = .ok (.getfield 12, 3) := by decide +kernel
theorem dX11_job_73 : decode cX11_job 73 = .ok (.getfield 104, 3) := by decide +kernel
theorem dX11_job_76 : decode cX11_job 76 = .ok (.getfield 111, 3) := by decide +kernel
theorem dX11_job_79 : decode cX11_job 79 = .ok (.iload 4, 2) := by decide +kernel
theorem dX11_job_81 : decode cX11_job 81 = .ok (.iaload, 1) := by decide +kernel
theorem dX11_job_82 : decode cX11_job 82 = .ok (.iconst 4, 1) := by decide +kernel
theorem dX11_job_83 : decode cX11_job 83 = .ok (.if_icmp .ne 6, 3) := by decide +kernel
theorem dX11_job_86 : decode cX11_job 86 = .ok (.bipush (-5), 2) := by decide +kernel
theorem dX11_job_88 : decode cX11_job 88 = .ok (.ireturn, 1) := by decide +kernel
theorem dX11_job_89 : decode cX11_job 89 = .ok (.aload_n 0, 1) := by decide +kernel
theorem dX11_job_90 : decode cX11_job 90 = .ok (.getfield 38, 3) := by decide +kernel
theorem dX11_job_93 : decode cX11_job 93 = .ok (.aload_n 0, 1) := by decide +kernel
theorem dX11_job_94 : decode cX11_job 94 = .ok (.getfield 45, 3) := by decide +kernel
theorem dX11_job_97 : decode cX11_job 97 = .ok (.invokevirtual 114, 3) := by decide +kernel
theorem dX11_job_100 : decode cX11_job 100 = .ok (.istore 5, 2) := by decide +kernel
theorem dX11_job_102 : decode cX11_job 102 = .ok (.iload 5, 2) := by decide +kernel
theorem dX11_job_104 : decode cX11_job 104 = .ok (.iconst (-1), 1) := by decide +kernel
theorem dX11_job_105 : decode cX11_job 105 = .ok (.if_icmp .ne 22, 3) := by decide +kernel
theorem dX11_job_108 : decode cX11_job 108 = .ok (.aload_n 0, 1) := by decide +kernel
theorem dX11_job_109 : decode cX11_job 109 = .ok (.getfield 12, 3) := by decide +kernel
theorem dX11_job_112 : decode cX11_job 112 = .ok (.aload_n 0, 1) := by decide +kernel
theorem dX11_job_113 : decode cX11_job 113 = .ok (.getfield 45, 3) := by decide +kernel
theorem dX11_job_116 : decode cX11_job 116 = .ok (.iload_n 1, 1) := by decide +kernel
theorem dX11_job_117 : decode cX11_job 117 = .ok (.iload_n 2, 1) := by decide +kernel
theorem dX11_job_118 : decode cX11_job 118 = .ok (.iload_n 3, 1) := by decide +kernel
theorem dX11_job_119 : decode cX11_job 119 = .ok (.iload 4, 2) := by decide +kernel
theorem dX11_job_121 : decode cX11_job 121 = .ok (.invokevirtual 118, 3) := by decide +kernel
theorem dX11_job_124 : decode cX11_job 124 = .ok (.goto 8, 3) := by decide +kernel
theorem dX11_job_127 : decode cX11_job 127 = .ok (.bipush (-100), 2) := by decide +kernel
theorem dX11_job_129 : decode cX11_job 129 = .ok (.iload 5, 2) := by decide +kernel
theorem dX11_job_131 : decode cX11_job 131 = .ok (.isub, 1) := by decide +kernel
theorem dX11_job_132 : decode cX11_job 132 = .ok (.ireturn, 1) := by decide +kernel
theorem dX11_off_0 : decode cX11_off 0 = .ok (.aload_n 0, 1) := by decide +kernel
theorem dX11_off_1 : decode cX11_off 1 = .ok (.iload_n 1, 1) := by decide +kernel
theorem dX11_off_2 : decode cX11_off 2 = .ok (.invokevirtual 101, 3) := by decide +kernel
theorem dX11_off_5 : decode cX11_off 5 = .ok (.ifCond .ne 5, 3) := by decide +kernel
theorem dX11_off_8 : decode cX11_off 8 = .ok (.iconst (-1), 1) := by decide +kernel
theorem dX11_off_9 : decode cX11_off 9 = .ok (.ireturn, 1) := by decide +kernel
theorem dX11_off_10 : decode cX11_off 10 = .ok (.aload_n 0, 1) := by decide +kernel
theorem dX11_off_11 : decode cX11_off 11 = .ok (.getfield 12, 3) := by decide +kernel
theorem dX11_off_14 : decode cX11_off 14 = .ok (.getfield 104, 3) := by decide +kernel
theorem dX11_off_17 : decode cX11_off 17 = .ok (.getfield 111, 3) := by decide +kernel
theorem dX11_off_20 : decode cX11_off 20 = .ok (.iload_n 1, 1) := by decide +kernel
theorem dX11_off_21 : decode cX11_off 21 = .ok (.iaload, 1) := by decide +kernel
theorem dX11_off_22 : decode cX11_off 22 = .ok (.istore_n 2, 1) := by decide +kernel
theorem dX11_off_23 : decode cX11_off 23 = .ok (.iload_n 2, 1) := by decide +kernel
theorem dX11_off_24 : decode cX11_off 24 = .ok (.ifCond .eq 8, 3) := by decide +kernel
theorem dX11_off_27 : decode cX11_off 27 = .ok (.iload_n 2, 1) := by decide +kernel
theorem dX11_off_28 : decode cX11_off 28 = .ok (.iconst 1, 1) := by decide +kernel
theorem dX11_off_29 : decode cX11_off 29 = .ok (.if_icmp .ne 18, 3) := by decide +kernel
theorem dX11_off_32 : decode cX11_off 32 = .ok (.aload_n 0, 1) := by decide +kernel
theorem dX11_off_33 : decode cX11_off 33 = .ok (.getfield 24, 3) := by decide +kernel
theorem dX11_off_36 : decode cX11_off 36 = .ok (.aload_n 0, 1) := by decide +kernel
theorem dX11_off_37 : decode cX11_off 37 = .ok (.getfield 12, 3) := by decide +kernel
theorem dX11_off_40 : decode cX11_off 40 = .ok (.iload_n 1, 1) := by decide +kernel
theorem dX11_off_41 : decode cX11_off 41 = .ok (.invokevirtual 122, 3) := by decide +kernel
theorem dX11_off_44 : decode cX11_off 44 = .ok (.goto 5, 3) := by decide +kernel
theorem dX11_off_47 : decode cX11_off 47 = .ok (.bipush (-5), 2) := by decide +kernel
theorem dX11_off_49 : decode cX11_off 49 = .ok (.ireturn, 1) := by decide +kernel
theorem dX11_of_0 : decode cX11_of 0 = .ok (.aload_n 0, 1) := by decide +kernel
theorem dX11_of_1 : decode cX11_of 1 = .ok (.iload_n 1, 1) := by decide +kernel
theorem dX11_of_2 : decode cX11_of 2 = .ok (.invokevirtual 101, 3) := by decide +kernel
theorem dX11_of_5 : decode cX11_of 5 = .ok (.ifCond .ne 5, 3) := by decide +kernel
theorem dX11_of_8 : decode cX11_of 8 = .ok (.iconst (-1), 1) := by decide +kernel
theorem dX11_of_9 : decode cX11_of 9 = .ok (.ireturn, 1) := by decide +kernel
theorem dX11_of_10 : decode cX11_of 10 = .ok (.aload_n 0, 1) := by decide +kernel
theorem dX11_of_11 : decode cX11_of 11 = .ok (.getfield 12, 3) := by decide +kernel
theorem dX11_of_14 : decode cX11_of 14 = .ok (.getfield 104, 3) := by decide +kernel
theorem dX11_of_17 : decode cX11_of 17 = .ok (.astore_n 3, 1) := by decide +kernel
theorem dX11_of_18 : decode cX11_of 18 = .ok (.iload_n 2, 1) := by decide +kernel
theorem dX11_of_19 : decode cX11_of 19 = .ok (.tableswitch 146 0 10 #[57, 64, 71, 78, 85, 92, 99, 109, 119, 129, 139], 57) := by decide +kernel
theorem dX11_of_76 : decode cX11_of 76 = .ok (.aload_n 3, 1) := by decide +kernel
theorem dX11_of_77 : decode cX11_of 77 = .ok (.getfield 111, 3) := by decide +kernel
theorem dX11_of_80 : decode cX11_of 80 = .ok (.iload_n 1, 1) := by decide +kernel
theorem dX11_of_81 : decode cX11_of 81 = .ok (.iaload, 1) := by decide +kernel
theorem dX11_of_82 : decode cX11_of 82 = .ok (.ireturn, 1) := by decide +kernel
theorem dX11_of_83 : decode cX11_of 83 = .ok (.aload_n 3, 1) := by decide +kernel
theorem dX11_of_84 : decode cX11_of 84 = .ok (.getfield 126, 3) := by decide +kernel
theorem dX11_of_87 : decode cX11_of 87 = .ok (.iload_n 1, 1) := by decide +kernel
theorem dX11_of_88 : decode cX11_of 88 = .ok (.iaload, 1) := by decide +kernel
theorem dX11_of_89 : decode cX11_of 89 = .ok (.ireturn, 1) := by decide +kernel
theorem dX11_of_90 : decode cX11_of 90 = .ok (.aload_n 3, 1) := by decide +kernel
theorem dX11_of_91 : decode cX11_of 91 = .ok (.getfield 129, 3) := by decide +kernel
theorem dX11_of_94 : decode cX11_of 94 = .ok (.iload_n 1, 1) := by decide +kernel
theorem dX11_of_95 : decode cX11_of 95 = .ok (.iaload, 1) := by decide +kernel
theorem dX11_of_96 : decode cX11_of 96 = .ok (.ireturn, 1) := by decide +kernel
theorem dX11_of_97 : decode cX11_of 97 = .ok (.aload_n 3, 1) := by decide +kernel
theorem dX11_of_98 : decode cX11_of 98 = .ok (.getfield 132, 3) := by decide +kernel
theorem dX11_of_101 : decode cX11_of 101 = .ok (.iload_n 1, 1) := by decide +kernel
theorem dX11_of_102 : decode cX11_of 102 = .ok (.iaload, 1) := by decide +kernel
theorem dX11_of_103 : decode cX11_of 103 = .ok (.ireturn, 1) := by decide +kernel
theorem dX11_of_104 : decode cX11_of 104 = .ok (.aload_n 3, 1) := by decide +kernel
theorem dX11_of_105 : decode cX11_of 105 = .ok (.getfield 135, 3) := by decide +kernel
theorem dX11_of_108 : decode cX11_of 108 = .ok (.iload_n 1, 1) := by decide +kernel
theorem dX11_of_109 : decode cX11_of 109 = .ok (.iaload, 1) := by decide +kernel
theorem dX11_of_110 : decode cX11_of 110 = .ok (.ireturn, 1) := by decide +kernel
theorem dX11_of_111 : decode cX11_of 111 = .ok (.aload_n 3, 1) := by decide +kernel
theorem dX11_of_112 : decode cX11_of 112 = .ok (.getfield 138, 3) := by decide +kernel
theorem dX11_of_115 : decode cX11_of 115 = .ok (.iload_n 1, 1) := by decide +kernel
theorem dX11_of_116 : decode cX11_of 116 = .ok (.iaload, 1) := by decide +kernel
theorem dX11_of_117 : decode cX11_of 117 = .ok (.ireturn, 1) := by decide +kernel
theorem dX11_of_118 : decode cX11_of 118 = .ok (.aload_n 3, 1) := by decide +kernel
theorem dX11_of_119 : decode cX11_of 119 = .ok (.getfield 141, 3) := by decide +kernel
theorem dX11_of_122 : decode cX11_of 122 = .ok (.iload_n 1, 1) := by decide +kernel
theorem dX11_of_123 : decode cX11_of 123 = .ok (.iaload, 1) := by decide +kernel
theorem dX11_of_124 : decode cX11_of 124 = .ok (.invokestatic 144, 3) := by decide +kernel
theorem dX11_of_127 : decode cX11_of 127 = .ok (.ireturn, 1) := by decide +kernel
theorem dX11_of_128 : decode cX11_of 128 = .ok (.aload_n 3, 1) := by decide +kernel
theorem dX11_of_129 : decode cX11_of 129 = .ok (.getfield 147, 3) := by decide +kernel
theorem dX11_of_132 : decode cX11_of 132 = .ok (.iload_n 1, 1) := by decide +kernel
theorem dX11_of_133 : decode cX11_of 133 = .ok (.iaload, 1) := by decide +kernel
theorem dX11_of_134 : decode cX11_of 134 = .ok (.invokestatic 144, 3) := by decide +kernel
theorem dX11_of_137 : decode cX11_of 137 = .ok (.ireturn, 1) := by decide +kernel
theorem dX11_of_138 : decode cX11_of 138 = .ok (.aload_n 3, 1) := by decide +kernel
theorem dX11_of_139 : decode cX11_of 139 = .ok (.getfield 150, 3) := by decide +kernel
theorem dX11_of_142 : decode cX11_of 142 = .ok (.iload_n 1, 1) := by decide +kernel
theorem dX11_of_143 : decode cX11_of 143 = .ok (.iaload, 1) := by decide +kernel
theorem dX11_of_144 : decode cX11_of 144 = .ok (.invokestatic 144, 3) := by decide +kernel
theorem dX11_of_147 : decode cX11_of 147 = .ok (.ireturn, 1) := by decide +kernel
theorem dX11_of_148 : decode cX11_of 148 = .ok (.aload_n 3, 1) := by decide +kernel
theorem dX11_of_149 : decode cX11_of 149 = .ok (.getfield 153, 3) := by decide +kernel
theorem dX11_of_152 : decode cX11_of 152 = .ok (.iload_n 1, 1) := by decide +kernel
theorem dX11_of_153 : decode cX11_of 153 = .ok (.iaload, 1) := by decide +kernel
theorem dX11_of_154 : decode cX11_of 154 = .ok (.invokestatic 144, 3) := by decide +kernel
theorem dX11_of_157 : decode cX11_of 157 = .ok (.ireturn, 1) := by decide +kernel
theorem dX11_of_158 : decode cX11_of 158 = .ok (.aload_n 3, 1) := by decide +kernel
theorem dX11_of_159 : decode cX11_of 159 = .ok (.getfield 156, 3) := by decide +kernel
theorem dX11_of_162 : decode cX11_of 162 = .ok (.iload_n 1, 1) := by decide +kernel
theorem dX11_of_163 : decode cX11_of 163 = .ok (.iaload, 1) := by decide +kernel
theorem dX11_of_164 : decode cX11_of 164 = .ok (.ireturn, 1) := by decide +kernel
theorem dX11_of_165 : decode cX11_of 165 = .ok (.iconst (-1), 1) := by decide +kernel
theorem dX11_of_166 : decode cX11_of 166 = .ok (.ireturn, 1) := by decide +kernel
theorem dX11_arm_0 : decode cX11_arm 0 = .ok (.aload_n 0, 1) := by decide +kernel
theorem dX11_arm_1 : decode cX11_arm 1 = .ok (.iload_n 1, 1) := by decide +kernel
theorem dX11_arm_2 : decode cX11_arm 2 = .ok (.invokevirtual 101, 3) := by decide +kernel
theorem dX11_arm_5 : decode cX11_arm 5 = .ok (.ifCond .eq 23, 3) := by decide +kernel
theorem dX11_arm_8 : decode cX11_arm 8 = .ok (.iload_n 2, 1) := by decide +kernel
theorem dX11_arm_9 : decode cX11_arm 9 = .ok (.ifCond .lt 19, 3) := by decide +kernel
theorem dX11_arm_12 : decode cX11_arm 12 = .ok (.iload_n 2, 1) := by decide +kernel
theorem dX11_arm_13 : decode cX11_arm 13 = .ok (.aload_n 0, 1) := by decide +kernel
theorem dX11_arm_14 : decode cX11_arm 14 = .ok (.getfield 12, 3) := by decide +kernel
theorem dX11_arm_17 : decode cX11_arm 17 = .ok (.getfield 104, 3) := by decide +kernel
theorem dX11_arm_20 : decode cX11_arm 20 = .ok (.getfield 138, 3) := by decide +kernel
theorem dX11_arm_23 : decode cX11_arm 23 = .ok (.iload_n 1, 1) := by decide +kernel
theorem dX11_arm_24 : decode cX11_arm 24 = .ok (.iaload, 1) := by decide +kernel
theorem dX11_arm_25 : decode cX11_arm 25 = .ok (.if_icmp .lt 5, 3) := by decide +kernel
theorem dX11_arm_28 : decode cX11_arm 28 = .ok (.iconst (-1), 1) := by decide +kernel
theorem dX11_arm_29 : decode cX11_arm 29 = .ok (.ireturn, 1) := by decide +kernel
theorem dX11_arm_30 : decode cX11_arm 30 = .ok (.iload_n 1, 1) := by decide +kernel
theorem dX11_arm_31 : decode cX11_arm 31 = .ok (.iconst 4, 1) := by decide +kernel
theorem dX11_arm_32 : decode cX11_arm 32 = .ok (.imul, 1) := by decide +kernel
theorem dX11_arm_33 : decode cX11_arm 33 = .ok (.iload_n 2, 1) := by decide +kernel
theorem dX11_arm_34 : decode cX11_arm 34 = .ok (.iadd, 1) := by decide +kernel
theorem dX11_arm_35 : decode cX11_arm 35 = .ok (.istore 4, 2) := by decide +kernel
theorem dX11_arm_37 : decode cX11_arm 37 = .ok (.iload_n 3, 1) := by decide +kernel
theorem dX11_arm_38 : decode cX11_arm 38 = .ok (.tableswitch 106 0 4 #[34, 48, 62, 72, 89], 34) := by decide +kernel
theorem dX11_arm_72 : decode cX11_arm 72 = .ok (.aload_n 0, 1) := by decide +kernel
theorem dX11_arm_73 : decode cX11_arm 73 = .ok (.getfield 12, 3) := by decide +kernel
theorem dX11_arm_76 : decode cX11_arm 76 = .ok (.getfield 159, 3) := by decide +kernel
theorem dX11_arm_79 : decode cX11_arm 79 = .ok (.getfield 162, 3) := by decide +kernel
theorem dX11_arm_82 : decode cX11_arm 82 = .ok (.iload 4, 2) := by decide +kernel
theorem dX11_arm_84 : decode cX11_arm 84 = .ok (.iaload, 1) := by decide +kernel
theorem dX11_arm_85 : decode cX11_arm 85 = .ok (.ireturn, 1) := by decide +kernel
theorem dX11_arm_86 : decode cX11_arm 86 = .ok (.aload_n 0, 1) := by decide +kernel
theorem dX11_arm_87 : decode cX11_arm 87 = .ok (.getfield 12, 3) := by decide +kernel
theorem dX11_arm_90 : decode cX11_arm 90 = .ok (.getfield 159, 3) := by decide +kernel
theorem dX11_arm_93 : decode cX11_arm 93 = .ok (.getfield 167, 3) := by decide +kernel
theorem dX11_arm_96 : decode cX11_arm 96 = .ok (.iload 4, 2) := by decide +kernel
theorem dX11_arm_98 : decode cX11_arm 98 = .ok (.iaload, 1) := by decide +kernel
theorem dX11_arm_99 : decode cX11_arm 99 = .ok (.ireturn, 1) := by decide +kernel
theorem dX11_arm_100 : decode cX11_arm 100 = .ok (.aload_n 0, 1) := by decide +kernel
theorem dX11_arm_101 : decode cX11_arm 101 = .ok (.getfield 12, 3) := by decide +kernel
theorem dX11_arm_104 : decode cX11_arm 104 = .ok (.iload 4, 2) := by decide +kernel
theorem dX11_arm_106 : decode cX11_arm 106 = .ok (.invokevirtual 170, 3) := by decide +kernel
theorem dX11_arm_109 : decode cX11_arm 109 = .ok (.ireturn, 1) := by decide +kernel
theorem dX11_arm_110 : decode cX11_arm 110 = .ok (.aload_n 0, 1) := by decide +kernel
theorem dX11_arm_111 : decode cX11_arm 111 = .ok (.getfield 12, 3) := by decide +kernel
theorem dX11_arm_114 : decode cX11_arm 114 = .ok (.getfield 159, 3) := by decide +kernel
theorem dX11_arm_117 : decode cX11_arm 117 = .ok (.getfield 173, 3) := by decide +kernel
theorem dX11_arm_120 : decode cX11_arm 120 = .ok (.iload 4, 2) := by decide +kernel
theorem dX11_arm_122 : decode cX11_arm 122 = .ok (.iaload, 1) := by decide +kernel
theorem dX11_arm_123 : decode cX11_arm 123 = .ok (.invokestatic 144, 3) := by decide +kernel
theorem dX11_arm_126 : decode cX11_arm 126 = .ok (.ireturn, 1) := by decide +kernel
theorem dX11_arm_127 : decode cX11_arm 127 = .ok (.aload_n 0, 1) := by decide +kernel
theorem dX11_arm_128 : decode cX11_arm 128 = .ok (.getfield 12, 3) := by decide +kernel
theorem dX11_arm_131 : decode cX11_arm 131 = .ok (.getfield 159, 3) := by decide +kernel
theorem dX11_arm_134 : decode cX11_arm 134 = .ok (.getfield 176, 3) := by decide +kernel
theorem dX11_arm_137 : decode cX11_arm 137 = .ok (.iload 4, 2) := by decide +kernel
theorem dX11_arm_139 : decode cX11_arm 139 = .ok (.iaload, 1) := by decide +kernel
theorem dX11_arm_140 : decode cX11_arm 140 = .ok (.invokestatic 144, 3) := by decide +kernel
theorem dX11_arm_143 : decode cX11_arm 143 = .ok (.ireturn, 1) := by decide +kernel
theorem dX11_arm_144 : decode cX11_arm 144 = .ok (.iconst (-1), 1) := by decide +kernel
theorem dX11_arm_145 : decode cX11_arm 145 = .ok (.ireturn, 1) := by decide +kernel
theorem dX11_line_0 : decode cX11_line 0 = .ok (.iload_n 1, 1) := by decide +kernel
theorem dX11_line_1 : decode cX11_line 1 = .ok (.iconst (-1), 1) := by decide +kernel
theorem dX11_line_2 : decode cX11_line 2 = .ok (.if_icmp .ge 5, 3) := by decide +kernel
theorem dX11_line_5 : decode cX11_line 5 = .ok (.iconst (-1), 1) := by decide +kernel
theorem dX11_line_6 : decode cX11_line 6 = .ok (.ireturn, 1) := by decide +kernel
theorem dX11_line_7 : decode cX11_line 7 = .ok (.aload_n 0, 1) := by decide +kernel
theorem dX11_line_8 : decode cX11_line 8 = .ok (.getfield 52, 3) := by decide +kernel
theorem dX11_line_11 : decode cX11_line 11 = .ok (.aload_n 0, 1) := by decide +kernel
theorem dX11_line_12 : decode cX11_line 12 = .ok (.getfield 12, 3) := by decide +kernel
theorem dX11_line_15 : decode cX11_line 15 = .ok (.invokevirtual 179, 3) := by decide +kernel
theorem dX11_line_18 : decode cX11_line 18 = .ok (.aload_n 0, 1) := by decide +kernel
theorem dX11_line_19 : decode cX11_line 19 = .ok (.getfield 52, 3) := by decide +kernel
theorem dX11_line_22 : decode cX11_line 22 = .ok (.getfield 183, 3) := by decide +kernel
theorem dX11_line_25 : decode cX11_line 25 = .ok (.aload_n 0, 1) := by decide +kernel
theorem dX11_line_26 : decode cX11_line 26 = .ok (.getfield 52, 3) := by decide +kernel
theorem dX11_line_29 : decode cX11_line 29 = .ok (.getfield 186, 3) := by decide +kernel
theorem dX11_line_32 : decode cX11_line 32 = .ok (.iload_n 1, 1) := by decide +kernel
theorem dX11_line_33 : decode cX11_line 33 = .ok (.invokestatic 187, 3) := by decide +kernel
theorem dX11_line_36 : decode cX11_line 36 = .ok (.ireturn, 1) := by decide +kernel
theorem dX11_hold_0 : decode cX11_hold 0 = .ok (.aload_n 0, 1) := by decide +kernel
theorem dX11_hold_1 : decode cX11_hold 1 = .ok (.iload_n 1, 1) := by decide +kernel
theorem dX11_hold_2 : decode cX11_hold 2 = .ok (.invokevirtual 101, 3) := by decide +kernel
theorem dX11_hold_5 : decode cX11_hold 5 = .ok (.ifCond .eq 12, 3) := by decide +kernel
theorem dX11_hold_8 : decode cX11_hold 8 = .ok (.iload_n 2, 1) := by decide +kernel
theorem dX11_hold_9 : decode cX11_hold 9 = .ok (.ifCond .lt 8, 3) := by decide +kernel
theorem dX11_hold_12 : decode cX11_hold 12 = .ok (.iload_n 2, 1) := by decide +kernel
theorem dX11_hold_13 : decode cX11_hold 13 = .ok (.iconst 1, 1) := by decide +kernel
theorem dX11_hold_14 : decode cX11_hold 14 = .ok (.if_icmp .le 5, 3) := by decide +kernel
theorem dX11_hold_17 : decode cX11_hold 17 = .ok (.iconst (-1), 1) := by decide +kernel
theorem dX11_hold_18 : decode cX11_hold 18 = .ok (.ireturn, 1) := by decide +kernel
theorem dX11_hold_19 : decode cX11_hold 19 = .ok (.aload_n 0, 1) := by decide +kernel
theorem dX11_hold_20 : decode cX11_hold 20 = .ok (.iload_n 1, 1) := by decide +kernel
theorem dX11_hold_21 : decode cX11_hold 21 = .ok (.invokevirtual 191, 3) := by decide +kernel
theorem dX11_hold_24 : decode cX11_hold 24 = .ok (.ifCond .ne 6, 3) := by decide +kernel
theorem dX11_hold_27 : decode cX11_hold 27 = .ok (.bipush (-5), 2) := by decide +kernel
theorem dX11_hold_29 : decode cX11_hold 29 = .ok (.ireturn, 1) := by decide +kernel
theorem dX11_hold_30 : decode cX11_hold 30 = .ok (.aload_n 0, 1) := by decide +kernel
theorem dX11_hold_31 : decode cX11_hold 31 = .ok (.getfield 12, 3) := by decide +kernel
theorem dX11_hold_34 : decode cX11_hold 34 = .ok (.getfield 104, 3) := by decide +kernel
theorem dX11_hold_37 : decode cX11_hold 37 = .ok (.getfield 194, 3) := by decide +kernel
theorem dX11_hold_40 : decode cX11_hold 40 = .ok (.iload_n 1, 1) := by decide +kernel
theorem dX11_hold_41 : decode cX11_hold 41 = .ok (.iaload, 1) := by decide +kernel
theorem dX11_hold_42 : decode cX11_hold 42 = .ok (.istore_n 3, 1) := by decide +kernel
theorem dX11_hold_43 : decode cX11_hold 43 = .ok (.aload_n 0, 1) := by decide +kernel
theorem dX11_hold_44 : decode cX11_hold 44 = .ok (.getfield 12, 3) := by decide +kernel
theorem dX11_hold_47 : decode cX11_hold 47 = .ok (.getfield 104, 3) := by decide +kernel
theorem dX11_hold_50 : decode cX11_hold 50 = .ok (.getfield 194, 3) := by decide +kernel
theorem dX11_hold_53 : decode cX11_hold 53 = .ok (.iload_n 1, 1) := by decide +kernel
theorem dX11_hold_54 : decode cX11_hold 54 = .ok (.iload_n 2, 1) := by decide +kernel
theorem dX11_hold_55 : decode cX11_hold 55 = .ok (.iastore, 1) := by decide +kernel
theorem dX11_hold_56 : decode cX11_hold 56 = .ok (.iload_n 2, 1) := by decide +kernel
theorem dX11_hold_57 : decode cX11_hold 57 = .ok (.iconst 1, 1) := by decide +kernel
theorem dX11_hold_58 : decode cX11_hold 58 = .ok (.if_icmp .ne 16, 3) := by decide +kernel
theorem dX11_hold_61 : decode cX11_hold 61 = .ok (.aload_n 0, 1) := by decide +kernel
theorem dX11_hold_62 : decode cX11_hold 62 = .ok (.getfield 12, 3) := by decide +kernel
theorem dX11_hold_65 : decode cX11_hold 65 = .ok (.getfield 104, 3) := by decide +kernel
theorem dX11_hold_68 : decode cX11_hold 68 = .ok (.getfield 153, 3) := by decide +kernel
theorem dX11_hold_71 : decode cX11_hold 71 = .ok (.iload_n 1, 1) := by decide +kernel
theorem dX11_hold_72 : decode cX11_hold 72 = .ok (.iconst (-1), 1) := by decide +kernel
theorem dX11_hold_73 : decode cX11_hold 73 = .ok (.iastore, 1) := by decide +kernel
theorem dX11_hold_74 : decode cX11_hold 74 = .ok (.iload_n 3, 1) := by decide +kernel
theorem dX11_hold_75 : decode cX11_hold 75 = .ok (.ireturn, 1) := by decide +kernel
theorem dX11_keep_0 : decode cX11_keep 0 = .ok (.aload_n 0, 1) := by decide +kernel
theorem dX11_keep_1 : decode cX11_keep 1 = .ok (.iload_n 1, 1) := by decide +kernel
theorem dX11_keep_2 : decode cX11_keep 2 = .ok (.iload_n 2, 1) := by decide +kernel
theorem dX11_keep_3 : decode cX11_keep 3 = .ok (.iload_n 3, 1) := by decide +kernel
theorem dX11_keep_4 : decode cX11_keep 4 = .ok (.i2l, 1) := by decide +kernel
theorem dX11_keep_5 : decode cX11_keep 5 = .ok (.iload 4, 2) := by decide +kernel
theorem dX11_keep_7 : decode cX11_keep 7 = .ok (.invokevirtual 209, 3) := by decide +kernel
theorem dX11_keep_10 : decode cX11_keep 10 = .ok (.ifCond .ne 5, 3) := by decide +kernel
theorem dX11_keep_13 : decode cX11_keep 13 = .ok (.iconst (-1), 1) := by decide +kernel
theorem dX11_keep_14 : decode cX11_keep 14 = .ok (.ireturn, 1) := by decide +kernel
theorem dX11_keep_15 : decode cX11_keep 15 = .ok (.aload_n 0, 1) := by decide +kernel
theorem dX11_keep_16 : decode cX11_keep 16 = .ok (.getfield 12, 3) := by decide +kernel
theorem dX11_keep_19 : decode cX11_keep 19 = .ok (.getfield 213, 3) := by decide +kernel
theorem dX11_keep_22 : decode cX11_keep 22 = .ok (.getfield 217, 3) := by decide +kernel
theorem dX11_keep_25 : decode cX11_keep 25 = .ok (.bipush 12, 2) := by decide +kernel
theorem dX11_keep_27 : decode cX11_keep 27 = .ok (.if_icmp .lt 6, 3) := by decide +kernel
theorem dX11_keep_30 : decode cX11_keep 30 = .ok (.bipush (-3), 2) := by decide +kernel
theorem dX11_keep_32 : decode cX11_keep 32 = .ok (.ireturn, 1) := by decide +kernel
theorem dX11_keep_33 : decode cX11_keep 33 = .ok (.iload_n 1, 1) := by decide +kernel
theorem dX11_keep_34 : decode cX11_keep 34 = .ok (.bipush 100, 2) := by decide +kernel
theorem dX11_keep_36 : decode cX11_keep 36 = .ok (.idiv, 1) := by decide +kernel
theorem dX11_keep_37 : decode cX11_keep 37 = .ok (.iload_n 1, 1) := by decide +kernel
theorem dX11_keep_38 : decode cX11_keep 38 = .ok (.bipush 100, 2) := by decide +kernel
theorem dX11_keep_40 : decode cX11_keep 40 = .ok (.irem, 1) := by decide +kernel
theorem dX11_keep_41 : decode cX11_keep 41 = .ok (.iload_n 1, 1) := by decide +kernel
theorem dX11_keep_42 : decode cX11_keep 42 = .ok (.bipush 100, 2) := by decide +kernel
theorem dX11_keep_44 : decode cX11_keep 44 = .ok (.idiv, 1) := by decide +kernel
theorem dX11_keep_45 : decode cX11_keep 45 = .ok (.isub, 1) := by decide +kernel
theorem dX11_keep_46 : decode cX11_keep 46 = .ok (.iconst 1, 1) := by decide +kernel
theorem dX11_keep_47 : decode cX11_keep 47 = .ok (.iadd, 1) := by decide +kernel
theorem dX11_keep_48 : decode cX11_keep 48 = .ok (.invokestatic 220, 3) := by decide +kernel
theorem dX11_keep_51 : decode cX11_keep 51 = .ok (.istore 5, 2) := by decide +kernel
theorem dX11_keep_53 : decode cX11_keep 53 = .ok (.aload_n 0, 1) := by decide +kernel
theorem dX11_keep_54 : decode cX11_keep 54 = .ok (.getfield 12, 3) := by decide +kernel
theorem dX11_keep_57 : decode cX11_keep 57 = .ok (.iload 5, 2) := by decide +kernel
theorem dX11_keep_59 : decode cX11_keep 59 = .ok (.iload_n 2, 1) := by decide +kernel
theorem dX11_keep_60 : decode cX11_keep 60 = .ok (.iload_n 3, 1) := by decide +kernel
theorem dX11_keep_61 : decode cX11_keep 61 = .ok (.invokevirtual 224, 3) := by decide +kernel
theorem dX11_keep_64 : decode cX11_keep 64 = .ok (.ifCond .eq 8, 3) := by decide +kernel
theorem dX11_keep_67 : decode cX11_keep 67 = .ok (.bipush (-5), 2) := by decide +kernel
theorem dX11_keep_69 : decode cX11_keep 69 = .ok (.goto 19, 3) := by decide +kernel
theorem dX11_keep_72 : decode cX11_keep 72 = .ok (.aload_n 0, 1) := by decide +kernel
theorem dX11_keep_73 : decode cX11_keep 73 = .ok (.getfield 12, 3) := by decide +kernel
theorem dX11_keep_76 : decode cX11_keep 76 = .ok (.getfield 213, 3) := by decide +kernel
theorem dX11_keep_79 : decode cX11_keep 79 = .ok (.iload 5, 2) := by decide +kernel
theorem dX11_keep_81 : decode cX11_keep 81 = .ok (.iload_n 2, 1) := by decide +kernel
theorem dX11_keep_82 : decode cX11_keep 82 = .ok (.iload_n 3, 1) := by decide +kernel
theorem dX11_keep_83 : decode cX11_keep 83 = .ok (.iload 4, 2) := by decide +kernel
theorem dX11_keep_85 : decode cX11_keep 85 = .ok (.invokevirtual 228, 3) := by decide +kernel
theorem dX11_keep_88 : decode cX11_keep 88 = .ok (.ireturn, 1) := by decide +kernel
theorem dX11_step_0 : decode cX11_step 0 = .ok (.iload_n 1, 1) := by decide +kernel
theorem dX11_step_1 : decode cX11_step 1 = .ok (.iconst 1, 1) := by decide +kernel
theorem dX11_step_2 : decode cX11_step 2 = .ok (.if_icmp .lt 9, 3) := by decide +kernel
theorem dX11_step_5 : decode cX11_step 5 = .ok (.iload_n 1, 1) := by decide +kernel
theorem dX11_step_6 : decode cX11_step 6 = .ok (.bipush 100, 2) := by decide +kernel
theorem dX11_step_8 : decode cX11_step 8 = .ok (.if_icmp .le 5, 3) := by decide +kernel
theorem dX11_step_11 : decode cX11_step 11 = .ok (.iconst (-1), 1) := by decide +kernel
theorem dX11_step_12 : decode cX11_step 12 = .ok (.ireturn, 1) := by decide +kernel
theorem dX11_step_13 : decode cX11_step 13 = .ok (.aload_n 0, 1) := by decide +kernel
theorem dX11_step_14 : decode cX11_step 14 = .ok (.getfield 12, 3) := by decide +kernel
theorem dX11_step_17 : decode cX11_step 17 = .ok (.getfield 238, 3) := by decide +kernel
theorem dX11_step_20 : decode cX11_step 20 = .ok (.iload_n 1, 1) := by decide +kernel
theorem dX11_step_21 : decode cX11_step 21 = .ok (.iadd, 1) := by decide +kernel
theorem dX11_step_22 : decode cX11_step 22 = .ok (.ldc 241, 2) := by decide +kernel
theorem dX11_step_24 : decode cX11_step 24 = .ok (.if_icmp .le 6, 3) := by decide +kernel
theorem dX11_step_27 : decode cX11_step 27 = .ok (.bipush (-3), 2) := by decide +kernel
theorem dX11_step_29 : decode cX11_step 29 = .ok (.ireturn, 1) := by decide +kernel
theorem dX11_step_30 : decode cX11_step 30 = .ok (.iconst 0, 1) := by decide +kernel
theorem dX11_step_31 : decode cX11_step 31 = .ok (.istore_n 2, 1) := by decide +kernel
theorem dX11_step_32 : decode cX11_step 32 = .ok (.iload_n 2, 1) := by decide +kernel
theorem dX11_step_33 : decode cX11_step 33 = .ok (.iload_n 1, 1) := by decide +kernel
theorem dX11_step_34 : decode cX11_step 34 = .ok (.if_icmp .ge 20, 3) := by decide +kernel
theorem dX11_step_37 : decode cX11_step 37 = .ok (.aload_n 0, 1) := by decide +kernel
theorem dX11_step_38 : decode cX11_step 38 = .ok (.getfield 24, 3) := by decide +kernel
theorem dX11_step_41 : decode cX11_step 41 = .ok (.aload_n 0, 1) := by decide +kernel
theorem dX11_step_42 : decode cX11_step 42 = .ok (.getfield 12, 3) := by decide +kernel
theorem dX11_step_45 : decode cX11_step 45 = .ok (.invokevirtual 242, 3) := by decide +kernel
theorem dX11_step_48 : decode cX11_step 48 = .ok (.iinc 2 1, 3) := by decide +kernel
theorem dX11_step_51 : decode cX11_step 51 = .ok (.goto (-19), 3) := by decide +kernel
theorem dX11_step_54 : decode cX11_step 54 = .ok (.aload_n 0, 1) := by decide +kernel
theorem dX11_step_55 : decode cX11_step 55 = .ok (.getfield 12, 3) := by decide +kernel
theorem dX11_step_58 : decode cX11_step 58 = .ok (.getfield 238, 3) := by decide +kernel
theorem dX11_step_61 : decode cX11_step 61 = .ok (.ireturn, 1) := by decide +kernel
theorem dX11_holder_0 : decode cX11_holder 0 = .ok (.iload_n 1, 1) := by decide +kernel
theorem dX11_holder_1 : decode cX11_holder 1 = .ok (.invokestatic 249, 3) := by decide +kernel
theorem dX11_holder_4 : decode cX11_holder 4 = .ok (.ifCond .eq 20, 3) := by decide +kernel
theorem dX11_holder_7 : decode cX11_holder 7 = .ok (.aload_n 0, 1) := by decide +kernel
theorem dX11_holder_8 : decode cX11_holder 8 = .ok (.getfield 12, 3) := by decide +kernel
theorem dX11_holder_11 : decode cX11_holder 11 = .ok (.getfield 159, 3) := by decide +kernel
theorem dX11_holder_14 : decode cX11_holder 14 = .ok (.iload_n 1, 1) := by decide +kernel
theorem dX11_holder_15 : decode cX11_holder 15 = .ok (.invokevirtual 252, 3) := by decide +kernel
theorem dX11_holder_18 : decode cX11_holder 18 = .ok (.invokestatic 144, 3) := by decide +kernel
theorem dX11_holder_21 : decode cX11_holder 21 = .ok (.goto 4, 3) := by decide +kernel
theorem dX11_holder_24 : decode cX11_holder 24 = .ok (.iconst (-1), 1) := by decide +kernel
theorem dX11_holder_25 : decode cX11_holder 25 = .ok (.ireturn, 1) := by decide +kernel
theorem dX11_promised_0 : decode cX11_promised 0 = .ok (.iload_n 1, 1) := by decide +kernel
theorem dX11_promised_1 : decode cX11_promised 1 = .ok (.invokestatic 249, 3) := by decide +kernel
theorem dX11_promised_4 : decode cX11_promised 4 = .ok (.ifCond .eq 14, 3) := by decide +kernel
theorem dX11_promised_7 : decode cX11_promised 7 = .ok (.iload_n 2, 1) := by decide +kernel
theorem dX11_promised_8 : decode cX11_promised 8 = .ok (.aload_n 0, 1) := by decide +kernel
theorem dX11_promised_9 : decode cX11_promised 9 = .ok (.getfield 12, 3) := by decide +kernel
theorem dX11_promised_12 : decode cX11_promised 12 = .ok (.getfield 238, 3) := by decide +kernel
theorem dX11_promised_15 : decode cX11_promised 15 = .ok (.if_icmp .ge 5, 3) := by decide +kernel
theorem dX11_promised_18 : decode cX11_promised 18 = .ok (.iconst (-1), 1) := by decide +kernel
theorem dX11_promised_19 : decode cX11_promised 19 = .ok (.ireturn, 1) := by decide +kernel
theorem dX11_promised_20 : decode cX11_promised 20 = .ok (.aload_n 0, 1) := by decide +kernel
theorem dX11_promised_21 : decode cX11_promised 21 = .ok (.getfield 12, 3) := by decide +kernel
theorem dX11_promised_24 : decode cX11_promised 24 = .ok (.iload_n 1, 1) := by decide +kernel
theorem dX11_promised_25 : decode cX11_promised 25 = .ok (.iload_n 2, 1) := by decide +kernel
theorem dX11_promised_26 : decode cX11_promised 26 = .ok (.invokevirtual 255, 3) := by decide +kernel
theorem dX11_promised_29 : decode cX11_promised 29 = .ok (.invokestatic 144, 3) := by decide +kernel
theorem dX11_promised_32 : decode cX11_promised 32 = .ok (.ireturn, 1) := by decide +kernel
theorem dX11_foretell_0 : decode cX11_foretell 0 = .ok (.aload_n 0, 1) := by decide +kernel
theorem dX11_foretell_1 : decode cX11_foretell 1 = .ok (.iload_n 1, 1) := by decide +kernel
theorem dX11_foretell_2 : decode cX11_foretell 2 = .ok (.invokevirtual 101, 3) := by decide +kernel
theorem dX11_foretell_5 : decode cX11_foretell 5 = .ok (.ifCond .ne 5, 3) := by decide +kernel
theorem dX11_foretell_8 : decode cX11_foretell 8 = .ok (.iconst (-1), 1) := by decide +kernel
theorem dX11_foretell_9 : decode cX11_foretell 9 = .ok (.ireturn, 1) := by decide +kernel
theorem dX11_foretell_10 : decode cX11_foretell 10 = .ok (.aload_n 0, 1) := by decide +kernel
theorem dX11_foretell_11 : decode cX11_foretell 11 = .ok (.iload_n 1, 1) := by decide +kernel
theorem dX11_foretell_12 : decode cX11_foretell 12 = .ok (.invokevirtual 191, 3) := by decide +kernel
theorem dX11_foretell_15 : decode cX11_foretell 15 = .ok (.ifCond .eq 21, 3) := by decide +kernel
theorem dX11_foretell_18 : decode cX11_foretell 18 = .ok (.aload_n 0, 1) := by decide +kernel
theorem dX11_foretell_19 : decode cX11_foretell 19 = .ok (.getfield 31, 3) := by decide +kernel
theorem dX11_foretell_22 : decode cX11_foretell 22 = .ok (.aload_n 0, 1) := by decide +kernel
theorem dX11_foretell_23 : decode cX11_foretell 23 = .ok (.getfield 12, 3) := by decide +kernel
theorem dX11_foretell_26 : decode cX11_foretell 26 = .ok (.iload_n 1, 1) := by decide +kernel
theorem dX11_foretell_27 : decode cX11_foretell 27 = .ok (.invokevirtual 258, 3) := by decide +kernel
theorem dX11_foretell_30 : decode cX11_foretell 30 = .ok (.invokestatic 144, 3) := by decide +kernel
theorem dX11_foretell_33 : decode cX11_foretell 33 = .ok (.goto 5, 3) := by decide +kernel
theorem dX11_foretell_36 : decode cX11_foretell 36 = .ok (.bipush (-5), 2) := by decide +kernel
theorem dX11_foretell_38 : decode cX11_foretell 38 = .ok (.ireturn, 1) := by decide +kernel
theorem dX11_plan_0 : decode cX11_plan 0 = .ok (.iload_n 1, 1) := by decide +kernel
theorem dX11_plan_1 : decode cX11_plan 1 = .ok (.iconst (-1), 1) := by decide +kernel
theorem dX11_plan_2 : decode cX11_plan 2 = .ok (.if_icmp .ge 5, 3) := by decide +kernel
theorem dX11_plan_5 : decode cX11_plan 5 = .ok (.iconst (-1), 1) := by decide +kernel
theorem dX11_plan_6 : decode cX11_plan 6 = .ok (.ireturn, 1) := by decide +kernel
theorem dX11_plan_7 : decode cX11_plan 7 = .ok (.aload_n 0, 1) := by decide +kernel
theorem dX11_plan_8 : decode cX11_plan 8 = .ok (.getfield 31, 3) := by decide +kernel
theorem dX11_plan_11 : decode cX11_plan 11 = .ok (.aload_n 0, 1) := by decide +kernel
theorem dX11_plan_12 : decode cX11_plan 12 = .ok (.getfield 12, 3) := by decide +kernel
theorem dX11_plan_15 : decode cX11_plan 15 = .ok (.invokevirtual 261, 3) := by decide +kernel
theorem dX11_plan_18 : decode cX11_plan 18 = .ok (.astore_n 2, 1) := by decide +kernel
theorem dX11_plan_19 : decode cX11_plan 19 = .ok (.aload_n 2, 1) := by decide +kernel
theorem dX11_plan_20 : decode cX11_plan 20 = .ok (.getfield 265, 3) := by decide +kernel
theorem dX11_plan_23 : decode cX11_plan 23 = .ok (.aload_n 2, 1) := by decide +kernel
theorem dX11_plan_24 : decode cX11_plan 24 = .ok (.getfield 270, 3) := by decide +kernel
theorem dX11_plan_27 : decode cX11_plan 27 = .ok (.iload_n 1, 1) := by decide +kernel
theorem dX11_plan_28 : decode cX11_plan 28 = .ok (.invokestatic 187, 3) := by decide +kernel
theorem dX11_plan_31 : decode cX11_plan 31 = .ok (.ireturn, 1) := by decide +kernel
theorem dX11_byRule_0 : decode cX11_byRule 0 = .ok (.iload_n 1, 1) := by decide +kernel
theorem dX11_byRule_1 : decode cX11_byRule 1 = .ok (.iload_n 2, 1) := by decide +kernel
theorem dX11_byRule_2 : decode cX11_byRule 2 = .ok (.invokestatic 78, 3) := by decide +kernel
theorem dX11_byRule_5 : decode cX11_byRule 5 = .ok (.ifCond .eq 12, 3) := by decide +kernel
theorem dX11_byRule_8 : decode cX11_byRule 8 = .ok (.iload_n 3, 1) := by decide +kernel
theorem dX11_byRule_9 : decode cX11_byRule 9 = .ok (.ifCond .lt 8, 3) := by decide +kernel
theorem dX11_byRule_12 : decode cX11_byRule 12 = .ok (.iload_n 3, 1) := by decide +kernel
theorem dX11_byRule_13 : decode cX11_byRule 13 = .ok (.iconst 2, 1) := by decide +kernel
theorem dX11_byRule_14 : decode cX11_byRule 14 = .ok (.if_icmp .le 5, 3) := by decide +kernel
theorem dX11_byRule_17 : decode cX11_byRule 17 = .ok (.iconst (-1), 1) := by decide +kernel
theorem dX11_byRule_18 : decode cX11_byRule 18 = .ok (.ireturn, 1) := by decide +kernel
theorem dX11_byRule_19 : decode cX11_byRule 19 = .ok (.aload_n 0, 1) := by decide +kernel
theorem dX11_byRule_20 : decode cX11_byRule 20 = .ok (.getfield 31, 3) := by decide +kernel
theorem dX11_byRule_23 : decode cX11_byRule 23 = .ok (.aload_n 0, 1) := by decide +kernel
theorem dX11_byRule_24 : decode cX11_byRule 24 = .ok (.getfield 12, 3) := by decide +kernel
theorem dX11_byRule_27 : decode cX11_byRule 27 = .ok (.iload_n 1, 1) := by decide +kernel
theorem dX11_byRule_28 : decode cX11_byRule 28 = .ok (.iload_n 2, 1) := by decide +kernel
theorem dX11_byRule_29 : decode cX11_byRule 29 = .ok (.iload_n 3, 1) := by decide +kernel
theorem dX11_byRule_30 : decode cX11_byRule 30 = .ok (.invokevirtual 273, 3) := by decide +kernel
theorem dX11_byRule_33 : decode cX11_byRule 33 = .ok (.invokestatic 144, 3) := by decide +kernel
theorem dX11_byRule_36 : decode cX11_byRule 36 = .ok (.ireturn, 1) := by decide +kernel
theorem dX11_shrunk_0 : decode cX11_shrunk 0 = .ok (.aload_n 0, 1) := by decide +kernel
theorem dX11_shrunk_1 : decode cX11_shrunk 1 = .ok (.iload_n 1, 1) := by decide +kernel
theorem dX11_shrunk_2 : decode cX11_shrunk 2 = .ok (.invokevirtual 101, 3) := by decide +kernel
theorem dX11_shrunk_5 : decode cX11_shrunk 5 = .ok (.ifCond .ne 5, 3) := by decide +kernel
theorem dX11_shrunk_8 : decode cX11_shrunk 8 = .ok (.iconst (-1), 1) := by decide +kernel
theorem dX11_shrunk_9 : decode cX11_shrunk 9 = .ok (.ireturn, 1) := by decide +kernel
theorem dX11_shrunk_10 : decode cX11_shrunk 10 = .ok (.aload_n 0, 1) := by decide +kernel
theorem dX11_shrunk_11 : decode cX11_shrunk 11 = .ok (.iload_n 1, 1) := by decide +kernel
theorem dX11_shrunk_12 : decode cX11_shrunk 12 = .ok (.invokevirtual 191, 3) := by decide +kernel
theorem dX11_shrunk_15 : decode cX11_shrunk 15 = .ok (.ifCond .eq 21, 3) := by decide +kernel
theorem dX11_shrunk_18 : decode cX11_shrunk 18 = .ok (.aload_n 0, 1) := by decide +kernel
theorem dX11_shrunk_19 : decode cX11_shrunk 19 = .ok (.getfield 31, 3) := by decide +kernel
theorem dX11_shrunk_22 : decode cX11_shrunk 22 = .ok (.aload_n 0, 1) := by decide +kernel
theorem dX11_shrunk_23 : decode cX11_shrunk 23 = .ok (.getfield 12, 3) := by decide +kernel
theorem dX11_shrunk_26 : decode cX11_shrunk 26 = .ok (.iload_n 1, 1) := by decide +kernel
theorem dX11_shrunk_27 : decode cX11_shrunk 27 = .ok (.invokevirtual 277, 3) := by decide +kernel
theorem dX11_shrunk_30 : decode cX11_shrunk 30 = .ok (.invokestatic 144, 3) := by decide +kernel
theorem dX11_shrunk_33 : decode cX11_shrunk 33 = .ok (.goto 5, 3) := by decide +kernel
theorem dX11_shrunk_36 : decode cX11_shrunk 36 = .ok (.bipush (-5), 2) := by decide +kernel
theorem dX11_shrunk_38 : decode cX11_shrunk 38 = .ok (.ireturn, 1) := by decide +kernel
theorem dX11_moves_0 : decode cX11_moves 0 = .ok (.aload_n 0, 1) := by decide +kernel
theorem dX11_moves_1 : decode cX11_moves 1 = .ok (.iload_n 1, 1) := by decide +kernel
theorem dX11_moves_2 : decode cX11_moves 2 = .ok (.invokevirtual 101, 3) := by decide +kernel
theorem dX11_moves_5 : decode cX11_moves 5 = .ok (.ifCond .ne 5, 3) := by decide +kernel
theorem dX11_moves_8 : decode cX11_moves 8 = .ok (.iconst (-1), 1) := by decide +kernel
theorem dX11_moves_9 : decode cX11_moves 9 = .ok (.ireturn, 1) := by decide +kernel
theorem dX11_moves_10 : decode cX11_moves 10 = .ok (.aload_n 0, 1) := by decide +kernel
theorem dX11_moves_11 : decode cX11_moves 11 = .ok (.iload_n 1, 1) := by decide +kernel
theorem dX11_moves_12 : decode cX11_moves 12 = .ok (.invokevirtual 191, 3) := by decide +kernel
theorem dX11_moves_15 : decode cX11_moves 15 = .ok (.ifCond .eq 21, 3) := by decide +kernel
theorem dX11_moves_18 : decode cX11_moves 18 = .ok (.aload_n 0, 1) := by decide +kernel
theorem dX11_moves_19 : decode cX11_moves 19 = .ok (.getfield 31, 3) := by decide +kernel
theorem dX11_moves_22 : decode cX11_moves 22 = .ok (.aload_n 0, 1) := by decide +kernel
theorem dX11_moves_23 : decode cX11_moves 23 = .ok (.getfield 12, 3) := by decide +kernel
theorem dX11_moves_26 : decode cX11_moves 26 = .ok (.iload_n 1, 1) := by decide +kernel
theorem dX11_moves_27 : decode cX11_moves 27 = .ok (.invokevirtual 280, 3) := by decide +kernel
theorem dX11_moves_30 : decode cX11_moves 30 = .ok (.invokestatic 144, 3) := by decide +kernel
theorem dX11_moves_33 : decode cX11_moves 33 = .ok (.goto 5, 3) := by decide +kernel
theorem dX11_moves_36 : decode cX11_moves 36 = .ok (.bipush (-5), 2) := by decide +kernel
theorem dX11_moves_38 : decode cX11_moves 38 = .ok (.ireturn, 1) := by decide +kernel
theorem dX11_together_0 : decode cX11_together 0 = .ok (.aload_n 0, 1) := by decide +kernel
theorem dX11_together_1 : decode cX11_together 1 = .ok (.iload_n 1, 1) := by decide +kernel
theorem dX11_together_2 : decode cX11_together 2 = .ok (.invokevirtual 101, 3) := by decide +kernel
theorem dX11_together_5 : decode cX11_together 5 = .ok (.ifCond .eq 16, 3) := by decide +kernel
theorem dX11_together_8 : decode cX11_together 8 = .ok (.aload_n 0, 1) := by decide +kernel
theorem dX11_together_9 : decode cX11_together 9 = .ok (.iload_n 2, 1) := by decide +kernel
theorem dX11_together_10 : decode cX11_together 10 = .ok (.invokevirtual 101, 3) := by decide +kernel
theorem dX11_together_13 : decode cX11_together 13 = .ok (.ifCond .eq 8, 3) := by decide +kernel
theorem dX11_together_16 : decode cX11_together 16 = .ok (.iload_n 1, 1) := by decide +kernel
theorem dX11_together_17 : decode cX11_together 17 = .ok (.iload_n 2, 1) := by decide +kernel
theorem dX11_together_18 : decode cX11_together 18 = .ok (.if_icmp .ne 5, 3) := by decide +kernel
theorem dX11_together_21 : decode cX11_together 21 = .ok (.iconst (-1), 1) := by decide +kernel
theorem dX11_together_22 : decode cX11_together 22 = .ok (.ireturn, 1) := by decide +kernel
theorem dX11_together_23 : decode cX11_together 23 = .ok (.aload_n 0, 1) := by decide +kernel
theorem dX11_together_24 : decode cX11_together 24 = .ok (.iload_n 1, 1) := by decide +kernel
theorem dX11_together_25 : decode cX11_together 25 = .ok (.invokevirtual 191, 3) := by decide +kernel
theorem dX11_together_28 : decode cX11_together 28 = .ok (.ifCond .eq 27, 3) := by decide +kernel
theorem dX11_together_31 : decode cX11_together 31 = .ok (.aload_n 0, 1) := by decide +kernel
theorem dX11_together_32 : decode cX11_together 32 = .ok (.iload_n 2, 1) := by decide +kernel
theorem dX11_together_33 : decode cX11_together 33 = .ok (.invokevirtual 191, 3) := by decide +kernel
theorem dX11_together_36 : decode cX11_together 36 = .ok (.ifCond .eq 19, 3) := by decide +kernel
theorem dX11_together_39 : decode cX11_together 39 = .ok (.aload_n 0, 1) := by decide +kernel
theorem dX11_together_40 : decode cX11_together 40 = .ok (.getfield 31, 3) := by decide +kernel
theorem dX11_together_43 : decode cX11_together 43 = .ok (.aload_n 0, 1) := by decide +kernel
theorem dX11_together_44 : decode cX11_together 44 = .ok (.getfield 12, 3) := by decide +kernel
theorem dX11_together_47 : decode cX11_together 47 = .ok (.iload_n 1, 1) := by decide +kernel
theorem dX11_together_48 : decode cX11_together 48 = .ok (.iload_n 2, 1) := by decide +kernel
theorem dX11_together_49 : decode cX11_together 49 = .ok (.invokevirtual 283, 3) := by decide +kernel
theorem dX11_together_52 : decode cX11_together 52 = .ok (.goto 5, 3) := by decide +kernel
theorem dX11_together_55 : decode cX11_together 55 = .ok (.bipush (-5), 2) := by decide +kernel
theorem dX11_together_57 : decode cX11_together 57 = .ok (.ireturn, 1) := by decide +kernel
theorem dX11_gap_0 : decode cX11_gap 0 = .ok (.iload_n 1, 1) := by decide +kernel
theorem dX11_gap_1 : decode cX11_gap 1 = .ok (.invokestatic 249, 3) := by decide +kernel
theorem dX11_gap_4 : decode cX11_gap 4 = .ok (.ifCond .eq 16, 3) := by decide +kernel
theorem dX11_gap_7 : decode cX11_gap 7 = .ok (.iload_n 2, 1) := by decide +kernel
theorem dX11_gap_8 : decode cX11_gap 8 = .ok (.ifCond .lt 12, 3) := by decide +kernel
theorem dX11_gap_11 : decode cX11_gap 11 = .ok (.iload_n 3, 1) := by decide +kernel
theorem dX11_gap_12 : decode cX11_gap 12 = .ok (.ifCond .lt 8, 3) := by decide +kernel
theorem dX11_gap_15 : decode cX11_gap 15 = .ok (.iload_n 3, 1) := by decide +kernel
theorem dX11_gap_16 : decode cX11_gap 16 = .ok (.iconst 1, 1) := by decide +kernel
theorem dX11_gap_17 : decode cX11_gap 17 = .ok (.if_icmp .le 5, 3) := by decide +kernel
theorem dX11_gap_20 : decode cX11_gap 20 = .ok (.iconst (-1), 1) := by decide +kernel
theorem dX11_gap_21 : decode cX11_gap 21 = .ok (.ireturn, 1) := by decide +kernel
theorem dX11_gap_22 : decode cX11_gap 22 = .ok (.aload_n 0, 1) := by decide +kernel
theorem dX11_gap_23 : decode cX11_gap 23 = .ok (.getfield 31, 3) := by decide +kernel
theorem dX11_gap_26 : decode cX11_gap 26 = .ok (.aload_n 0, 1) := by decide +kernel
theorem dX11_gap_27 : decode cX11_gap 27 = .ok (.getfield 12, 3) := by decide +kernel
theorem dX11_gap_30 : decode cX11_gap 30 = .ok (.iload_n 1, 1) := by decide +kernel
theorem dX11_gap_31 : decode cX11_gap 31 = .ok (.iload_n 2, 1) := by decide +kernel
theorem dX11_gap_32 : decode cX11_gap 32 = .ok (.iload_n 3, 1) := by decide +kernel
theorem dX11_gap_33 : decode cX11_gap 33 = .ok (.invokevirtual 287, 3) := by decide +kernel
theorem dX11_gap_36 : decode cX11_gap 36 = .ok (.invokestatic 144, 3) := by decide +kernel
theorem dX11_gap_39 : decode cX11_gap 39 = .ok (.ireturn, 1) := by decide +kernel
theorem dX11_orders_0 : decode cX11_orders 0 = .ok (.aload_n 0, 1) := by decide +kernel
theorem dX11_orders_1 : decode cX11_orders 1 = .ok (.iload_n 1, 1) := by decide +kernel
theorem dX11_orders_2 : decode cX11_orders 2 = .ok (.invokevirtual 101, 3) := by decide +kernel
theorem dX11_orders_5 : decode cX11_orders 5 = .ok (.ifCond .eq 29, 3) := by decide +kernel
theorem dX11_orders_8 : decode cX11_orders 8 = .ok (.iload_n 2, 1) := by decide +kernel
theorem dX11_orders_9 : decode cX11_orders 9 = .ok (.aload_n 0, 1) := by decide +kernel
theorem dX11_orders_10 : decode cX11_orders 10 = .ok (.getfield 12, 3) := by decide +kernel
theorem dX11_orders_13 : decode cX11_orders 13 = .ok (.getfield 238, 3) := by decide +kernel
theorem dX11_orders_16 : decode cX11_orders 16 = .ok (.if_icmp .lt 18, 3) := by decide +kernel
theorem dX11_orders_19 : decode cX11_orders 19 = .ok (.iload_n 2, 1) := by decide +kernel
theorem dX11_orders_20 : decode cX11_orders 20 = .ok (.aload_n 0, 1) := by decide +kernel
theorem dX11_orders_21 : decode cX11_orders 21 = .ok (.getfield 12, 3) := by decide +kernel
theorem dX11_orders_24 : decode cX11_orders 24 = .ok (.getfield 238, 3) := by decide +kernel
theorem dX11_orders_27 : decode cX11_orders 27 = .ok (.isub, 1) := by decide +kernel
theorem dX11_orders_28 : decode cX11_orders 28 = .ok (.sipush 20000, 3) := by decide +kernel
theorem dX11_orders_31 : decode cX11_orders 31 = .ok (.if_icmp .le 5, 3) := by decide +kernel
theorem dX11_orders_34 : decode cX11_orders 34 = .ok (.iconst (-1), 1) := by decide +kernel
theorem dX11_orders_35 : decode cX11_orders 35 = .ok (.ireturn, 1) := by decide +kernel
theorem dX11_orders_36 : decode cX11_orders 36 = .ok (.aload_n 0, 1) := by decide +kernel
theorem dX11_orders_37 : decode cX11_orders 37 = .ok (.iload_n 1, 1) := by decide +kernel
theorem dX11_orders_38 : decode cX11_orders 38 = .ok (.invokevirtual 191, 3) := by decide +kernel
theorem dX11_orders_41 : decode cX11_orders 41 = .ok (.ifCond .eq 19, 3) := by decide +kernel
theorem dX11_orders_44 : decode cX11_orders 44 = .ok (.aload_n 0, 1) := by decide +kernel
theorem dX11_orders_45 : decode cX11_orders 45 = .ok (.getfield 31, 3) := by decide +kernel
theorem dX11_orders_48 : decode cX11_orders 48 = .ok (.aload_n 0, 1) := by decide +kernel
theorem dX11_orders_49 : decode cX11_orders 49 = .ok (.getfield 12, 3) := by decide +kernel
theorem dX11_orders_52 : decode cX11_orders 52 = .ok (.iload_n 1, 1) := by decide +kernel
theorem dX11_orders_53 : decode cX11_orders 53 = .ok (.iload_n 2, 1) := by decide +kernel
theorem dX11_orders_54 : decode cX11_orders 54 = .ok (.invokevirtual 290, 3) := by decide +kernel
theorem dX11_orders_57 : decode cX11_orders 57 = .ok (.goto 5, 3) := by decide +kernel
theorem dX11_orders_60 : decode cX11_orders 60 = .ok (.bipush (-5), 2) := by decide +kernel
theorem dX11_orders_62 : decode cX11_orders 62 = .ok (.ireturn, 1) := by decide +kernel
theorem dX11_costs_0 : decode cX11_costs 0 = .ok (.iload_n 1, 1) := by decide +kernel
theorem dX11_costs_1 : decode cX11_costs 1 = .ok (.invokestatic 63, 3) := by decide +kernel
theorem dX11_costs_4 : decode cX11_costs 4 = .ok (.ifCond .eq 19, 3) := by decide +kernel
theorem dX11_costs_7 : decode cX11_costs 7 = .ok (.iload_n 2, 1) := by decide +kernel
theorem dX11_costs_8 : decode cX11_costs 8 = .ok (.invokestatic 98, 3) := by decide +kernel
theorem dX11_costs_11 : decode cX11_costs 11 = .ok (.ifCond .eq 12, 3) := by decide +kernel
theorem dX11_costs_14 : decode cX11_costs 14 = .ok (.iload_n 3, 1) := by decide +kernel
theorem dX11_costs_15 : decode cX11_costs 15 = .ok (.ifCond .lt 8, 3) := by decide +kernel
theorem dX11_costs_18 : decode cX11_costs 18 = .ok (.iload_n 3, 1) := by decide +kernel
theorem dX11_costs_19 : decode cX11_costs 19 = .ok (.iconst 1, 1) := by decide +kernel
theorem dX11_costs_20 : decode cX11_costs 20 = .ok (.if_icmp .le 5, 3) := by decide +kernel
theorem dX11_costs_23 : decode cX11_costs 23 = .ok (.iconst (-1), 1) := by decide +kernel
theorem dX11_costs_24 : decode cX11_costs 24 = .ok (.ireturn, 1) := by decide +kernel
theorem dX11_costs_25 : decode cX11_costs 25 = .ok (.aload_n 0, 1) := by decide +kernel
theorem dX11_costs_26 : decode cX11_costs 26 = .ok (.getfield 12, 3) := by decide +kernel
theorem dX11_costs_29 : decode cX11_costs 29 = .ok (.getfield 104, 3) := by decide +kernel
theorem dX11_costs_32 : decode cX11_costs 32 = .ok (.getfield 108, 3) := by decide +kernel
theorem dX11_costs_35 : decode cX11_costs 35 = .ok (.bipush 80, 2) := by decide +kernel
theorem dX11_costs_37 : decode cX11_costs 37 = .ok (.if_icmp .lt 6, 3) := by decide +kernel
theorem dX11_costs_40 : decode cX11_costs 40 = .ok (.bipush (-3), 2) := by decide +kernel
theorem dX11_costs_42 : decode cX11_costs 42 = .ok (.ireturn, 1) := by decide +kernel
theorem dX11_costs_43 : decode cX11_costs 43 = .ok (.aload_n 0, 1) := by decide +kernel
theorem dX11_costs_44 : decode cX11_costs 44 = .ok (.getfield 38, 3) := by decide +kernel
theorem dX11_costs_47 : decode cX11_costs 47 = .ok (.aload_n 0, 1) := by decide +kernel
theorem dX11_costs_48 : decode cX11_costs 48 = .ok (.getfield 45, 3) := by decide +kernel
theorem dX11_costs_51 : decode cX11_costs 51 = .ok (.invokevirtual 114, 3) := by decide +kernel
theorem dX11_costs_54 : decode cX11_costs 54 = .ok (.istore 4, 2) := by decide +kernel
theorem dX11_costs_56 : decode cX11_costs 56 = .ok (.iload 4, 2) := by decide +kernel
theorem dX11_costs_58 : decode cX11_costs 58 = .ok (.iconst (-1), 1) := by decide +kernel
theorem dX11_costs_59 : decode cX11_costs 59 = .ok (.if_icmp .eq 9, 3) := by decide +kernel
theorem dX11_costs_62 : decode cX11_costs 62 = .ok (.bipush (-100), 2) := by decide +kernel
theorem dX11_costs_64 : decode cX11_costs 64 = .ok (.iload 4, 2) := by decide +kernel
theorem dX11_costs_66 : decode cX11_costs 66 = .ok (.isub, 1) := by decide +kernel
theorem dX11_costs_67 : decode cX11_costs 67 = .ok (.ireturn, 1) := by decide +kernel
theorem dX11_costs_68 : decode cX11_costs 68 = .ok (.iload_n 3, 1) := by decide +kernel
theorem dX11_costs_69 : decode cX11_costs 69 = .ok (.ifCond .ne 24, 3) := by decide +kernel
theorem dX11_costs_72 : decode cX11_costs 72 = .ok (.aload_n 0, 1) := by decide +kernel
theorem dX11_costs_73 : decode cX11_costs 73 = .ok (.getfield 31, 3) := by decide +kernel
theorem dX11_costs_76 : decode cX11_costs 76 = .ok (.aload_n 0, 1) := by decide +kernel
theorem dX11_costs_77 : decode cX11_costs 77 = .ok (.getfield 12, 3) := by decide +kernel
theorem dX11_costs_80 : decode cX11_costs 80 = .ok (.aload_n 0, 1) := by decide +kernel
theorem dX11_costs_81 : decode cX11_costs 81 = .ok (.getfield 45, 3) := by decide +kernel
theorem dX11_costs_84 : decode cX11_costs 84 = .ok (.iload_n 1, 1) := by decide +kernel
theorem dX11_costs_85 : decode cX11_costs 85 = .ok (.iload_n 2, 1) := by decide +kernel
theorem dX11_costs_86 : decode cX11_costs 86 = .ok (.invokevirtual 293, 3) := by decide +kernel
theorem dX11_costs_89 : decode cX11_costs 89 = .ok (.invokestatic 144, 3) := by decide +kernel
theorem dX11_costs_92 : decode cX11_costs 92 = .ok (.ireturn, 1) := by decide +kernel
theorem dX11_costs_93 : decode cX11_costs 93 = .ok (.aload_n 0, 1) := by decide +kernel
theorem dX11_costs_94 : decode cX11_costs 94 = .ok (.getfield 31, 3) := by decide +kernel
theorem dX11_costs_97 : decode cX11_costs 97 = .ok (.aload_n 0, 1) := by decide +kernel
theorem dX11_costs_98 : decode cX11_costs 98 = .ok (.getfield 12, 3) := by decide +kernel
theorem dX11_costs_101 : decode cX11_costs 101 = .ok (.aload_n 0, 1) := by decide +kernel
theorem dX11_costs_102 : decode cX11_costs 102 = .ok (.getfield 45, 3) := by decide +kernel
theorem dX11_costs_105 : decode cX11_costs 105 = .ok (.iload_n 1, 1) := by decide +kernel
theorem dX11_costs_106 : decode cX11_costs 106 = .ok (.iload_n 2, 1) := by decide +kernel
theorem dX11_costs_107 : decode cX11_costs 107 = .ok (.invokevirtual 297, 3) := by decide +kernel
theorem dX11_costs_110 : decode cX11_costs 110 = .ok (.ireturn, 1) := by decide +kernel
theorem dX11_earliest_0 : decode cX11_earliest 0 = .ok (.iload_n 1, 1) := by decide +kernel
theorem dX11_earliest_1 : decode cX11_earliest 1 = .ok (.invokestatic 63, 3) := by decide +kernel
theorem dX11_earliest_4 : decode cX11_earliest 4 = .ok (.ifCond .ne 5, 3) := by decide +kernel
theorem dX11_earliest_7 : decode cX11_earliest 7 = .ok (.iconst (-1), 1) := by decide +kernel
theorem dX11_earliest_8 : decode cX11_earliest 8 = .ok (.ireturn, 1) := by decide +kernel
theorem dX11_earliest_9 : decode cX11_earliest 9 = .ok (.aload_n 0, 1) := by decide +kernel
theorem dX11_earliest_10 : decode cX11_earliest 10 = .ok (.getfield 38, 3) := by decide +kernel
theorem dX11_earliest_13 : decode cX11_earliest 13 = .ok (.aload_n 0, 1) := by decide +kernel
theorem dX11_earliest_14 : decode cX11_earliest 14 = .ok (.getfield 45, 3) := by decide +kernel
theorem dX11_earliest_17 : decode cX11_earliest 17 = .ok (.invokevirtual 114, 3) := by decide +kernel
theorem dX11_earliest_20 : decode cX11_earliest 20 = .ok (.istore_n 2, 1) := by decide +kernel
theorem dX11_earliest_21 : decode cX11_earliest 21 = .ok (.iload_n 2, 1) := by decide +kernel
theorem dX11_earliest_22 : decode cX11_earliest 22 = .ok (.iconst (-1), 1) := by decide +kernel
theorem dX11_earliest_23 : decode cX11_earliest 23 = .ok (.if_icmp .ne 25, 3) := by decide +kernel
theorem dX11_earliest_26 : decode cX11_earliest 26 = .ok (.aload_n 0, 1) := by decide +kernel
theorem dX11_earliest_27 : decode cX11_earliest 27 = .ok (.getfield 31, 3) := by decide +kernel
theorem dX11_earliest_30 : decode cX11_earliest 30 = .ok (.aload_n 0, 1) := by decide +kernel
theorem dX11_earliest_31 : decode cX11_earliest 31 = .ok (.getfield 12, 3) := by decide +kernel
theorem dX11_earliest_34 : decode cX11_earliest 34 = .ok (.aload_n 0, 1) := by decide +kernel
theorem dX11_earliest_35 : decode cX11_earliest 35 = .ok (.getfield 45, 3) := by decide +kernel
theorem dX11_earliest_38 : decode cX11_earliest 38 = .ok (.iload_n 1, 1) := by decide +kernel
theorem dX11_earliest_39 : decode cX11_earliest 39 = .ok (.invokevirtual 300, 3) := by decide +kernel
theorem dX11_earliest_42 : decode cX11_earliest 42 = .ok (.invokestatic 144, 3) := by decide +kernel
theorem dX11_earliest_45 : decode cX11_earliest 45 = .ok (.goto 7, 3) := by decide +kernel
theorem dX11_earliest_48 : decode cX11_earliest 48 = .ok (.bipush (-100), 2) := by decide +kernel
theorem dX11_earliest_50 : decode cX11_earliest 50 = .ok (.iload_n 2, 1) := by decide +kernel
theorem dX11_earliest_51 : decode cX11_earliest 51 = .ok (.isub, 1) := by decide +kernel
theorem dX11_earliest_52 : decode cX11_earliest 52 = .ok (.ireturn, 1) := by decide +kernel
theorem dX11_holes_0 : decode cX11_holes 0 = .ok (.iload_n 1, 1) := by decide +kernel
theorem dX11_holes_1 : decode cX11_holes 1 = .ok (.aload_n 0, 1) := by decide +kernel
theorem dX11_holes_2 : decode cX11_holes 2 = .ok (.getfield 12, 3) := by decide +kernel
theorem dX11_holes_5 : decode cX11_holes 5 = .ok (.getfield 238, 3) := by decide +kernel
theorem dX11_holes_8 : decode cX11_holes 8 = .ok (.if_icmp .lt 24, 3) := by decide +kernel
theorem dX11_holes_11 : decode cX11_holes 11 = .ok (.iload_n 2, 1) := by decide +kernel
theorem dX11_holes_12 : decode cX11_holes 12 = .ok (.iconst 1, 1) := by decide +kernel
theorem dX11_holes_13 : decode cX11_holes 13 = .ok (.if_icmp .lt 19, 3) := by decide +kernel
theorem dX11_holes_16 : decode cX11_holes 16 = .ok (.iload_n 2, 1) := by decide +kernel
theorem dX11_holes_17 : decode cX11_holes 17 = .ok (.sipush 500, 3) := by decide +kernel
theorem dX11_holes_20 : decode cX11_holes 20 = .ok (.if_icmp .gt 12, 3) := by decide +kernel
theorem dX11_holes_23 : decode cX11_holes 23 = .ok (.iload_n 3, 1) := by decide +kernel
theorem dX11_holes_24 : decode cX11_holes 24 = .ok (.ifCond .lt 8, 3) := by decide +kernel
theorem dX11_holes_27 : decode cX11_holes 27 = .ok (.iload_n 3, 1) := by decide +kernel
theorem dX11_holes_28 : decode cX11_holes 28 = .ok (.iconst 1, 1) := by decide +kernel
theorem dX11_holes_29 : decode cX11_holes 29 = .ok (.if_icmp .le 5, 3) := by decide +kernel
theorem dX11_holes_32 : decode cX11_holes 32 = .ok (.iconst (-1), 1) := by decide +kernel
theorem dX11_holes_33 : decode cX11_holes 33 = .ok (.ireturn, 1) := by decide +kernel
theorem dX11_holes_34 : decode cX11_holes 34 = .ok (.aload_n 0, 1) := by decide +kernel
theorem dX11_holes_35 : decode cX11_holes 35 = .ok (.getfield 31, 3) := by decide +kernel
theorem dX11_holes_38 : decode cX11_holes 38 = .ok (.aload_n 0, 1) := by decide +kernel
theorem dX11_holes_39 : decode cX11_holes 39 = .ok (.getfield 12, 3) := by decide +kernel
theorem dX11_holes_42 : decode cX11_holes 42 = .ok (.iload_n 1, 1) := by decide +kernel
theorem dX11_holes_43 : decode cX11_holes 43 = .ok (.iload_n 2, 1) := by decide +kernel
theorem dX11_holes_44 : decode cX11_holes 44 = .ok (.invokevirtual 304, 3) := by decide +kernel
theorem dX11_holes_47 : decode cX11_holes 47 = .ok (.istore 4, 2) := by decide +kernel
theorem dX11_holes_49 : decode cX11_holes 49 = .ok (.iload_n 3, 1) := by decide +kernel
theorem dX11_holes_50 : decode cX11_holes 50 = .ok (.ifCond .ne 11, 3) := by decide +kernel
theorem dX11_holes_53 : decode cX11_holes 53 = .ok (.iload 4, 2) := by decide +kernel
theorem dX11_holes_55 : decode cX11_holes 55 = .ok (.invokestatic 307, 3) := by decide +kernel
theorem dX11_holes_58 : decode cX11_holes 58 = .ok (.goto 8, 3) := by decide +kernel
theorem dX11_holes_61 : decode cX11_holes 61 = .ok (.iload 4, 2) := by decide +kernel
theorem dX11_holes_63 : decode cX11_holes 63 = .ok (.invokestatic 312, 3) := by decide +kernel
theorem dX11_holes_66 : decode cX11_holes 66 = .ok (.ireturn, 1) := by decide +kernel
theorem dX11_led_0 : decode cX11_led 0 = .ok (.iload_n 1, 1) := by decide +kernel
theorem dX11_led_1 : decode cX11_led 1 = .ok (.ifCond .lt 9, 3) := by decide +kernel
theorem dX11_led_4 : decode cX11_led 4 = .ok (.iload_n 1, 1) := by decide +kernel
theorem dX11_led_5 : decode cX11_led 5 = .ok (.bipush 7, 2) := by decide +kernel
theorem dX11_led_7 : decode cX11_led 7 = .ok (.if_icmp .le 9, 3) := by decide +kernel
theorem dX11_led_10 : decode cX11_led 10 = .ok (.ldc2_w 89, 3) := by decide +kernel
theorem dX11_led_13 : decode cX11_led 13 = .ok (.goto 15, 3) := by decide +kernel
theorem dX11_led_16 : decode cX11_led 16 = .ok (.aload_n 0, 1) := by decide +kernel
theorem dX11_led_17 : decode cX11_led 17 = .ok (.getfield 12, 3) := by decide +kernel
theorem dX11_led_20 : decode cX11_led 20 = .ok (.getfield 315, 3) := by decide +kernel
theorem dX11_led_23 : decode cX11_led 23 = .ok (.getfield 319, 3) := by decide +kernel
theorem dX11_led_26 : decode cX11_led 26 = .ok (.iload_n 1, 1) := by decide +kernel
theorem dX11_led_27 : decode cX11_led 27 = .ok (.laload, 1) := by decide +kernel
theorem dX11_led_28 : decode cX11_led 28 = .ok (.lreturn, 1) := by decide +kernel
theorem dX11_chart_0 : decode cX11_chart 0 = .ok (.iload_n 1, 1) := by decide +kernel
theorem dX11_chart_1 : decode cX11_chart 1 = .ok (.invokestatic 249, 3) := by decide +kernel
theorem dX11_chart_4 : decode cX11_chart 4 = .ok (.ifCond .eq 14, 3) := by decide +kernel
theorem dX11_chart_7 : decode cX11_chart 7 = .ok (.iload_n 2, 1) := by decide +kernel
theorem dX11_chart_8 : decode cX11_chart 8 = .ok (.iconst 1, 1) := by decide +kernel
theorem dX11_chart_9 : decode cX11_chart 9 = .ok (.if_icmp .lt 9, 3) := by decide +kernel
theorem dX11_chart_12 : decode cX11_chart 12 = .ok (.iload_n 2, 1) := by decide +kernel
theorem dX11_chart_13 : decode cX11_chart 13 = .ok (.bipush 64, 2) := by decide +kernel
theorem dX11_chart_15 : decode cX11_chart 15 = .ok (.if_icmp .le 5, 3) := by decide +kernel
theorem dX11_chart_18 : decode cX11_chart 18 = .ok (.iconst (-1), 1) := by decide +kernel
theorem dX11_chart_19 : decode cX11_chart 19 = .ok (.ireturn, 1) := by decide +kernel
theorem dX11_chart_20 : decode cX11_chart 20 = .ok (.iload_n 2, 1) := by decide +kernel
theorem dX11_chart_21 : decode cX11_chart 21 = .ok (.aload_n 0, 1) := by decide +kernel
theorem dX11_chart_22 : decode cX11_chart 22 = .ok (.getfield 12, 3) := by decide +kernel
theorem dX11_chart_25 : decode cX11_chart 25 = .ok (.getfield 238, 3) := by decide +kernel
theorem dX11_chart_28 : decode cX11_chart 28 = .ok (.if_icmp .le 8, 3) := by decide +kernel
theorem dX11_chart_31 : decode cX11_chart 31 = .ok (.bipush (-2), 2) := by decide +kernel
theorem dX11_chart_33 : decode cX11_chart 33 = .ok (.goto 26, 3) := by decide +kernel
theorem dX11_chart_36 : decode cX11_chart 36 = .ok (.aload_n 0, 1) := by decide +kernel
theorem dX11_chart_37 : decode cX11_chart 37 = .ok (.getfield 12, 3) := by decide +kernel
theorem dX11_chart_40 : decode cX11_chart 40 = .ok (.getfield 315, 3) := by decide +kernel
theorem dX11_chart_43 : decode cX11_chart 43 = .ok (.iload_n 1, 1) := by decide +kernel
theorem dX11_chart_44 : decode cX11_chart 44 = .ok (.aload_n 0, 1) := by decide +kernel
theorem dX11_chart_45 : decode cX11_chart 45 = .ok (.getfield 12, 3) := by decide +kernel
theorem dX11_chart_48 : decode cX11_chart 48 = .ok (.getfield 238, 3) := by decide +kernel
theorem dX11_chart_51 : decode cX11_chart 51 = .ok (.iload_n 2, 1) := by decide +kernel
theorem dX11_chart_52 : decode cX11_chart 52 = .ok (.isub, 1) := by decide +kernel
theorem dX11_chart_53 : decode cX11_chart 53 = .ok (.invokevirtual 322, 3) := by decide +kernel
theorem dX11_chart_56 : decode cX11_chart 56 = .ok (.invokestatic 144, 3) := by decide +kernel
theorem dX11_chart_59 : decode cX11_chart 59 = .ok (.ireturn, 1) := by decide +kernel
theorem dX11_event_0 : decode cX11_event 0 = .ok (.iload_n 1, 1) := by decide +kernel
theorem dX11_event_1 : decode cX11_event 1 = .ok (.ifCond .lt 12, 3) := by decide +kernel
theorem dX11_event_4 : decode cX11_event 4 = .ok (.iload_n 2, 1) := by decide +kernel
theorem dX11_event_5 : decode cX11_event 5 = .ok (.ifCond .lt 8, 3) := by decide +kernel
theorem dX11_event_8 : decode cX11_event 8 = .ok (.iload_n 2, 1) := by decide +kernel
theorem dX11_event_9 : decode cX11_event 9 = .ok (.iconst 2, 1) := by decide +kernel
theorem dX11_event_10 : decode cX11_event 10 = .ok (.if_icmp .le 5, 3) := by decide +kernel
theorem dX11_event_13 : decode cX11_event 13 = .ok (.iconst (-1), 1) := by decide +kernel
theorem dX11_event_14 : decode cX11_event 14 = .ok (.ireturn, 1) := by decide +kernel
theorem dX11_event_15 : decode cX11_event 15 = .ok (.aload_n 0, 1) := by decide +kernel
theorem dX11_event_16 : decode cX11_event 16 = .ok (.getfield 12, 3) := by decide +kernel
theorem dX11_event_19 : decode cX11_event 19 = .ok (.getfield 315, 3) := by decide +kernel
theorem dX11_event_22 : decode cX11_event 22 = .ok (.iload_n 1, 1) := by decide +kernel
theorem dX11_event_23 : decode cX11_event 23 = .ok (.iload_n 2, 1) := by decide +kernel
theorem dX11_event_24 : decode cX11_event 24 = .ok (.invokevirtual 325, 3) := by decide +kernel
theorem dX11_event_27 : decode cX11_event 27 = .ok (.ireturn, 1) := by decide +kernel
theorem dX11_started_0 : decode cX11_started 0 = .ok (.iload_n 1, 1) := by decide +kernel
theorem dX11_started_1 : decode cX11_started 1 = .ok (.ifCond .ge 7, 3) := by decide +kernel
theorem dX11_started_4 : decode cX11_started 4 = .ok (.iconst (-1), 1) := by decide +kernel
theorem dX11_started_5 : decode cX11_started 5 = .ok (.goto 27, 3) := by decide +kernel
theorem dX11_started_8 : decode cX11_started 8 = .ok (.aload_n 0, 1) := by decide +kernel
theorem dX11_started_9 : decode cX11_started 9 = .ok (.getfield 12, 3) := by decide +kernel
theorem dX11_started_12 : decode cX11_started 12 = .ok (.getfield 315, 3) := by decide +kernel
theorem dX11_started_15 : decode cX11_started 15 = .ok (.getfield 265, 3) := by decide +kernel
theorem dX11_started_18 : decode cX11_started 18 = .ok (.aload_n 0, 1) := by decide +kernel
theorem dX11_started_19 : decode cX11_started 19 = .ok (.getfield 12, 3) := by decide +kernel
theorem dX11_started_22 : decode cX11_started 22 = .ok (.getfield 315, 3) := by decide +kernel
theorem dX11_started_25 : decode cX11_started 25 = .ok (.getfield 270, 3) := by decide +kernel
theorem dX11_started_28 : decode cX11_started 28 = .ok (.iload_n 1, 1) := by decide +kernel
theorem dX11_started_29 : decode cX11_started 29 = .ok (.invokestatic 187, 3) := by decide +kernel
theorem dX11_started_32 : decode cX11_started 32 = .ok (.ireturn, 1) := by decide +kernel
theorem dX11_back_0 : decode cX11_back 0 = .ok (.aload_n 0, 1) := by decide +kernel
theorem dX11_back_1 : decode cX11_back 1 = .ok (.getfield 12, 3) := by decide +kernel
theorem dX11_back_4 : decode cX11_back 4 = .ok (.aload_n 0, 1) := by decide +kernel
theorem dX11_back_5 : decode cX11_back 5 = .ok (.getfield 18, 3) := by decide +kernel
theorem dX11_back_8 : decode cX11_back 8 = .ok (.invokevirtual 328, 3) := by decide +kernel
theorem dX11_back_11 : decode cX11_back 11 = .ok (.aload_n 0, 1) := by decide +kernel
theorem dX11_back_12 : decode cX11_back 12 = .ok (.getfield 12, 3) := by decide +kernel
theorem dX11_back_15 : decode cX11_back 15 = .ok (.getfield 238, 3) := by decide +kernel
theorem dX11_back_18 : decode cX11_back 18 = .ok (.ireturn, 1) := by decide +kernel
theorem dX11_count_0 : decode cX11_count 0 = .ok (.iload_n 1, 1) := by decide +kernel
theorem dX11_count_1 : decode cX11_count 1 = .ok (.tableswitch 134 0 7 #[47, 58, 70, 82, 93, 107, 115, 126], 47) := by decide +kernel
theorem dX11_count_48 : decode cX11_count 48 = .ok (.aload_n 0, 1) := by decide +kernel
theorem dX11_count_49 : decode cX11_count 49 = .ok (.getfield 12, 3) := by decide +kernel
theorem dX11_count_52 : decode cX11_count 52 = .ok (.getfield 104, 3) := by decide +kernel
theorem dX11_count_55 : decode cX11_count 55 = .ok (.getfield 108, 3) := by decide +kernel
theorem dX11_count_58 : decode cX11_count 58 = .ok (.ireturn, 1) := by decide +kernel
theorem dX11_count_59 : decode cX11_count 59 = .ok (.aload_n 0, 1) := by decide +kernel
theorem dX11_count_60 : decode cX11_count 60 = .ok (.getfield 12, 3) := by decide +kernel
theorem dX11_count_63 : decode cX11_count 63 = .ok (.getfield 104, 3) := by decide +kernel
theorem dX11_count_66 : decode cX11_count 66 = .ok (.iconst 0, 1) := by decide +kernel
theorem dX11_count_67 : decode cX11_count 67 = .ok (.invokevirtual 331, 3) := by decide +kernel
theorem dX11_count_70 : decode cX11_count 70 = .ok (.ireturn, 1) := by decide +kernel
theorem dX11_count_71 : decode cX11_count 71 = .ok (.aload_n 0, 1) := by decide +kernel
theorem dX11_count_72 : decode cX11_count 72 = .ok (.getfield 12, 3) := by decide +kernel
theorem dX11_count_75 : decode cX11_count 75 = .ok (.getfield 104, 3) := by decide +kernel
theorem dX11_count_78 : decode cX11_count 78 = .ok (.iconst 1, 1) := by decide +kernel
theorem dX11_count_79 : decode cX11_count 79 = .ok (.invokevirtual 331, 3) := by decide +kernel
theorem dX11_count_82 : decode cX11_count 82 = .ok (.ireturn, 1) := by decide +kernel
theorem dX11_count_83 : decode cX11_count 83 = .ok (.aload_n 0, 1) := by decide +kernel
theorem dX11_count_84 : decode cX11_count 84 = .ok (.getfield 12, 3) := by decide +kernel
theorem dX11_count_87 : decode cX11_count 87 = .ok (.getfield 213, 3) := by decide +kernel
theorem dX11_count_90 : decode cX11_count 90 = .ok (.getfield 217, 3) := by decide +kernel
theorem dX11_count_93 : decode cX11_count 93 = .ok (.ireturn, 1) := by decide +kernel
theorem dX11_count_94 : decode cX11_count 94 = .ok (.bipush 16, 2) := by decide +kernel
theorem dX11_count_96 : decode cX11_count 96 = .ok (.aload_n 0, 1) := by decide +kernel
theorem dX11_count_97 : decode cX11_count 97 = .ok (.getfield 12, 3) := by decide +kernel
theorem dX11_count_100 : decode cX11_count 100 = .ok (.getfield 159, 3) := by decide +kernel
theorem dX11_count_103 : decode cX11_count 103 = .ok (.invokevirtual 334, 3) := by decide +kernel
theorem dX11_count_106 : decode cX11_count 106 = .ok (.isub, 1) := by decide +kernel
theorem dX11_count_107 : decode cX11_count 107 = .ok (.ireturn, 1) := by decide +kernel
theorem dX11_count_108 : decode cX11_count 108 = .ok (.aload_n 0, 1) := by decide +kernel
theorem dX11_count_109 : decode cX11_count 109 = .ok (.getfield 38, 3) := by decide +kernel
theorem dX11_count_112 : decode cX11_count 112 = .ok (.getfield 94, 3) := by decide +kernel
theorem dX11_count_115 : decode cX11_count 115 = .ok (.ireturn, 1) := by decide +kernel
theorem dX11_count_116 : decode cX11_count 116 = .ok (.aload_n 0, 1) := by decide +kernel
theorem dX11_count_117 : decode cX11_count 117 = .ok (.getfield 12, 3) := by decide +kernel
theorem dX11_count_120 : decode cX11_count 120 = .ok (.getfield 104, 3) := by decide +kernel
theorem dX11_count_123 : decode cX11_count 123 = .ok (.invokevirtual 337, 3) := by decide +kernel
theorem dX11_count_126 : decode cX11_count 126 = .ok (.ireturn, 1) := by decide +kernel
theorem dX11_count_127 : decode cX11_count 127 = .ok (.aload_n 0, 1) := by decide +kernel
theorem dX11_count_128 : decode cX11_count 128 = .ok (.getfield 12, 3) := by decide +kernel
theorem dX11_count_131 : decode cX11_count 131 = .ok (.getfield 238, 3) := by decide +kernel
theorem dX11_count_134 : decode cX11_count 134 = .ok (.ireturn, 1) := by decide +kernel
theorem dX11_count_135 : decode cX11_count 135 = .ok (.iconst (-1), 1) := by decide +kernel
theorem dX11_count_136 : decode cX11_count 136 = .ok (.ireturn, 1) := by decide +kernel
theorem dX11_isAccount_0 : decode cX11_isAccount 0 = .ok (.iload_n 0, 1) := by decide +kernel
theorem dX11_isAccount_1 : decode cX11_isAccount 1 = .ok (.ifCond .lt 13, 3) := by decide +kernel
theorem dX11_isAccount_4 : decode cX11_isAccount 4 = .ok (.iload_n 0, 1) := by decide +kernel
theorem dX11_isAccount_5 : decode cX11_isAccount 5 = .ok (.bipush 8, 2) := by decide +kernel
theorem dX11_isAccount_7 : decode cX11_isAccount 7 = .ok (.if_icmp .ge 7, 3) := by decide +kernel
theorem dX11_isAccount_10 : decode cX11_isAccount 10 = .ok (.iconst 1, 1) := by decide +kernel
theorem dX11_isAccount_11 : decode cX11_isAccount 11 = .ok (.goto 4, 3) := by decide +kernel
theorem dX11_isAccount_14 : decode cX11_isAccount 14 = .ok (.iconst 0, 1) := by decide +kernel
theorem dX11_isAccount_15 : decode cX11_isAccount 15 = .ok (.ireturn, 1) := by decide +kernel
theorem dX11_isRank_0 : decode cX11_isRank 0 = .ok (.iload_n 0, 1) := by decide +kernel
theorem dX11_isRank_1 : decode cX11_isRank 1 = .ok (.ifCond .lt 13, 3) := by decide +kernel
theorem dX11_isRank_4 : decode cX11_isRank 4 = .ok (.iload_n 0, 1) := by decide +kernel
theorem dX11_isRank_5 : decode cX11_isRank 5 = .ok (.bipush 9, 2) := by decide +kernel
theorem dX11_isRank_7 : decode cX11_isRank 7 = .ok (.if_icmp .gt 7, 3) := by decide +kernel
theorem dX11_isRank_10 : decode cX11_isRank 10 = .ok (.iconst 1, 1) := by decide +kernel
theorem dX11_isRank_11 : decode cX11_isRank 11 = .ok (.goto 4, 3) := by decide +kernel
theorem dX11_isRank_14 : decode cX11_isRank 14 = .ok (.iconst 0, 1) := by decide +kernel
theorem dX11_isRank_15 : decode cX11_isRank 15 = .ok (.ireturn, 1) := by decide +kernel
theorem dX11_isColumn_0 : decode cX11_isColumn 0 = .ok (.iload_n 0, 1) := by decide +kernel
theorem dX11_isColumn_1 : decode cX11_isColumn 1 = .ok (.ifCond .lt 13, 3) := by decide +kernel
theorem dX11_isColumn_4 : decode cX11_isColumn 4 = .ok (.iload_n 0, 1) := by decide +kernel
theorem dX11_isColumn_5 : decode cX11_isColumn 5 = .ok (.bipush 16, 2) := by decide +kernel
theorem dX11_isColumn_7 : decode cX11_isColumn 7 = .ok (.if_icmp .ge 7, 3) := by decide +kernel
theorem dX11_isColumn_10 : decode cX11_isColumn 10 = .ok (.iconst 1, 1) := by decide +kernel
theorem dX11_isColumn_11 : decode cX11_isColumn 11 = .ok (.goto 4, 3) := by decide +kernel
theorem dX11_isColumn_14 : decode cX11_isColumn 14 = .ok (.iconst 0, 1) := by decide +kernel
theorem dX11_isColumn_15 : decode cX11_isColumn 15 = .ok (.ireturn, 1) := by decide +kernel
theorem dX11_isRule_0 : decode cX11_isRule 0 = .ok (.iload_n 0, 1) := by decide +kernel
theorem dX11_isRule_1 : decode cX11_isRule 1 = .ok (.tableswitch 74 0 2 #[27, 42, 58], 27) := by decide +kernel
theorem dX11_isRule_28 : decode cX11_isRule 28 = .ok (.iload_n 1, 1) := by decide +kernel
theorem dX11_isRule_29 : decode cX11_isRule 29 = .ok (.ifCond .lt 12, 3) := by decide +kernel
theorem dX11_isRule_32 : decode cX11_isRule 32 = .ok (.iload_n 1, 1) := by decide +kernel
theorem dX11_isRule_33 : decode cX11_isRule 33 = .ok (.iconst 4, 1) := by decide +kernel
theorem dX11_isRule_34 : decode cX11_isRule 34 = .ok (.if_icmp .gt 7, 3) := by decide +kernel
theorem dX11_isRule_37 : decode cX11_isRule 37 = .ok (.iconst 1, 1) := by decide +kernel
theorem dX11_isRule_38 : decode cX11_isRule 38 = .ok (.goto 4, 3) := by decide +kernel
theorem dX11_isRule_41 : decode cX11_isRule 41 = .ok (.iconst 0, 1) := by decide +kernel
theorem dX11_isRule_42 : decode cX11_isRule 42 = .ok (.ireturn, 1) := by decide +kernel
theorem dX11_isRule_43 : decode cX11_isRule 43 = .ok (.iload_n 1, 1) := by decide +kernel
theorem dX11_isRule_44 : decode cX11_isRule 44 = .ok (.ifCond .lt 13, 3) := by decide +kernel
theorem dX11_isRule_47 : decode cX11_isRule 47 = .ok (.iload_n 1, 1) := by decide +kernel
theorem dX11_isRule_48 : decode cX11_isRule 48 = .ok (.bipush 80, 2) := by decide +kernel
theorem dX11_isRule_50 : decode cX11_isRule 50 = .ok (.if_icmp .gt 7, 3) := by decide +kernel
theorem dX11_isRule_53 : decode cX11_isRule 53 = .ok (.iconst 1, 1) := by decide +kernel
theorem dX11_isRule_54 : decode cX11_isRule 54 = .ok (.goto 4, 3) := by decide +kernel
theorem dX11_isRule_57 : decode cX11_isRule 57 = .ok (.iconst 0, 1) := by decide +kernel
theorem dX11_isRule_58 : decode cX11_isRule 58 = .ok (.ireturn, 1) := by decide +kernel
theorem dX11_isRule_59 : decode cX11_isRule 59 = .ok (.iload_n 1, 1) := by decide +kernel
theorem dX11_isRule_60 : decode cX11_isRule 60 = .ok (.ifCond .lt 13, 3) := by decide +kernel
theorem dX11_isRule_63 : decode cX11_isRule 63 = .ok (.iload_n 1, 1) := by decide +kernel
theorem dX11_isRule_64 : decode cX11_isRule 64 = .ok (.bipush 100, 2) := by decide +kernel
theorem dX11_isRule_66 : decode cX11_isRule 66 = .ok (.if_icmp .gt 7, 3) := by decide +kernel
theorem dX11_isRule_69 : decode cX11_isRule 69 = .ok (.iconst 1, 1) := by decide +kernel
theorem dX11_isRule_70 : decode cX11_isRule 70 = .ok (.goto 4, 3) := by decide +kernel
theorem dX11_isRule_73 : decode cX11_isRule 73 = .ok (.iconst 0, 1) := by decide +kernel
theorem dX11_isRule_74 : decode cX11_isRule 74 = .ok (.ireturn, 1) := by decide +kernel
theorem dX11_isRule_75 : decode cX11_isRule 75 = .ok (.iconst 0, 1) := by decide +kernel
theorem dX11_isRule_76 : decode cX11_isRule 76 = .ok (.ireturn, 1) := by decide +kernel
theorem dX11_isJob_0 : decode cX11_isJob 0 = .ok (.iload_n 1, 1) := by decide +kernel
theorem dX11_isJob_1 : decode cX11_isJob 1 = .ok (.ifCond .lt 21, 3) := by decide +kernel
theorem dX11_isJob_4 : decode cX11_isJob 4 = .ok (.iload_n 1, 1) := by decide +kernel
theorem dX11_isJob_5 : decode cX11_isJob 5 = .ok (.aload_n 0, 1) := by decide +kernel
theorem dX11_isJob_6 : decode cX11_isJob 6 = .ok (.getfield 12, 3) := by decide +kernel
theorem dX11_isJob_9 : decode cX11_isJob 9 = .ok (.getfield 104, 3) := by decide +kernel
theorem dX11_isJob_12 : decode cX11_isJob 12 = .ok (.getfield 108, 3) := by decide +kernel
theorem dX11_isJob_15 : decode cX11_isJob 15 = .ok (.if_icmp .ge 7, 3) := by decide +kernel
theorem dX11_isJob_18 : decode cX11_isJob 18 = .ok (.iconst 1, 1) := by decide +kernel
theorem dX11_isJob_19 : decode cX11_isJob 19 = .ok (.goto 4, 3) := by decide +kernel
theorem dX11_isJob_22 : decode cX11_isJob 22 = .ok (.iconst 0, 1) := by decide +kernel
theorem dX11_isJob_23 : decode cX11_isJob 23 = .ok (.ireturn, 1) := by decide +kernel
theorem dX11_isWaiting_0 : decode cX11_isWaiting 0 = .ok (.aload_n 0, 1) := by decide +kernel
theorem dX11_isWaiting_1 : decode cX11_isWaiting 1 = .ok (.getfield 12, 3) := by decide +kernel
theorem dX11_isWaiting_4 : decode cX11_isWaiting 4 = .ok (.getfield 104, 3) := by decide +kernel
theorem dX11_isWaiting_7 : decode cX11_isWaiting 7 = .ok (.getfield 111, 3) := by decide +kernel
theorem dX11_isWaiting_10 : decode cX11_isWaiting 10 = .ok (.iload_n 1, 1) := by decide +kernel
theorem dX11_isWaiting_11 : decode cX11_isWaiting 11 = .ok (.iaload, 1) := by decide +kernel
theorem dX11_isWaiting_12 : decode cX11_isWaiting 12 = .ok (.ifCond .ne 7, 3) := by decide +kernel
theorem dX11_isWaiting_15 : decode cX11_isWaiting 15 = .ok (.iconst 1, 1) := by decide +kernel
theorem dX11_isWaiting_16 : decode cX11_isWaiting 16 = .ok (.goto 4, 3) := by decide +kernel
theorem dX11_isWaiting_19 : decode cX11_isWaiting 19 = .ok (.iconst 0, 1) := by decide +kernel
theorem dX11_isWaiting_20 : decode cX11_isWaiting 20 = .ok (.ireturn, 1) := by decide +kernel
theorem dX11_isSpan_0 : decode cX11_isSpan 0 = .ok (.iload_n 1, 1) := by decide +kernel
theorem dX11_isSpan_1 : decode cX11_isSpan 1 = .ok (.ifCond .lt 23, 3) := by decide +kernel
theorem dX11_isSpan_4 : decode cX11_isSpan 4 = .ok (.iload_n 1, 1) := by decide +kernel
theorem dX11_isSpan_5 : decode cX11_isSpan 5 = .ok (.bipush 100, 2) := by decide +kernel
theorem dX11_isSpan_7 : decode cX11_isSpan 7 = .ok (.irem, 1) := by decide +kernel
theorem dX11_isSpan_8 : decode cX11_isSpan 8 = .ok (.bipush 16, 2) := by decide +kernel
theorem dX11_isSpan_10 : decode cX11_isSpan 10 = .ok (.if_icmp .ge 14, 3) := by decide +kernel
theorem dX11_isSpan_13 : decode cX11_isSpan 13 = .ok (.iload_n 1, 1) := by decide +kernel
theorem dX11_isSpan_14 : decode cX11_isSpan 14 = .ok (.bipush 100, 2) := by decide +kernel
theorem dX11_isSpan_16 : decode cX11_isSpan 16 = .ok (.idiv, 1) := by decide +kernel
theorem dX11_isSpan_17 : decode cX11_isSpan 17 = .ok (.iload_n 1, 1) := by decide +kernel
theorem dX11_isSpan_18 : decode cX11_isSpan 18 = .ok (.bipush 100, 2) := by decide +kernel
theorem dX11_isSpan_20 : decode cX11_isSpan 20 = .ok (.irem, 1) := by decide +kernel
theorem dX11_isSpan_21 : decode cX11_isSpan 21 = .ok (.if_icmp .le 5, 3) := by decide +kernel
theorem dX11_isSpan_24 : decode cX11_isSpan 24 = .ok (.iconst 0, 1) := by decide +kernel
theorem dX11_isSpan_25 : decode cX11_isSpan 25 = .ok (.ireturn, 1) := by decide +kernel
theorem dX11_isSpan_26 : decode cX11_isSpan 26 = .ok (.iload 5, 2) := by decide +kernel
theorem dX11_isSpan_28 : decode cX11_isSpan 28 = .ok (.iconst (-1), 1) := by decide +kernel
theorem dX11_isSpan_29 : decode cX11_isSpan 29 = .ok (.if_icmp .eq 13, 3) := by decide +kernel
theorem dX11_isSpan_32 : decode cX11_isSpan 32 = .ok (.iload 5, 2) := by decide +kernel
theorem dX11_isSpan_34 : decode cX11_isSpan 34 = .ok (.invokestatic 63, 3) := by decide +kernel
theorem dX11_isSpan_37 : decode cX11_isSpan 37 = .ok (.ifCond .ne 5, 3) := by decide +kernel
theorem dX11_isSpan_40 : decode cX11_isSpan 40 = .ok (.iconst 0, 1) := by decide +kernel
theorem dX11_isSpan_41 : decode cX11_isSpan 41 = .ok (.ireturn, 1) := by decide +kernel
theorem dX11_isSpan_42 : decode cX11_isSpan 42 = .ok (.iload_n 2, 1) := by decide +kernel
theorem dX11_isSpan_43 : decode cX11_isSpan 43 = .ok (.aload_n 0, 1) := by decide +kernel
theorem dX11_isSpan_44 : decode cX11_isSpan 44 = .ok (.getfield 12, 3) := by decide +kernel
theorem dX11_isSpan_47 : decode cX11_isSpan 47 = .ok (.getfield 238, 3) := by decide +kernel
theorem dX11_isSpan_50 : decode cX11_isSpan 50 = .ok (.if_icmp .lt 31, 3) := by decide +kernel
theorem dX11_isSpan_53 : decode cX11_isSpan 53 = .ok (.lload_n 3, 1) := by decide +kernel
theorem dX11_isSpan_54 : decode cX11_isSpan 54 = .ok (.iload_n 2, 1) := by decide +kernel
theorem dX11_isSpan_55 : decode cX11_isSpan 55 = .ok (.i2l, 1) := by decide +kernel
theorem dX11_isSpan_56 : decode cX11_isSpan 56 = .ok (.lcmp, 1) := by decide +kernel
theorem dX11_isSpan_57 : decode cX11_isSpan 57 = .ok (.ifCond .le 24, 3) := by decide +kernel
theorem dX11_isSpan_60 : decode cX11_isSpan 60 = .ok (.lload_n 3, 1) := by decide +kernel
theorem dX11_isSpan_61 : decode cX11_isSpan 61 = .ok (.aload_n 0, 1) := by decide +kernel
theorem dX11_isSpan_62 : decode cX11_isSpan 62 = .ok (.getfield 12, 3) := by decide +kernel
theorem dX11_isSpan_65 : decode cX11_isSpan 65 = .ok (.getfield 238, 3) := by decide +kernel
theorem dX11_isSpan_68 : decode cX11_isSpan 68 = .ok (.i2l, 1) := by decide +kernel
theorem dX11_isSpan_69 : decode cX11_isSpan 69 = .ok (.lsub, 1) := by decide +kernel
theorem dX11_isSpan_70 : decode cX11_isSpan 70 = .ok (.ldc2_w 340, 3) := by decide +kernel
theorem dX11_isSpan_73 : decode cX11_isSpan 73 = .ok (.lcmp, 1) := by decide +kernel
theorem dX11_isSpan_74 : decode cX11_isSpan 74 = .ok (.ifCond .gt 7, 3) := by decide +kernel
theorem dX11_isSpan_77 : decode cX11_isSpan 77 = .ok (.iconst 1, 1) := by decide +kernel
theorem dX11_isSpan_78 : decode cX11_isSpan 78 = .ok (.goto 4, 3) := by decide +kernel
theorem dX11_isSpan_81 : decode cX11_isSpan 81 = .ok (.iconst 0, 1) := by decide +kernel
theorem dX11_isSpan_82 : decode cX11_isSpan 82 = .ok (.ireturn, 1) := by decide +kernel
theorem dX11_orNot_0 : decode cX11_orNot 0 = .ok (.iload_n 0, 1) := by decide +kernel
theorem dX11_orNot_1 : decode cX11_orNot 1 = .ok (.iconst (-1), 1) := by decide +kernel
theorem dX11_orNot_2 : decode cX11_orNot 2 = .ok (.if_icmp .ne 8, 3) := by decide +kernel
theorem dX11_orNot_5 : decode cX11_orNot 5 = .ok (.bipush (-2), 2) := by decide +kernel
theorem dX11_orNot_7 : decode cX11_orNot 7 = .ok (.goto 4, 3) := by decide +kernel
theorem dX11_orNot_10 : decode cX11_orNot 10 = .ok (.iload_n 0, 1) := by decide +kernel
theorem dX11_orNot_11 : decode cX11_orNot 11 = .ok (.ireturn, 1) := by decide +kernel
theorem dX11_listed_0 : decode cX11_listed 0 = .ok (.iload_n 2, 1) := by decide +kernel
theorem dX11_listed_1 : decode cX11_listed 1 = .ok (.ifCond .ge 5, 3) := by decide +kernel
theorem dX11_listed_4 : decode cX11_listed 4 = .ok (.iload_n 1, 1) := by decide +kernel
theorem dX11_listed_5 : decode cX11_listed 5 = .ok (.ireturn, 1) := by decide +kernel
theorem dX11_listed_6 : decode cX11_listed 6 = .ok (.iload_n 2, 1) := by decide +kernel
theorem dX11_listed_7 : decode cX11_listed 7 = .ok (.iload_n 1, 1) := by decide +kernel
theorem dX11_listed_8 : decode cX11_listed 8 = .ok (.if_icmp .ge 15, 3) := by decide +kernel
theorem dX11_listed_11 : decode cX11_listed 11 = .ok (.iload_n 2, 1) := by decide +kernel
theorem dX11_listed_12 : decode cX11_listed 12 = .ok (.aload_n 0, 1) := by decide +kernel
theorem dX11_listed_13 : decode cX11_listed 13 = .ok (.arraylength, 1) := by decide +kernel
theorem dX11_listed_14 : decode cX11_listed 14 = .ok (.if_icmp .ge 9, 3) := by decide +kernel
theorem dX11_listed_17 : decode cX11_listed 17 = .ok (.aload_n 0, 1) := by decide +kernel
theorem dX11_listed_18 : decode cX11_listed 18 = .ok (.iload_n 2, 1) := by decide +kernel
theorem dX11_listed_19 : decode cX11_listed 19 = .ok (.iaload, 1) := by decide +kernel
theorem dX11_listed_20 : decode cX11_listed 20 = .ok (.goto 5, 3) := by decide +kernel
theorem dX11_listed_23 : decode cX11_listed 23 = .ok (.bipush (-2), 2) := by decide +kernel
theorem dX11_listed_25 : decode cX11_listed 25 = .ok (.ireturn, 1) := by decide +kernel
theorem dX11_maskOf_0 : decode cX11_maskOf 0 = .ok (.iconst 1, 1) := by decide +kernel
theorem dX11_maskOf_1 : decode cX11_maskOf 1 = .ok (.iload_n 1, 1) := by decide +kernel
theorem dX11_maskOf_2 : decode cX11_maskOf 2 = .ok (.ishl, 1) := by decide +kernel
theorem dX11_maskOf_3 : decode cX11_maskOf 3 = .ok (.iconst 1, 1) := by decide +kernel
theorem dX11_maskOf_4 : decode cX11_maskOf 4 = .ok (.isub, 1) := by decide +kernel
theorem dX11_maskOf_5 : decode cX11_maskOf 5 = .ok (.iload_n 0, 1) := by decide +kernel
theorem dX11_maskOf_6 : decode cX11_maskOf 6 = .ok (.ishl, 1) := by decide +kernel
theorem dX11_maskOf_7 : decode cX11_maskOf 7 = .ok (.ireturn, 1) := by decide +kernel
theorem dX11_bestRun_0 : decode cX11_bestRun 0 = .ok (.iconst (-1), 1) := by decide +kernel
theorem dX11_bestRun_1 : decode cX11_bestRun 1 = .ok (.istore_n 2, 1) := by decide +kernel
theorem dX11_bestRun_2 : decode cX11_bestRun 2 = .ok (.bipush 17, 2) := by decide +kernel
theorem dX11_bestRun_4 : decode cX11_bestRun 4 = .ok (.istore_n 3, 1) := by decide +kernel
theorem dX11_bestRun_5 : decode cX11_bestRun 5 = .ok (.iconst 0, 1) := by decide +kernel
theorem dX11_bestRun_6 : decode cX11_bestRun 6 = .ok (.istore 4, 2) := by decide +kernel
theorem dX11_bestRun_8 : decode cX11_bestRun 8 = .ok (.iconst 0, 1) := by decide +kernel
theorem dX11_bestRun_9 : decode cX11_bestRun 9 = .ok (.istore 5, 2) := by decide +kernel
theorem dX11_bestRun_11 : decode cX11_bestRun 11 = .ok (.iload 5, 2) := by decide +kernel
theorem dX11_bestRun_13 : decode cX11_bestRun 13 = .ok (.bipush 16, 2) := by decide +kernel
theorem dX11_bestRun_15 : decode cX11_bestRun 15 = .ok (.if_icmp .gt 55, 3) := by decide +kernel
theorem dX11_bestRun_18 : decode cX11_bestRun 18 = .ok (.iload 5, 2) := by decide +kernel
theorem dX11_bestRun_20 : decode cX11_bestRun 20 = .ok (.bipush 16, 2) := by decide +kernel
theorem dX11_bestRun_22 : decode cX11_bestRun 22 = .ok (.if_icmp .ge 18, 3) := by decide +kernel
theorem dX11_bestRun_25 : decode cX11_bestRun 25 = .ok (.iload_n 0, 1) := by decide +kernel
theorem dX11_bestRun_26 : decode cX11_bestRun 26 = .ok (.iload 5, 2) := by decide +kernel
theorem dX11_bestRun_28 : decode cX11_bestRun 28 = .ok (.ishr, 1) := by decide +kernel
theorem dX11_bestRun_29 : decode cX11_bestRun 29 = .ok (.iconst 1, 1) := by decide +kernel
theorem dX11_bestRun_30 : decode cX11_bestRun 30 = .ok (.iand, 1) := by decide +kernel
theorem dX11_bestRun_31 : decode cX11_bestRun 31 = .ok (.ifCond .eq 9, 3) := by decide +kernel
theorem dX11_bestRun_34 : decode cX11_bestRun 34 = .ok (.iinc 4 1, 3) := by decide +kernel
theorem dX11_bestRun_37 : decode cX11_bestRun 37 = .ok (.goto 27, 3) := by decide +kernel
theorem dX11_bestRun_40 : decode cX11_bestRun 40 = .ok (.iload 4, 2) := by decide +kernel
theorem dX11_bestRun_42 : decode cX11_bestRun 42 = .ok (.iload_n 1, 1) := by decide +kernel
theorem dX11_bestRun_43 : decode cX11_bestRun 43 = .ok (.if_icmp .lt 18, 3) := by decide +kernel
theorem dX11_bestRun_46 : decode cX11_bestRun 46 = .ok (.iload 4, 2) := by decide +kernel
theorem dX11_bestRun_48 : decode cX11_bestRun 48 = .ok (.iload_n 3, 1) := by decide +kernel
theorem dX11_bestRun_49 : decode cX11_bestRun 49 = .ok (.if_icmp .ge 12, 3) := by decide +kernel
theorem dX11_bestRun_52 : decode cX11_bestRun 52 = .ok (.iload 5, 2) := by decide +kernel
theorem dX11_bestRun_54 : decode cX11_bestRun 54 = .ok (.iload 4, 2) := by decide +kernel
theorem dX11_bestRun_56 : decode cX11_bestRun 56 = .ok (.isub, 1) := by decide +kernel
theorem dX11_bestRun_57 : decode cX11_bestRun 57 = .ok (.istore_n 2, 1) := by decide +kernel
theorem dX11_bestRun_58 : decode cX11_bestRun 58 = .ok (.iload 4, 2) := by decide +kernel
theorem dX11_bestRun_60 : decode cX11_bestRun 60 = .ok (.istore_n 3, 1) := by decide +kernel
theorem dX11_bestRun_61 : decode cX11_bestRun 61 = .ok (.iconst 0, 1) := by decide +kernel
theorem dX11_bestRun_62 : decode cX11_bestRun 62 = .ok (.istore 4, 2) := by decide +kernel
theorem dX11_bestRun_64 : decode cX11_bestRun 64 = .ok (.iinc 5 1, 3) := by decide +kernel
theorem dX11_bestRun_67 : decode cX11_bestRun 67 = .ok (.goto (-56), 3) := by decide +kernel
theorem dX11_bestRun_70 : decode cX11_bestRun 70 = .ok (.iload_n 2, 1) := by decide +kernel
theorem dX11_bestRun_71 : decode cX11_bestRun 71 = .ok (.ireturn, 1) := by decide +kernel
theorem dX11_longestRun_0 : decode cX11_longestRun 0 = .ok (.iconst 0, 1) := by decide +kernel
theorem dX11_longestRun_1 : decode cX11_longestRun 1 = .ok (.istore_n 1, 1) := by decide +kernel
theorem dX11_longestRun_2 : decode cX11_longestRun 2 = .ok (.iconst 0, 1) := by decide +kernel
theorem dX11_longestRun_3 : decode cX11_longestRun 3 = .ok (.istore_n 2, 1) := by decide +kernel
theorem dX11_longestRun_4 : decode cX11_longestRun 4 = .ok (.iconst 0, 1) := by decide +kernel
theorem dX11_longestRun_5 : decode cX11_longestRun 5 = .ok (.istore_n 3, 1) := by decide +kernel
theorem dX11_longestRun_6 : decode cX11_longestRun 6 = .ok (.iload_n 3, 1) := by decide +kernel
theorem dX11_longestRun_7 : decode cX11_longestRun 7 = .ok (.bipush 16, 2) := by decide +kernel
theorem dX11_longestRun_9 : decode cX11_longestRun 9 = .ok (.if_icmp .ge 31, 3) := by decide +kernel
theorem dX11_longestRun_12 : decode cX11_longestRun 12 = .ok (.iload_n 0, 1) := by decide +kernel
theorem dX11_longestRun_13 : decode cX11_longestRun 13 = .ok (.iload_n 3, 1) := by decide +kernel
theorem dX11_longestRun_14 : decode cX11_longestRun 14 = .ok (.ishr, 1) := by decide +kernel
theorem dX11_longestRun_15 : decode cX11_longestRun 15 = .ok (.iconst 1, 1) := by decide +kernel
theorem dX11_longestRun_16 : decode cX11_longestRun 16 = .ok (.iand, 1) := by decide +kernel
theorem dX11_longestRun_17 : decode cX11_longestRun 17 = .ok (.ifCond .eq 9, 3) := by decide +kernel
theorem dX11_longestRun_20 : decode cX11_longestRun 20 = .ok (.iload_n 2, 1) := by decide +kernel
theorem dX11_longestRun_21 : decode cX11_longestRun 21 = .ok (.iconst 1, 1) := by decide +kernel
theorem dX11_longestRun_22 : decode cX11_longestRun 22 = .ok (.iadd, 1) := by decide +kernel
theorem dX11_longestRun_23 : decode cX11_longestRun 23 = .ok (.goto 4, 3) := by decide +kernel
theorem dX11_longestRun_26 : decode cX11_longestRun 26 = .ok (.iconst 0, 1) := by decide +kernel
theorem dX11_longestRun_27 : decode cX11_longestRun 27 = .ok (.istore_n 2, 1) := by decide +kernel
theorem dX11_longestRun_28 : decode cX11_longestRun 28 = .ok (.iload_n 1, 1) := by decide +kernel
theorem dX11_longestRun_29 : decode cX11_longestRun 29 = .ok (.iload_n 2, 1) := by decide +kernel
theorem dX11_longestRun_30 : decode cX11_longestRun 30 = .ok (.invokestatic 342, 3) := by decide +kernel
theorem dX11_longestRun_33 : decode cX11_longestRun 33 = .ok (.istore_n 1, 1) := by decide +kernel
theorem dX11_longestRun_34 : decode cX11_longestRun 34 = .ok (.iinc 3 1, 3) := by decide +kernel
theorem dX11_longestRun_37 : decode cX11_longestRun 37 = .ok (.goto (-31), 3) := by decide +kernel
theorem dX11_longestRun_40 : decode cX11_longestRun 40 = .ok (.iload_n 1, 1) := by decide +kernel
theorem dX11_longestRun_41 : decode cX11_longestRun 41 = .ok (.ireturn, 1) := by decide +kernel
theorem dL_cell_0 : decode cL_cell 0 = .ok (.iload_n 1, 1) := by decide +kernel
theorem dL_cell_1 : decode cL_cell 1 = .ok (.aload_n 0, 1) := by decide +kernel
theorem dL_cell_2 : decode cL_cell 2 = .ok (.arraylength, 1) := by decide +kernel
theorem dL_cell_3 : decode cL_cell 3 = .ok (.if_icmp .ge 12, 3) := by decide +kernel
theorem dL_cell_6 : decode cL_cell 6 = .ok (.aload_n 0, 1) := by decide +kernel
theorem dL_cell_7 : decode cL_cell 7 = .ok (.iload_n 1, 1) := by decide +kernel
theorem dL_cell_8 : decode cL_cell 8 = .ok (.iaload, 1) := by decide +kernel
theorem dL_cell_9 : decode cL_cell 9 = .ok (.ldc 7, 2) := by decide +kernel
theorem dL_cell_11 : decode cL_cell 11 = .ok (.iand, 1) := by decide +kernel
theorem dL_cell_12 : decode cL_cell 12 = .ok (.goto 8, 3) := by decide +kernel
theorem dL_cell_15 : decode cL_cell 15 = .ok (.iload_n 1, 1) := by decide +kernel
theorem dL_cell_16 : decode cL_cell 16 = .ok (.sipush 9151, 3) := by decide +kernel
theorem dL_cell_19 : decode cL_cell 19 = .ok (.imul, 1) := by decide +kernel
theorem dL_cell_20 : decode cL_cell 20 = .ok (.ireturn, 1) := by decide +kernel
theorem dL_tell_0 : decode cL_tell 0 = .ok (.iconst 0, 1) := by decide +kernel
theorem dL_tell_1 : decode cL_tell 1 = .ok (.istore_n 2, 1) := by decide +kernel
theorem dL_tell_2 : decode cL_tell 2 = .ok (.iload_n 2, 1) := by decide +kernel
theorem dL_tell_3 : decode cL_tell 3 = .ok (.aload_n 1, 1) := by decide +kernel
theorem dL_tell_4 : decode cL_tell 4 = .ok (.invokevirtual 8, 3) := by decide +kernel
theorem dL_tell_7 : decode cL_tell 7 = .ok (.if_icmp .ge 26, 3) := by decide +kernel
theorem dL_tell_10 : decode cL_tell 10 = .ok (.aload_n 0, 1) := by decide +kernel
theorem dL_tell_11 : decode cL_tell 11 = .ok (.aload_n 1, 1) := by decide +kernel
theorem dL_tell_12 : decode cL_tell 12 = .ok (.iload_n 2, 1) := by decide +kernel
theorem dL_tell_13 : decode cL_tell 13 = .ok (.invokevirtual 14, 3) := by decide +kernel
theorem dL_tell_16 : decode cL_tell 16 = .ok (.invokevirtual 18, 3) := by decide +kernel
theorem dL_tell_19 : decode cL_tell 19 = .ok (.iload_n 2, 1) := by decide +kernel
theorem dL_tell_20 : decode cL_tell 20 = .ok (.iconst 1, 1) := by decide +kernel
theorem dL_tell_21 : decode cL_tell 21 = .ok (.iadd, 1) := by decide +kernel
theorem dL_tell_22 : decode cL_tell 22 = .ok (.if_icmp .eq 5, 3) := by decide +kernel
theorem dL_tell_25 : decode cL_tell 25 = .ok (.iconst 0, 1) := by decide +kernel
theorem dL_tell_26 : decode cL_tell 26 = .ok (.ireturn, 1) := by decide +kernel
theorem dL_tell_27 : decode cL_tell 27 = .ok (.iinc 2 1, 3) := by decide +kernel
theorem dL_tell_30 : decode cL_tell 30 = .ok (.goto (-28), 3) := by decide +kernel
theorem dL_tell_33 : decode cL_tell 33 = .ok (.aload_n 0, 1) := by decide +kernel
theorem dL_tell_34 : decode cL_tell 34 = .ok (.iconst 5, 1) := by decide +kernel
theorem dL_tell_35 : decode cL_tell 35 = .ok (.invokevirtual 24, 3) := by decide +kernel
theorem dL_tell_38 : decode cL_tell 38 = .ok (.aload_n 1, 1) := by decide +kernel
theorem dL_tell_39 : decode cL_tell 39 = .ok (.invokevirtual 8, 3) := by decide +kernel
theorem dL_tell_42 : decode cL_tell 42 = .ok (.if_icmp .ne 7, 3) := by decide +kernel
theorem dL_tell_45 : decode cL_tell 45 = .ok (.iconst 1, 1) := by decide +kernel
theorem dL_tell_46 : decode cL_tell 46 = .ok (.goto 4, 3) := by decide +kernel
theorem dL_tell_49 : decode cL_tell 49 = .ok (.iconst 0, 1) := by decide +kernel
theorem dL_tell_50 : decode cL_tell 50 = .ok (.ireturn, 1) := by decide +kernel
theorem dL_arms_0 : decode cL_arms 0 = .ok (.new 27, 3) := by decide +kernel
theorem dL_arms_3 : decode cL_arms 3 = .ok (.dup, 1) := by decide +kernel
theorem dL_arms_4 : decode cL_arms 4 = .ok (.invokespecial 29, 3) := by decide +kernel
theorem dL_arms_7 : decode cL_arms 7 = .ok (.iconst 1, 1) := by decide +kernel
theorem dL_arms_8 : decode cL_arms 8 = .ok (.iload_n 0, 1) := by decide +kernel
theorem dL_arms_9 : decode cL_arms 9 = .ok (.bipush 7, 2) := by decide +kernel
theorem dL_arms_11 : decode cL_arms 11 = .ok (.irem, 1) := by decide +kernel
theorem dL_arms_12 : decode cL_arms 12 = .ok (.iadd, 1) := by decide +kernel
theorem dL_arms_13 : decode cL_arms 13 = .ok (.invokevirtual 30, 3) := by decide +kernel
theorem dL_arms_16 : decode cL_arms 16 = .ok (.ldc 34, 2) := by decide +kernel
theorem dL_arms_18 : decode cL_arms 18 = .ok (.invokevirtual 36, 3) := by decide +kernel
theorem dL_arms_21 : decode cL_arms 21 = .ok (.iconst 1, 1) := by decide +kernel
theorem dL_arms_22 : decode cL_arms 22 = .ok (.iload_n 0, 1) := by decide +kernel
theorem dL_arms_23 : decode cL_arms 23 = .ok (.iconst 3, 1) := by decide +kernel
theorem dL_arms_24 : decode cL_arms 24 = .ok (.ishr, 1) := by decide +kernel
theorem dL_arms_25 : decode cL_arms 25 = .ok (.bipush 20, 2) := by decide +kernel
theorem dL_arms_27 : decode cL_arms 27 = .ok (.irem, 1) := by decide +kernel
theorem dL_arms_28 : decode cL_arms 28 = .ok (.iadd, 1) := by decide +kernel
theorem dL_arms_29 : decode cL_arms 29 = .ok (.invokevirtual 30, 3) := by decide +kernel
theorem dL_arms_32 : decode cL_arms 32 = .ok (.invokevirtual 39, 3) := by decide +kernel
theorem dL_arms_35 : decode cL_arms 35 = .ok (.astore_n 1, 1) := by decide +kernel
theorem dL_arms_36 : decode cL_arms 36 = .ok (.iload_n 0, 1) := by decide +kernel
theorem dL_arms_37 : decode cL_arms 37 = .ok (.bipush 8, 2) := by decide +kernel
theorem dL_arms_39 : decode cL_arms 39 = .ok (.ishr, 1) := by decide +kernel
theorem dL_arms_40 : decode cL_arms 40 = .ok (.iconst 1, 1) := by decide +kernel
theorem dL_arms_41 : decode cL_arms 41 = .ok (.iand, 1) := by decide +kernel
theorem dL_arms_42 : decode cL_arms 42 = .ok (.iconst 1, 1) := by decide +kernel
theorem dL_arms_43 : decode cL_arms 43 = .ok (.if_icmp .ne 51, 3) := by decide +kernel
theorem dL_arms_46 : decode cL_arms 46 = .ok (.new 27, 3) := by decide +kernel
theorem dL_arms_49 : decode cL_arms 49 = .ok (.dup, 1) := by decide +kernel
theorem dL_arms_50 : decode cL_arms 50 = .ok (.invokespecial 29, 3) := by decide +kernel
theorem dL_arms_53 : decode cL_arms 53 = .ok (.aload_n 1, 1) := by decide +kernel
theorem dL_arms_54 : decode cL_arms 54 = .ok (.invokevirtual 36, 3) := by decide +kernel
theorem dL_arms_57 : decode cL_arms 57 = .ok (.ldc 43, 2) := by decide +kernel
theorem dL_arms_59 : decode cL_arms 59 = .ok (.invokevirtual 36, 3) := by decide +kernel
theorem dL_arms_62 : decode cL_arms 62 = .ok (.iconst 1, 1) := by decide +kernel
theorem dL_arms_63 : decode cL_arms 63 = .ok (.iload_n 0, 1) := by decide +kernel
theorem dL_arms_64 : decode cL_arms 64 = .ok (.bipush 9, 2) := by decide +kernel
theorem dL_arms_66 : decode cL_arms 66 = .ok (.ishr, 1) := by decide +kernel
theorem dL_arms_67 : decode cL_arms 67 = .ok (.iconst 5, 1) := by decide +kernel
theorem dL_arms_68 : decode cL_arms 68 = .ok (.irem, 1) := by decide +kernel
theorem dL_arms_69 : decode cL_arms 69 = .ok (.iadd, 1) := by decide +kernel
theorem dL_arms_70 : decode cL_arms 70 = .ok (.invokevirtual 30, 3) := by decide +kernel
theorem dL_arms_73 : decode cL_arms 73 = .ok (.ldc 34, 2) := by decide +kernel
theorem dL_arms_75 : decode cL_arms 75 = .ok (.invokevirtual 36, 3) := by decide +kernel
theorem dL_arms_78 : decode cL_arms 78 = .ok (.iconst 1, 1) := by decide +kernel
theorem dL_arms_79 : decode cL_arms 79 = .ok (.iload_n 0, 1) := by decide +kernel
theorem dL_arms_80 : decode cL_arms 80 = .ok (.bipush 12, 2) := by decide +kernel
theorem dL_arms_82 : decode cL_arms 82 = .ok (.ishr, 1) := by decide +kernel
theorem dL_arms_83 : decode cL_arms 83 = .ok (.bipush 30, 2) := by decide +kernel
theorem dL_arms_85 : decode cL_arms 85 = .ok (.irem, 1) := by decide +kernel
theorem dL_arms_86 : decode cL_arms 86 = .ok (.iadd, 1) := by decide +kernel
theorem dL_arms_87 : decode cL_arms 87 = .ok (.invokevirtual 30, 3) := by decide +kernel
theorem dL_arms_90 : decode cL_arms 90 = .ok (.invokevirtual 39, 3) := by decide +kernel
theorem dL_arms_93 : decode cL_arms 93 = .ok (.astore_n 1, 1) := by decide +kernel
theorem dL_arms_94 : decode cL_arms 94 = .ok (.iload_n 0, 1) := by decide +kernel
theorem dL_arms_95 : decode cL_arms 95 = .ok (.bipush 17, 2) := by decide +kernel
theorem dL_arms_97 : decode cL_arms 97 = .ok (.ishr, 1) := by decide +kernel
theorem dL_arms_98 : decode cL_arms 98 = .ok (.iconst 3, 1) := by decide +kernel
theorem dL_arms_99 : decode cL_arms 99 = .ok (.iand, 1) := by decide +kernel
theorem dL_arms_100 : decode cL_arms 100 = .ok (.iconst 1, 1) := by decide +kernel
theorem dL_arms_101 : decode cL_arms 101 = .ok (.if_icmp .ne 52, 3) := by decide +kernel
theorem dL_arms_104 : decode cL_arms 104 = .ok (.new 27, 3) := by decide +kernel
theorem dL_arms_107 : decode cL_arms 107 = .ok (.dup, 1) := by decide +kernel
theorem dL_arms_108 : decode cL_arms 108 = .ok (.invokespecial 29, 3) := by decide +kernel
theorem dL_arms_111 : decode cL_arms 111 = .ok (.aload_n 1, 1) := by decide +kernel
theorem dL_arms_112 : decode cL_arms 112 = .ok (.invokevirtual 36, 3) := by decide +kernel
theorem dL_arms_115 : decode cL_arms 115 = .ok (.ldc 43, 2) := by decide +kernel
theorem dL_arms_117 : decode cL_arms 117 = .ok (.invokevirtual 36, 3) := by decide +kernel
theorem dL_arms_120 : decode cL_arms 120 = .ok (.iconst 1, 1) := by decide +kernel
theorem dL_arms_121 : decode cL_arms 121 = .ok (.iload_n 0, 1) := by decide +kernel
theorem dL_arms_122 : decode cL_arms 122 = .ok (.bipush 19, 2) := by decide +kernel
theorem dL_arms_124 : decode cL_arms 124 = .ok (.ishr, 1) := by decide +kernel
theorem dL_arms_125 : decode cL_arms 125 = .ok (.bipush 16, 2) := by decide +kernel
theorem dL_arms_127 : decode cL_arms 127 = .ok (.irem, 1) := by decide +kernel
theorem dL_arms_128 : decode cL_arms 128 = .ok (.iadd, 1) := by decide +kernel
theorem dL_arms_129 : decode cL_arms 129 = .ok (.invokevirtual 30, 3) := by decide +kernel
theorem dL_arms_132 : decode cL_arms 132 = .ok (.ldc 34, 2) := by decide +kernel
theorem dL_arms_134 : decode cL_arms 134 = .ok (.invokevirtual 36, 3) := by decide +kernel
theorem dL_arms_137 : decode cL_arms 137 = .ok (.iconst 1, 1) := by decide +kernel
theorem dL_arms_138 : decode cL_arms 138 = .ok (.iload_n 0, 1) := by decide +kernel
theorem dL_arms_139 : decode cL_arms 139 = .ok (.bipush 20, 2) := by decide +kernel
theorem dL_arms_141 : decode cL_arms 141 = .ok (.ishr, 1) := by decide +kernel
theorem dL_arms_142 : decode cL_arms 142 = .ok (.bipush 9, 2) := by decide +kernel
theorem dL_arms_144 : decode cL_arms 144 = .ok (.irem, 1) := by decide +kernel
theorem dL_arms_145 : decode cL_arms 145 = .ok (.iadd, 1) := by decide +kernel
theorem dL_arms_146 : decode cL_arms 146 = .ok (.invokevirtual 30, 3) := by decide +kernel
theorem dL_arms_149 : decode cL_arms 149 = .ok (.invokevirtual 39, 3) := by decide +kernel
theorem dL_arms_152 : decode cL_arms 152 = .ok (.astore_n 1, 1) := by decide +kernel
theorem dL_arms_153 : decode cL_arms 153 = .ok (.aload_n 1, 1) := by decide +kernel
theorem dL_arms_154 : decode cL_arms 154 = .ok (.areturn, 1) := by decide +kernel
