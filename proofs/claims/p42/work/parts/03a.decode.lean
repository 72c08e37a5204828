theorem dX0_init_0 : decode cX0_init 0 = .ok (.aload_n 0, 1) := by decide +kernel
theorem dX0_init_1 : decode cX0_init 1 = .ok (.invokespecial 3, 3) := by decide +kernel
theorem dX0_init_4 : decode cX0_init 4 = .ok (.aload_n 0, 1) := by decide +kernel
theorem dX0_init_5 : decode cX0_init 5 = .ok (.sipush 320, 3) := by decide +kernel
theorem dX0_init_8 : decode cX0_init 8 = .ok (.newarray .int, 2) := by decide +kernel
theorem dX0_init_10 : decode cX0_init 10 = .ok (.putfield 9, 3) := by decide +kernel
theorem dX0_init_13 : decode cX0_init 13 = .ok (.aload_n 0, 1) := by decide +kernel
theorem dX0_init_14 : decode cX0_init 14 = .ok (.sipush 320, 3) := by decide +kernel
theorem dX0_init_17 : decode cX0_init 17 = .ok (.newarray .int, 2) := by decide +kernel
theorem dX0_init_19 : decode cX0_init 19 = .ok (.putfield 15, 3) := by decide +kernel
theorem dX0_init_22 : decode cX0_init 22 = .ok (.aload_n 0, 1) := by decide +kernel
theorem dX0_init_23 : decode cX0_init 23 = .ok (.sipush 320, 3) := by decide +kernel
theorem dX0_init_26 : decode cX0_init 26 = .ok (.newarray .int, 2) := by decide +kernel
theorem dX0_init_28 : decode cX0_init 28 = .ok (.putfield 18, 3) := by decide +kernel
theorem dX0_init_31 : decode cX0_init 31 = .ok (.aload_n 0, 1) := by decide +kernel
theorem dX0_init_32 : decode cX0_init 32 = .ok (.sipush 320, 3) := by decide +kernel
theorem dX0_init_35 : decode cX0_init 35 = .ok (.newarray .int, 2) := by decide +kernel
theorem dX0_init_37 : decode cX0_init 37 = .ok (.putfield 21, 3) := by decide +kernel
theorem dX0_init_40 : decode cX0_init 40 = .ok (.aload_n 0, 1) := by decide +kernel
theorem dX0_init_41 : decode cX0_init 41 = .ok (.sipush 320, 3) := by decide +kernel
theorem dX0_init_44 : decode cX0_init 44 = .ok (.newarray .int, 2) := by decide +kernel
theorem dX0_init_46 : decode cX0_init 46 = .ok (.putfield 24, 3) := by decide +kernel
theorem dX0_init_49 : decode cX0_init 49 = .ok (.aload_n 0, 1) := by decide +kernel
theorem dX0_init_50 : decode cX0_init 50 = .ok (.bipush 16, 2) := by decide +kernel
theorem dX0_init_52 : decode cX0_init 52 = .ok (.newarray .int, 2) := by decide +kernel
theorem dX0_init_54 : decode cX0_init 54 = .ok (.putfield 27, 3) := by decide +kernel
theorem dX0_init_57 : decode cX0_init 57 = .ok (.aload_n 0, 1) := by decide +kernel
theorem dX0_init_58 : decode cX0_init 58 = .ok (.getfield 27, 3) := by decide +kernel
theorem dX0_init_61 : decode cX0_init 61 = .ok (.iconst (-1), 1) := by decide +kernel
theorem dX0_init_62 : decode cX0_init 62 = .ok (.invokestatic 30, 3) := by decide +kernel
theorem dX0_init_65 : decode cX0_init 65 = .ok (.return_, 1) := by decide +kernel
theorem dX0_holds_0 : decode cX0_holds 0 = .ok (.aload_n 0, 1) := by decide +kernel
theorem dX0_holds_1 : decode cX0_holds 1 = .ok (.getfield 18, 3) := by decide +kernel
theorem dX0_holds_4 : decode cX0_holds 4 = .ok (.iload_n 1, 1) := by decide +kernel
theorem dX0_holds_5 : decode cX0_holds 5 = .ok (.iaload, 1) := by decide +kernel
theorem dX0_holds_6 : decode cX0_holds 6 = .ok (.iconst (-1), 1) := by decide +kernel
theorem dX0_holds_7 : decode cX0_holds 7 = .ok (.if_icmp .eq 22, 3) := by decide +kernel
theorem dX0_holds_10 : decode cX0_holds 10 = .ok (.aload_n 0, 1) := by decide +kernel
theorem dX0_holds_11 : decode cX0_holds 11 = .ok (.getfield 27, 3) := by decide +kernel
theorem dX0_holds_14 : decode cX0_holds 14 = .ok (.aload_n 0, 1) := by decide +kernel
theorem dX0_holds_15 : decode cX0_holds 15 = .ok (.getfield 18, 3) := by decide +kernel
theorem dX0_holds_18 : decode cX0_holds 18 = .ok (.iload_n 1, 1) := by decide +kernel
theorem dX0_holds_19 : decode cX0_holds 19 = .ok (.iaload, 1) := by decide +kernel
theorem dX0_holds_20 : decode cX0_holds 20 = .ok (.iaload, 1) := by decide +kernel
theorem dX0_holds_21 : decode cX0_holds 21 = .ok (.iload_n 1, 1) := by decide +kernel
theorem dX0_holds_22 : decode cX0_holds 22 = .ok (.if_icmp .ne 7, 3) := by decide +kernel
theorem dX0_holds_25 : decode cX0_holds 25 = .ok (.iconst 1, 1) := by decide +kernel
theorem dX0_holds_26 : decode cX0_holds 26 = .ok (.goto 4, 3) := by decide +kernel
theorem dX0_holds_29 : decode cX0_holds 29 = .ok (.iconst 0, 1) := by decide +kernel
theorem dX0_holds_30 : decode cX0_holds 30 = .ok (.ireturn, 1) := by decide +kernel
theorem dX0_jobOn_0 : decode cX0_jobOn 0 = .ok (.aload_n 0, 1) := by decide +kernel
theorem dX0_jobOn_1 : decode cX0_jobOn 1 = .ok (.getfield 27, 3) := by decide +kernel
theorem dX0_jobOn_4 : decode cX0_jobOn 4 = .ok (.iload_n 1, 1) := by decide +kernel
theorem dX0_jobOn_5 : decode cX0_jobOn 5 = .ok (.iaload, 1) := by decide +kernel
theorem dX0_jobOn_6 : decode cX0_jobOn 6 = .ok (.iconst (-1), 1) := by decide +kernel
theorem dX0_jobOn_7 : decode cX0_jobOn 7 = .ok (.if_icmp .ne 7, 3) := by decide +kernel
theorem dX0_jobOn_10 : decode cX0_jobOn 10 = .ok (.iconst (-1), 1) := by decide +kernel
theorem dX0_jobOn_11 : decode cX0_jobOn 11 = .ok (.goto 11, 3) := by decide +kernel
theorem dX0_jobOn_14 : decode cX0_jobOn 14 = .ok (.aload_n 0, 1) := by decide +kernel
theorem dX0_jobOn_15 : decode cX0_jobOn 15 = .ok (.getfield 27, 3) := by decide +kernel
theorem dX0_jobOn_18 : decode cX0_jobOn 18 = .ok (.iload_n 1, 1) := by decide +kernel
theorem dX0_jobOn_19 : decode cX0_jobOn 19 = .ok (.iaload, 1) := by decide +kernel
theorem dX0_jobOn_20 : decode cX0_jobOn 20 = .ok (.iconst 4, 1) := by decide +kernel
theorem dX0_jobOn_21 : decode cX0_jobOn 21 = .ok (.idiv, 1) := by decide +kernel
theorem dX0_jobOn_22 : decode cX0_jobOn 22 = .ok (.ireturn, 1) := by decide +kernel
theorem dX0_own_0 : decode cX0_own 0 = .ok (.aload_n 0, 1) := by decide +kernel
theorem dX0_own_1 : decode cX0_own 1 = .ok (.getfield 18, 3) := by decide +kernel
theorem dX0_own_4 : decode cX0_own 4 = .ok (.iload_n 1, 1) := by decide +kernel
theorem dX0_own_5 : decode cX0_own 5 = .ok (.iaload, 1) := by decide +kernel
theorem dX0_own_6 : decode cX0_own 6 = .ok (.istore_n 3, 1) := by decide +kernel
theorem dX0_own_7 : decode cX0_own 7 = .ok (.iload_n 3, 1) := by decide +kernel
theorem dX0_own_8 : decode cX0_own 8 = .ok (.aload_n 0, 1) := by decide +kernel
theorem dX0_own_9 : decode cX0_own 9 = .ok (.getfield 18, 3) := by decide +kernel
theorem dX0_own_12 : decode cX0_own 12 = .ok (.iload_n 1, 1) := by decide +kernel
theorem dX0_own_13 : decode cX0_own 13 = .ok (.iaload, 1) := by decide +kernel
theorem dX0_own_14 : decode cX0_own 14 = .ok (.aload_n 0, 1) := by decide +kernel
theorem dX0_own_15 : decode cX0_own 15 = .ok (.getfield 9, 3) := by decide +kernel
theorem dX0_own_18 : decode cX0_own 18 = .ok (.iload_n 1, 1) := by decide +kernel
theorem dX0_own_19 : decode cX0_own 19 = .ok (.iaload, 1) := by decide +kernel
theorem dX0_own_20 : decode cX0_own 20 = .ok (.iadd, 1) := by decide +kernel
theorem dX0_own_21 : decode cX0_own 21 = .ok (.if_icmp .ge 16, 3) := by decide +kernel
theorem dX0_own_24 : decode cX0_own 24 = .ok (.aload_n 0, 1) := by decide +kernel
theorem dX0_own_25 : decode cX0_own 25 = .ok (.getfield 27, 3) := by decide +kernel
theorem dX0_own_28 : decode cX0_own 28 = .ok (.iload_n 3, 1) := by decide +kernel
theorem dX0_own_29 : decode cX0_own 29 = .ok (.iload_n 2, 1) := by decide +kernel
theorem dX0_own_30 : decode cX0_own 30 = .ok (.iastore, 1) := by decide +kernel
theorem dX0_own_31 : decode cX0_own 31 = .ok (.iinc 3 1, 3) := by decide +kernel
theorem dX0_own_34 : decode cX0_own 34 = .ok (.goto (-27), 3) := by decide +kernel
theorem dX0_own_37 : decode cX0_own 37 = .ok (.return_, 1) := by decide +kernel
theorem dX0_idleColumns_0 : decode cX0_idleColumns 0 = .ok (.iconst 0, 1) := by decide +kernel
theorem dX0_idleColumns_1 : decode cX0_idleColumns 1 = .ok (.istore_n 1, 1) := by decide +kernel
theorem dX0_idleColumns_2 : decode cX0_idleColumns 2 = .ok (.iconst 0, 1) := by decide +kernel
theorem dX0_idleColumns_3 : decode cX0_idleColumns 3 = .ok (.istore_n 2, 1) := by decide +kernel
theorem dX0_idleColumns_4 : decode cX0_idleColumns 4 = .ok (.iload_n 2, 1) := by decide +kernel
theorem dX0_idleColumns_5 : decode cX0_idleColumns 5 = .ok (.bipush 16, 2) := by decide +kernel
theorem dX0_idleColumns_7 : decode cX0_idleColumns 7 = .ok (.if_icmp .ge 27, 3) := by decide +kernel
theorem dX0_idleColumns_10 : decode cX0_idleColumns 10 = .ok (.iload_n 1, 1) := by decide +kernel
theorem dX0_idleColumns_11 : decode cX0_idleColumns 11 = .ok (.aload_n 0, 1) := by decide +kernel
theorem dX0_idleColumns_12 : decode cX0_idleColumns 12 = .ok (.getfield 27, 3) := by decide +kernel
theorem dX0_idleColumns_15 : decode cX0_idleColumns 15 = .ok (.iload_n 2, 1) := by decide +kernel
theorem dX0_idleColumns_16 : decode cX0_idleColumns 16 = .ok (.iaload, 1) := by decide +kernel
theorem dX0_idleColumns_17 : decode cX0_idleColumns 17 = .ok (.iconst (-1), 1) := by decide +kernel
theorem dX0_idleColumns_18 : decode cX0_idleColumns 18 = .ok (.if_icmp .ne 7, 3) := by decide +kernel
theorem dX0_idleColumns_21 : decode cX0_idleColumns 21 = .ok (.iconst 1, 1) := by decide +kernel
theorem dX0_idleColumns_22 : decode cX0_idleColumns 22 = .ok (.goto 4, 3) := by decide +kernel
theorem dX0_idleColumns_25 : decode cX0_idleColumns 25 = .ok (.iconst 0, 1) := by decide +kernel
theorem dX0_idleColumns_26 : decode cX0_idleColumns 26 = .ok (.iadd, 1) := by decide +kernel
theorem dX0_idleColumns_27 : decode cX0_idleColumns 27 = .ok (.istore_n 1, 1) := by decide +kernel
theorem dX0_idleColumns_28 : decode cX0_idleColumns 28 = .ok (.iinc 2 1, 3) := by decide +kernel
theorem dX0_idleColumns_31 : decode cX0_idleColumns 31 = .ok (.goto (-27), 3) := by decide +kernel
theorem dX0_idleColumns_34 : decode cX0_idleColumns 34 = .ok (.iload_n 1, 1) := by decide +kernel
theorem dX0_idleColumns_35 : decode cX0_idleColumns 35 = .ok (.ireturn, 1) := by decide +kernel
theorem dX0_copyFrom_0 : decode cX0_copyFrom 0 = .ok (.iload_n 2, 1) := by decide +kernel
theorem dX0_copyFrom_1 : decode cX0_copyFrom 1 = .ok (.iconst 4, 1) := by decide +kernel
theorem dX0_copyFrom_2 : decode cX0_copyFrom 2 = .ok (.imul, 1) := by decide +kernel
theorem dX0_copyFrom_3 : decode cX0_copyFrom 3 = .ok (.istore_n 3, 1) := by decide +kernel
theorem dX0_copyFrom_4 : decode cX0_copyFrom 4 = .ok (.aload_n 1, 1) := by decide +kernel
theorem dX0_copyFrom_5 : decode cX0_copyFrom 5 = .ok (.getfield 9, 3) := by decide +kernel
theorem dX0_copyFrom_8 : decode cX0_copyFrom 8 = .ok (.iconst 0, 1) := by decide +kernel
theorem dX0_copyFrom_9 : decode cX0_copyFrom 9 = .ok (.aload_n 0, 1) := by decide +kernel
theorem dX0_copyFrom_10 : decode cX0_copyFrom 10 = .ok (.getfield 9, 3) := by decide +kernel
theorem dX0_copyFrom_13 : decode cX0_copyFrom 13 = .ok (.iconst 0, 1) := by decide +kernel
theorem dX0_copyFrom_14 : decode cX0_copyFrom 14 = .ok (.iload_n 3, 1) := by decide +kernel
theorem dX0_copyFrom_15 : decode cX0_copyFrom 15 = .ok (.invokestatic 36, 3) := by decide +kernel
theorem dX0_copyFrom_18 : decode cX0_copyFrom 18 = .ok (.aload_n 1, 1) := by decide +kernel
theorem dX0_copyFrom_19 : decode cX0_copyFrom 19 = .ok (.getfield 15, 3) := by decide +kernel
theorem dX0_copyFrom_22 : decode cX0_copyFrom 22 = .ok (.iconst 0, 1) := by decide +kernel
theorem dX0_copyFrom_23 : decode cX0_copyFrom 23 = .ok (.aload_n 0, 1) := by decide +kernel
theorem dX0_copyFrom_24 : decode cX0_copyFrom 24 = .ok (.getfield 15, 3) := by decide +kernel
theorem dX0_copyFrom_27 : decode cX0_copyFrom 27 = .ok (.iconst 0, 1) := by decide +kernel
theorem dX0_copyFrom_28 : decode cX0_copyFrom 28 = .ok (.iload_n 3, 1) := by decide +kernel
theorem dX0_copyFrom_29 : decode cX0_copyFrom 29 = .ok (.invokestatic 36, 3) := by decide +kernel
theorem dX0_copyFrom_32 : decode cX0_copyFrom 32 = .ok (.aload_n 1, 1) := by decide +kernel
theorem dX0_copyFrom_33 : decode cX0_copyFrom 33 = .ok (.getfield 18, 3) := by decide +kernel
theorem dX0_copyFrom_36 : decode cX0_copyFrom 36 = .ok (.iconst 0, 1) := by decide +kernel
theorem dX0_copyFrom_37 : decode cX0_copyFrom 37 = .ok (.aload_n 0, 1) := by decide +kernel
theorem dX0_copyFrom_38 : decode cX0_copyFrom 38 = .ok (.getfield 18, 3) := by decide +kernel
theorem dX0_copyFrom_41 : decode cX0_copyFrom 41 = .ok (.iconst 0, 1) := by decide +kernel
theorem dX0_copyFrom_42 : decode cX0_copyFrom 42 = .ok (.iload_n 3, 1) := by decide +kernel
theorem dX0_copyFrom_43 : decode cX0_copyFrom 43 = .ok (.invokestatic 36, 3) := by decide +kernel
theorem dX0_copyFrom_46 : decode cX0_copyFrom 46 = .ok (.aload_n 1, 1) := by decide +kernel
theorem dX0_copyFrom_47 : decode cX0_copyFrom 47 = .ok (.getfield 21, 3) := by decide +kernel
theorem dX0_copyFrom_50 : decode cX0_copyFrom 50 = .ok (.iconst 0, 1) := by decide +kernel
theorem dX0_copyFrom_51 : decode cX0_copyFrom 51 = .ok (.aload_n 0, 1) := by decide +kernel
theorem dX0_copyFrom_52 : decode cX0_copyFrom 52 = .ok (.getfield 21, 3) := by decide +kernel
theorem dX0_copyFrom_55 : decode cX0_copyFrom 55 = .ok (.iconst 0, 1) := by decide +kernel
theorem dX0_copyFrom_56 : decode cX0_copyFrom 56 = .ok (.iload_n 3, 1) := by decide +kernel
theorem dX0_copyFrom_57 : decode cX0_copyFrom 57 = .ok (.invokestatic 36, 3) := by decide +kernel
theorem dX0_copyFrom_60 : decode cX0_copyFrom 60 = .ok (.aload_n 1, 1) := by decide +kernel
theorem dX0_copyFrom_61 : decode cX0_copyFrom 61 = .ok (.getfield 24, 3) := by decide +kernel
theorem dX0_copyFrom_64 : decode cX0_copyFrom 64 = .ok (.iconst 0, 1) := by decide +kernel
theorem dX0_copyFrom_65 : decode cX0_copyFrom 65 = .ok (.aload_n 0, 1) := by decide +kernel
theorem dX0_copyFrom_66 : decode cX0_copyFrom 66 = .ok (.getfield 24, 3) := by decide +kernel
theorem dX0_copyFrom_69 : decode cX0_copyFrom 69 = .ok (.iconst 0, 1) := by decide +kernel
theorem dX0_copyFrom_70 : decode cX0_copyFrom 70 = .ok (.iload_n 3, 1) := by decide +kernel
theorem dX0_copyFrom_71 : decode cX0_copyFrom 71 = .ok (.invokestatic 36, 3) := by decide +kernel
theorem dX0_copyFrom_74 : decode cX0_copyFrom 74 = .ok (.aload_n 1, 1) := by decide +kernel
theorem dX0_copyFrom_75 : decode cX0_copyFrom 75 = .ok (.getfield 27, 3) := by decide +kernel
theorem dX0_copyFrom_78 : decode cX0_copyFrom 78 = .ok (.iconst 0, 1) := by decide +kernel
theorem dX0_copyFrom_79 : decode cX0_copyFrom 79 = .ok (.aload_n 0, 1) := by decide +kernel
theorem dX0_copyFrom_80 : decode cX0_copyFrom 80 = .ok (.getfield 27, 3) := by decide +kernel
theorem dX0_copyFrom_83 : decode cX0_copyFrom 83 = .ok (.iconst 0, 1) := by decide +kernel
theorem dX0_copyFrom_84 : decode cX0_copyFrom 84 = .ok (.bipush 16, 2) := by decide +kernel
theorem dX0_copyFrom_86 : decode cX0_copyFrom 86 = .ok (.invokestatic 36, 3) := by decide +kernel
theorem dX0_copyFrom_89 : decode cX0_copyFrom 89 = .ok (.return_, 1) := by decide +kernel
theorem dX1_init_0 : decode cX1_init 0 = .ok (.aload_n 0, 1) := by decide +kernel
theorem dX1_init_1 : decode cX1_init 1 = .ok (.invokespecial 3, 3) := by decide +kernel
theorem dX1_init_4 : decode cX1_init 4 = .ok (.aload_n 0, 1) := by decide +kernel
theorem dX1_init_5 : decode cX1_init 5 = .ok (.bipush 44, 2) := by decide +kernel
theorem dX1_init_7 : decode cX1_init 7 = .ok (.newarray .int, 2) := by decide +kernel
theorem dX1_init_9 : decode cX1_init 9 = .ok (.putfield 11, 3) := by decide +kernel
theorem dX1_init_12 : decode cX1_init 12 = .ok (.aload_n 0, 1) := by decide +kernel
theorem dX1_init_13 : decode cX1_init 13 = .ok (.bipush 44, 2) := by decide +kernel
theorem dX1_init_15 : decode cX1_init 15 = .ok (.newarray .int, 2) := by decide +kernel
theorem dX1_init_17 : decode cX1_init 17 = .ok (.putfield 15, 3) := by decide +kernel
theorem dX1_init_20 : decode cX1_init 20 = .ok (.aload_n 0, 1) := by decide +kernel
theorem dX1_init_21 : decode cX1_init 21 = .ok (.bipush 44, 2) := by decide +kernel
theorem dX1_init_23 : decode cX1_init 23 = .ok (.newarray .int, 2) := by decide +kernel
theorem dX1_init_25 : decode cX1_init 25 = .ok (.putfield 18, 3) := by decide +kernel
theorem dX1_init_28 : decode cX1_init 28 = .ok (.aload_n 0, 1) := by decide +kernel
theorem dX1_init_29 : decode cX1_init 29 = .ok (.bipush 44, 2) := by decide +kernel
theorem dX1_init_31 : decode cX1_init 31 = .ok (.newarray .int, 2) := by decide +kernel
theorem dX1_init_33 : decode cX1_init 33 = .ok (.putfield 21, 3) := by decide +kernel
theorem dX1_init_36 : decode cX1_init 36 = .ok (.return_, 1) := by decide +kernel
theorem dX1_add_0 : decode cX1_add 0 = .ok (.aload_n 0, 1) := by decide +kernel
theorem dX1_add_1 : decode cX1_add 1 = .ok (.getfield 24, 3) := by decide +kernel
theorem dX1_add_4 : decode cX1_add 4 = .ok (.bipush 44, 2) := by decide +kernel
theorem dX1_add_6 : decode cX1_add 6 = .ok (.if_icmp .ge 54, 3) := by decide +kernel
theorem dX1_add_9 : decode cX1_add 9 = .ok (.aload_n 0, 1) := by decide +kernel
theorem dX1_add_10 : decode cX1_add 10 = .ok (.getfield 11, 3) := by decide +kernel
theorem dX1_add_13 : decode cX1_add 13 = .ok (.aload_n 0, 1) := by decide +kernel
theorem dX1_add_14 : decode cX1_add 14 = .ok (.getfield 24, 3) := by decide +kernel
theorem dX1_add_17 : decode cX1_add 17 = .ok (.iload_n 1, 1) := by decide +kernel
theorem dX1_add_18 : decode cX1_add 18 = .ok (.iastore, 1) := by decide +kernel
theorem dX1_add_19 : decode cX1_add 19 = .ok (.aload_n 0, 1) := by decide +kernel
theorem dX1_add_20 : decode cX1_add 20 = .ok (.getfield 15, 3) := by decide +kernel
theorem dX1_add_23 : decode cX1_add 23 = .ok (.aload_n 0, 1) := by decide +kernel
theorem dX1_add_24 : decode cX1_add 24 = .ok (.getfield 24, 3) := by decide +kernel
theorem dX1_add_27 : decode cX1_add 27 = .ok (.iload_n 2, 1) := by decide +kernel
theorem dX1_add_28 : decode cX1_add 28 = .ok (.iastore, 1) := by decide +kernel
theorem dX1_add_29 : decode cX1_add 29 = .ok (.aload_n 0, 1) := by decide +kernel
theorem dX1_add_30 : decode cX1_add 30 = .ok (.getfield 18, 3) := by decide +kernel
theorem dX1_add_33 : decode cX1_add 33 = .ok (.aload_n 0, 1) := by decide +kernel
theorem dX1_add_34 : decode cX1_add 34 = .ok (.getfield 24, 3) := by decide +kernel
theorem dX1_add_37 : decode cX1_add 37 = .ok (.iload_n 3, 1) := by decide +kernel
theorem dX1_add_38 : decode cX1_add 38 = .ok (.iastore, 1) := by decide +kernel
theorem dX1_add_39 : decode cX1_add 39 = .ok (.aload_n 0, 1) := by decide +kernel
theorem dX1_add_40 : decode cX1_add 40 = .ok (.getfield 21, 3) := by decide +kernel
theorem dX1_add_43 : decode cX1_add 43 = .ok (.aload_n 0, 1) := by decide +kernel
theorem dX1_add_44 : decode cX1_add 44 = .ok (.getfield 24, 3) := by decide +kernel
theorem dX1_add_47 : decode cX1_add 47 = .ok (.iload 4, 2) := by decide +kernel
theorem dX1_add_49 : decode cX1_add 49 = .ok (.iastore, 1) := by decide +kernel
theorem dX1_add_50 : decode cX1_add 50 = .ok (.aload_n 0, 1) := by decide +kernel
theorem dX1_add_51 : decode cX1_add 51 = .ok (.dup, 1) := by decide +kernel
theorem dX1_add_52 : decode cX1_add 52 = .ok (.getfield 24, 3) := by decide +kernel
theorem dX1_add_55 : decode cX1_add 55 = .ok (.iconst 1, 1) := by decide +kernel
theorem dX1_add_56 : decode cX1_add 56 = .ok (.iadd, 1) := by decide +kernel
theorem dX1_add_57 : decode cX1_add 57 = .ok (.putfield 24, 3) := by decide +kernel
theorem dX1_add_60 : decode cX1_add 60 = .ok (.return_, 1) := by decide +kernel
theorem dX1_loadHeld_0 : decode cX1_loadHeld 0 = .ok (.aload_n 0, 1) := by decide +kernel
theorem dX1_loadHeld_1 : decode cX1_loadHeld 1 = .ok (.iconst 0, 1) := by decide +kernel
theorem dX1_loadHeld_2 : decode cX1_loadHeld 2 = .ok (.putfield 24, 3) := by decide +kernel
theorem dX1_loadHeld_5 : decode cX1_loadHeld 5 = .ok (.iconst 0, 1) := by decide +kernel
theorem dX1_loadHeld_6 : decode cX1_loadHeld 6 = .ok (.istore 4, 2) := by decide +kernel
theorem dX1_loadHeld_8 : decode cX1_loadHeld 8 = .ok (.iload 4, 2) := by decide +kernel
theorem dX1_loadHeld_10 : decode cX1_loadHeld 10 = .ok (.bipush 16, 2) := by decide +kernel
theorem dX1_loadHeld_12 : decode cX1_loadHeld 12 = .ok (.if_icmp .ge 84, 3) := by decide +kernel
theorem dX1_loadHeld_15 : decode cX1_loadHeld 15 = .ok (.aload_n 1, 1) := by decide +kernel
theorem dX1_loadHeld_16 : decode cX1_loadHeld 16 = .ok (.getfield 28, 3) := by decide +kernel
theorem dX1_loadHeld_19 : decode cX1_loadHeld 19 = .ok (.getfield 34, 3) := by decide +kernel
theorem dX1_loadHeld_22 : decode cX1_loadHeld 22 = .ok (.iload 4, 2) := by decide +kernel
theorem dX1_loadHeld_24 : decode cX1_loadHeld 24 = .ok (.iaload, 1) := by decide +kernel
theorem dX1_loadHeld_25 : decode cX1_loadHeld 25 = .ok (.istore 5, 2) := by decide +kernel
theorem dX1_loadHeld_27 : decode cX1_loadHeld 27 = .ok (.iload 5, 2) := by decide +kernel
theorem dX1_loadHeld_29 : decode cX1_loadHeld 29 = .ok (.iconst (-1), 1) := by decide +kernel
theorem dX1_loadHeld_30 : decode cX1_loadHeld 30 = .ok (.if_icmp .eq 60, 3) := by decide +kernel
theorem dX1_loadHeld_33 : decode cX1_loadHeld 33 = .ok (.aload_n 1, 1) := by decide +kernel
theorem dX1_loadHeld_34 : decode cX1_loadHeld 34 = .ok (.getfield 28, 3) := by decide +kernel
theorem dX1_loadHeld_37 : decode cX1_loadHeld 37 = .ok (.getfield 39, 3) := by decide +kernel
theorem dX1_loadHeld_40 : decode cX1_loadHeld 40 = .ok (.iload 5, 2) := by decide +kernel
theorem dX1_loadHeld_42 : decode cX1_loadHeld 42 = .ok (.iaload, 1) := by decide +kernel
theorem dX1_loadHeld_43 : decode cX1_loadHeld 43 = .ok (.iload 4, 2) := by decide +kernel
theorem dX1_loadHeld_45 : decode cX1_loadHeld 45 = .ok (.if_icmp .ne 45, 3) := by decide +kernel
theorem dX1_loadHeld_48 : decode cX1_loadHeld 48 = .ok (.iload 5, 2) := by decide +kernel
theorem dX1_loadHeld_50 : decode cX1_loadHeld 50 = .ok (.iload_n 2, 1) := by decide +kernel
theorem dX1_loadHeld_51 : decode cX1_loadHeld 51 = .ok (.if_icmp .eq 39, 3) := by decide +kernel
theorem dX1_loadHeld_54 : decode cX1_loadHeld 54 = .ok (.iload 5, 2) := by decide +kernel
theorem dX1_loadHeld_56 : decode cX1_loadHeld 56 = .ok (.iload_n 3, 1) := by decide +kernel
theorem dX1_loadHeld_57 : decode cX1_loadHeld 57 = .ok (.if_icmp .eq 33, 3) := by decide +kernel
theorem dX1_loadHeld_60 : decode cX1_loadHeld 60 = .ok (.aload_n 0, 1) := by decide +kernel
theorem dX1_loadHeld_61 : decode cX1_loadHeld 61 = .ok (.iload 4, 2) := by decide +kernel
theorem dX1_loadHeld_63 : decode cX1_loadHeld 63 = .ok (.aload_n 1, 1) := by decide +kernel
theorem dX1_loadHeld_64 : decode cX1_loadHeld 64 = .ok (.getfield 28, 3) := by decide +kernel
theorem dX1_loadHeld_67 : decode cX1_loadHeld 67 = .ok (.getfield 42, 3) := by decide +kernel
theorem dX1_loadHeld_70 : decode cX1_loadHeld 70 = .ok (.iload 5, 2) := by decide +kernel
theorem dX1_loadHeld_72 : decode cX1_loadHeld 72 = .ok (.iaload, 1) := by decide +kernel
theorem dX1_loadHeld_73 : decode cX1_loadHeld 73 = .ok (.invokestatic 45, 3) := by decide +kernel
theorem dX1_loadHeld_76 : decode cX1_loadHeld 76 = .ok (.aload_n 1, 1) := by decide +kernel
theorem dX1_loadHeld_77 : decode cX1_loadHeld 77 = .ok (.getfield 49, 3) := by decide +kernel
theorem dX1_loadHeld_80 : decode cX1_loadHeld 80 = .ok (.aload_n 1, 1) := by decide +kernel
theorem dX1_loadHeld_81 : decode cX1_loadHeld 81 = .ok (.iload 5, 2) := by decide +kernel
theorem dX1_loadHeld_83 : decode cX1_loadHeld 83 = .ok (.invokevirtual 52, 3) := by decide +kernel
theorem dX1_loadHeld_86 : decode cX1_loadHeld 86 = .ok (.iconst (-1), 1) := by decide +kernel
theorem dX1_loadHeld_87 : decode cX1_loadHeld 87 = .ok (.invokevirtual 56, 3) := by decide +kernel
theorem dX1_loadHeld_90 : decode cX1_loadHeld 90 = .ok (.iinc 4 1, 3) := by decide +kernel
theorem dX1_loadHeld_93 : decode cX1_loadHeld 93 = .ok (.goto (-85), 3) := by decide +kernel
theorem dX1_loadHeld_96 : decode cX1_loadHeld 96 = .ok (.aload_n 1, 1) := by decide +kernel
theorem dX1_loadHeld_97 : decode cX1_loadHeld 97 = .ok (.getfield 60, 3) := by decide +kernel
theorem dX1_loadHeld_100 : decode cX1_loadHeld 100 = .ok (.astore 4, 2) := by decide +kernel
theorem dX1_loadHeld_102 : decode cX1_loadHeld 102 = .ok (.iconst 0, 1) := by decide +kernel
theorem dX1_loadHeld_103 : decode cX1_loadHeld 103 = .ok (.istore 5, 2) := by decide +kernel
theorem dX1_loadHeld_105 : decode cX1_loadHeld 105 = .ok (.iload 5, 2) := by decide +kernel
theorem dX1_loadHeld_107 : decode cX1_loadHeld 107 = .ok (.aload 4, 2) := by decide +kernel
theorem dX1_loadHeld_109 : decode cX1_loadHeld 109 = .ok (.getfield 64, 3) := by decide +kernel
theorem dX1_loadHeld_112 : decode cX1_loadHeld 112 = .ok (.if_icmp .ge 45, 3) := by decide +kernel
theorem dX1_loadHeld_115 : decode cX1_loadHeld 115 = .ok (.aload_n 0, 1) := by decide +kernel
theorem dX1_loadHeld_116 : decode cX1_loadHeld 116 = .ok (.aload 4, 2) := by decide +kernel
theorem dX1_loadHeld_118 : decode cX1_loadHeld 118 = .ok (.getfield 67, 3) := by decide +kernel
theorem dX1_loadHeld_121 : decode cX1_loadHeld 121 = .ok (.iload 5, 2) := by decide +kernel
theorem dX1_loadHeld_123 : decode cX1_loadHeld 123 = .ok (.iaload, 1) := by decide +kernel
theorem dX1_loadHeld_124 : decode cX1_loadHeld 124 = .ok (.aload 4, 2) := by decide +kernel
theorem dX1_loadHeld_126 : decode cX1_loadHeld 126 = .ok (.getfield 68, 3) := by decide +kernel
theorem dX1_loadHeld_129 : decode cX1_loadHeld 129 = .ok (.iload 5, 2) := by decide +kernel
theorem dX1_loadHeld_131 : decode cX1_loadHeld 131 = .ok (.iaload, 1) := by decide +kernel
theorem dX1_loadHeld_132 : decode cX1_loadHeld 132 = .ok (.aload 4, 2) := by decide +kernel
theorem dX1_loadHeld_134 : decode cX1_loadHeld 134 = .ok (.getfield 69, 3) := by decide +kernel
theorem dX1_loadHeld_137 : decode cX1_loadHeld 137 = .ok (.iload 5, 2) := by decide +kernel
theorem dX1_loadHeld_139 : decode cX1_loadHeld 139 = .ok (.iaload, 1) := by decide +kernel
theorem dX1_loadHeld_140 : decode cX1_loadHeld 140 = .ok (.aload 4, 2) := by decide +kernel
theorem dX1_loadHeld_142 : decode cX1_loadHeld 142 = .ok (.getfield 70, 3) := by decide +kernel
theorem dX1_loadHeld_145 : decode cX1_loadHeld 145 = .ok (.iload 5, 2) := by decide +kernel
theorem dX1_loadHeld_147 : decode cX1_loadHeld 147 = .ok (.iaload, 1) := by decide +kernel
theorem dX1_loadHeld_148 : decode cX1_loadHeld 148 = .ok (.invokevirtual 56, 3) := by decide +kernel
theorem dX1_loadHeld_151 : decode cX1_loadHeld 151 = .ok (.iinc 5 1, 3) := by decide +kernel
theorem dX1_loadHeld_154 : decode cX1_loadHeld 154 = .ok (.goto (-49), 3) := by decide +kernel
theorem dX1_loadHeld_157 : decode cX1_loadHeld 157 = .ok (.return_, 1) := by decide +kernel
theorem dX1_loadPromises_0 : decode cX1_loadPromises 0 = .ok (.iconst 0, 1) := by decide +kernel
theorem dX1_loadPromises_1 : decode cX1_loadPromises 1 = .ok (.istore 4, 2) := by decide +kernel
theorem dX1_loadPromises_3 : decode cX1_loadPromises 3 = .ok (.iload 4, 2) := by decide +kernel
theorem dX1_loadPromises_5 : decode cX1_loadPromises 5 = .ok (.aload_n 1, 1) := by decide +kernel
theorem dX1_loadPromises_6 : decode cX1_loadPromises 6 = .ok (.getfield 73, 3) := by decide +kernel
theorem dX1_loadPromises_9 : decode cX1_loadPromises 9 = .ok (.getfield 77, 3) := by decide +kernel
theorem dX1_loadPromises_12 : decode cX1_loadPromises 12 = .ok (.if_icmp .ge 42, 3) := by decide +kernel
theorem dX1_loadPromises_15 : decode cX1_loadPromises 15 = .ok (.aload_n 1, 1) := by decide +kernel
theorem dX1_loadPromises_16 : decode cX1_loadPromises 16 = .ok (.getfield 73, 3) := by decide +kernel
theorem dX1_loadPromises_19 : decode cX1_loadPromises 19 = .ok (.getfield 80, 3) := by decide +kernel
theorem dX1_loadPromises_22 : decode cX1_loadPromises 22 = .ok (.iload 4, 2) := by decide +kernel
theorem dX1_loadPromises_24 : decode cX1_loadPromises 24 = .ok (.iaload, 1) := by decide +kernel
theorem dX1_loadPromises_25 : decode cX1_loadPromises 25 = .ok (.iconst (-1), 1) := by decide +kernel
theorem dX1_loadPromises_26 : decode cX1_loadPromises 26 = .ok (.if_icmp .eq 22, 3) := by decide +kernel
theorem dX1_loadPromises_29 : decode cX1_loadPromises 29 = .ok (.iload 4, 2) := by decide +kernel
theorem dX1_loadPromises_31 : decode cX1_loadPromises 31 = .ok (.iload_n 2, 1) := by decide +kernel
theorem dX1_loadPromises_32 : decode cX1_loadPromises 32 = .ok (.if_icmp .eq 16, 3) := by decide +kernel
theorem dX1_loadPromises_35 : decode cX1_loadPromises 35 = .ok (.iload 4, 2) := by decide +kernel
theorem dX1_loadPromises_37 : decode cX1_loadPromises 37 = .ok (.iload_n 3, 1) := by decide +kernel
theorem dX1_loadPromises_38 : decode cX1_loadPromises 38 = .ok (.if_icmp .eq 10, 3) := by decide +kernel
theorem dX1_loadPromises_41 : decode cX1_loadPromises 41 = .ok (.aload_n 0, 1) := by decide +kernel
theorem dX1_loadPromises_42 : decode cX1_loadPromises 42 = .ok (.aload_n 1, 1) := by decide +kernel
theorem dX1_loadPromises_43 : decode cX1_loadPromises 43 = .ok (.iload 4, 2) := by decide +kernel
theorem dX1_loadPromises_45 : decode cX1_loadPromises 45 = .ok (.invokevirtual 83, 3) := by decide +kernel
theorem dX1_loadPromises_48 : decode cX1_loadPromises 48 = .ok (.iinc 4 1, 3) := by decide +kernel
theorem dX1_loadPromises_51 : decode cX1_loadPromises 51 = .ok (.goto (-48), 3) := by decide +kernel
theorem dX1_loadPromises_54 : decode cX1_loadPromises 54 = .ok (.return_, 1) := by decide +kernel
theorem dX1_addPromise_0 : decode cX1_addPromise 0 = .ok (.aload_n 1, 1) := by decide +kernel
theorem dX1_addPromise_1 : decode cX1_addPromise 1 = .ok (.getfield 73, 3) := by decide +kernel
theorem dX1_addPromise_4 : decode cX1_addPromise 4 = .ok (.getfield 80, 3) := by decide +kernel
theorem dX1_addPromise_7 : decode cX1_addPromise 7 = .ok (.iload_n 2, 1) := by decide +kernel
theorem dX1_addPromise_8 : decode cX1_addPromise 8 = .ok (.iaload, 1) := by decide +kernel
theorem dX1_addPromise_9 : decode cX1_addPromise 9 = .ok (.istore_n 3, 1) := by decide +kernel
theorem dX1_addPromise_10 : decode cX1_addPromise 10 = .ok (.iload_n 2, 1) := by decide +kernel
theorem dX1_addPromise_11 : decode cX1_addPromise 11 = .ok (.iconst 4, 1) := by decide +kernel
theorem dX1_addPromise_12 : decode cX1_addPromise 12 = .ok (.imul, 1) := by decide +kernel
theorem dX1_addPromise_13 : decode cX1_addPromise 13 = .ok (.istore 4, 2) := by decide +kernel
theorem dX1_addPromise_15 : decode cX1_addPromise 15 = .ok (.iload 4, 2) := by decide +kernel
theorem dX1_addPromise_17 : decode cX1_addPromise 17 = .ok (.iload_n 2, 1) := by decide +kernel
theorem dX1_addPromise_18 : decode cX1_addPromise 18 = .ok (.iconst 4, 1) := by decide +kernel
theorem dX1_addPromise_19 : decode cX1_addPromise 19 = .ok (.imul, 1) := by decide +kernel
theorem dX1_addPromise_20 : decode cX1_addPromise 20 = .ok (.aload_n 1, 1) := by decide +kernel
theorem dX1_addPromise_21 : decode cX1_addPromise 21 = .ok (.getfield 73, 3) := by decide +kernel
theorem dX1_addPromise_24 : decode cX1_addPromise 24 = .ok (.getfield 87, 3) := by decide +kernel
theorem dX1_addPromise_27 : decode cX1_addPromise 27 = .ok (.iload_n 2, 1) := by decide +kernel
theorem dX1_addPromise_28 : decode cX1_addPromise 28 = .ok (.iaload, 1) := by decide +kernel
theorem dX1_addPromise_29 : decode cX1_addPromise 29 = .ok (.iadd, 1) := by decide +kernel
theorem dX1_addPromise_30 : decode cX1_addPromise 30 = .ok (.if_icmp .ge 54, 3) := by decide +kernel
theorem dX1_addPromise_33 : decode cX1_addPromise 33 = .ok (.aload_n 1, 1) := by decide +kernel
theorem dX1_addPromise_34 : decode cX1_addPromise 34 = .ok (.getfield 28, 3) := by decide +kernel
theorem dX1_addPromise_37 : decode cX1_addPromise 37 = .ok (.getfield 89, 3) := by decide +kernel
theorem dX1_addPromise_40 : decode cX1_addPromise 40 = .ok (.iload 4, 2) := by decide +kernel
theorem dX1_addPromise_42 : decode cX1_addPromise 42 = .ok (.iaload, 1) := by decide +kernel
theorem dX1_addPromise_43 : decode cX1_addPromise 43 = .ok (.aload_n 1, 1) := by decide +kernel
theorem dX1_addPromise_44 : decode cX1_addPromise 44 = .ok (.getfield 28, 3) := by decide +kernel
theorem dX1_addPromise_47 : decode cX1_addPromise 47 = .ok (.getfield 42, 3) := by decide +kernel
theorem dX1_addPromise_50 : decode cX1_addPromise 50 = .ok (.iload 4, 2) := by decide +kernel
theorem dX1_addPromise_52 : decode cX1_addPromise 52 = .ok (.iaload, 1) := by decide +kernel
theorem dX1_addPromise_53 : decode cX1_addPromise 53 = .ok (.invokestatic 45, 3) := by decide +kernel
theorem dX1_addPromise_56 : decode cX1_addPromise 56 = .ok (.istore 5, 2) := by decide +kernel
theorem dX1_addPromise_58 : decode cX1_addPromise 58 = .ok (.aload_n 0, 1) := by decide +kernel
theorem dX1_addPromise_59 : decode cX1_addPromise 59 = .ok (.iload 5, 2) := by decide +kernel
theorem dX1_addPromise_61 : decode cX1_addPromise 61 = .ok (.iload_n 3, 1) := by decide +kernel
theorem dX1_addPromise_62 : decode cX1_addPromise 62 = .ok (.iload_n 3, 1) := by decide +kernel
theorem dX1_addPromise_63 : decode cX1_addPromise 63 = .ok (.aload_n 1, 1) := by decide +kernel
theorem dX1_addPromise_64 : decode cX1_addPromise 64 = .ok (.getfield 28, 3) := by decide +kernel
theorem dX1_addPromise_67 : decode cX1_addPromise 67 = .ok (.getfield 92, 3) := by decide +kernel
theorem dX1_addPromise_70 : decode cX1_addPromise 70 = .ok (.iload 4, 2) := by decide +kernel
theorem dX1_addPromise_72 : decode cX1_addPromise 72 = .ok (.iaload, 1) := by decide +kernel
theorem dX1_addPromise_73 : decode cX1_addPromise 73 = .ok (.iadd, 1) := by decide +kernel
theorem dX1_addPromise_74 : decode cX1_addPromise 74 = .ok (.iconst (-1), 1) := by decide +kernel
theorem dX1_addPromise_75 : decode cX1_addPromise 75 = .ok (.invokevirtual 56, 3) := by decide +kernel
theorem dX1_addPromise_78 : decode cX1_addPromise 78 = .ok (.iinc 4 1, 3) := by decide +kernel
theorem dX1_addPromise_81 : decode cX1_addPromise 81 = .ok (.goto (-66), 3) := by decide +kernel
theorem dX1_addPromise_84 : decode cX1_addPromise 84 = .ok (.return_, 1) := by decide +kernel
theorem dX1_freeColumns_0 : decode cX1_freeColumns 0 = .ok (.iconst 0, 1) := by decide +kernel
theorem dX1_freeColumns_1 : decode cX1_freeColumns 1 = .ok (.istore 4, 2) := by decide +kernel
theorem dX1_freeColumns_3 : decode cX1_freeColumns 3 = .ok (.iconst 0, 1) := by decide +kernel
theorem dX1_freeColumns_4 : decode cX1_freeColumns 4 = .ok (.istore 5, 2) := by decide +kernel
theorem dX1_freeColumns_6 : decode cX1_freeColumns 6 = .ok (.iload 5, 2) := by decide +kernel
theorem dX1_freeColumns_8 : decode cX1_freeColumns 8 = .ok (.aload_n 0, 1) := by decide +kernel
theorem dX1_freeColumns_9 : decode cX1_freeColumns 9 = .ok (.getfield 24, 3) := by decide +kernel
theorem dX1_freeColumns_12 : decode cX1_freeColumns 12 = .ok (.if_icmp .ge 61, 3) := by decide +kernel
theorem dX1_freeColumns_15 : decode cX1_freeColumns 15 = .ok (.iload_n 2, 1) := by decide +kernel
theorem dX1_freeColumns_16 : decode cX1_freeColumns 16 = .ok (.aload_n 0, 1) := by decide +kernel
theorem dX1_freeColumns_17 : decode cX1_freeColumns 17 = .ok (.getfield 18, 3) := by decide +kernel
theorem dX1_freeColumns_20 : decode cX1_freeColumns 20 = .ok (.iload 5, 2) := by decide +kernel
theorem dX1_freeColumns_22 : decode cX1_freeColumns 22 = .ok (.iaload, 1) := by decide +kernel
theorem dX1_freeColumns_23 : decode cX1_freeColumns 23 = .ok (.if_icmp .ge 44, 3) := by decide +kernel
theorem dX1_freeColumns_26 : decode cX1_freeColumns 26 = .ok (.aload_n 0, 1) := by decide +kernel
theorem dX1_freeColumns_27 : decode cX1_freeColumns 27 = .ok (.getfield 15, 3) := by decide +kernel
theorem dX1_freeColumns_30 : decode cX1_freeColumns 30 = .ok (.iload 5, 2) := by decide +kernel
theorem dX1_freeColumns_32 : decode cX1_freeColumns 32 = .ok (.iaload, 1) := by decide +kernel
theorem dX1_freeColumns_33 : decode cX1_freeColumns 33 = .ok (.iload_n 2, 1) := by decide +kernel
theorem dX1_freeColumns_34 : decode cX1_freeColumns 34 = .ok (.isub, 1) := by decide +kernel
theorem dX1_freeColumns_35 : decode cX1_freeColumns 35 = .ok (.iload_n 3, 1) := by decide +kernel
theorem dX1_freeColumns_36 : decode cX1_freeColumns 36 = .ok (.if_icmp .ge 31, 3) := by decide +kernel
theorem dX1_freeColumns_39 : decode cX1_freeColumns 39 = .ok (.iload_n 1, 1) := by decide +kernel
theorem dX1_freeColumns_40 : decode cX1_freeColumns 40 = .ok (.iconst (-1), 1) := by decide +kernel
theorem dX1_freeColumns_41 : decode cX1_freeColumns 41 = .ok (.if_icmp .eq 14, 3) := by decide +kernel
theorem dX1_freeColumns_44 : decode cX1_freeColumns 44 = .ok (.aload_n 0, 1) := by decide +kernel
theorem dX1_freeColumns_45 : decode cX1_freeColumns 45 = .ok (.getfield 21, 3) := by decide +kernel
theorem dX1_freeColumns_48 : decode cX1_freeColumns 48 = .ok (.iload 5, 2) := by decide +kernel
theorem dX1_freeColumns_50 : decode cX1_freeColumns 50 = .ok (.iaload, 1) := by decide +kernel
theorem dX1_freeColumns_51 : decode cX1_freeColumns 51 = .ok (.iload_n 1, 1) := by decide +kernel
theorem dX1_freeColumns_52 : decode cX1_freeColumns 52 = .ok (.if_icmp .eq 15, 3) := by decide +kernel
theorem dX1_freeColumns_55 : decode cX1_freeColumns 55 = .ok (.iload 4, 2) := by decide +kernel
theorem dX1_freeColumns_57 : decode cX1_freeColumns 57 = .ok (.aload_n 0, 1) := by decide +kernel
theorem dX1_freeColumns_58 : decode cX1_freeColumns 58 = .ok (.getfield 11, 3) := by decide +kernel
theorem dX1_freeColumns_61 : decode cX1_freeColumns 61 = .ok (.iload 5, 2) := by decide +kernel
theorem dX1_freeColumns_63 : decode cX1_freeColumns 63 = .ok (.iaload, 1) := by decide +kernel
theorem dX1_freeColumns_64 : decode cX1_freeColumns 64 = .ok (.ior, 1) := by decide +kernel
theorem dX1_freeColumns_65 : decode cX1_freeColumns 65 = .ok (.istore 4, 2) := by decide +kernel
theorem dX1_freeColumns_67 : decode cX1_freeColumns 67 = .ok (.iinc 5 1, 3) := by decide +kernel
theorem dX1_freeColumns_70 : decode cX1_freeColumns 70 = .ok (.goto (-64), 3) := by decide +kernel
theorem dX1_freeColumns_73 : decode cX1_freeColumns 73 = .ok (.ldc 95, 2) := by decide +kernel
theorem dX1_freeColumns_75 : decode cX1_freeColumns 75 = .ok (.iload 4, 2) := by decide +kernel
theorem dX1_freeColumns_77 : decode cX1_freeColumns 77 = .ok (.iconst (-1), 1) := by decide +kernel
theorem dX1_freeColumns_78 : decode cX1_freeColumns 78 = .ok (.ixor, 1) := by decide +kernel
theorem dX1_freeColumns_79 : decode cX1_freeColumns 79 = .ok (.iand, 1) := by decide +kernel
theorem dX1_freeColumns_80 : decode cX1_freeColumns 80 = .ok (.ireturn, 1) := by decide +kernel
theorem dX1_fits_0 : decode cX1_fits 0 = .ok (.aload_n 1, 1) := by decide +kernel
theorem dX1_fits_1 : decode cX1_fits 1 = .ok (.iconst 0, 1) := by decide +kernel
theorem dX1_fits_2 : decode cX1_fits 2 = .ok (.putfield 96, 3) := by decide +kernel
theorem dX1_fits_5 : decode cX1_fits 5 = .ok (.iconst 0, 1) := by decide +kernel
theorem dX1_fits_6 : decode cX1_fits 6 = .ok (.istore 4, 2) := by decide +kernel
theorem dX1_fits_8 : decode cX1_fits 8 = .ok (.iload 4, 2) := by decide +kernel
theorem dX1_fits_10 : decode cX1_fits 10 = .ok (.aload_n 1, 1) := by decide +kernel
theorem dX1_fits_11 : decode cX1_fits 11 = .ok (.getfield 101, 3) := by decide +kernel
theorem dX1_fits_14 : decode cX1_fits 14 = .ok (.if_icmp .ge 92, 3) := by decide +kernel
theorem dX1_fits_17 : decode cX1_fits 17 = .ok (.aload_n 1, 1) := by decide +kernel
theorem dX1_fits_18 : decode cX1_fits 18 = .ok (.getfield 102, 3) := by decide +kernel
theorem dX1_fits_21 : decode cX1_fits 21 = .ok (.iload 4, 2) := by decide +kernel
theorem dX1_fits_23 : decode cX1_fits 23 = .ok (.iaload, 1) := by decide +kernel
theorem dX1_fits_24 : decode cX1_fits 24 = .ok (.istore 5, 2) := by decide +kernel
theorem dX1_fits_26 : decode cX1_fits 26 = .ok (.aload_n 0, 1) := by decide +kernel
theorem dX1_fits_27 : decode cX1_fits 27 = .ok (.iload_n 2, 1) := by decide +kernel
theorem dX1_fits_28 : decode cX1_fits 28 = .ok (.iload_n 3, 1) := by decide +kernel
theorem dX1_fits_29 : decode cX1_fits 29 = .ok (.aload_n 1, 1) := by decide +kernel
theorem dX1_fits_30 : decode cX1_fits 30 = .ok (.getfield 105, 3) := by decide +kernel
theorem dX1_fits_33 : decode cX1_fits 33 = .ok (.iload 5, 2) := by decide +kernel
theorem dX1_fits_35 : decode cX1_fits 35 = .ok (.iaload, 1) := by decide +kernel
theorem dX1_fits_36 : decode cX1_fits 36 = .ok (.invokevirtual 106, 3) := by decide +kernel
theorem dX1_fits_39 : decode cX1_fits 39 = .ok (.aload_n 1, 1) := by decide +kernel
theorem dX1_fits_40 : decode cX1_fits 40 = .ok (.getfield 96, 3) := by decide +kernel
theorem dX1_fits_43 : decode cX1_fits 43 = .ok (.iconst (-1), 1) := by decide +kernel
theorem dX1_fits_44 : decode cX1_fits 44 = .ok (.ixor, 1) := by decide +kernel
theorem dX1_fits_45 : decode cX1_fits 45 = .ok (.iand, 1) := by decide +kernel
theorem dX1_fits_46 : decode cX1_fits 46 = .ok (.istore 6, 2) := by decide +kernel
theorem dX1_fits_48 : decode cX1_fits 48 = .ok (.iload 6, 2) := by decide +kernel
theorem dX1_fits_50 : decode cX1_fits 50 = .ok (.aload_n 1, 1) := by decide +kernel
theorem dX1_fits_51 : decode cX1_fits 51 = .ok (.getfield 110, 3) := by decide +kernel
theorem dX1_fits_54 : decode cX1_fits 54 = .ok (.iload 5, 2) := by decide +kernel
theorem dX1_fits_56 : decode cX1_fits 56 = .ok (.iaload, 1) := by decide +kernel
theorem dX1_fits_57 : decode cX1_fits 57 = .ok (.invokestatic 111, 3) := by decide +kernel
theorem dX1_fits_60 : decode cX1_fits 60 = .ok (.istore 7, 2) := by decide +kernel
theorem dX1_fits_62 : decode cX1_fits 62 = .ok (.iload 7, 2) := by decide +kernel
theorem dX1_fits_64 : decode cX1_fits 64 = .ok (.iconst (-1), 1) := by decide +kernel
theorem dX1_fits_65 : decode cX1_fits 65 = .ok (.if_icmp .ne 5, 3) := by decide +kernel
theorem dX1_fits_68 : decode cX1_fits 68 = .ok (.iconst 0, 1) := by decide +kernel
theorem dX1_fits_69 : decode cX1_fits 69 = .ok (.ireturn, 1) := by decide +kernel
theorem dX1_fits_70 : decode cX1_fits 70 = .ok (.aload_n 1, 1) := by decide +kernel
theorem dX1_fits_71 : decode cX1_fits 71 = .ok (.getfield 114, 3) := by decide +kernel
theorem dX1_fits_74 : decode cX1_fits 74 = .ok (.iload 5, 2) := by decide +kernel
theorem dX1_fits_76 : decode cX1_fits 76 = .ok (.iload 7, 2) := by decide +kernel
theorem dX1_fits_78 : decode cX1_fits 78 = .ok (.iastore, 1) := by decide +kernel
theorem dX1_fits_79 : decode cX1_fits 79 = .ok (.aload_n 1, 1) := by decide +kernel
theorem dX1_fits_80 : decode cX1_fits 80 = .ok (.dup, 1) := by decide +kernel
theorem dX1_fits_81 : decode cX1_fits 81 = .ok (.getfield 96, 3) := by decide +kernel
theorem dX1_fits_84 : decode cX1_fits 84 = .ok (.iload 7, 2) := by decide +kernel
theorem dX1_fits_86 : decode cX1_fits 86 = .ok (.aload_n 1, 1) := by decide +kernel
theorem dX1_fits_87 : decode cX1_fits 87 = .ok (.getfield 110, 3) := by decide +kernel
theorem dX1_fits_90 : decode cX1_fits 90 = .ok (.iload 5, 2) := by decide +kernel
theorem dX1_fits_92 : decode cX1_fits 92 = .ok (.iaload, 1) := by decide +kernel
theorem dX1_fits_93 : decode cX1_fits 93 = .ok (.invokestatic 45, 3) := by decide +kernel
theorem dX1_fits_96 : decode cX1_fits 96 = .ok (.ior, 1) := by decide +kernel
theorem dX1_fits_97 : decode cX1_fits 97 = .ok (.putfield 96, 3) := by decide +kernel
theorem dX1_fits_100 : decode cX1_fits 100 = .ok (.iinc 4 1, 3) := by decide +kernel
theorem dX1_fits_103 : decode cX1_fits 103 = .ok (.goto (-95), 3) := by decide +kernel
theorem dX1_fits_106 : decode cX1_fits 106 = .ok (.iconst 1, 1) := by decide +kernel
theorem dX1_fits_107 : decode cX1_fits 107 = .ok (.ireturn, 1) := by decide +kernel
theorem dX1_firstFit_0 : decode cX1_firstFit 0 = .ok (.iload_n 3, 1) := by decide +kernel
theorem dX1_firstFit_1 : decode cX1_firstFit 1 = .ok (.istore 5, 2) := by decide +kernel
theorem dX1_firstFit_3 : decode cX1_firstFit 3 = .ok (.iload_n 3, 1) := by decide +kernel
theorem dX1_firstFit_4 : decode cX1_firstFit 4 = .ok (.istore 6, 2) := by decide +kernel
theorem dX1_firstFit_6 : decode cX1_firstFit 6 = .ok (.iload 6, 2) := by decide +kernel
theorem dX1_firstFit_8 : decode cX1_firstFit 8 = .ok (.iload 4, 2) := by decide +kernel
theorem dX1_firstFit_10 : decode cX1_firstFit 10 = .ok (.if_icmp .gt 40, 3) := by decide +kernel
theorem dX1_firstFit_13 : decode cX1_firstFit 13 = .ok (.iload 5, 2) := by decide +kernel
theorem dX1_firstFit_15 : decode cX1_firstFit 15 = .ok (.iload 4, 2) := by decide +kernel
theorem dX1_firstFit_17 : decode cX1_firstFit 17 = .ok (.if_icmp .gt 33, 3) := by decide +kernel
theorem dX1_firstFit_20 : decode cX1_firstFit 20 = .ok (.aload_n 0, 1) := by decide +kernel
theorem dX1_firstFit_21 : decode cX1_firstFit 21 = .ok (.aload_n 1, 1) := by decide +kernel
theorem dX1_firstFit_22 : decode cX1_firstFit 22 = .ok (.iload_n 2, 1) := by decide +kernel
theorem dX1_firstFit_23 : decode cX1_firstFit 23 = .ok (.iload 5, 2) := by decide +kernel
theorem dX1_firstFit_25 : decode cX1_firstFit 25 = .ok (.invokevirtual 115, 3) := by decide +kernel
theorem dX1_firstFit_28 : decode cX1_firstFit 28 = .ok (.ifCond .eq 6, 3) := by decide +kernel
theorem dX1_firstFit_31 : decode cX1_firstFit 31 = .ok (.iload 5, 2) := by decide +kernel
theorem dX1_firstFit_33 : decode cX1_firstFit 33 = .ok (.ireturn, 1) := by decide +kernel
theorem dX1_firstFit_34 : decode cX1_firstFit 34 = .ok (.aload_n 0, 1) := by decide +kernel
theorem dX1_firstFit_35 : decode cX1_firstFit 35 = .ok (.aload_n 1, 1) := by decide +kernel
theorem dX1_firstFit_36 : decode cX1_firstFit 36 = .ok (.iload_n 2, 1) := by decide +kernel
theorem dX1_firstFit_37 : decode cX1_firstFit 37 = .ok (.iload 5, 2) := by decide +kernel
theorem dX1_firstFit_39 : decode cX1_firstFit 39 = .ok (.invokevirtual 119, 3) := by decide +kernel
theorem dX1_firstFit_42 : decode cX1_firstFit 42 = .ok (.istore 5, 2) := by decide +kernel
theorem dX1_firstFit_44 : decode cX1_firstFit 44 = .ok (.iinc 6 1, 3) := by decide +kernel
theorem dX1_firstFit_47 : decode cX1_firstFit 47 = .ok (.goto (-41), 3) := by decide +kernel
theorem dX1_firstFit_50 : decode cX1_firstFit 50 = .ok (.iconst (-1), 1) := by decide +kernel
theorem dX1_firstFit_51 : decode cX1_firstFit 51 = .ok (.ireturn, 1) := by decide +kernel
theorem dX1_nextChange_0 : decode cX1_nextChange 0 = .ok (.ldc 123, 2) := by decide +kernel
theorem dX1_nextChange_2 : decode cX1_nextChange 2 = .ok (.istore 4, 2) := by decide +kernel
theorem dX1_nextChange_4 : decode cX1_nextChange 4 = .ok (.iconst 0, 1) := by decide +kernel
theorem dX1_nextChange_5 : decode cX1_nextChange 5 = .ok (.istore 5, 2) := by decide +kernel
theorem dX1_nextChange_7 : decode cX1_nextChange 7 = .ok (.iload 5, 2) := by decide +kernel
theorem dX1_nextChange_9 : decode cX1_nextChange 9 = .ok (.aload_n 0, 1) := by decide +kernel
theorem dX1_nextChange_10 : decode cX1_nextChange 10 = .ok (.getfield 24, 3) := by decide +kernel
theorem dX1_nextChange_13 : decode cX1_nextChange 13 = .ok (.if_icmp .ge 109, 3) := by decide +kernel
theorem dX1_nextChange_16 : decode cX1_nextChange 16 = .ok (.aload_n 0, 1) := by decide +kernel
theorem dX1_nextChange_17 : decode cX1_nextChange 17 = .ok (.getfield 21, 3) := by decide +kernel
theorem dX1_nextChange_20 : decode cX1_nextChange 20 = .ok (.iload 5, 2) := by decide +kernel
theorem dX1_nextChange_22 : decode cX1_nextChange 22 = .ok (.iaload, 1) := by decide +kernel
theorem dX1_nextChange_23 : decode cX1_nextChange 23 = .ok (.iload_n 2, 1) := by decide +kernel
theorem dX1_nextChange_24 : decode cX1_nextChange 24 = .ok (.if_icmp .ne 6, 3) := by decide +kernel
theorem dX1_nextChange_27 : decode cX1_nextChange 27 = .ok (.goto 89, 3) := by decide +kernel
theorem dX1_nextChange_30 : decode cX1_nextChange 30 = .ok (.aload_n 0, 1) := by decide +kernel
theorem dX1_nextChange_31 : decode cX1_nextChange 31 = .ok (.getfield 18, 3) := by decide +kernel
theorem dX1_nextChange_34 : decode cX1_nextChange 34 = .ok (.iload 5, 2) := by decide +kernel
theorem dX1_nextChange_36 : decode cX1_nextChange 36 = .ok (.iaload, 1) := by decide +kernel
theorem dX1_nextChange_37 : decode cX1_nextChange 37 = .ok (.iload_n 3, 1) := by decide +kernel
theorem dX1_nextChange_38 : decode cX1_nextChange 38 = .ok (.if_icmp .le 24, 3) := by decide +kernel
theorem dX1_nextChange_41 : decode cX1_nextChange 41 = .ok (.aload_n 0, 1) := by decide +kernel
theorem dX1_nextChange_42 : decode cX1_nextChange 42 = .ok (.getfield 18, 3) := by decide +kernel
theorem dX1_nextChange_45 : decode cX1_nextChange 45 = .ok (.iload 5, 2) := by decide +kernel
theorem dX1_nextChange_47 : decode cX1_nextChange 47 = .ok (.iaload, 1) := by decide +kernel
theorem dX1_nextChange_48 : decode cX1_nextChange 48 = .ok (.iload 4, 2) := by decide +kernel
theorem dX1_nextChange_50 : decode cX1_nextChange 50 = .ok (.if_icmp .ge 12, 3) := by decide +kernel
theorem dX1_nextChange_53 : decode cX1_nextChange 53 = .ok (.aload_n 0, 1) := by decide +kernel
theorem dX1_nextChange_54 : decode cX1_nextChange 54 = .ok (.getfield 18, 3) := by decide +kernel
theorem dX1_nextChange_57 : decode cX1_nextChange 57 = .ok (.iload 5, 2) := by decide +kernel
theorem dX1_nextChange_59 : decode cX1_nextChange 59 = .ok (.iaload, 1) := by decide +kernel
theorem dX1_nextChange_60 : decode cX1_nextChange 60 = .ok (.istore 4, 2) := by decide +kernel
theorem dX1_nextChange_62 : decode cX1_nextChange 62 = .ok (.iconst 0, 1) := by decide +kernel
theorem dX1_nextChange_63 : decode cX1_nextChange 63 = .ok (.istore 6, 2) := by decide +kernel
theorem dX1_nextChange_65 : decode cX1_nextChange 65 = .ok (.iload 6, 2) := by decide +kernel
theorem dX1_nextChange_67 : decode cX1_nextChange 67 = .ok (.aload_n 1, 1) := by decide +kernel
theorem dX1_nextChange_68 : decode cX1_nextChange 68 = .ok (.getfield 101, 3) := by decide +kernel
theorem dX1_nextChange_71 : decode cX1_nextChange 71 = .ok (.if_icmp .ge 45, 3) := by decide +kernel
theorem dX1_nextChange_74 : decode cX1_nextChange 74 = .ok (.aload_n 0, 1) := by decide +kernel
theorem dX1_nextChange_75 : decode cX1_nextChange 75 = .ok (.getfield 15, 3) := by decide +kernel
theorem dX1_nextChange_78 : decode cX1_nextChange 78 = .ok (.iload 5, 2) := by decide +kernel
theorem dX1_nextChange_80 : decode cX1_nextChange 80 = .ok (.iaload, 1) := by decide +kernel
theorem dX1_nextChange_81 : decode cX1_nextChange 81 = .ok (.aload_n 1, 1) := by decide +kernel
theorem dX1_nextChange_82 : decode cX1_nextChange 82 = .ok (.getfield 105, 3) := by decide +kernel
theorem dX1_nextChange_85 : decode cX1_nextChange 85 = .ok (.iload 6, 2) := by decide +kernel
theorem dX1_nextChange_87 : decode cX1_nextChange 87 = .ok (.iaload, 1) := by decide +kernel
theorem dX1_nextChange_88 : decode cX1_nextChange 88 = .ok (.isub, 1) := by decide +kernel
theorem dX1_nextChange_89 : decode cX1_nextChange 89 = .ok (.iconst 1, 1) := by decide +kernel
theorem dX1_nextChange_90 : decode cX1_nextChange 90 = .ok (.iadd, 1) := by decide +kernel
theorem dX1_nextChange_91 : decode cX1_nextChange 91 = .ok (.istore 7, 2) := by decide +kernel
theorem dX1_nextChange_93 : decode cX1_nextChange 93 = .ok (.iload 7, 2) := by decide +kernel
theorem dX1_nextChange_95 : decode cX1_nextChange 95 = .ok (.iload_n 3, 1) := by decide +kernel
theorem dX1_nextChange_96 : decode cX1_nextChange 96 = .ok (.if_icmp .le 14, 3) := by decide +kernel
theorem dX1_nextChange_99 : decode cX1_nextChange 99 = .ok (.iload 7, 2) := by decide +kernel
theorem dX1_nextChange_101 : decode cX1_nextChange 101 = .ok (.iload 4, 2) := by decide +kernel
theorem dX1_nextChange_103 : decode cX1_nextChange 103 = .ok (.if_icmp .ge 7, 3) := by decide +kernel
theorem dX1_nextChange_106 : decode cX1_nextChange 106 = .ok (.iload 7, 2) := by decide +kernel
theorem dX1_nextChange_108 : decode cX1_nextChange 108 = .ok (.istore 4, 2) := by decide +kernel
theorem dX1_nextChange_110 : decode cX1_nextChange 110 = .ok (.iinc 6 1, 3) := by decide +kernel
theorem dX1_nextChange_113 : decode cX1_nextChange 113 = .ok (.goto (-48), 3) := by decide +kernel
theorem dX1_nextChange_116 : decode cX1_nextChange 116 = .ok (.iinc 5 1, 3) := by decide +kernel
theorem dX1_nextChange_119 : decode cX1_nextChange 119 = .ok (.goto (-112), 3) := by decide +kernel
theorem dX1_nextChange_122 : decode cX1_nextChange 122 = .ok (.iload 4, 2) := by decide +kernel
theorem dX1_nextChange_124 : decode cX1_nextChange 124 = .ok (.ireturn, 1) := by decide +kernel
theorem dX1_gapBegin_0 : decode cX1_gapBegin 0 = .ok (.iload_n 2, 1) := by decide +kernel
theorem dX1_gapBegin_1 : decode cX1_gapBegin 1 = .ok (.istore_n 3, 1) := by decide +kernel
theorem dX1_gapBegin_2 : decode cX1_gapBegin 2 = .ok (.iconst 0, 1) := by decide +kernel
theorem dX1_gapBegin_3 : decode cX1_gapBegin 3 = .ok (.istore 4, 2) := by decide +kernel
theorem dX1_gapBegin_5 : decode cX1_gapBegin 5 = .ok (.iload 4, 2) := by decide +kernel
theorem dX1_gapBegin_7 : decode cX1_gapBegin 7 = .ok (.aload_n 0, 1) := by decide +kernel
theorem dX1_gapBegin_8 : decode cX1_gapBegin 8 = .ok (.getfield 24, 3) := by decide +kernel
theorem dX1_gapBegin_11 : decode cX1_gapBegin 11 = .ok (.if_icmp .ge 71, 3) := by decide +kernel
theorem dX1_gapBegin_14 : decode cX1_gapBegin 14 = .ok (.iconst 0, 1) := by decide +kernel
theorem dX1_gapBegin_15 : decode cX1_gapBegin 15 = .ok (.istore 5, 2) := by decide +kernel
theorem dX1_gapBegin_17 : decode cX1_gapBegin 17 = .ok (.iload 5, 2) := by decide +kernel
theorem dX1_gapBegin_19 : decode cX1_gapBegin 19 = .ok (.aload_n 0, 1) := by decide +kernel
theorem dX1_gapBegin_20 : decode cX1_gapBegin 20 = .ok (.getfield 24, 3) := by decide +kernel
theorem dX1_gapBegin_23 : decode cX1_gapBegin 23 = .ok (.if_icmp .ge 53, 3) := by decide +kernel
theorem dX1_gapBegin_26 : decode cX1_gapBegin 26 = .ok (.aload_n 0, 1) := by decide +kernel
theorem dX1_gapBegin_27 : decode cX1_gapBegin 27 = .ok (.getfield 11, 3) := by decide +kernel
theorem dX1_gapBegin_30 : decode cX1_gapBegin 30 = .ok (.iload 5, 2) := by decide +kernel
theorem dX1_gapBegin_32 : decode cX1_gapBegin 32 = .ok (.iaload, 1) := by decide +kernel
theorem dX1_gapBegin_33 : decode cX1_gapBegin 33 = .ok (.iload_n 1, 1) := by decide +kernel
theorem dX1_gapBegin_34 : decode cX1_gapBegin 34 = .ok (.ishr, 1) := by decide +kernel
theorem dX1_gapBegin_35 : decode cX1_gapBegin 35 = .ok (.iconst 1, 1) := by decide +kernel
theorem dX1_gapBegin_36 : decode cX1_gapBegin 36 = .ok (.iand, 1) := by decide +kernel
theorem dX1_gapBegin_37 : decode cX1_gapBegin 37 = .ok (.ifCond .eq 33, 3) := by decide +kernel
theorem dX1_gapBegin_40 : decode cX1_gapBegin 40 = .ok (.aload_n 0, 1) := by decide +kernel
theorem dX1_gapBegin_41 : decode cX1_gapBegin 41 = .ok (.getfield 15, 3) := by decide +kernel
theorem dX1_gapBegin_44 : decode cX1_gapBegin 44 = .ok (.iload 5, 2) := by decide +kernel
theorem dX1_gapBegin_46 : decode cX1_gapBegin 46 = .ok (.iaload, 1) := by decide +kernel
theorem dX1_gapBegin_47 : decode cX1_gapBegin 47 = .ok (.iload_n 3, 1) := by decide +kernel
theorem dX1_gapBegin_48 : decode cX1_gapBegin 48 = .ok (.if_icmp .gt 22, 3) := by decide +kernel
theorem dX1_gapBegin_51 : decode cX1_gapBegin 51 = .ok (.iload_n 3, 1) := by decide +kernel
theorem dX1_gapBegin_52 : decode cX1_gapBegin 52 = .ok (.aload_n 0, 1) := by decide +kernel
theorem dX1_gapBegin_53 : decode cX1_gapBegin 53 = .ok (.getfield 18, 3) := by decide +kernel
theorem dX1_gapBegin_56 : decode cX1_gapBegin 56 = .ok (.iload 5, 2) := by decide +kernel
theorem dX1_gapBegin_58 : decode cX1_gapBegin 58 = .ok (.iaload, 1) := by decide +kernel
theorem dX1_gapBegin_59 : decode cX1_gapBegin 59 = .ok (.if_icmp .ge 11, 3) := by decide +kernel
theorem dX1_gapBegin_62 : decode cX1_gapBegin 62 = .ok (.aload_n 0, 1) := by decide +kernel
theorem dX1_gapBegin_63 : decode cX1_gapBegin 63 = .ok (.getfield 18, 3) := by decide +kernel
theorem dX1_gapBegin_66 : decode cX1_gapBegin 66 = .ok (.iload 5, 2) := by decide +kernel
theorem dX1_gapBegin_68 : decode cX1_gapBegin 68 = .ok (.iaload, 1) := by decide +kernel
theorem dX1_gapBegin_69 : decode cX1_gapBegin 69 = .ok (.istore_n 3, 1) := by decide +kernel
theorem dX1_gapBegin_70 : decode cX1_gapBegin 70 = .ok (.iinc 5 1, 3) := by decide +kernel
theorem dX1_gapBegin_73 : decode cX1_gapBegin 73 = .ok (.goto (-56), 3) := by decide +kernel
theorem dX1_gapBegin_76 : decode cX1_gapBegin 76 = .ok (.iinc 4 1, 3) := by decide +kernel
theorem dX1_gapBegin_79 : decode cX1_gapBegin 79 = .ok (.goto (-74), 3) := by decide +kernel
theorem dX1_gapBegin_82 : decode cX1_gapBegin 82 = .ok (.iload_n 3, 1) := by decide +kernel
theorem dX1_gapBegin_83 : decode cX1_gapBegin 83 = .ok (.ireturn, 1) := by decide +kernel
theorem dX1_gapEnd_0 : decode cX1_gapEnd 0 = .ok (.iconst (-1), 1) := by decide +kernel
theorem dX1_gapEnd_1 : decode cX1_gapEnd 1 = .ok (.istore_n 3, 1) := by decide +kernel
theorem dX1_gapEnd_2 : decode cX1_gapEnd 2 = .ok (.iconst 0, 1) := by decide +kernel
theorem dX1_gapEnd_3 : decode cX1_gapEnd 3 = .ok (.istore 4, 2) := by decide +kernel
theorem dX1_gapEnd_5 : decode cX1_gapEnd 5 = .ok (.iload 4, 2) := by decide +kernel
theorem dX1_gapEnd_7 : decode cX1_gapEnd 7 = .ok (.aload_n 0, 1) := by decide +kernel
theorem dX1_gapEnd_8 : decode cX1_gapEnd 8 = .ok (.getfield 24, 3) := by decide +kernel
theorem dX1_gapEnd_11 : decode cX1_gapEnd 11 = .ok (.if_icmp .ge 58, 3) := by decide +kernel
theorem dX1_gapEnd_14 : decode cX1_gapEnd 14 = .ok (.aload_n 0, 1) := by decide +kernel
theorem dX1_gapEnd_15 : decode cX1_gapEnd 15 = .ok (.getfield 11, 3) := by decide +kernel
theorem dX1_gapEnd_18 : decode cX1_gapEnd 18 = .ok (.iload 4, 2) := by decide +kernel
theorem dX1_gapEnd_20 : decode cX1_gapEnd 20 = .ok (.iaload, 1) := by decide +kernel
theorem dX1_gapEnd_21 : decode cX1_gapEnd 21 = .ok (.iload_n 1, 1) := by decide +kernel
theorem dX1_gapEnd_22 : decode cX1_gapEnd 22 = .ok (.ishr, 1) := by decide +kernel
theorem dX1_gapEnd_23 : decode cX1_gapEnd 23 = .ok (.iconst 1, 1) := by decide +kernel
theorem dX1_gapEnd_24 : decode cX1_gapEnd 24 = .ok (.iand, 1) := by decide +kernel
theorem dX1_gapEnd_25 : decode cX1_gapEnd 25 = .ok (.ifCond .eq 38, 3) := by decide +kernel
theorem dX1_gapEnd_28 : decode cX1_gapEnd 28 = .ok (.aload_n 0, 1) := by decide +kernel
theorem dX1_gapEnd_29 : decode cX1_gapEnd 29 = .ok (.getfield 15, 3) := by decide +kernel
theorem dX1_gapEnd_32 : decode cX1_gapEnd 32 = .ok (.iload 4, 2) := by decide +kernel
theorem dX1_gapEnd_34 : decode cX1_gapEnd 34 = .ok (.iaload, 1) := by decide +kernel
theorem dX1_gapEnd_35 : decode cX1_gapEnd 35 = .ok (.iload_n 2, 1) := by decide +kernel
theorem dX1_gapEnd_36 : decode cX1_gapEnd 36 = .ok (.if_icmp .le 27, 3) := by decide +kernel
theorem dX1_gapEnd_39 : decode cX1_gapEnd 39 = .ok (.iload_n 3, 1) := by decide +kernel
theorem dX1_gapEnd_40 : decode cX1_gapEnd 40 = .ok (.iconst (-1), 1) := by decide +kernel
theorem dX1_gapEnd_41 : decode cX1_gapEnd 41 = .ok (.if_icmp .eq 14, 3) := by decide +kernel
theorem dX1_gapEnd_44 : decode cX1_gapEnd 44 = .ok (.aload_n 0, 1) := by decide +kernel
theorem dX1_gapEnd_45 : decode cX1_gapEnd 45 = .ok (.getfield 15, 3) := by decide +kernel
theorem dX1_gapEnd_48 : decode cX1_gapEnd 48 = .ok (.iload 4, 2) := by decide +kernel
theorem dX1_gapEnd_50 : decode cX1_gapEnd 50 = .ok (.iaload, 1) := by decide +kernel
theorem dX1_gapEnd_51 : decode cX1_gapEnd 51 = .ok (.iload_n 3, 1) := by decide +kernel
theorem dX1_gapEnd_52 : decode cX1_gapEnd 52 = .ok (.if_icmp .ge 11, 3) := by decide +kernel
theorem dX1_gapEnd_55 : decode cX1_gapEnd 55 = .ok (.aload_n 0, 1) := by decide +kernel
theorem dX1_gapEnd_56 : decode cX1_gapEnd 56 = .ok (.getfield 15, 3) := by decide +kernel
theorem dX1_gapEnd_59 : decode cX1_gapEnd 59 = .ok (.iload 4, 2) := by decide +kernel
theorem dX1_gapEnd_61 : decode cX1_gapEnd 61 = .ok (.iaload, 1) := by decide +kernel
theorem dX1_gapEnd_62 : decode cX1_gapEnd 62 = .ok (.istore_n 3, 1) := by decide +kernel
theorem dX1_gapEnd_63 : decode cX1_gapEnd 63 = .ok (.iinc 4 1, 3) := by decide +kernel
theorem dX1_gapEnd_66 : decode cX1_gapEnd 66 = .ok (.goto (-61), 3) := by decide +kernel
theorem dX1_gapEnd_69 : decode cX1_gapEnd 69 = .ok (.iload_n 3, 1) := by decide +kernel
theorem dX1_gapEnd_70 : decode cX1_gapEnd 70 = .ok (.ireturn, 1) := by decide +kernel
theorem dX2_init_0 : decode cX2_init 0 = .ok (.aload_n 0, 1) := by decide +kernel
theorem dX2_init_1 : decode cX2_init 1 = .ok (.invokespecial 3, 3) := by decide +kernel
theorem dX2_init_4 : decode cX2_init 4 = .ok (.aload_n 0, 1) := by decide +kernel
theorem dX2_init_5 : decode cX2_init 5 = .ok (.bipush 8, 2) := by decide +kernel
theorem dX2_init_7 : decode cX2_init 7 = .ok (.newarray .long, 2) := by decide +kernel
theorem dX2_init_9 : decode cX2_init 9 = .ok (.putfield 9, 3) := by decide +kernel
theorem dX2_init_12 : decode cX2_init 12 = .ok (.aload_n 0, 1) := by decide +kernel
theorem dX2_init_13 : decode cX2_init 13 = .ok (.bipush 80, 2) := by decide +kernel
theorem dX2_init_15 : decode cX2_init 15 = .ok (.newarray .int, 2) := by decide +kernel
theorem dX2_init_17 : decode cX2_init 17 = .ok (.putfield 15, 3) := by decide +kernel
theorem dX2_init_20 : decode cX2_init 20 = .ok (.aload_n 0, 1) := by decide +kernel
theorem dX2_init_21 : decode cX2_init 21 = .ok (.bipush 60, 2) := by decide +kernel
theorem dX2_init_23 : decode cX2_init 23 = .ok (.newarray .int, 2) := by decide +kernel
theorem dX2_init_25 : decode cX2_init 25 = .ok (.putfield 19, 3) := by decide +kernel
theorem dX2_init_28 : decode cX2_init 28 = .ok (.aload_n 0, 1) := by decide +kernel
theorem dX2_init_29 : decode cX2_init 29 = .ok (.bipush 60, 2) := by decide +kernel
theorem dX2_init_31 : decode cX2_init 31 = .ok (.newarray .int, 2) := by decide +kernel
theorem dX2_init_33 : decode cX2_init 33 = .ok (.putfield 22, 3) := by decide +kernel
theorem dX2_init_36 : decode cX2_init 36 = .ok (.aload_n 0, 1) := by decide +kernel
theorem dX2_init_37 : decode cX2_init 37 = .ok (.bipush 60, 2) := by decide +kernel
theorem dX2_init_39 : decode cX2_init 39 = .ok (.newarray .int, 2) := by decide +kernel
theorem dX2_init_41 : decode cX2_init 41 = .ok (.putfield 25, 3) := by decide +kernel
theorem dX2_init_44 : decode cX2_init 44 = .ok (.aload_n 0, 1) := by decide +kernel
theorem dX2_init_45 : decode cX2_init 45 = .ok (.sipush 1024, 3) := by decide +kernel
theorem dX2_init_48 : decode cX2_init 48 = .ok (.newarray .int, 2) := by decide +kernel
theorem dX2_init_50 : decode cX2_init 50 = .ok (.putfield 28, 3) := by decide +kernel
theorem dX2_init_53 : decode cX2_init 53 = .ok (.return_, 1) := by decide +kernel
theorem dX2_note_0 : decode cX2_note 0 = .ok (.aload_n 0, 1) := by decide +kernel
theorem dX2_note_1 : decode cX2_note 1 = .ok (.getfield 19, 3) := by decide +kernel
theorem dX2_note_4 : decode cX2_note 4 = .ok (.aload_n 0, 1) := by decide +kernel
theorem dX2_note_5 : decode cX2_note 5 = .ok (.getfield 31, 3) := by decide +kernel
theorem dX2_note_8 : decode cX2_note 8 = .ok (.iload_n 1, 1) := by decide +kernel
theorem dX2_note_9 : decode cX2_note 9 = .ok (.iastore, 1) := by decide +kernel
theorem dX2_note_10 : decode cX2_note 10 = .ok (.aload_n 0, 1) := by decide +kernel
theorem dX2_note_11 : decode cX2_note 11 = .ok (.getfield 22, 3) := by decide +kernel
theorem dX2_note_14 : decode cX2_note 14 = .ok (.aload_n 0, 1) := by decide +kernel
theorem dX2_note_15 : decode cX2_note 15 = .ok (.getfield 31, 3) := by decide +kernel
theorem dX2_note_18 : decode cX2_note 18 = .ok (.iload_n 2, 1) := by decide +kernel
theorem dX2_note_19 : decode cX2_note 19 = .ok (.iastore, 1) := by decide +kernel
theorem dX2_note_20 : decode cX2_note 20 = .ok (.aload_n 0, 1) := by decide +kernel
theorem dX2_note_21 : decode cX2_note 21 = .ok (.getfield 25, 3) := by decide +kernel
theorem dX2_note_24 : decode cX2_note 24 = .ok (.aload_n 0, 1) := by decide +kernel
theorem dX2_note_25 : decode cX2_note 25 = .ok (.getfield 31, 3) := by decide +kernel
theorem dX2_note_28 : decode cX2_note 28 = .ok (.iload_n 3, 1) := by decide +kernel
theorem dX2_note_29 : decode cX2_note 29 = .ok (.iastore, 1) := by decide +kernel
theorem dX2_note_30 : decode cX2_note 30 = .ok (.aload_n 0, 1) := by decide +kernel
theorem dX2_note_31 : decode cX2_note 31 = .ok (.aload_n 0, 1) := by decide +kernel
theorem dX2_note_32 : decode cX2_note 32 = .ok (.getfield 31, 3) := by decide +kernel
theorem dX2_note_35 : decode cX2_note 35 = .ok (.iconst 1, 1) := by decide +kernel
theorem dX2_note_36 : decode cX2_note 36 = .ok (.iadd, 1) := by decide +kernel
theorem dX2_note_37 : decode cX2_note 37 = .ok (.bipush 60, 2) := by decide +kernel
theorem dX2_note_39 : decode cX2_note 39 = .ok (.irem, 1) := by decide +kernel
theorem dX2_note_40 : decode cX2_note 40 = .ok (.putfield 31, 3) := by decide +kernel
theorem dX2_note_43 : decode cX2_note 43 = .ok (.aload_n 0, 1) := by decide +kernel
theorem dX2_note_44 : decode cX2_note 44 = .ok (.aload_n 0, 1) := by decide +kernel
theorem dX2_note_45 : decode cX2_note 45 = .ok (.getfield 35, 3) := by decide +kernel
theorem dX2_note_48 : decode cX2_note 48 = .ok (.iconst 1, 1) := by decide +kernel
theorem dX2_note_49 : decode cX2_note 49 = .ok (.iadd, 1) := by decide +kernel
theorem dX2_note_50 : decode cX2_note 50 = .ok (.bipush 60, 2) := by decide +kernel
theorem dX2_note_52 : decode cX2_note 52 = .ok (.invokestatic 38, 3) := by decide +kernel
theorem dX2_note_55 : decode cX2_note 55 = .ok (.putfield 35, 3) := by decide +kernel
theorem dX2_note_58 : decode cX2_note 58 = .ok (.return_, 1) := by decide +kernel
theorem dX2_eventAt_0 : decode cX2_eventAt 0 = .ok (.iload_n 1, 1) := by decide +kernel
theorem dX2_eventAt_1 : decode cX2_eventAt 1 = .ok (.aload_n 0, 1) := by decide +kernel
theorem dX2_eventAt_2 : decode cX2_eventAt 2 = .ok (.getfield 35, 3) := by decide +kernel
theorem dX2_eventAt_5 : decode cX2_eventAt 5 = .ok (.if_icmp .lt 6, 3) := by decide +kernel
theorem dX2_eventAt_8 : decode cX2_eventAt 8 = .ok (.bipush (-2), 2) := by decide +kernel
theorem dX2_eventAt_10 : decode cX2_eventAt 10 = .ok (.ireturn, 1) := by decide +kernel
theorem dX2_eventAt_11 : decode cX2_eventAt 11 = .ok (.aload_n 0, 1) := by decide +kernel
theorem dX2_eventAt_12 : decode cX2_eventAt 12 = .ok (.getfield 31, 3) := by decide +kernel
theorem dX2_eventAt_15 : decode cX2_eventAt 15 = .ok (.bipush 60, 2) := by decide +kernel
theorem dX2_eventAt_17 : decode cX2_eventAt 17 = .ok (.iadd, 1) := by decide +kernel
theorem dX2_eventAt_18 : decode cX2_eventAt 18 = .ok (.aload_n 0, 1) := by decide +kernel
theorem dX2_eventAt_19 : decode cX2_eventAt 19 = .ok (.getfield 35, 3) := by decide +kernel
theorem dX2_eventAt_22 : decode cX2_eventAt 22 = .ok (.isub, 1) := by decide +kernel
theorem dX2_eventAt_23 : decode cX2_eventAt 23 = .ok (.iload_n 1, 1) := by decide +kernel
theorem dX2_eventAt_24 : decode cX2_eventAt 24 = .ok (.iadd, 1) := by decide +kernel
theorem dX2_eventAt_25 : decode cX2_eventAt 25 = .ok (.bipush 60, 2) := by decide +kernel
theorem dX2_eventAt_27 : decode cX2_eventAt 27 = .ok (.irem, 1) := by decide +kernel
theorem dX2_eventAt_28 : decode cX2_eventAt 28 = .ok (.istore_n 3, 1) := by decide +kernel
theorem dX2_eventAt_29 : decode cX2_eventAt 29 = .ok (.iload_n 2, 1) := by decide +kernel
theorem dX2_eventAt_30 : decode cX2_eventAt 30 = .ok (.ifCond .ne 10, 3) := by decide +kernel
theorem dX2_eventAt_33 : decode cX2_eventAt 33 = .ok (.aload_n 0, 1) := by decide +kernel
theorem dX2_eventAt_34 : decode cX2_eventAt 34 = .ok (.getfield 19, 3) := by decide +kernel
theorem dX2_eventAt_37 : decode cX2_eventAt 37 = .ok (.iload_n 3, 1) := by decide +kernel
theorem dX2_eventAt_38 : decode cX2_eventAt 38 = .ok (.iaload, 1) := by decide +kernel
theorem dX2_eventAt_39 : decode cX2_eventAt 39 = .ok (.ireturn, 1) := by decide +kernel
theorem dX2_eventAt_40 : decode cX2_eventAt 40 = .ok (.iload_n 2, 1) := by decide +kernel
theorem dX2_eventAt_41 : decode cX2_eventAt 41 = .ok (.iconst 1, 1) := by decide +kernel
theorem dX2_eventAt_42 : decode cX2_eventAt 42 = .ok (.if_icmp .ne 12, 3) := by decide +kernel
theorem dX2_eventAt_45 : decode cX2_eventAt 45 = .ok (.aload_n 0, 1) := by decide +kernel
theorem dX2_eventAt_46 : decode cX2_eventAt 46 = .ok (.getfield 22, 3) := by decide +kernel
theorem dX2_eventAt_49 : decode cX2_eventAt 49 = .ok (.iload_n 3, 1) := by decide +kernel
theorem dX2_eventAt_50 : decode cX2_eventAt 50 = .ok (.iaload, 1) := by decide +kernel
theorem dX2_eventAt_51 : decode cX2_eventAt 51 = .ok (.goto 9, 3) := by decide +kernel
theorem dX2_eventAt_54 : decode cX2_eventAt 54 = .ok (.aload_n 0, 1) := by decide +kernel
theorem dX2_eventAt_55 : decode cX2_eventAt 55 = .ok (.getfield 25, 3) := by decide +kernel
theorem dX2_eventAt_58 : decode cX2_eventAt 58 = .ok (.iload_n 3, 1) := by decide +kernel
theorem dX2_eventAt_59 : decode cX2_eventAt 59 = .ok (.iaload, 1) := by decide +kernel
theorem dX2_eventAt_60 : decode cX2_eventAt 60 = .ok (.ireturn, 1) := by decide +kernel
theorem dX2_addStarted_0 : decode cX2_addStarted 0 = .ok (.aload_n 0, 1) := by decide +kernel
theorem dX2_addStarted_1 : decode cX2_addStarted 1 = .ok (.getfield 44, 3) := by decide +kernel
theorem dX2_addStarted_4 : decode cX2_addStarted 4 = .ok (.bipush 80, 2) := by decide +kernel
theorem dX2_addStarted_6 : decode cX2_addStarted 6 = .ok (.if_icmp .ge 23, 3) := by decide +kernel
theorem dX2_addStarted_9 : decode cX2_addStarted 9 = .ok (.aload_n 0, 1) := by decide +kernel
theorem dX2_addStarted_10 : decode cX2_addStarted 10 = .ok (.getfield 15, 3) := by decide +kernel
theorem dX2_addStarted_13 : decode cX2_addStarted 13 = .ok (.aload_n 0, 1) := by decide +kernel
theorem dX2_addStarted_14 : decode cX2_addStarted 14 = .ok (.getfield 44, 3) := by decide +kernel
theorem dX2_addStarted_17 : decode cX2_addStarted 17 = .ok (.iload_n 1, 1) := by decide +kernel
theorem dX2_addStarted_18 : decode cX2_addStarted 18 = .ok (.iastore, 1) := by decide +kernel
theorem dX2_addStarted_19 : decode cX2_addStarted 19 = .ok (.aload_n 0, 1) := by decide +kernel
theorem dX2_addStarted_20 : decode cX2_addStarted 20 = .ok (.dup, 1) := by decide +kernel
theorem dX2_addStarted_21 : decode cX2_addStarted 21 = .ok (.getfield 44, 3) := by decide +kernel
theorem dX2_addStarted_24 : decode cX2_addStarted 24 = .ok (.iconst 1, 1) := by decide +kernel
theorem dX2_addStarted_25 : decode cX2_addStarted 25 = .ok (.iadd, 1) := by decide +kernel
theorem dX2_addStarted_26 : decode cX2_addStarted 26 = .ok (.putfield 44, 3) := by decide +kernel
theorem dX2_addStarted_29 : decode cX2_addStarted 29 = .ok (.return_, 1) := by decide +kernel
theorem dX2_charted_0 : decode cX2_charted 0 = .ok (.aload_n 0, 1) := by decide +kernel
theorem dX2_charted_1 : decode cX2_charted 1 = .ok (.getfield 28, 3) := by decide +kernel
theorem dX2_charted_4 : decode cX2_charted 4 = .ok (.iload_n 2, 1) := by decide +kernel
theorem dX2_charted_5 : decode cX2_charted 5 = .ok (.bipush 64, 2) := by decide +kernel
theorem dX2_charted_7 : decode cX2_charted 7 = .ok (.irem, 1) := by decide +kernel
theorem dX2_charted_8 : decode cX2_charted 8 = .ok (.bipush 16, 2) := by decide +kernel
theorem dX2_charted_10 : decode cX2_charted 10 = .ok (.imul, 1) := by decide +kernel
theorem dX2_charted_11 : decode cX2_charted 11 = .ok (.iload_n 1, 1) := by decide +kernel
theorem dX2_charted_12 : decode cX2_charted 12 = .ok (.iadd, 1) := by decide +kernel
theorem dX2_charted_13 : decode cX2_charted 13 = .ok (.iaload, 1) := by decide +kernel
theorem dX2_charted_14 : decode cX2_charted 14 = .ok (.ireturn, 1) := by decide +kernel
theorem dX2_chartTick_0 : decode cX2_chartTick 0 = .ok (.aload_n 0, 1) := by decide +kernel
theorem dX2_chartTick_1 : decode cX2_chartTick 1 = .ok (.getfield 28, 3) := by decide +kernel
theorem dX2_chartTick_4 : decode cX2_chartTick 4 = .ok (.iload_n 2, 1) := by decide +kernel
theorem dX2_chartTick_5 : decode cX2_chartTick 5 = .ok (.bipush 64, 2) := by decide +kernel
theorem dX2_chartTick_7 : decode cX2_chartTick 7 = .ok (.irem, 1) := by decide +kernel
theorem dX2_chartTick_8 : decode cX2_chartTick 8 = .ok (.bipush 16, 2) := by decide +kernel
theorem dX2_chartTick_10 : decode cX2_chartTick 10 = .ok (.imul, 1) := by decide +kernel
theorem dX2_chartTick_11 : decode cX2_chartTick 11 = .ok (.iload_n 1, 1) := by decide +kernel
theorem dX2_chartTick_12 : decode cX2_chartTick 12 = .ok (.iadd, 1) := by decide +kernel
theorem dX2_chartTick_13 : decode cX2_chartTick 13 = .ok (.iload_n 3, 1) := by decide +kernel
theorem dX2_chartTick_14 : decode cX2_chartTick 14 = .ok (.iastore, 1) := by decide +kernel
theorem dX2_chartTick_15 : decode cX2_chartTick 15 = .ok (.return_, 1) := by decide +kernel
theorem dX2_copyFrom_0 : decode cX2_copyFrom 0 = .ok (.aload_n 0, 1) := by decide +kernel
theorem dX2_copyFrom_1 : decode cX2_copyFrom 1 = .ok (.aload_n 1, 1) := by decide +kernel
theorem dX2_copyFrom_2 : decode cX2_copyFrom 2 = .ok (.getfield 44, 3) := by decide +kernel
theorem dX2_copyFrom_5 : decode cX2_copyFrom 5 = .ok (.putfield 44, 3) := by decide +kernel
theorem dX2_copyFrom_8 : decode cX2_copyFrom 8 = .ok (.aload_n 0, 1) := by decide +kernel
theorem dX2_copyFrom_9 : decode cX2_copyFrom 9 = .ok (.aload_n 1, 1) := by decide +kernel
theorem dX2_copyFrom_10 : decode cX2_copyFrom 10 = .ok (.getfield 35, 3) := by decide +kernel
theorem dX2_copyFrom_13 : decode cX2_copyFrom 13 = .ok (.putfield 35, 3) := by decide +kernel
theorem dX2_copyFrom_16 : decode cX2_copyFrom 16 = .ok (.aload_n 0, 1) := by decide +kernel
theorem dX2_copyFrom_17 : decode cX2_copyFrom 17 = .ok (.aload_n 1, 1) := by decide +kernel
theorem dX2_copyFrom_18 : decode cX2_copyFrom 18 = .ok (.getfield 31, 3) := by decide +kernel
theorem dX2_copyFrom_21 : decode cX2_copyFrom 21 = .ok (.putfield 31, 3) := by decide +kernel
theorem dX2_copyFrom_24 : decode cX2_copyFrom 24 = .ok (.aload_n 1, 1) := by decide +kernel
theorem dX2_copyFrom_25 : decode cX2_copyFrom 25 = .ok (.getfield 9, 3) := by decide +kernel
theorem dX2_copyFrom_28 : decode cX2_copyFrom 28 = .ok (.iconst 0, 1) := by decide +kernel
theorem dX2_copyFrom_29 : decode cX2_copyFrom 29 = .ok (.aload_n 0, 1) := by decide +kernel
theorem dX2_copyFrom_30 : decode cX2_copyFrom 30 = .ok (.getfield 9, 3) := by decide +kernel
theorem dX2_copyFrom_33 : decode cX2_copyFrom 33 = .ok (.iconst 0, 1) := by decide +kernel
theorem dX2_copyFrom_34 : decode cX2_copyFrom 34 = .ok (.aload_n 0, 1) := by decide +kernel
theorem dX2_copyFrom_35 : decode cX2_copyFrom 35 = .ok (.getfield 9, 3) := by decide +kernel
theorem dX2_copyFrom_38 : decode cX2_copyFrom 38 = .ok (.arraylength, 1) := by decide +kernel
theorem dX2_copyFrom_39 : decode cX2_copyFrom 39 = .ok (.invokestatic 47, 3) := by decide +kernel
theorem dX2_copyFrom_42 : decode cX2_copyFrom 42 = .ok (.aload_n 1, 1) := by decide +kernel
theorem dX2_copyFrom_43 : decode cX2_copyFrom 43 = .ok (.getfield 15, 3) := by decide +kernel
theorem dX2_copyFrom_46 : decode cX2_copyFrom 46 = .ok (.iconst 0, 1) := by decide +kernel
theorem dX2_copyFrom_47 : decode cX2_copyFrom 47 = .ok (.aload_n 0, 1) := by decide +kernel
theorem dX2_copyFrom_48 : decode cX2_copyFrom 48 = .ok (.getfield 15, 3) := by decide +kernel
theorem dX2_copyFrom_51 : decode cX2_copyFrom 51 = .ok (.iconst 0, 1) := by decide +kernel
theorem dX2_copyFrom_52 : decode cX2_copyFrom 52 = .ok (.aload_n 0, 1) := by decide +kernel
theorem dX2_copyFrom_53 : decode cX2_copyFrom 53 = .ok (.getfield 44, 3) := by decide +kernel
theorem dX2_copyFrom_56 : decode cX2_copyFrom 56 = .ok (.invokestatic 47, 3) := by decide +kernel
theorem dX2_copyFrom_59 : decode cX2_copyFrom 59 = .ok (.aload_n 1, 1) := by decide +kernel
theorem dX2_copyFrom_60 : decode cX2_copyFrom 60 = .ok (.getfield 19, 3) := by decide +kernel
theorem dX2_copyFrom_63 : decode cX2_copyFrom 63 = .ok (.iconst 0, 1) := by decide +kernel
theorem dX2_copyFrom_64 : decode cX2_copyFrom 64 = .ok (.aload_n 0, 1) := by decide +kernel
theorem dX2_copyFrom_65 : decode cX2_copyFrom 65 = .ok (.getfield 19, 3) := by decide +kernel
theorem dX2_copyFrom_68 : decode cX2_copyFrom 68 = .ok (.iconst 0, 1) := by decide +kernel
theorem dX2_copyFrom_69 : decode cX2_copyFrom 69 = .ok (.bipush 60, 2) := by decide +kernel
theorem dX2_copyFrom_71 : decode cX2_copyFrom 71 = .ok (.invokestatic 47, 3) := by decide +kernel
theorem dX2_copyFrom_74 : decode cX2_copyFrom 74 = .ok (.aload_n 1, 1) := by decide +kernel
theorem dX2_copyFrom_75 : decode cX2_copyFrom 75 = .ok (.getfield 22, 3) := by decide +kernel
theorem dX2_copyFrom_78 : decode cX2_copyFrom 78 = .ok (.iconst 0, 1) := by decide +kernel
theorem dX2_copyFrom_79 : decode cX2_copyFrom 79 = .ok (.aload_n 0, 1) := by decide +kernel
theorem dX2_copyFrom_80 : decode cX2_copyFrom 80 = .ok (.getfield 22, 3) := by decide +kernel
theorem dX2_copyFrom_83 : decode cX2_copyFrom 83 = .ok (.iconst 0, 1) := by decide +kernel
theorem dX2_copyFrom_84 : decode cX2_copyFrom 84 = .ok (.bipush 60, 2) := by decide +kernel
theorem dX2_copyFrom_86 : decode cX2_copyFrom 86 = .ok (.invokestatic 47, 3) := by decide +kernel
theorem dX2_copyFrom_89 : decode cX2_copyFrom 89 = .ok (.aload_n 1, 1) := by decide +kernel
theorem dX2_copyFrom_90 : decode cX2_copyFrom 90 = .ok (.getfield 25, 3) := by decide +kernel
theorem dX2_copyFrom_93 : decode cX2_copyFrom 93 = .ok (.iconst 0, 1) := by decide +kernel
theorem dX2_copyFrom_94 : decode cX2_copyFrom 94 = .ok (.aload_n 0, 1) := by decide +kernel
theorem dX2_copyFrom_95 : decode cX2_copyFrom 95 = .ok (.getfield 25, 3) := by decide +kernel
theorem dX2_copyFrom_98 : decode cX2_copyFrom 98 = .ok (.iconst 0, 1) := by decide +kernel
theorem dX2_copyFrom_99 : decode cX2_copyFrom 99 = .ok (.bipush 60, 2) := by decide +kernel
theorem dX2_copyFrom_101 : decode cX2_copyFrom 101 = .ok (.invokestatic 47, 3) := by decide +kernel
theorem dX2_copyFrom_104 : decode cX2_copyFrom 104 = .ok (.aload_n 1, 1) := by decide +kernel
theorem dX2_copyFrom_105 : decode cX2_copyFrom 105 = .ok (.getfield 28, 3) := by decide +kernel
theorem dX2_copyFrom_108 : decode cX2_copyFrom 108 = .ok (.iconst 0, 1) := by decide +kernel
theorem dX2_copyFrom_109 : decode cX2_copyFrom 109 = .ok (.aload_n 0, 1) := by decide +kernel
theorem dX2_copyFrom_110 : decode cX2_copyFrom 110 = .ok (.getfield 28, 3) := by decide +kernel
theorem dX2_copyFrom_113 : decode cX2_copyFrom 113 = .ok (.iconst 0, 1) := by decide +kernel
theorem dX2_copyFrom_114 : decode cX2_copyFrom 114 = .ok (.sipush 1024, 3) := by decide +kernel
theorem dX2_copyFrom_117 : decode cX2_copyFrom 117 = .ok (.invokestatic 47, 3) := by decide +kernel
theorem dX2_copyFrom_120 : decode cX2_copyFrom 120 = .ok (.return_, 1) := by decide +kernel
theorem dX3_init_0 : decode cX3_init 0 = .ok (.aload_n 0, 1) := by decide +kernel
theorem dX3_init_1 : decode cX3_init 1 = .ok (.invokespecial 3, 3) := by decide +kernel
theorem dX3_init_4 : decode cX3_init 4 = .ok (.aload_n 0, 1) := by decide +kernel
theorem dX3_init_5 : decode cX3_init 5 = .ok (.iconst 4, 1) := by decide +kernel
theorem dX3_init_6 : decode cX3_init 6 = .ok (.newarray .int, 2) := by decide +kernel
theorem dX3_init_8 : decode cX3_init 8 = .ok (.putfield 9, 3) := by decide +kernel
theorem dX3_init_11 : decode cX3_init 11 = .ok (.aload_n 0, 1) := by decide +kernel
theorem dX3_init_12 : decode cX3_init 12 = .ok (.iconst 4, 1) := by decide +kernel
theorem dX3_init_13 : decode cX3_init 13 = .ok (.newarray .int, 2) := by decide +kernel
theorem dX3_init_15 : decode cX3_init 15 = .ok (.putfield 15, 3) := by decide +kernel
theorem dX3_init_18 : decode cX3_init 18 = .ok (.aload_n 0, 1) := by decide +kernel
theorem dX3_init_19 : decode cX3_init 19 = .ok (.iconst 4, 1) := by decide +kernel
theorem dX3_init_20 : decode cX3_init 20 = .ok (.newarray .int, 2) := by decide +kernel
theorem dX3_init_22 : decode cX3_init 22 = .ok (.putfield 18, 3) := by decide +kernel
theorem dX3_init_25 : decode cX3_init 25 = .ok (.aload_n 0, 1) := by decide +kernel
theorem dX3_init_26 : decode cX3_init 26 = .ok (.iconst 4, 1) := by decide +kernel
theorem dX3_init_27 : decode cX3_init 27 = .ok (.newarray .int, 2) := by decide +kernel
theorem dX3_init_29 : decode cX3_init 29 = .ok (.putfield 21, 3) := by decide +kernel
theorem dX3_init_32 : decode cX3_init 32 = .ok (.return_, 1) := by decide +kernel
theorem dX3_add_0 : decode cX3_add 0 = .ok (.aload_n 0, 1) := by decide +kernel
theorem dX3_add_1 : decode cX3_add 1 = .ok (.getfield 24, 3) := by decide +kernel
theorem dX3_add_4 : decode cX3_add 4 = .ok (.iconst 4, 1) := by decide +kernel
theorem dX3_add_5 : decode cX3_add 5 = .ok (.if_icmp .ge 33, 3) := by decide +kernel
theorem dX3_add_8 : decode cX3_add 8 = .ok (.aload_n 0, 1) := by decide +kernel
theorem dX3_add_9 : decode cX3_add 9 = .ok (.getfield 9, 3) := by decide +kernel
theorem dX3_add_12 : decode cX3_add 12 = .ok (.aload_n 0, 1) := by decide +kernel
theorem dX3_add_13 : decode cX3_add 13 = .ok (.getfield 24, 3) := by decide +kernel
theorem dX3_add_16 : decode cX3_add 16 = .ok (.iload_n 1, 1) := by decide +kernel
theorem dX3_add_17 : decode cX3_add 17 = .ok (.iastore, 1) := by decide +kernel
theorem dX3_add_18 : decode cX3_add 18 = .ok (.aload_n 0, 1) := by decide +kernel
theorem dX3_add_19 : decode cX3_add 19 = .ok (.getfield 15, 3) := by decide +kernel
theorem dX3_add_22 : decode cX3_add 22 = .ok (.aload_n 0, 1) := by decide +kernel
theorem dX3_add_23 : decode cX3_add 23 = .ok (.getfield 24, 3) := by decide +kernel
theorem dX3_add_26 : decode cX3_add 26 = .ok (.iload_n 2, 1) := by decide +kernel
theorem dX3_add_27 : decode cX3_add 27 = .ok (.iastore, 1) := by decide +kernel
theorem dX3_add_28 : decode cX3_add 28 = .ok (.aload_n 0, 1) := by decide +kernel
theorem dX3_add_29 : decode cX3_add 29 = .ok (.dup, 1) := by decide +kernel
theorem dX3_add_30 : decode cX3_add 30 = .ok (.getfield 24, 3) := by decide +kernel
theorem dX3_add_33 : decode cX3_add 33 = .ok (.iconst 1, 1) := by decide +kernel
theorem dX3_add_34 : decode cX3_add 34 = .ok (.iadd, 1) := by decide +kernel
theorem dX3_add_35 : decode cX3_add 35 = .ok (.putfield 24, 3) := by decide +kernel
theorem dX3_add_38 : decode cX3_add 38 = .ok (.return_, 1) := by decide +kernel
theorem dX3_load_0 : decode cX3_load 0 = .ok (.aload_n 0, 1) := by decide +kernel
theorem dX3_load_1 : decode cX3_load 1 = .ok (.iconst 0, 1) := by decide +kernel
theorem dX3_load_2 : decode cX3_load 2 = .ok (.putfield 24, 3) := by decide +kernel
theorem dX3_load_5 : decode cX3_load 5 = .ok (.iconst 0, 1) := by decide +kernel
theorem dX3_load_6 : decode cX3_load 6 = .ok (.istore_n 3, 1) := by decide +kernel
theorem dX3_load_7 : decode cX3_load 7 = .ok (.iload_n 3, 1) := by decide +kernel
theorem dX3_load_8 : decode cX3_load 8 = .ok (.aload_n 1, 1) := by decide +kernel
theorem dX3_load_9 : decode cX3_load 9 = .ok (.getfield 28, 3) := by decide +kernel
theorem dX3_load_12 : decode cX3_load 12 = .ok (.getfield 34, 3) := by decide +kernel
theorem dX3_load_15 : decode cX3_load 15 = .ok (.iload_n 2, 1) := by decide +kernel
theorem dX3_load_16 : decode cX3_load 16 = .ok (.iaload, 1) := by decide +kernel
theorem dX3_load_17 : decode cX3_load 17 = .ok (.if_icmp .ge 39, 3) := by decide +kernel
theorem dX3_load_20 : decode cX3_load 20 = .ok (.aload_n 0, 1) := by decide +kernel
theorem dX3_load_21 : decode cX3_load 21 = .ok (.aload_n 1, 1) := by decide +kernel
theorem dX3_load_22 : decode cX3_load 22 = .ok (.getfield 39, 3) := by decide +kernel
theorem dX3_load_25 : decode cX3_load 25 = .ok (.getfield 42, 3) := by decide +kernel
theorem dX3_load_28 : decode cX3_load 28 = .ok (.iload_n 2, 1) := by decide +kernel
theorem dX3_load_29 : decode cX3_load 29 = .ok (.iconst 4, 1) := by decide +kernel
theorem dX3_load_30 : decode cX3_load 30 = .ok (.imul, 1) := by decide +kernel
theorem dX3_load_31 : decode cX3_load 31 = .ok (.iload_n 3, 1) := by decide +kernel
theorem dX3_load_32 : decode cX3_load 32 = .ok (.iadd, 1) := by decide +kernel
theorem dX3_load_33 : decode cX3_load 33 = .ok (.iaload, 1) := by decide +kernel
theorem dX3_load_34 : decode cX3_load 34 = .ok (.aload_n 1, 1) := by decide +kernel
theorem dX3_load_35 : decode cX3_load 35 = .ok (.getfield 39, 3) := by decide +kernel
theorem dX3_load_38 : decode cX3_load 38 = .ok (.getfield 45, 3) := by decide +kernel
theorem dX3_load_41 : decode cX3_load 41 = .ok (.iload_n 2, 1) := by decide +kernel
theorem dX3_load_42 : decode cX3_load 42 = .ok (.iconst 4, 1) := by decide +kernel
theorem dX3_load_43 : decode cX3_load 43 = .ok (.imul, 1) := by decide +kernel
theorem dX3_load_44 : decode cX3_load 44 = .ok (.iload_n 3, 1) := by decide +kernel
theorem dX3_load_45 : decode cX3_load 45 = .ok (.iadd, 1) := by decide +kernel
theorem dX3_load_46 : decode cX3_load 46 = .ok (.iaload, 1) := by decide +kernel
theorem dX3_load_47 : decode cX3_load 47 = .ok (.invokevirtual 46, 3) := by decide +kernel
theorem dX3_load_50 : decode cX3_load 50 = .ok (.iinc 3 1, 3) := by decide +kernel
theorem dX3_load_53 : decode cX3_load 53 = .ok (.goto (-46), 3) := by decide +kernel
theorem dX3_load_56 : decode cX3_load 56 = .ok (.aload_n 0, 1) := by decide +kernel
theorem dX3_load_57 : decode cX3_load 57 = .ok (.invokevirtual 50, 3) := by decide +kernel
theorem dX3_load_60 : decode cX3_load 60 = .ok (.return_, 1) := by decide +kernel
theorem dX3_arrange_0 : decode cX3_arrange 0 = .ok (.iconst 0, 1) := by decide +kernel
theorem dX3_arrange_1 : decode cX3_arrange 1 = .ok (.istore_n 1, 1) := by decide +kernel
theorem dX3_arrange_2 : decode cX3_arrange 2 = .ok (.iload_n 1, 1) := by decide +kernel
theorem dX3_arrange_3 : decode cX3_arrange 3 = .ok (.aload_n 0, 1) := by decide +kernel
theorem dX3_arrange_4 : decode cX3_arrange 4 = .ok (.getfield 24, 3) := by decide +kernel
theorem dX3_arrange_7 : decode cX3_arrange 7 = .ok (.if_icmp .ge 64, 3) := by decide +kernel
theorem dX3_arrange_10 : decode cX3_arrange 10 = .ok (.iload_n 1, 1) := by decide +kernel
theorem dX3_arrange_11 : decode cX3_arrange 11 = .ok (.istore_n 2, 1) := by decide +kernel
theorem dX3_arrange_12 : decode cX3_arrange 12 = .ok (.iload_n 2, 1) := by decide +kernel
theorem dX3_arrange_13 : decode cX3_arrange 13 = .ok (.ifCond .le 45, 3) := by decide +kernel
theorem dX3_arrange_16 : decode cX3_arrange 16 = .ok (.aload_n 0, 1) := by decide +kernel
theorem dX3_arrange_17 : decode cX3_arrange 17 = .ok (.getfield 9, 3) := by decide +kernel
theorem dX3_arrange_20 : decode cX3_arrange 20 = .ok (.aload_n 0, 1) := by decide +kernel
theorem dX3_arrange_21 : decode cX3_arrange 21 = .ok (.getfield 21, 3) := by decide +kernel
theorem dX3_arrange_24 : decode cX3_arrange 24 = .ok (.iload_n 2, 1) := by decide +kernel
theorem dX3_arrange_25 : decode cX3_arrange 25 = .ok (.iconst 1, 1) := by decide +kernel
theorem dX3_arrange_26 : decode cX3_arrange 26 = .ok (.isub, 1) := by decide +kernel
theorem dX3_arrange_27 : decode cX3_arrange 27 = .ok (.iaload, 1) := by decide +kernel
theorem dX3_arrange_28 : decode cX3_arrange 28 = .ok (.iaload, 1) := by decide +kernel
theorem dX3_arrange_29 : decode cX3_arrange 29 = .ok (.aload_n 0, 1) := by decide +kernel
theorem dX3_arrange_30 : decode cX3_arrange 30 = .ok (.getfield 9, 3) := by decide +kernel
theorem dX3_arrange_33 : decode cX3_arrange 33 = .ok (.iload_n 1, 1) := by decide +kernel
theorem dX3_arrange_34 : decode cX3_arrange 34 = .ok (.iaload, 1) := by decide +kernel
theorem dX3_arrange_35 : decode cX3_arrange 35 = .ok (.if_icmp .ge 23, 3) := by decide +kernel
theorem dX3_arrange_38 : decode cX3_arrange 38 = .ok (.aload_n 0, 1) := by decide +kernel
theorem dX3_arrange_39 : decode cX3_arrange 39 = .ok (.getfield 21, 3) := by decide +kernel
theorem dX3_arrange_42 : decode cX3_arrange 42 = .ok (.iload_n 2, 1) := by decide +kernel
theorem dX3_arrange_43 : decode cX3_arrange 43 = .ok (.aload_n 0, 1) := by decide +kernel
theorem dX3_arrange_44 : decode cX3_arrange 44 = .ok (.getfield 21, 3) := by decide +kernel
theorem dX3_arrange_47 : decode cX3_arrange 47 = .ok (.iload_n 2, 1) := by decide +kernel
theorem dX3_arrange_48 : decode cX3_arrange 48 = .ok (.iconst 1, 1) := by decide +kernel
theorem dX3_arrange_49 : decode cX3_arrange 49 = .ok (.isub, 1) := by decide +kernel
theorem dX3_arrange_50 : decode cX3_arrange 50 = .ok (.iaload, 1) := by decide +kernel
theorem dX3_arrange_51 : decode cX3_arrange 51 = .ok (.iastore, 1) := by decide +kernel
theorem dX3_arrange_52 : decode cX3_arrange 52 = .ok (.iinc 2 (-1), 3) := by decide +kernel
theorem dX3_arrange_55 : decode cX3_arrange 55 = .ok (.goto (-43), 3) := by decide +kernel
theorem dX3_arrange_58 : decode cX3_arrange 58 = .ok (.aload_n 0, 1) := by decide +kernel
theorem dX3_arrange_59 : decode cX3_arrange 59 = .ok (.getfield 21, 3) := by decide +kernel
theorem dX3_arrange_62 : decode cX3_arrange 62 = .ok (.iload_n 2, 1) := by decide +kernel
theorem dX3_arrange_63 : decode cX3_arrange 63 = .ok (.iload_n 1, 1) := by decide +kernel
theorem dX3_arrange_64 : decode cX3_arrange 64 = .ok (.iastore, 1) := by decide +kernel
theorem dX3_arrange_65 : decode cX3_arrange 65 = .ok (.iinc 1 1, 3) := by decide +kernel
theorem dX3_arrange_68 : decode cX3_arrange 68 = .ok (.goto (-66), 3) := by decide +kernel
theorem dX3_arrange_71 : decode cX3_arrange 71 = .ok (.return_, 1) := by decide +kernel
theorem dX3_columns_0 : decode cX3_columns 0 = .ok (.iconst 0, 1) := by decide +kernel
theorem dX3_columns_1 : decode cX3_columns 1 = .ok (.istore_n 1, 1) := by decide +kernel
theorem dX3_columns_2 : decode cX3_columns 2 = .ok (.iconst 0, 1) := by decide +kernel
theorem dX3_columns_3 : decode cX3_columns 3 = .ok (.istore_n 2, 1) := by decide +kernel
theorem dX3_columns_4 : decode cX3_columns 4 = .ok (.iload_n 2, 1) := by decide +kernel
theorem dX3_columns_5 : decode cX3_columns 5 = .ok (.aload_n 0, 1) := by decide +kernel
theorem dX3_columns_6 : decode cX3_columns 6 = .ok (.getfield 24, 3) := by decide +kernel
theorem dX3_columns_9 : decode cX3_columns 9 = .ok (.if_icmp .ge 18, 3) := by decide +kernel
theorem dX3_columns_12 : decode cX3_columns 12 = .ok (.iload_n 1, 1) := by decide +kernel
theorem dX3_columns_13 : decode cX3_columns 13 = .ok (.aload_n 0, 1) := by decide +kernel
theorem dX3_columns_14 : decode cX3_columns 14 = .ok (.getfield 9, 3) := by decide +kernel
theorem dX3_columns_17 : decode cX3_columns 17 = .ok (.iload_n 2, 1) := by decide +kernel
theorem dX3_columns_18 : decode cX3_columns 18 = .ok (.iaload, 1) := by decide +kernel
theorem dX3_columns_19 : decode cX3_columns 19 = .ok (.iadd, 1) := by decide +kernel
theorem dX3_columns_20 : decode cX3_columns 20 = .ok (.istore_n 1, 1) := by decide +kernel
theorem dX3_columns_21 : decode cX3_columns 21 = .ok (.iinc 2 1, 3) := by decide +kernel
theorem dX3_columns_24 : decode cX3_columns 24 = .ok (.goto (-20), 3) := by decide +kernel
theorem dX3_columns_27 : decode cX3_columns 27 = .ok (.iload_n 1, 1) := by decide +kernel
theorem dX3_columns_28 : decode cX3_columns 28 = .ok (.ireturn, 1) := by decide +kernel
theorem dX4_init_0 : decode cX4_init 0 = .ok (.aload_n 0, 1) := by decide +kernel
theorem dX4_init_1 : decode cX4_init 1 = .ok (.invokespecial 3, 3) := by decide +kernel
theorem dX4_init_4 : decode cX4_init 4 = .ok (.aload_n 0, 1) := by decide +kernel
theorem dX4_init_5 : decode cX4_init 5 = .ok (.bipush 80, 2) := by decide +kernel
theorem dX4_init_7 : decode cX4_init 7 = .ok (.newarray .int, 2) := by decide +kernel
theorem dX4_init_9 : decode cX4_init 9 = .ok (.putfield 9, 3) := by decide +kernel
theorem dX4_init_12 : decode cX4_init 12 = .ok (.aload_n 0, 1) := by decide +kernel
theorem dX4_init_13 : decode cX4_init 13 = .ok (.bipush 80, 2) := by decide +kernel
theorem dX4_init_15 : decode cX4_init 15 = .ok (.newarray .int, 2) := by decide +kernel
theorem dX4_init_17 : decode cX4_init 17 = .ok (.putfield 15, 3) := by decide +kernel
theorem dX4_init_20 : decode cX4_init 20 = .ok (.aload_n 0, 1) := by decide +kernel
theorem dX4_init_21 : decode cX4_init 21 = .ok (.bipush 80, 2) := by decide +kernel
theorem dX4_init_23 : decode cX4_init 23 = .ok (.newarray .int, 2) := by decide +kernel
theorem dX4_init_25 : decode cX4_init 25 = .ok (.putfield 18, 3) := by decide +kernel
theorem dX4_init_28 : decode cX4_init 28 = .ok (.aload_n 0, 1) := by decide +kernel
theorem dX4_init_29 : decode cX4_init 29 = .ok (.bipush 80, 2) := by decide +kernel
theorem dX4_init_31 : decode cX4_init 31 = .ok (.newarray .int, 2) := by decide +kernel
theorem dX4_init_33 : decode cX4_init 33 = .ok (.putfield 21, 3) := by decide +kernel
theorem dX4_init_36 : decode cX4_init 36 = .ok (.aload_n 0, 1) := by decide +kernel
theorem dX4_init_37 : decode cX4_init 37 = .ok (.bipush 80, 2) := by decide +kernel
theorem dX4_init_39 : decode cX4_init 39 = .ok (.newarray .int, 2) := by decide +kernel
theorem dX4_init_41 : decode cX4_init 41 = .ok (.putfield 24, 3) := by decide +kernel
theorem dX4_init_44 : decode cX4_init 44 = .ok (.aload_n 0, 1) := by decide +kernel
theorem dX4_init_45 : decode cX4_init 45 = .ok (.bipush 80, 2) := by decide +kernel
theorem dX4_init_47 : decode cX4_init 47 = .ok (.newarray .int, 2) := by decide +kernel
theorem dX4_init_49 : decode cX4_init 49 = .ok (.putfield 27, 3) := by decide +kernel
theorem dX4_init_52 : decode cX4_init 52 = .ok (.aload_n 0, 1) := by decide +kernel
theorem dX4_init_53 : decode cX4_init 53 = .ok (.bipush 80, 2) := by decide +kernel
theorem dX4_init_55 : decode cX4_init 55 = .ok (.newarray .int, 2) := by decide +kernel
theorem dX4_init_57 : decode cX4_init 57 = .ok (.putfield 30, 3) := by decide +kernel
theorem dX4_init_60 : decode cX4_init 60 = .ok (.aload_n 0, 1) := by decide +kernel
theorem dX4_init_61 : decode cX4_init 61 = .ok (.bipush 80, 2) := by decide +kernel
theorem dX4_init_63 : decode cX4_init 63 = .ok (.newarray .int, 2) := by decide +kernel
theorem dX4_init_65 : decode cX4_init 65 = .ok (.putfield 33, 3) := by decide +kernel
theorem dX4_init_68 : decode cX4_init 68 = .ok (.aload_n 0, 1) := by decide +kernel
theorem dX4_init_69 : decode cX4_init 69 = .ok (.bipush 80, 2) := by decide +kernel
theorem dX4_init_71 : decode cX4_init 71 = .ok (.newarray .int, 2) := by decide +kernel
theorem dX4_init_73 : decode cX4_init 73 = .ok (.putfield 36, 3) := by decide +kernel
theorem dX4_init_76 : decode cX4_init 76 = .ok (.aload_n 0, 1) := by decide +kernel
theorem dX4_init_77 : decode cX4_init 77 = .ok (.bipush 80, 2) := by decide +kernel
theorem dX4_init_79 : decode cX4_init 79 = .ok (.newarray .int, 2) := by decide +kernel
theorem dX4_init_81 : decode cX4_init 81 = .ok (.putfield 39, 3) := by decide +kernel
theorem dX4_init_84 : decode cX4_init 84 = .ok (.aload_n 0, 1) := by decide +kernel
theorem dX4_init_85 : decode cX4_init 85 = .ok (.bipush 80, 2) := by decide +kernel
theorem dX4_init_87 : decode cX4_init 87 = .ok (.newarray .int, 2) := by decide +kernel
theorem dX4_init_89 : decode cX4_init 89 = .ok (.putfield 42, 3) := by decide +kernel
theorem dX4_init_92 : decode cX4_init 92 = .ok (.aload_n 0, 1) := by decide +kernel
theorem dX4_init_93 : decode cX4_init 93 = .ok (.bipush 80, 2) := by decide +kernel
theorem dX4_init_95 : decode cX4_init 95 = .ok (.newarray .int, 2) := by decide +kernel
theorem dX4_init_97 : decode cX4_init 97 = .ok (.putfield 45, 3) := by decide +kernel
theorem dX4_init_100 : decode cX4_init 100 = .ok (.aload_n 0, 1) := by decide +kernel
theorem dX4_init_101 : decode cX4_init 101 = .ok (.bipush 80, 2) := by decide +kernel
theorem dX4_init_103 : decode cX4_init 103 = .ok (.newarray .int, 2) := by decide +kernel
theorem dX4_init_105 : decode cX4_init 105 = .ok (.putfield 48, 3) := by decide +kernel
theorem dX4_init_108 : decode cX4_init 108 = .ok (.return_, 1) := by decide +kernel
theorem dX4_isInLine_0 : decode cX4_isInLine 0 = .ok (.aload_n 0, 1) := by decide +kernel
theorem dX4_isInLine_1 : decode cX4_isInLine 1 = .ok (.getfield 9, 3) := by decide +kernel
theorem dX4_isInLine_4 : decode cX4_isInLine 4 = .ok (.iload_n 1, 1) := by decide +kernel
theorem dX4_isInLine_5 : decode cX4_isInLine 5 = .ok (.iaload, 1) := by decide +kernel
theorem dX4_isInLine_6 : decode cX4_isInLine 6 = .ok (.ifCond .ne 12, 3) := by decide +kernel
theorem dX4_isInLine_9 : decode cX4_isInLine 9 = .ok (.aload_n 0, 1) := by decide +kernel
theorem dX4_isInLine_10 : decode cX4_isInLine 10 = .ok (.getfield 33, 3) := by decide +kernel
theorem dX4_isInLine_13 : decode cX4_isInLine 13 = .ok (.iload_n 1, 1) := by decide +kernel
theorem dX4_isInLine_14 : decode cX4_isInLine 14 = .ok (.iaload, 1) := by decide +kernel
theorem dX4_isInLine_15 : decode cX4_isInLine 15 = .ok (.ifCond .eq 5, 3) := by decide +kernel
theorem dX4_isInLine_18 : decode cX4_isInLine 18 = .ok (.iconst 0, 1) := by decide +kernel
theorem dX4_isInLine_19 : decode cX4_isInLine 19 = .ok (.ireturn, 1) := by decide +kernel
theorem dX4_isInLine_20 : decode cX4_isInLine 20 = .ok (.aload_n 0, 1) := by decide +kernel
theorem dX4_isInLine_21 : decode cX4_isInLine 21 = .ok (.getfield 24, 3) := by decide +kernel
theorem dX4_isInLine_24 : decode cX4_isInLine 24 = .ok (.iload_n 1, 1) := by decide +kernel
theorem dX4_isInLine_25 : decode cX4_isInLine 25 = .ok (.iaload, 1) := by decide +kernel
theorem dX4_isInLine_26 : decode cX4_isInLine 26 = .ok (.istore_n 2, 1) := by decide +kernel
theorem dX4_isInLine_27 : decode cX4_isInLine 27 = .ok (.iload_n 2, 1) := by decide +kernel
theorem dX4_isInLine_28 : decode cX4_isInLine 28 = .ok (.iconst (-1), 1) := by decide +kernel
theorem dX4_isInLine_29 : decode cX4_isInLine 29 = .ok (.if_icmp .eq 23, 3) := by decide +kernel
theorem dX4_isInLine_32 : decode cX4_isInLine 32 = .ok (.aload_n 0, 1) := by decide +kernel
theorem dX4_isInLine_33 : decode cX4_isInLine 33 = .ok (.getfield 9, 3) := by decide +kernel
theorem dX4_isInLine_36 : decode cX4_isInLine 36 = .ok (.iload_n 2, 1) := by decide +kernel
theorem dX4_isInLine_37 : decode cX4_isInLine 37 = .ok (.iaload, 1) := by decide +kernel
theorem dX4_isInLine_38 : decode cX4_isInLine 38 = .ok (.iconst 2, 1) := by decide +kernel
theorem dX4_isInLine_39 : decode cX4_isInLine 39 = .ok (.if_icmp .eq 13, 3) := by decide +kernel
theorem dX4_isInLine_42 : decode cX4_isInLine 42 = .ok (.aload_n 0, 1) := by decide +kernel
theorem dX4_isInLine_43 : decode cX4_isInLine 43 = .ok (.getfield 9, 3) := by decide +kernel
theorem dX4_isInLine_46 : decode cX4_isInLine 46 = .ok (.iload_n 2, 1) := by decide +kernel
theorem dX4_isInLine_47 : decode cX4_isInLine 47 = .ok (.iaload, 1) := by decide +kernel
theorem dX4_isInLine_48 : decode cX4_isInLine 48 = .ok (.iconst 3, 1) := by decide +kernel
theorem dX4_isInLine_49 : decode cX4_isInLine 49 = .ok (.if_icmp .ne 7, 3) := by decide +kernel
theorem dX4_isInLine_52 : decode cX4_isInLine 52 = .ok (.iconst 1, 1) := by decide +kernel
theorem dX4_isInLine_53 : decode cX4_isInLine 53 = .ok (.goto 4, 3) := by decide +kernel
theorem dX4_isInLine_56 : decode cX4_isInLine 56 = .ok (.iconst 0, 1) := by decide +kernel
theorem dX4_isInLine_57 : decode cX4_isInLine 57 = .ok (.ireturn, 1) := by decide +kernel
theorem dX4_anyMayStart_0 : decode cX4_anyMayStart 0 = .ok (.iconst 0, 1) := by decide +kernel
theorem dX4_anyMayStart_1 : decode cX4_anyMayStart 1 = .ok (.istore_n 1, 1) := by decide +kernel
theorem dX4_anyMayStart_2 : decode cX4_anyMayStart 2 = .ok (.iload_n 1, 1) := by decide +kernel
theorem dX4_anyMayStart_3 : decode cX4_anyMayStart 3 = .ok (.aload_n 0, 1) := by decide +kernel
theorem dX4_anyMayStart_4 : decode cX4_anyMayStart 4 = .ok (.getfield 51, 3) := by decide +kernel
theorem dX4_anyMayStart_7 : decode cX4_anyMayStart 7 = .ok (.if_icmp .ge 29, 3) := by decide +kernel
theorem dX4_anyMayStart_10 : decode cX4_anyMayStart 10 = .ok (.aload_n 0, 1) := by decide +kernel
theorem dX4_anyMayStart_11 : decode cX4_anyMayStart 11 = .ok (.getfield 9, 3) := by decide +kernel
theorem dX4_anyMayStart_14 : decode cX4_anyMayStart 14 = .ok (.iload_n 1, 1) := by decide +kernel
theorem dX4_anyMayStart_15 : decode cX4_anyMayStart 15 = .ok (.iaload, 1) := by decide +kernel
theorem dX4_anyMayStart_16 : decode cX4_anyMayStart 16 = .ok (.ifCond .ne 14, 3) := by decide +kernel
theorem dX4_anyMayStart_19 : decode cX4_anyMayStart 19 = .ok (.aload_n 0, 1) := by decide +kernel
theorem dX4_anyMayStart_20 : decode cX4_anyMayStart 20 = .ok (.getfield 33, 3) := by decide +kernel
theorem dX4_anyMayStart_23 : decode cX4_anyMayStart 23 = .ok (.iload_n 1, 1) := by decide +kernel
theorem dX4_anyMayStart_24 : decode cX4_anyMayStart 24 = .ok (.iaload, 1) := by decide +kernel
theorem dX4_anyMayStart_25 : decode cX4_anyMayStart 25 = .ok (.ifCond .ne 5, 3) := by decide +kernel
theorem dX4_anyMayStart_28 : decode cX4_anyMayStart 28 = .ok (.iconst 1, 1) := by decide +kernel
theorem dX4_anyMayStart_29 : decode cX4_anyMayStart 29 = .ok (.ireturn, 1) := by decide +kernel
theorem dX4_anyMayStart_30 : decode cX4_anyMayStart 30 = .ok (.iinc 1 1, 3) := by decide +kernel
theorem dX4_anyMayStart_33 : decode cX4_anyMayStart 33 = .ok (.goto (-31), 3) := by decide +kernel
theorem dX4_anyMayStart_36 : decode cX4_anyMayStart 36 = .ok (.iconst 0, 1) := by decide +kernel
theorem dX4_anyMayStart_37 : decode cX4_anyMayStart 37 = .ok (.ireturn, 1) := by decide +kernel
theorem dX4_countIn_0 : decode cX4_countIn 0 = .ok (.iconst 0, 1) := by decide +kernel
theorem dX4_countIn_1 : decode cX4_countIn 1 = .ok (.istore_n 2, 1) := by decide +kernel
theorem dX4_countIn_2 : decode cX4_countIn 2 = .ok (.iconst 0, 1) := by decide +kernel
theorem dX4_countIn_3 : decode cX4_countIn 3 = .ok (.istore_n 3, 1) := by decide +kernel
theorem dX4_countIn_4 : decode cX4_countIn 4 = .ok (.iload_n 3, 1) := by decide +kernel
theorem dX4_countIn_5 : decode cX4_countIn 5 = .ok (.aload_n 0, 1) := by decide +kernel
theorem dX4_countIn_6 : decode cX4_countIn 6 = .ok (.getfield 51, 3) := by decide +kernel
theorem dX4_countIn_9 : decode cX4_countIn 9 = .ok (.if_icmp .ge 27, 3) := by decide +kernel
theorem dX4_countIn_12 : decode cX4_countIn 12 = .ok (.iload_n 2, 1) := by decide +kernel
theorem dX4_countIn_13 : decode cX4_countIn 13 = .ok (.aload_n 0, 1) := by decide +kernel
theorem dX4_countIn_14 : decode cX4_countIn 14 = .ok (.getfield 9, 3) := by decide +kernel
theorem dX4_countIn_17 : decode cX4_countIn 17 = .ok (.iload_n 3, 1) := by decide +kernel
theorem dX4_countIn_18 : decode cX4_countIn 18 = .ok (.iaload, 1) := by decide +kernel
theorem dX4_countIn_19 : decode cX4_countIn 19 = .ok (.iload_n 1, 1) := by decide +kernel
theorem dX4_countIn_20 : decode cX4_countIn 20 = .ok (.if_icmp .ne 7, 3) := by decide +kernel
theorem dX4_countIn_23 : decode cX4_countIn 23 = .ok (.iconst 1, 1) := by decide +kernel
theorem dX4_countIn_24 : decode cX4_countIn 24 = .ok (.goto 4, 3) := by decide +kernel
theorem dX4_countIn_27 : decode cX4_countIn 27 = .ok (.iconst 0, 1) := by decide +kernel
theorem dX4_countIn_28 : decode cX4_countIn 28 = .ok (.iadd, 1) := by decide +kernel
theorem dX4_countIn_29 : decode cX4_countIn 29 = .ok (.istore_n 2, 1) := by decide +kernel
theorem dX4_countIn_30 : decode cX4_countIn 30 = .ok (.iinc 3 1, 3) := by decide +kernel
theorem dX4_countIn_33 : decode cX4_countIn 33 = .ok (.goto (-29), 3) := by decide +kernel
theorem dX4_countIn_36 : decode cX4_countIn 36 = .ok (.iload_n 2, 1) := by decide +kernel
theorem dX4_countIn_37 : decode cX4_countIn 37 = .ok (.ireturn, 1) := by decide +kernel
theorem dX4_countPromises_0 : decode cX4_countPromises 0 = .ok (.iconst 0, 1) := by decide +kernel
theorem dX4_countPromises_1 : decode cX4_countPromises 1 = .ok (.istore_n 1, 1) := by decide +kernel
theorem dX4_countPromises_2 : decode cX4_countPromises 2 = .ok (.iconst 0, 1) := by decide +kernel
theorem dX4_countPromises_3 : decode cX4_countPromises 3 = .ok (.istore_n 2, 1) := by decide +kernel
theorem dX4_countPromises_4 : decode cX4_countPromises 4 = .ok (.iload_n 2, 1) := by decide +kernel
theorem dX4_countPromises_5 : decode cX4_countPromises 5 = .ok (.aload_n 0, 1) := by decide +kernel
theorem dX4_countPromises_6 : decode cX4_countPromises 6 = .ok (.getfield 51, 3) := by decide +kernel
theorem dX4_countPromises_9 : decode cX4_countPromises 9 = .ok (.if_icmp .ge 27, 3) := by decide +kernel
theorem dX4_countPromises_12 : decode cX4_countPromises 12 = .ok (.iload_n 1, 1) := by decide +kernel
theorem dX4_countPromises_13 : decode cX4_countPromises 13 = .ok (.aload_n 0, 1) := by decide +kernel
theorem dX4_countPromises_14 : decode cX4_countPromises 14 = .ok (.getfield 48, 3) := by decide +kernel
theorem dX4_countPromises_17 : decode cX4_countPromises 17 = .ok (.iload_n 2, 1) := by decide +kernel
theorem dX4_countPromises_18 : decode cX4_countPromises 18 = .ok (.iaload, 1) := by decide +kernel
theorem dX4_countPromises_19 : decode cX4_countPromises 19 = .ok (.iconst (-1), 1) := by decide +kernel
theorem dX4_countPromises_20 : decode cX4_countPromises 20 = .ok (.if_icmp .eq 7, 3) := by decide +kernel
theorem dX4_countPromises_23 : decode cX4_countPromises 23 = .ok (.iconst 1, 1) := by decide +kernel
theorem dX4_countPromises_24 : decode cX4_countPromises 24 = .ok (.goto 4, 3) := by decide +kernel
theorem dX4_countPromises_27 : decode cX4_countPromises 27 = .ok (.iconst 0, 1) := by decide +kernel
theorem dX4_countPromises_28 : decode cX4_countPromises 28 = .ok (.iadd, 1) := by decide +kernel
theorem dX4_countPromises_29 : decode cX4_countPromises 29 = .ok (.istore_n 1, 1) := by decide +kernel
theorem dX4_countPromises_30 : decode cX4_countPromises 30 = .ok (.iinc 2 1, 3) := by decide +kernel
theorem dX4_countPromises_33 : decode cX4_countPromises 33 = .ok (.goto (-29), 3) := by decide +kernel
theorem dX4_countPromises_36 : decode cX4_countPromises 36 = .ok (.iload_n 1, 1) := by decide +kernel
theorem dX4_countPromises_37 : decode cX4_countPromises 37 = .ok (.ireturn, 1) := by decide +kernel
theorem dX4_copyFrom_0 : decode cX4_copyFrom 0 = .ok (.aload_n 0, 1) := by decide +kernel
theorem dX4_copyFrom_1 : decode cX4_copyFrom 1 = .ok (.aload_n 1, 1) := by decide +kernel
theorem dX4_copyFrom_2 : decode cX4_copyFrom 2 = .ok (.getfield 51, 3) := by decide +kernel
theorem dX4_copyFrom_5 : decode cX4_copyFrom 5 = .ok (.putfield 51, 3) := by decide +kernel
theorem dX4_copyFrom_8 : decode cX4_copyFrom 8 = .ok (.aload_n 1, 1) := by decide +kernel
theorem dX4_copyFrom_9 : decode cX4_copyFrom 9 = .ok (.getfield 9, 3) := by decide +kernel
theorem dX4_copyFrom_12 : decode cX4_copyFrom 12 = .ok (.iconst 0, 1) := by decide +kernel
theorem dX4_copyFrom_13 : decode cX4_copyFrom 13 = .ok (.aload_n 0, 1) := by decide +kernel
theorem dX4_copyFrom_14 : decode cX4_copyFrom 14 = .ok (.getfield 9, 3) := by decide +kernel
theorem dX4_copyFrom_17 : decode cX4_copyFrom 17 = .ok (.iconst 0, 1) := by decide +kernel
theorem dX4_copyFrom_18 : decode cX4_copyFrom 18 = .ok (.aload_n 0, 1) := by decide +kernel
theorem dX4_copyFrom_19 : decode cX4_copyFrom 19 = .ok (.getfield 51, 3) := by decide +kernel
theorem dX4_copyFrom_22 : decode cX4_copyFrom 22 = .ok (.invokestatic 55, 3) := by decide +kernel
theorem dX4_copyFrom_25 : decode cX4_copyFrom 25 = .ok (.aload_n 1, 1) := by decide +kernel
theorem dX4_copyFrom_26 : decode cX4_copyFrom 26 = .ok (.getfield 15, 3) := by decide +kernel
theorem dX4_copyFrom_29 : decode cX4_copyFrom 29 = .ok (.iconst 0, 1) := by decide +kernel
theorem dX4_copyFrom_30 : decode cX4_copyFrom 30 = .ok (.aload_n 0, 1) := by decide +kernel
theorem dX4_copyFrom_31 : decode cX4_copyFrom 31 = .ok (.getfield 15, 3) := by decide +kernel
theorem dX4_copyFrom_34 : decode cX4_copyFrom 34 = .ok (.iconst 0, 1) := by decide +kernel
theorem dX4_copyFrom_35 : decode cX4_copyFrom 35 = .ok (.aload_n 0, 1) := by decide +kernel
theorem dX4_copyFrom_36 : decode cX4_copyFrom 36 = .ok (.getfield 51, 3) := by decide +kernel
theorem dX4_copyFrom_39 : decode cX4_copyFrom 39 = .ok (.invokestatic 55, 3) := by decide +kernel
theorem dX4_copyFrom_42 : decode cX4_copyFrom 42 = .ok (.aload_n 1, 1) := by decide +kernel
theorem dX4_copyFrom_43 : decode cX4_copyFrom 43 = .ok (.getfield 18, 3) := by decide +kernel
theorem dX4_copyFrom_46 : decode cX4_copyFrom 46 = .ok (.iconst 0, 1) := by decide +kernel
theorem dX4_copyFrom_47 : decode cX4_copyFrom 47 = .ok (.aload_n 0, 1) := by decide +kernel
theorem dX4_copyFrom_48 : decode cX4_copyFrom 48 = .ok (.getfield 18, 3) := by decide +kernel
theorem dX4_copyFrom_51 : decode cX4_copyFrom 51 = .ok (.iconst 0, 1) := by decide +kernel
theorem dX4_copyFrom_52 : decode cX4_copyFrom 52 = .ok (.aload_n 0, 1) := by decide +kernel
theorem dX4_copyFrom_53 : decode cX4_copyFrom 53 = .ok (.getfield 51, 3) := by decide +kernel
theorem dX4_copyFrom_56 : decode cX4_copyFrom 56 = .ok (.invokestatic 55, 3) := by decide +kernel
theorem dX4_copyFrom_59 : decode cX4_copyFrom 59 = .ok (.aload_n 1, 1) := by decide +kernel
theorem dX4_copyFrom_60 : decode cX4_copyFrom 60 = .ok (.getfield 21, 3) := by decide +kernel
theorem dX4_copyFrom_63 : decode cX4_copyFrom 63 = .ok (.iconst 0, 1) := by decide +kernel
theorem dX4_copyFrom_64 : decode cX4_copyFrom 64 = .ok (.aload_n 0, 1) := by decide +kernel
theorem dX4_copyFrom_65 : decode cX4_copyFrom 65 = .ok (.getfield 21, 3) := by decide +kernel
theorem dX4_copyFrom_68 : decode cX4_copyFrom 68 = .ok (.iconst 0, 1) := by decide +kernel
theorem dX4_copyFrom_69 : decode cX4_copyFrom 69 = .ok (.aload_n 0, 1) := by decide +kernel
theorem dX4_copyFrom_70 : decode cX4_copyFrom 70 = .ok (.getfield 51, 3) := by decide +kernel
theorem dX4_copyFrom_73 : decode cX4_copyFrom 73 = .ok (.invokestatic 55, 3) := by decide +kernel
theorem dX4_copyFrom_76 : decode cX4_copyFrom 76 = .ok (.aload_n 1, 1) := by decide +kernel
theorem dX4_copyFrom_77 : decode cX4_copyFrom 77 = .ok (.getfield 24, 3) := by decide +kernel
theorem dX4_copyFrom_80 : decode cX4_copyFrom 80 = .ok (.iconst 0, 1) := by decide +kernel
theorem dX4_copyFrom_81 : decode cX4_copyFrom 81 = .ok (.aload_n 0, 1) := by decide +kernel
theorem dX4_copyFrom_82 : decode cX4_copyFrom 82 = .ok (.getfield 24, 3) := by decide +kernel
theorem dX4_copyFrom_85 : decode cX4_copyFrom 85 = .ok (.iconst 0, 1) := by decide +kernel
theorem dX4_copyFrom_86 : decode cX4_copyFrom 86 = .ok (.aload_n 0, 1) := by decide +kernel
theorem dX4_copyFrom_87 : decode cX4_copyFrom 87 = .ok (.getfield 51, 3) := by decide +kernel
theorem dX4_copyFrom_90 : decode cX4_copyFrom 90 = .ok (.invokestatic 55, 3) := by decide +kernel
theorem dX4_copyFrom_93 : decode cX4_copyFrom 93 = .ok (.aload_n 1, 1) := by decide +kernel
theorem dX4_copyFrom_94 : decode cX4_copyFrom 94 = .ok (.getfield 27, 3) := by decide +kernel
theorem dX4_copyFrom_97 : decode cX4_copyFrom 97 = .ok (.iconst 0, 1) := by decide +kernel
theorem dX4_copyFrom_98 : decode cX4_copyFrom 98 = .ok (.aload_n 0, 1) := by decide +kernel
theorem dX4_copyFrom_99 : decode cX4_copyFrom 99 = .ok (.getfield 27, 3) := by decide +kernel
theorem dX4_copyFrom_102 : decode cX4_copyFrom 102 = .ok (.iconst 0, 1) := by decide +kernel
theorem dX4_copyFrom_103 : decode cX4_copyFrom 103 = .ok (.aload_n 0, 1) := by decide +kernel
theorem dX4_copyFrom_104 : decode cX4_copyFrom 104 = .ok (.getfield 51, 3) := by decide +kernel
theorem dX4_copyFrom_107 : decode cX4_copyFrom 107 = .ok (.invokestatic 55, 3) := by decide +kernel
theorem dX4_copyFrom_110 : decode cX4_copyFrom 110 = .ok (.aload_n 1, 1) := by decide +kernel
theorem dX4_copyFrom_111 : decode cX4_copyFrom 111 = .ok (.getfield 30, 3) := by decide +kernel
theorem dX4_copyFrom_114 : decode cX4_copyFrom 114 = .ok (.iconst 0, 1) := by decide +kernel
theorem dX4_copyFrom_115 : decode cX4_copyFrom 115 = .ok (.aload_n 0, 1) := by decide +kernel
theorem dX4_copyFrom_116 : decode cX4_copyFrom 116 = .ok (.getfield 30, 3) := by decide +kernel
theorem dX4_copyFrom_119 : decode cX4_copyFrom 119 = .ok (.iconst 0, 1) := by decide +kernel
theorem dX4_copyFrom_120 : decode cX4_copyFrom 120 = .ok (.aload_n 0, 1) := by decide +kernel
theorem dX4_copyFrom_121 : decode cX4_copyFrom 121 = .ok (.getfield 51, 3) := by decide +kernel
theorem dX4_copyFrom_124 : decode cX4_copyFrom 124 = .ok (.invokestatic 55, 3) := by decide +kernel
theorem dX4_copyFrom_127 : decode cX4_copyFrom 127 = .ok (.aload_n 1, 1) := by decide +kernel
theorem dX4_copyFrom_128 : decode cX4_copyFrom 128 = .ok (.getfield 33, 3) := by decide +kernel
theorem dX4_copyFrom_131 : decode cX4_copyFrom 131 = .ok (.iconst 0, 1) := by decide +kernel
theorem dX4_copyFrom_132 : decode cX4_copyFrom 132 = .ok (.aload_n 0, 1) := by decide +kernel
theorem dX4_copyFrom_133 : decode cX4_copyFrom 133 = .ok (.getfield 33, 3) := by decide +kernel
theorem dX4_copyFrom_136 : decode cX4_copyFrom 136 = .ok (.iconst 0, 1) := by decide +kernel
theorem dX4_copyFrom_137 : decode cX4_copyFrom 137 = .ok (.aload_n 0, 1) := by decide +kernel
theorem dX4_copyFrom_138 : decode cX4_copyFrom 138 = .ok (.getfield 51, 3) := by decide +kernel
theorem dX4_copyFrom_141 : decode cX4_copyFrom 141 = .ok (.invokestatic 55, 3) := by decide +kernel
theorem dX4_copyFrom_144 : decode cX4_copyFrom 144 = .ok (.aload_n 1, 1) := by decide +kernel
theorem dX4_copyFrom_145 : decode cX4_copyFrom 145 = .ok (.getfield 36, 3) := by decide +kernel
theorem dX4_copyFrom_148 : decode cX4_copyFrom 148 = .ok (.iconst 0, 1) := by decide +kernel
theorem dX4_copyFrom_149 : decode cX4_copyFrom 149 = .ok (.aload_n 0, 1) := by decide +kernel
theorem dX4_copyFrom_150 : decode cX4_copyFrom 150 = .ok (.getfield 36, 3) := by decide +kernel
theorem dX4_copyFrom_153 : decode cX4_copyFrom 153 = .ok (.iconst 0, 1) := by decide +kernel
theorem dX4_copyFrom_154 : decode cX4_copyFrom 154 = .ok (.aload_n 0, 1) := by decide +kernel
theorem dX4_copyFrom_155 : decode cX4_copyFrom 155 = .ok (.getfield 51, 3) := by decide +kernel
theorem dX4_copyFrom_158 : decode cX4_copyFrom 158 = .ok (.invokestatic 55, 3) := by decide +kernel
theorem dX4_copyFrom_161 : decode cX4_copyFrom 161 = .ok (.aload_n 1, 1) := by decide +kernel
theorem dX4_copyFrom_162 : decode cX4_copyFrom 162 = .ok (.getfield 39, 3) := by decide +kernel
theorem dX4_copyFrom_165 : decode cX4_copyFrom 165 = .ok (.iconst 0, 1) := by decide +kernel
theorem dX4_copyFrom_166 : decode cX4_copyFrom 166 = .ok (.aload_n 0, 1) := by decide +kernel
theorem dX4_copyFrom_167 : decode cX4_copyFrom 167 = .ok (.getfield 39, 3) := by decide +kernel
theorem dX4_copyFrom_170 : decode cX4_copyFrom 170 = .ok (.iconst 0, 1) := by decide +kernel
theorem dX4_copyFrom_171 : decode cX4_copyFrom 171 = .ok (.aload_n 0, 1) := by decide +kernel
theorem dX4_copyFrom_172 : decode cX4_copyFrom 172 = .ok (.getfield 51, 3) := by decide +kernel
theorem dX4_copyFrom_175 : decode cX4_copyFrom 175 = .ok (.invokestatic 55, 3) := by decide +kernel
theorem dX4_copyFrom_178 : decode cX4_copyFrom 178 = .ok (.aload_n 1, 1) := by decide +kernel
theorem dX4_copyFrom_179 : decode cX4_copyFrom 179 = .ok (.getfield 42, 3) := by decide +kernel
theorem dX4_copyFrom_182 : decode cX4_copyFrom 182 = .ok (.iconst 0, 1) := by decide +kernel
theorem dX4_copyFrom_183 : decode cX4_copyFrom 183 = .ok (.aload_n 0, 1) := by decide +kernel
theorem dX4_copyFrom_184 : decode cX4_copyFrom 184 = .ok (.getfield 42, 3) := by decide +kernel
theorem dX4_copyFrom_187 : decode cX4_copyFrom 187 = .ok (.iconst 0, 1) := by decide +kernel
theorem dX4_copyFrom_188 : decode cX4_copyFrom 188 = .ok (.aload_n 0, 1) := by decide +kernel
theorem dX4_copyFrom_189 : decode cX4_copyFrom 189 = .ok (.getfield 51, 3) := by decide +kernel
theorem dX4_copyFrom_192 : decode cX4_copyFrom 192 = .ok (.invokestatic 55, 3) := by decide +kernel
theorem dX4_copyFrom_195 : decode cX4_copyFrom 195 = .ok (.aload_n 1, 1) := by decide +kernel
theorem dX4_copyFrom_196 : decode cX4_copyFrom 196 = .ok (.getfield 45, 3) := by decide +kernel
theorem dX4_copyFrom_199 : decode cX4_copyFrom 199 = .ok (.iconst 0, 1) := by decide +kernel
theorem dX4_copyFrom_200 : decode cX4_copyFrom 200 = .ok (.aload_n 0, 1) := by decide +kernel
theorem dX4_copyFrom_201 : decode cX4_copyFrom 201 = .ok (.getfield 45, 3) := by decide +kernel
theorem dX4_copyFrom_204 : decode cX4_copyFrom 204 = .ok (.iconst 0, 1) := by decide +kernel
theorem dX4_copyFrom_205 : decode cX4_copyFrom 205 = .ok (.aload_n 0, 1) := by decide +kernel
theorem dX4_copyFrom_206 : decode cX4_copyFrom 206 = .ok (.getfield 51, 3) := by decide +kernel
theorem dX4_copyFrom_209 : decode cX4_copyFrom 209 = .ok (.invokestatic 55, 3) := by decide +kernel
theorem dX4_copyFrom_212 : decode cX4_copyFrom 212 = .ok (.aload_n 1, 1) := by decide +kernel
theorem dX4_copyFrom_213 : decode cX4_copyFrom 213 = .ok (.getfield 48, 3) := by decide +kernel
theorem dX4_copyFrom_216 : decode cX4_copyFrom 216 = .ok (.iconst 0, 1) := by decide +kernel
theorem dX4_copyFrom_217 : decode cX4_copyFrom 217 = .ok (.aload_n 0, 1) := by decide +kernel
theorem dX4_copyFrom_218 : decode cX4_copyFrom 218 = .ok (.getfield 48, 3) := by decide +kernel
theorem dX4_copyFrom_221 : decode cX4_copyFrom 221 = .ok (.iconst 0, 1) := by decide +kernel
theorem dX4_copyFrom_222 : decode cX4_copyFrom 222 = .ok (.aload_n 0, 1) := by decide +kernel
theorem dX4_copyFrom_223 : decode cX4_copyFrom 223 = .ok (.getfield 51, 3) := by decide +kernel
theorem dX4_copyFrom_226 : decode cX4_copyFrom 226 = .ok (.invokestatic 55, 3) := by decide +kernel
theorem dX4_copyFrom_229 : decode cX4_copyFrom 229 = .ok (.return_, 1) := by decide +kernel
theorem dX5_init_0 : decode cX5_init 0 = .ok (.aload_n 0, 1) := by decide +kernel
theorem dX5_init_1 : decode cX5_init 1 = .ok (.invokespecial 3, 3) := by decide +kernel
theorem dX5_init_4 : decode cX5_init 4 = .ok (.aload_n 0, 1) := by decide +kernel
theorem dX5_init_5 : decode cX5_init 5 = .ok (.bipush 80, 2) := by decide +kernel
theorem dX5_init_7 : decode cX5_init 7 = .ok (.newarray .int, 2) := by decide +kernel
theorem dX5_init_9 : decode cX5_init 9 = .ok (.putfield 9, 3) := by decide +kernel
theorem dX5_init_12 : decode cX5_init 12 = .ok (.aload_n 0, 1) := by decide +kernel
theorem dX5_init_13 : decode cX5_init 13 = .ok (.bipush 80, 2) := by decide +kernel
theorem dX5_init_15 : decode cX5_init 15 = .ok (.newarray .int, 2) := by decide +kernel
theorem dX5_init_17 : decode cX5_init 17 = .ok (.putfield 15, 3) := by decide +kernel
theorem dX5_init_20 : decode cX5_init 20 = .ok (.aload_n 0, 1) := by decide +kernel
theorem dX5_init_21 : decode cX5_init 21 = .ok (.bipush 8, 2) := by decide +kernel
theorem dX5_init_23 : decode cX5_init 23 = .ok (.newarray .int, 2) := by decide +kernel
theorem dX5_init_25 : decode cX5_init 25 = .ok (.putfield 18, 3) := by decide +kernel
theorem dX5_init_28 : decode cX5_init 28 = .ok (.return_, 1) := by decide +kernel
theorem dX5_form_0 : decode cX5_form 0 = .ok (.iconst 0, 1) := by decide +kernel
theorem dX5_form_1 : decode cX5_form 1 = .ok (.istore_n 2, 1) := by decide +kernel
theorem dX5_form_2 : decode cX5_form 2 = .ok (.iload_n 2, 1) := by decide +kernel
theorem dX5_form_3 : decode cX5_form 3 = .ok (.bipush 8, 2) := by decide +kernel
theorem dX5_form_5 : decode cX5_form 5 = .ok (.if_icmp .ge 20, 3) := by decide +kernel
theorem dX5_form_8 : decode cX5_form 8 = .ok (.aload_n 0, 1) := by decide +kernel
theorem dX5_form_9 : decode cX5_form 9 = .ok (.getfield 18, 3) := by decide +kernel
theorem dX5_form_12 : decode cX5_form 12 = .ok (.iload_n 2, 1) := by decide +kernel
theorem dX5_form_13 : decode cX5_form 13 = .ok (.aload_n 1, 1) := by decide +kernel
theorem dX5_form_14 : decode cX5_form 14 = .ok (.iload_n 2, 1) := by decide +kernel
theorem dX5_form_15 : decode cX5_form 15 = .ok (.invokevirtual 21, 3) := by decide +kernel
theorem dX5_form_18 : decode cX5_form 18 = .ok (.iastore, 1) := by decide +kernel
theorem dX5_form_19 : decode cX5_form 19 = .ok (.iinc 2 1, 3) := by decide +kernel
theorem dX5_form_22 : decode cX5_form 22 = .ok (.goto (-20), 3) := by decide +kernel
theorem dX5_form_25 : decode cX5_form 25 = .ok (.aload_n 0, 1) := by decide +kernel
theorem dX5_form_26 : decode cX5_form 26 = .ok (.iconst 0, 1) := by decide +kernel
theorem dX5_form_27 : decode cX5_form 27 = .ok (.putfield 27, 3) := by decide +kernel
theorem dX5_form_30 : decode cX5_form 30 = .ok (.iconst 0, 1) := by decide +kernel
theorem dX5_form_31 : decode cX5_form 31 = .ok (.istore_n 2, 1) := by decide +kernel
theorem dX5_form_32 : decode cX5_form 32 = .ok (.iload_n 2, 1) := by decide +kernel
theorem dX5_form_33 : decode cX5_form 33 = .ok (.aload_n 1, 1) := by decide +kernel
theorem dX5_form_34 : decode cX5_form 34 = .ok (.getfield 31, 3) := by decide +kernel
theorem dX5_form_37 : decode cX5_form 37 = .ok (.getfield 35, 3) := by decide +kernel
theorem dX5_form_40 : decode cX5_form 40 = .ok (.if_icmp .ge 55, 3) := by decide +kernel
theorem dX5_form_43 : decode cX5_form 43 = .ok (.aload_n 1, 1) := by decide +kernel
theorem dX5_form_44 : decode cX5_form 44 = .ok (.getfield 31, 3) := by decide +kernel
theorem dX5_form_47 : decode cX5_form 47 = .ok (.iload_n 2, 1) := by decide +kernel
theorem dX5_form_48 : decode cX5_form 48 = .ok (.invokevirtual 38, 3) := by decide +kernel
theorem dX5_form_51 : decode cX5_form 51 = .ok (.ifCond .eq 38, 3) := by decide +kernel
theorem dX5_form_54 : decode cX5_form 54 = .ok (.aload_n 0, 1) := by decide +kernel
theorem dX5_form_55 : decode cX5_form 55 = .ok (.iload_n 2, 1) := by decide +kernel
theorem dX5_form_56 : decode cX5_form 56 = .ok (.bipush 9, 2) := by decide +kernel
theorem dX5_form_58 : decode cX5_form 58 = .ok (.aload_n 1, 1) := by decide +kernel
theorem dX5_form_59 : decode cX5_form 59 = .ok (.getfield 31, 3) := by decide +kernel
theorem dX5_form_62 : decode cX5_form 62 = .ok (.getfield 42, 3) := by decide +kernel
theorem dX5_form_65 : decode cX5_form 65 = .ok (.iload_n 2, 1) := by decide +kernel
theorem dX5_form_66 : decode cX5_form 66 = .ok (.iaload, 1) := by decide +kernel
theorem dX5_form_67 : decode cX5_form 67 = .ok (.isub, 1) := by decide +kernel
theorem dX5_form_68 : decode cX5_form 68 = .ok (.bipush 8, 2) := by decide +kernel
theorem dX5_form_70 : decode cX5_form 70 = .ok (.imul, 1) := by decide +kernel
theorem dX5_form_71 : decode cX5_form 71 = .ok (.aload_n 0, 1) := by decide +kernel
theorem dX5_form_72 : decode cX5_form 72 = .ok (.getfield 18, 3) := by decide +kernel
theorem dX5_form_75 : decode cX5_form 75 = .ok (.aload_n 1, 1) := by decide +kernel
theorem dX5_form_76 : decode cX5_form 76 = .ok (.getfield 31, 3) := by decide +kernel
theorem dX5_form_79 : decode cX5_form 79 = .ok (.getfield 45, 3) := by decide +kernel
theorem dX5_form_82 : decode cX5_form 82 = .ok (.iload_n 2, 1) := by decide +kernel
theorem dX5_form_83 : decode cX5_form 83 = .ok (.iaload, 1) := by decide +kernel
theorem dX5_form_84 : decode cX5_form 84 = .ok (.iaload, 1) := by decide +kernel
theorem dX5_form_85 : decode cX5_form 85 = .ok (.iadd, 1) := by decide +kernel
theorem dX5_form_86 : decode cX5_form 86 = .ok (.invokevirtual 48, 3) := by decide +kernel
theorem dX5_form_89 : decode cX5_form 89 = .ok (.iinc 2 1, 3) := by decide +kernel
theorem dX5_form_92 : decode cX5_form 92 = .ok (.goto (-60), 3) := by decide +kernel
theorem dX5_form_95 : decode cX5_form 95 = .ok (.return_, 1) := by decide +kernel
theorem dX5_insert_0 : decode cX5_insert 0 = .ok (.aload_n 0, 1) := by decide +kernel
theorem dX5_insert_1 : decode cX5_insert 1 = .ok (.getfield 27, 3) := by decide +kernel
theorem dX5_insert_4 : decode cX5_insert 4 = .ok (.istore_n 3, 1) := by decide +kernel
theorem dX5_insert_5 : decode cX5_insert 5 = .ok (.iload_n 3, 1) := by decide +kernel
theorem dX5_insert_6 : decode cX5_insert 6 = .ok (.ifCond .le 49, 3) := by decide +kernel
theorem dX5_insert_9 : decode cX5_insert 9 = .ok (.aload_n 0, 1) := by decide +kernel
theorem dX5_insert_10 : decode cX5_insert 10 = .ok (.getfield 15, 3) := by decide +kernel
theorem dX5_insert_13 : decode cX5_insert 13 = .ok (.iload_n 3, 1) := by decide +kernel
theorem dX5_insert_14 : decode cX5_insert 14 = .ok (.iconst 1, 1) := by decide +kernel
theorem dX5_insert_15 : decode cX5_insert 15 = .ok (.isub, 1) := by decide +kernel
theorem dX5_insert_16 : decode cX5_insert 16 = .ok (.iaload, 1) := by decide +kernel
theorem dX5_insert_17 : decode cX5_insert 17 = .ok (.iload_n 2, 1) := by decide +kernel
theorem dX5_insert_18 : decode cX5_insert 18 = .ok (.if_icmp .le 37, 3) := by decide +kernel
theorem dX5_insert_21 : decode cX5_insert 21 = .ok (.aload_n 0, 1) := by decide +kernel
theorem dX5_insert_22 : decode cX5_insert 22 = .ok (.getfield 15, 3) := by decide +kernel
theorem dX5_insert_25 : decode cX5_insert 25 = .ok (.iload_n 3, 1) := by decide +kernel
theorem dX5_insert_26 : decode cX5_insert 26 = .ok (.aload_n 0, 1) := by decide +kernel
theorem dX5_insert_27 : decode cX5_insert 27 = .ok (.getfield 15, 3) := by decide +kernel
theorem dX5_insert_30 : decode cX5_insert 30 = .ok (.iload_n 3, 1) := by decide +kernel
theorem dX5_insert_31 : decode cX5_insert 31 = .ok (.iconst 1, 1) := by decide +kernel
theorem dX5_insert_32 : decode cX5_insert 32 = .ok (.isub, 1) := by decide +kernel
theorem dX5_insert_33 : decode cX5_insert 33 = .ok (.iaload, 1) := by decide +kernel
theorem dX5_insert_34 : decode cX5_insert 34 = .ok (.iastore, 1) := by decide +kernel
theorem dX5_insert_35 : decode cX5_insert 35 = .ok (.aload_n 0, 1) := by decide +kernel
theorem dX5_insert_36 : decode cX5_insert 36 = .ok (.getfield 9, 3) := by decide +kernel
theorem dX5_insert_39 : decode cX5_insert 39 = .ok (.iload_n 3, 1) := by decide +kernel
theorem dX5_insert_40 : decode cX5_insert 40 = .ok (.aload_n 0, 1) := by decide +kernel
theorem dX5_insert_41 : decode cX5_insert 41 = .ok (.getfield 9, 3) := by decide +kernel
theorem dX5_insert_44 : decode cX5_insert 44 = .ok (.iload_n 3, 1) := by decide +kernel
theorem dX5_insert_45 : decode cX5_insert 45 = .ok (.iconst 1, 1) := by decide +kernel
theorem dX5_insert_46 : decode cX5_insert 46 = .ok (.isub, 1) := by decide +kernel
theorem dX5_insert_47 : decode cX5_insert 47 = .ok (.iaload, 1) := by decide +kernel
theorem dX5_insert_48 : decode cX5_insert 48 = .ok (.iastore, 1) := by decide +kernel
theorem dX5_insert_49 : decode cX5_insert 49 = .ok (.iinc 3 (-1), 3) := by decide +kernel
theorem dX5_insert_52 : decode cX5_insert 52 = .ok (.goto (-47), 3) := by decide +kernel
theorem dX5_insert_55 : decode cX5_insert 55 = .ok (.aload_n 0, 1) := by decide +kernel
theorem dX5_insert_56 : decode cX5_insert 56 = .ok (.getfield 15, 3) := by decide +kernel
theorem dX5_insert_59 : decode cX5_insert 59 = .ok (.iload_n 3, 1) := by decide +kernel
theorem dX5_insert_60 : decode cX5_insert 60 = .ok (.iload_n 2, 1) := by decide +kernel
theorem dX5_insert_61 : decode cX5_insert 61 = .ok (.iastore, 1) := by decide +kernel
theorem dX5_insert_62 : decode cX5_insert 62 = .ok (.aload_n 0, 1) := by decide +kernel
theorem dX5_insert_63 : decode cX5_insert 63 = .ok (.getfield 9, 3) := by decide +kernel
theorem dX5_insert_66 : decode cX5_insert 66 = .ok (.iload_n 3, 1) := by decide +kernel
theorem dX5_insert_67 : decode cX5_insert 67 = .ok (.iload_n 1, 1) := by decide +kernel
theorem dX5_insert_68 : decode cX5_insert 68 = .ok (.iastore, 1) := by decide +kernel
theorem dX5_insert_69 : decode cX5_insert 69 = .ok (.aload_n 0, 1) := by decide +kernel
theorem dX5_insert_70 : decode cX5_insert 70 = .ok (.dup, 1) := by decide +kernel
theorem dX5_insert_71 : decode cX5_insert 71 = .ok (.getfield 27, 3) := by decide +kernel
theorem dX5_insert_74 : decode cX5_insert 74 = .ok (.iconst 1, 1) := by decide +kernel
theorem dX5_insert_75 : decode cX5_insert 75 = .ok (.iadd, 1) := by decide +kernel
theorem dX5_insert_76 : decode cX5_insert 76 = .ok (.putfield 27, 3) := by decide +kernel
theorem dX5_insert_79 : decode cX5_insert 79 = .ok (.return_, 1) := by decide +kernel
theorem dX6_init_0 : decode cX6_init 0 = .ok (.aload_n 0, 1) := by decide +kernel
theorem dX6_init_1 : decode cX6_init 1 = .ok (.invokespecial 3, 3) := by decide +kernel
theorem dX6_init_4 : decode cX6_init 4 = .ok (.aload_n 0, 1) := by decide +kernel
theorem dX6_init_5 : decode cX6_init 5 = .ok (.bipush 8, 2) := by decide +kernel
theorem dX6_init_7 : decode cX6_init 7 = .ok (.newarray .int, 2) := by decide +kernel
theorem dX6_init_9 : decode cX6_init 9 = .ok (.putfield 9, 3) := by decide +kernel
theorem dX6_init_12 : decode cX6_init 12 = .ok (.aload_n 0, 1) := by decide +kernel
theorem dX6_init_13 : decode cX6_init 13 = .ok (.bipush 8, 2) := by decide +kernel
theorem dX6_init_15 : decode cX6_init 15 = .ok (.newarray .int, 2) := by decide +kernel
theorem dX6_init_17 : decode cX6_init 17 = .ok (.putfield 15, 3) := by decide +kernel
theorem dX6_init_20 : decode cX6_init 20 = .ok (.aload_n 0, 1) := by decide +kernel
theorem dX6_init_21 : decode cX6_init 21 = .ok (.bipush 8, 2) := by decide +kernel
theorem dX6_init_23 : decode cX6_init 23 = .ok (.newarray .long, 2) := by decide +kernel
theorem dX6_init_25 : decode cX6_init 25 = .ok (.putfield 18, 3) := by decide +kernel
theorem dX6_init_28 : decode cX6_init 28 = .ok (.aload_n 0, 1) := by decide +kernel
theorem dX6_init_29 : decode cX6_init 29 = .ok (.iconst 3, 1) := by decide +kernel
theorem dX6_init_30 : decode cX6_init 30 = .ok (.newarray .int, 2) := by decide +kernel
theorem dX6_init_32 : decode cX6_init 32 = .ok (.putfield 22, 3) := by decide +kernel
theorem dX6_init_35 : decode cX6_init 35 = .ok (.aload_n 0, 1) := by decide +kernel
theorem dX6_init_36 : decode cX6_init 36 = .ok (.new 25, 3) := by decide +kernel
theorem dX6_init_39 : decode cX6_init 39 = .ok (.dup, 1) := by decide +kernel
theorem dX6_init_40 : decode cX6_init 40 = .ok (.invokespecial 27, 3) := by decide +kernel
theorem dX6_init_43 : decode cX6_init 43 = .ok (.putfield 28, 3) := by decide +kernel
theorem dX6_init_46 : decode cX6_init 46 = .ok (.aload_n 0, 1) := by decide +kernel
theorem dX6_init_47 : decode cX6_init 47 = .ok (.new 32, 3) := by decide +kernel
theorem dX6_init_50 : decode cX6_init 50 = .ok (.dup, 1) := by decide +kernel
theorem dX6_init_51 : decode cX6_init 51 = .ok (.invokespecial 34, 3) := by decide +kernel
theorem dX6_init_54 : decode cX6_init 54 = .ok (.putfield 35, 3) := by decide +kernel
theorem dX6_init_57 : decode cX6_init 57 = .ok (.aload_n 0, 1) := by decide +kernel
theorem dX6_init_58 : decode cX6_init 58 = .ok (.new 39, 3) := by decide +kernel
theorem dX6_init_61 : decode cX6_init 61 = .ok (.dup, 1) := by decide +kernel
theorem dX6_init_62 : decode cX6_init 62 = .ok (.invokespecial 41, 3) := by decide +kernel
theorem dX6_init_65 : decode cX6_init 65 = .ok (.putfield 42, 3) := by decide +kernel
theorem dX6_init_68 : decode cX6_init 68 = .ok (.aload_n 0, 1) := by decide +kernel
theorem dX6_init_69 : decode cX6_init 69 = .ok (.new 46, 3) := by decide +kernel
theorem dX6_init_72 : decode cX6_init 72 = .ok (.dup, 1) := by decide +kernel
theorem dX6_init_73 : decode cX6_init 73 = .ok (.invokespecial 48, 3) := by decide +kernel
theorem dX6_init_76 : decode cX6_init 76 = .ok (.putfield 49, 3) := by decide +kernel
theorem dX6_init_79 : decode cX6_init 79 = .ok (.aload_n 0, 1) := by decide +kernel
theorem dX6_init_80 : decode cX6_init 80 = .ok (.iload_n 1, 1) := by decide +kernel
theorem dX6_init_81 : decode cX6_init 81 = .ok (.putfield 53, 3) := by decide +kernel
theorem dX6_init_84 : decode cX6_init 84 = .ok (.aload_n 0, 1) := by decide +kernel
theorem dX6_init_85 : decode cX6_init 85 = .ok (.getfield 9, 3) := by decide +kernel
theorem dX6_init_88 : decode cX6_init 88 = .ok (.bipush 10, 2) := by decide +kernel
theorem dX6_init_90 : decode cX6_init 90 = .ok (.invokestatic 57, 3) := by decide +kernel
theorem dX6_init_93 : decode cX6_init 93 = .ok (.aload_n 0, 1) := by decide +kernel
theorem dX6_init_94 : decode cX6_init 94 = .ok (.getfield 15, 3) := by decide +kernel
theorem dX6_init_97 : decode cX6_init 97 = .ok (.bipush 16, 2) := by decide +kernel
theorem dX6_init_99 : decode cX6_init 99 = .ok (.invokestatic 57, 3) := by decide +kernel
theorem dX6_init_102 : decode cX6_init 102 = .ok (.aload_n 0, 1) := by decide +kernel
theorem dX6_init_103 : decode cX6_init 103 = .ok (.getfield 22, 3) := by decide +kernel
theorem dX6_init_106 : decode cX6_init 106 = .ok (.iconst 0, 1) := by decide +kernel
theorem dX6_init_107 : decode cX6_init 107 = .ok (.iconst 1, 1) := by decide +kernel
theorem dX6_init_108 : decode cX6_init 108 = .ok (.iastore, 1) := by decide +kernel
theorem dX6_init_109 : decode cX6_init 109 = .ok (.aload_n 0, 1) := by decide +kernel
theorem dX6_init_110 : decode cX6_init 110 = .ok (.getfield 22, 3) := by decide +kernel
theorem dX6_init_113 : decode cX6_init 113 = .ok (.iconst 1, 1) := by decide +kernel
theorem dX6_init_114 : decode cX6_init 114 = .ok (.bipush 80, 2) := by decide +kernel
theorem dX6_init_116 : decode cX6_init 116 = .ok (.iastore, 1) := by decide +kernel
theorem dX6_init_117 : decode cX6_init 117 = .ok (.return_, 1) := by decide +kernel
theorem dX6_copyAll_0 : decode cX6_copyAll 0 = .ok (.aload_n 0, 1) := by decide +kernel
theorem dX6_copyAll_1 : decode cX6_copyAll 1 = .ok (.aload_n 1, 1) := by decide +kernel
theorem dX6_copyAll_2 : decode cX6_copyAll 2 = .ok (.invokevirtual 63, 3) := by decide +kernel
theorem dX6_copyAll_5 : decode cX6_copyAll 5 = .ok (.aload_n 0, 1) := by decide +kernel
theorem dX6_copyAll_6 : decode cX6_copyAll 6 = .ok (.getfield 49, 3) := by decide +kernel
theorem dX6_copyAll_9 : decode cX6_copyAll 9 = .ok (.aload_n 1, 1) := by decide +kernel
theorem dX6_copyAll_10 : decode cX6_copyAll 10 = .ok (.getfield 49, 3) := by decide +kernel
theorem dX6_copyAll_13 : decode cX6_copyAll 13 = .ok (.invokevirtual 67, 3) := by decide +kernel
theorem dX6_copyAll_16 : decode cX6_copyAll 16 = .ok (.return_, 1) := by decide +kernel
theorem dX6_copyWithoutBook_0 : decode cX6_copyWithoutBook 0 = .ok (.aload_n 0, 1) := by decide +kernel
theorem dX6_copyWithoutBook_1 : decode cX6_copyWithoutBook 1 = .ok (.aload_n 1, 1) := by decide +kernel
theorem dX6_copyWithoutBook_2 : decode cX6_copyWithoutBook 2 = .ok (.getfield 71, 3) := by decide +kernel
theorem dX6_copyWithoutBook_5 : decode cX6_copyWithoutBook 5 = .ok (.putfield 71, 3) := by decide +kernel
theorem dX6_copyWithoutBook_8 : decode cX6_copyWithoutBook 8 = .ok (.aload_n 1, 1) := by decide +kernel
theorem dX6_copyWithoutBook_9 : decode cX6_copyWithoutBook 9 = .ok (.getfield 9, 3) := by decide +kernel
theorem dX6_copyWithoutBook_12 : decode cX6_copyWithoutBook 12 = .ok (.iconst 0, 1) := by decide +kernel
theorem dX6_copyWithoutBook_13 : decode cX6_copyWithoutBook 13 = .ok (.aload_n 0, 1) := by decide +kernel
theorem dX6_copyWithoutBook_14 : decode cX6_copyWithoutBook 14 = .ok (.getfield 9, 3) := by decide +kernel
theorem dX6_copyWithoutBook_17 : decode cX6_copyWithoutBook 17 = .ok (.iconst 0, 1) := by decide +kernel
theorem dX6_copyWithoutBook_18 : decode cX6_copyWithoutBook 18 = .ok (.bipush 8, 2) := by decide +kernel
theorem dX6_copyWithoutBook_20 : decode cX6_copyWithoutBook 20 = .ok (.invokestatic 75, 3) := by decide +kernel
theorem dX6_copyWithoutBook_23 : decode cX6_copyWithoutBook 23 = .ok (.aload_n 1, 1) := by decide +kernel
theorem dX6_copyWithoutBook_24 : decode cX6_copyWithoutBook 24 = .ok (.getfield 15, 3) := by decide +kernel
theorem dX6_copyWithoutBook_27 : decode cX6_copyWithoutBook 27 = .ok (.iconst 0, 1) := by decide +kernel
theorem dX6_copyWithoutBook_28 : decode cX6_copyWithoutBook 28 = .ok (.aload_n 0, 1) := by decide +kernel
theorem dX6_copyWithoutBook_29 : decode cX6_copyWithoutBook 29 = .ok (.getfield 15, 3) := by decide +kernel
theorem dX6_copyWithoutBook_32 : decode cX6_copyWithoutBook 32 = .ok (.iconst 0, 1) := by decide +kernel
theorem dX6_copyWithoutBook_33 : decode cX6_copyWithoutBook 33 = .ok (.bipush 8, 2) := by decide +kernel
theorem dX6_copyWithoutBook_35 : decode cX6_copyWithoutBook 35 = .ok (.invokestatic 75, 3) := by decide +kernel
theorem dX6_copyWithoutBook_38 : decode cX6_copyWithoutBook 38 = .ok (.aload_n 1, 1) := by decide +kernel
theorem dX6_copyWithoutBook_39 : decode cX6_copyWithoutBook 39 = .ok (.getfield 18, 3) := by decide +kernel
theorem dX6_copyWithoutBook_42 : decode cX6_copyWithoutBook 42 = .ok (.iconst 0, 1) := by decide +kernel
theorem dX6_copyWithoutBook_43 : decode cX6_copyWithoutBook 43 = .ok (.aload_n 0, 1) := by decide +kernel
theorem dX6_copyWithoutBook_44 : decode cX6_copyWithoutBook 44 = .ok (.getfield 18, 3) := by decide +kernel
theorem dX6_copyWithoutBook_47 : decode cX6_copyWithoutBook 47 = .ok (.iconst 0, 1) := by decide +kernel
theorem dX6_copyWithoutBook_48 : decode cX6_copyWithoutBook 48 = .ok (.bipush 8, 2) := by decide +kernel
theorem dX6_copyWithoutBook_50 : decode cX6_copyWithoutBook 50 = .ok (.invokestatic 75, 3) := by decide +kernel
theorem dX6_copyWithoutBook_53 : decode cX6_copyWithoutBook 53 = .ok (.aload_n 1, 1) := by decide +kernel
theorem dX6_copyWithoutBook_54 : decode cX6_copyWithoutBook 54 = .ok (.getfield 22, 3) := by decide +kernel
theorem dX6_copyWithoutBook_57 : decode cX6_copyWithoutBook 57 = .ok (.iconst 0, 1) := by decide +kernel
theorem dX6_copyWithoutBook_58 : decode cX6_copyWithoutBook 58 = .ok (.aload_n 0, 1) := by decide +kernel
theorem dX6_copyWithoutBook_59 : decode cX6_copyWithoutBook 59 = .ok (.getfield 22, 3) := by decide +kernel
theorem dX6_copyWithoutBook_62 : decode cX6_copyWithoutBook 62 = .ok (.iconst 0, 1) := by decide +kernel
theorem dX6_copyWithoutBook_63 : decode cX6_copyWithoutBook 63 = .ok (.aload_n 0, 1) := by decide +kernel
theorem dX6_copyWithoutBook_64 : decode cX6_copyWithoutBook 64 = .ok (.getfield 22, 3) := by decide +kernel
theorem dX6_copyWithoutBook_67 : decode cX6_copyWithoutBook 67 = .ok (.arraylength, 1) := by decide +kernel
theorem dX6_copyWithoutBook_68 : decode cX6_copyWithoutBook 68 = .ok (.invokestatic 75, 3) := by decide +kernel
theorem dX6_copyWithoutBook_71 : decode cX6_copyWithoutBook 71 = .ok (.aload_n 0, 1) := by decide +kernel
theorem dX6_copyWithoutBook_72 : decode cX6_copyWithoutBook 72 = .ok (.getfield 28, 3) := by decide +kernel
theorem dX6_copyWithoutBook_75 : decode cX6_copyWithoutBook 75 = .ok (.aload_n 1, 1) := by decide +kernel
theorem dX6_copyWithoutBook_76 : decode cX6_copyWithoutBook 76 = .ok (.getfield 28, 3) := by decide +kernel
theorem dX6_copyWithoutBook_79 : decode cX6_copyWithoutBook 79 = .ok (.invokevirtual 81, 3) := by decide +kernel
theorem dX6_copyWithoutBook_82 : decode cX6_copyWithoutBook 82 = .ok (.aload_n 0, 1) := by decide +kernel
theorem dX6_copyWithoutBook_83 : decode cX6_copyWithoutBook 83 = .ok (.getfield 35, 3) := by decide +kernel
theorem dX6_copyWithoutBook_86 : decode cX6_copyWithoutBook 86 = .ok (.aload_n 1, 1) := by decide +kernel
theorem dX6_copyWithoutBook_87 : decode cX6_copyWithoutBook 87 = .ok (.getfield 35, 3) := by decide +kernel
theorem dX6_copyWithoutBook_90 : decode cX6_copyWithoutBook 90 = .ok (.aload_n 0, 1) := by decide +kernel
theorem dX6_copyWithoutBook_91 : decode cX6_copyWithoutBook 91 = .ok (.getfield 28, 3) := by decide +kernel
theorem dX6_copyWithoutBook_94 : decode cX6_copyWithoutBook 94 = .ok (.getfield 84, 3) := by decide +kernel
theorem dX6_copyWithoutBook_97 : decode cX6_copyWithoutBook 97 = .ok (.invokevirtual 87, 3) := by decide +kernel
theorem dX6_copyWithoutBook_100 : decode cX6_copyWithoutBook 100 = .ok (.aload_n 0, 1) := by decide +kernel
theorem dX6_copyWithoutBook_101 : decode cX6_copyWithoutBook 101 = .ok (.getfield 42, 3) := by decide +kernel
theorem dX6_copyWithoutBook_104 : decode cX6_copyWithoutBook 104 = .ok (.aload_n 1, 1) := by decide +kernel
theorem dX6_copyWithoutBook_105 : decode cX6_copyWithoutBook 105 = .ok (.getfield 42, 3) := by decide +kernel
theorem dX6_copyWithoutBook_108 : decode cX6_copyWithoutBook 108 = .ok (.invokevirtual 90, 3) := by decide +kernel
theorem dX6_copyWithoutBook_111 : decode cX6_copyWithoutBook 111 = .ok (.return_, 1) := by decide +kernel
theorem dX6_hasLesserShare_0 : decode cX6_hasLesserShare 0 = .ok (.aload_n 0, 1) := by decide +kernel
theorem dX6_hasLesserShare_1 : decode cX6_hasLesserShare 1 = .ok (.getfield 18, 3) := by decide +kernel
theorem dX6_hasLesserShare_4 : decode cX6_hasLesserShare 4 = .ok (.iload_n 1, 1) := by decide +kernel
theorem dX6_hasLesserShare_5 : decode cX6_hasLesserShare 5 = .ok (.laload, 1) := by decide +kernel
theorem dX6_hasLesserShare_6 : decode cX6_hasLesserShare 6 = .ok (.aload_n 0, 1) := by decide +kernel
theorem dX6_hasLesserShare_7 : decode cX6_hasLesserShare 7 = .ok (.getfield 9, 3) := by decide +kernel
theorem dX6_hasLesserShare_10 : decode cX6_hasLesserShare 10 = .ok (.iload_n 2, 1) := by decide +kernel
theorem dX6_hasLesserShare_11 : decode cX6_hasLesserShare 11 = .ok (.iaload, 1) := by decide +kernel
theorem dX6_hasLesserShare_12 : decode cX6_hasLesserShare 12 = .ok (.i2l, 1) := by decide +kernel
theorem dX6_hasLesserShare_13 : decode cX6_hasLesserShare 13 = .ok (.lmul, 1) := by decide +kernel
theorem dX6_hasLesserShare_14 : decode cX6_hasLesserShare 14 = .ok (.aload_n 0, 1) := by decide +kernel
theorem dX6_hasLesserShare_15 : decode cX6_hasLesserShare 15 = .ok (.getfield 18, 3) := by decide +kernel
theorem dX6_hasLesserShare_18 : decode cX6_hasLesserShare 18 = .ok (.iload_n 2, 1) := by decide +kernel
theorem dX6_hasLesserShare_19 : decode cX6_hasLesserShare 19 = .ok (.laload, 1) := by decide +kernel
theorem dX6_hasLesserShare_20 : decode cX6_hasLesserShare 20 = .ok (.aload_n 0, 1) := by decide +kernel
theorem dX6_hasLesserShare_21 : decode cX6_hasLesserShare 21 = .ok (.getfield 9, 3) := by decide +kernel
theorem dX6_hasLesserShare_24 : decode cX6_hasLesserShare 24 = .ok (.iload_n 1, 1) := by decide +kernel
theorem dX6_hasLesserShare_25 : decode cX6_hasLesserShare 25 = .ok (.iaload, 1) := by decide +kernel
theorem dX6_hasLesserShare_26 : decode cX6_hasLesserShare 26 = .ok (.i2l, 1) := by decide +kernel
theorem dX6_hasLesserShare_27 : decode cX6_hasLesserShare 27 = .ok (.lmul, 1) := by decide +kernel
theorem dX6_hasLesserShare_28 : decode cX6_hasLesserShare 28 = .ok (.lcmp, 1) := by decide +kernel
theorem dX6_hasLesserShare_29 : decode cX6_hasLesserShare 29 = .ok (.ifCond .ge 7, 3) := by decide +kernel
theorem dX6_hasLesserShare_32 : decode cX6_hasLesserShare 32 = .ok (.iconst 1, 1) := by decide +kernel
theorem dX6_hasLesserShare_33 : decode cX6_hasLesserShare 33 = .ok (.goto 4, 3) := by decide +kernel
theorem dX6_hasLesserShare_36 : decode cX6_hasLesserShare 36 = .ok (.iconst 0, 1) := by decide +kernel
theorem dX6_hasLesserShare_37 : decode cX6_hasLesserShare 37 = .ok (.ireturn, 1) := by decide +kernel
theorem dX6_sharesBelow_0 : decode cX6_sharesBelow 0 = .ok (.iconst 0, 1) := by decide +kernel
theorem dX6_sharesBelow_1 : decode cX6_sharesBelow 1 = .ok (.istore_n 2, 1) := by decide +kernel
theorem dX6_sharesBelow_2 : decode cX6_sharesBelow 2 = .ok (.iconst 0, 1) := by decide +kernel
theorem dX6_sharesBelow_3 : decode cX6_sharesBelow 3 = .ok (.istore_n 3, 1) := by decide +kernel
theorem dX6_sharesBelow_4 : decode cX6_sharesBelow 4 = .ok (.iload_n 3, 1) := by decide +kernel
theorem dX6_sharesBelow_5 : decode cX6_sharesBelow 5 = .ok (.bipush 8, 2) := by decide +kernel
theorem dX6_sharesBelow_7 : decode cX6_sharesBelow 7 = .ok (.if_icmp .ge 26, 3) := by decide +kernel
theorem dX6_sharesBelow_10 : decode cX6_sharesBelow 10 = .ok (.iload_n 2, 1) := by decide +kernel
theorem dX6_sharesBelow_11 : decode cX6_sharesBelow 11 = .ok (.aload_n 0, 1) := by decide +kernel
theorem dX6_sharesBelow_12 : decode cX6_sharesBelow 12 = .ok (.iload_n 3, 1) := by decide +kernel
theorem dX6_sharesBelow_13 : decode cX6_sharesBelow 13 = .ok (.iload_n 1, 1) := by decide +kernel
theorem dX6_sharesBelow_14 : decode cX6_sharesBelow 14 = .ok (.invokevirtual 93, 3) := by decide +kernel
theorem dX6_sharesBelow_17 : decode cX6_sharesBelow 17 = .ok (.ifCond .eq 7, 3) := by decide +kernel
theorem dX6_sharesBelow_20 : decode cX6_sharesBelow 20 = .ok (.iconst 1, 1) := by decide +kernel
theorem dX6_sharesBelow_21 : decode cX6_sharesBelow 21 = .ok (.goto 4, 3) := by decide +kernel
theorem dX6_sharesBelow_24 : decode cX6_sharesBelow 24 = .ok (.iconst 0, 1) := by decide +kernel
theorem dX6_sharesBelow_25 : decode cX6_sharesBelow 25 = .ok (.iadd, 1) := by decide +kernel
theorem dX6_sharesBelow_26 : decode cX6_sharesBelow 26 = .ok (.istore_n 2, 1) := by decide +kernel
theorem dX6_sharesBelow_27 : decode cX6_sharesBelow 27 = .ok (.iinc 3 1, 3) := by decide +kernel
theorem dX6_sharesBelow_30 : decode cX6_sharesBelow 30 = .ok (.goto (-26), 3) := by decide +kernel
theorem dX6_sharesBelow_33 : decode cX6_sharesBelow 33 = .ok (.iload_n 2, 1) := by decide +kernel
theorem dX6_sharesBelow_34 : decode cX6_sharesBelow 34 = .ok (.ireturn, 1) := by decide +kernel
theorem dX6_addJob_0 : decode cX6_addJob 0 = .ok (.aload_n 0, 1) := by decide +kernel
theorem dX6_addJob_1 : decode cX6_addJob 1 = .ok (.getfield 28, 3) := by decide +kernel
theorem dX6_addJob_4 : decode cX6_addJob 4 = .ok (.getfield 84, 3) := by decide +kernel
theorem dX6_addJob_7 : decode cX6_addJob 7 = .ok (.istore 6, 2) := by decide +kernel
theorem dX6_addJob_9 : decode cX6_addJob 9 = .ok (.iload 6, 2) := by decide +kernel
theorem dX6_addJob_11 : decode cX6_addJob 11 = .ok (.bipush 80, 2) := by decide +kernel
theorem dX6_addJob_13 : decode cX6_addJob 13 = .ok (.if_icmp .lt 6, 3) := by decide +kernel
theorem dX6_addJob_16 : decode cX6_addJob 16 = .ok (.bipush (-3), 2) := by decide +kernel
theorem dX6_addJob_18 : decode cX6_addJob 18 = .ok (.ireturn, 1) := by decide +kernel
theorem dX6_addJob_19 : decode cX6_addJob 19 = .ok (.aload_n 0, 1) := by decide +kernel
theorem dX6_addJob_20 : decode cX6_addJob 20 = .ok (.getfield 28, 3) := by decide +kernel
theorem dX6_addJob_23 : decode cX6_addJob 23 = .ok (.dup, 1) := by decide +kernel
theorem dX6_addJob_24 : decode cX6_addJob 24 = .ok (.getfield 84, 3) := by decide +kernel
theorem dX6_addJob_27 : decode cX6_addJob 27 = .ok (.iconst 1, 1) := by decide +kernel
theorem dX6_addJob_28 : decode cX6_addJob 28 = .ok (.iadd, 1) := by decide +kernel
theorem dX6_addJob_29 : decode cX6_addJob 29 = .ok (.putfield 84, 3) := by decide +kernel
theorem dX6_addJob_32 : decode cX6_addJob 32 = .ok (.aload_n 0, 1) := by decide +kernel
theorem dX6_addJob_33 : decode cX6_addJob 33 = .ok (.getfield 28, 3) := by decide +kernel
theorem dX6_addJob_36 : decode cX6_addJob 36 = .ok (.getfield 101, 3) := by decide +kernel
theorem dX6_addJob_39 : decode cX6_addJob 39 = .ok (.iload 6, 2) := by decide +kernel
theorem dX6_addJob_41 : decode cX6_addJob 41 = .ok (.iconst 0, 1) := by decide +kernel
theorem dX6_addJob_42 : decode cX6_addJob 42 = .ok (.iastore, 1) := by decide +kernel
theorem dX6_addJob_43 : decode cX6_addJob 43 = .ok (.aload_n 0, 1) := by decide +kernel
theorem dX6_addJob_44 : decode cX6_addJob 44 = .ok (.getfield 28, 3) := by decide +kernel
theorem dX6_addJob_47 : decode cX6_addJob 47 = .ok (.getfield 104, 3) := by decide +kernel
theorem dX6_addJob_50 : decode cX6_addJob 50 = .ok (.iload 6, 2) := by decide +kernel
theorem dX6_addJob_52 : decode cX6_addJob 52 = .ok (.iload_n 2, 1) := by decide +kernel
theorem dX6_addJob_53 : decode cX6_addJob 53 = .ok (.iastore, 1) := by decide +kernel
theorem dX6_addJob_54 : decode cX6_addJob 54 = .ok (.aload_n 0, 1) := by decide +kernel
theorem dX6_addJob_55 : decode cX6_addJob 55 = .ok (.getfield 28, 3) := by decide +kernel
theorem dX6_addJob_58 : decode cX6_addJob 58 = .ok (.getfield 107, 3) := by decide +kernel
theorem dX6_addJob_61 : decode cX6_addJob 61 = .ok (.iload 6, 2) := by decide +kernel
theorem dX6_addJob_63 : decode cX6_addJob 63 = .ok (.iload_n 3, 1) := by decide +kernel
theorem dX6_addJob_64 : decode cX6_addJob 64 = .ok (.iastore, 1) := by decide +kernel
theorem dX6_addJob_65 : decode cX6_addJob 65 = .ok (.aload_n 0, 1) := by decide +kernel
theorem dX6_addJob_66 : decode cX6_addJob 66 = .ok (.getfield 28, 3) := by decide +kernel
theorem dX6_addJob_69 : decode cX6_addJob 69 = .ok (.getfield 110, 3) := by decide +kernel
theorem dX6_addJob_72 : decode cX6_addJob 72 = .ok (.iload 6, 2) := by decide +kernel
theorem dX6_addJob_74 : decode cX6_addJob 74 = .ok (.iload 4, 2) := by decide +kernel
theorem dX6_addJob_76 : decode cX6_addJob 76 = .ok (.iastore, 1) := by decide +kernel
theorem dX6_addJob_77 : decode cX6_addJob 77 = .ok (.aload_n 0, 1) := by decide +kernel
theorem dX6_addJob_78 : decode cX6_addJob 78 = .ok (.getfield 28, 3) := by decide +kernel
theorem dX6_addJob_81 : decode cX6_addJob 81 = .ok (.getfield 113, 3) := by decide +kernel
theorem dX6_addJob_84 : decode cX6_addJob 84 = .ok (.iload 6, 2) := by decide +kernel
theorem dX6_addJob_86 : decode cX6_addJob 86 = .ok (.iload 5, 2) := by decide +kernel
theorem dX6_addJob_88 : decode cX6_addJob 88 = .ok (.iastore, 1) := by decide +kernel
theorem dX6_addJob_89 : decode cX6_addJob 89 = .ok (.aload_n 0, 1) := by decide +kernel
theorem dX6_addJob_90 : decode cX6_addJob 90 = .ok (.getfield 28, 3) := by decide +kernel
theorem dX6_addJob_93 : decode cX6_addJob 93 = .ok (.getfield 116, 3) := by decide +kernel
theorem dX6_addJob_96 : decode cX6_addJob 96 = .ok (.iload 6, 2) := by decide +kernel
theorem dX6_addJob_98 : decode cX6_addJob 98 = .ok (.aload_n 1, 1) := by decide +kernel
theorem dX6_addJob_99 : decode cX6_addJob 99 = .ok (.getfield 118, 3) := by decide +kernel
theorem dX6_addJob_102 : decode cX6_addJob 102 = .ok (.iastore, 1) := by decide +kernel
theorem dX6_addJob_103 : decode cX6_addJob 103 = .ok (.aload_n 0, 1) := by decide +kernel
theorem dX6_addJob_104 : decode cX6_addJob 104 = .ok (.getfield 28, 3) := by decide +kernel
theorem dX6_addJob_107 : decode cX6_addJob 107 = .ok (.getfield 121, 3) := by decide +kernel
theorem dX6_addJob_110 : decode cX6_addJob 110 = .ok (.iload 6, 2) := by decide +kernel
theorem dX6_addJob_112 : decode cX6_addJob 112 = .ok (.aload_n 1, 1) := by decide +kernel
theorem dX6_addJob_113 : decode cX6_addJob 113 = .ok (.invokevirtual 124, 3) := by decide +kernel
theorem dX6_addJob_116 : decode cX6_addJob 116 = .ok (.iastore, 1) := by decide +kernel
theorem dX6_addJob_117 : decode cX6_addJob 117 = .ok (.aload_n 0, 1) := by decide +kernel
theorem dX6_addJob_118 : decode cX6_addJob 118 = .ok (.getfield 28, 3) := by decide +kernel
theorem dX6_addJob_121 : decode cX6_addJob 121 = .ok (.getfield 127, 3) := by decide +kernel
theorem dX6_addJob_124 : decode cX6_addJob 124 = .ok (.iload 6, 2) := by decide +kernel
theorem dX6_addJob_126 : decode cX6_addJob 126 = .ok (.iconst 0, 1) := by decide +kernel
theorem dX6_addJob_127 : decode cX6_addJob 127 = .ok (.iastore, 1) := by decide +kernel
theorem dX6_addJob_128 : decode cX6_addJob 128 = .ok (.aload_n 0, 1) := by decide +kernel
theorem dX6_addJob_129 : decode cX6_addJob 129 = .ok (.getfield 28, 3) := by decide +kernel
theorem dX6_addJob_132 : decode cX6_addJob 132 = .ok (.getfield 130, 3) := by decide +kernel
theorem dX6_addJob_135 : decode cX6_addJob 135 = .ok (.iload 6, 2) := by decide +kernel
theorem dX6_addJob_137 : decode cX6_addJob 137 = .ok (.aload_n 0, 1) := by decide +kernel
theorem dX6_addJob_138 : decode cX6_addJob 138 = .ok (.getfield 71, 3) := by decide +kernel
theorem dX6_addJob_141 : decode cX6_addJob 141 = .ok (.iastore, 1) := by decide +kernel
theorem dX6_addJob_142 : decode cX6_addJob 142 = .ok (.aload_n 0, 1) := by decide +kernel
theorem dX6_addJob_143 : decode cX6_addJob 143 = .ok (.getfield 28, 3) := by decide +kernel
theorem dX6_addJob_146 : decode cX6_addJob 146 = .ok (.getfield 133, 3) := by decide +kernel
theorem dX6_addJob_149 : decode cX6_addJob 149 = .ok (.iload 6, 2) := by decide +kernel
theorem dX6_addJob_151 : decode cX6_addJob 151 = .ok (.iconst (-1), 1) := by decide +kernel
theorem dX6_addJob_152 : decode cX6_addJob 152 = .ok (.iastore, 1) := by decide +kernel
theorem dX6_addJob_153 : decode cX6_addJob 153 = .ok (.aload_n 0, 1) := by decide +kernel
theorem dX6_addJob_154 : decode cX6_addJob 154 = .ok (.getfield 28, 3) := by decide +kernel
theorem dX6_addJob_157 : decode cX6_addJob 157 = .ok (.getfield 136, 3) := by decide +kernel
theorem dX6_addJob_160 : decode cX6_addJob 160 = .ok (.iload 6, 2) := by decide +kernel
theorem dX6_addJob_162 : decode cX6_addJob 162 = .ok (.iconst (-1), 1) := by decide +kernel
theorem dX6_addJob_163 : decode cX6_addJob 163 = .ok (.iastore, 1) := by decide +kernel
theorem dX6_addJob_164 : decode cX6_addJob 164 = .ok (.aload_n 0, 1) := by decide +kernel
theorem dX6_addJob_165 : decode cX6_addJob 165 = .ok (.getfield 28, 3) := by decide +kernel
theorem dX6_addJob_168 : decode cX6_addJob 168 = .ok (.getfield 139, 3) := by decide +kernel
theorem dX6_addJob_171 : decode cX6_addJob 171 = .ok (.iload 6, 2) := by decide +kernel
theorem dX6_addJob_173 : decode cX6_addJob 173 = .ok (.iconst (-1), 1) := by decide +kernel
theorem dX6_addJob_174 : decode cX6_addJob 174 = .ok (.iastore, 1) := by decide +kernel
theorem dX6_addJob_175 : decode cX6_addJob 175 = .ok (.aload_n 0, 1) := by decide +kernel
theorem dX6_addJob_176 : decode cX6_addJob 176 = .ok (.getfield 28, 3) := by decide +kernel
theorem dX6_addJob_179 : decode cX6_addJob 179 = .ok (.getfield 142, 3) := by decide +kernel
theorem dX6_addJob_182 : decode cX6_addJob 182 = .ok (.iload 6, 2) := by decide +kernel
theorem dX6_addJob_184 : decode cX6_addJob 184 = .ok (.iconst (-1), 1) := by decide +kernel
theorem dX6_addJob_185 : decode cX6_addJob 185 = .ok (.iastore, 1) := by decide +kernel
theorem dX6_addJob_186 : decode cX6_addJob 186 = .ok (.iconst 0, 1) := by decide +kernel
theorem dX6_addJob_187 : decode cX6_addJob 187 = .ok (.istore 7, 2) := by decide +kernel
theorem dX6_addJob_189 : decode cX6_addJob 189 = .ok (.iload 7, 2) := by decide +kernel
theorem dX6_addJob_191 : decode cX6_addJob 191 = .ok (.aload_n 1, 1) := by decide +kernel
theorem dX6_addJob_192 : decode cX6_addJob 192 = .ok (.getfield 118, 3) := by decide +kernel
theorem dX6_addJob_195 : decode cX6_addJob 195 = .ok (.if_icmp .ge 85, 3) := by decide +kernel
theorem dX6_addJob_198 : decode cX6_addJob 198 = .ok (.aload_n 0, 1) := by decide +kernel
theorem dX6_addJob_199 : decode cX6_addJob 199 = .ok (.getfield 35, 3) := by decide +kernel
theorem dX6_addJob_202 : decode cX6_addJob 202 = .ok (.getfield 145, 3) := by decide +kernel
theorem dX6_addJob_205 : decode cX6_addJob 205 = .ok (.iload 6, 2) := by decide +kernel
theorem dX6_addJob_207 : decode cX6_addJob 207 = .ok (.iconst 4, 1) := by decide +kernel
theorem dX6_addJob_208 : decode cX6_addJob 208 = .ok (.imul, 1) := by decide +kernel
theorem dX6_addJob_209 : decode cX6_addJob 209 = .ok (.iload 7, 2) := by decide +kernel
theorem dX6_addJob_211 : decode cX6_addJob 211 = .ok (.iadd, 1) := by decide +kernel
theorem dX6_addJob_212 : decode cX6_addJob 212 = .ok (.aload_n 1, 1) := by decide +kernel
theorem dX6_addJob_213 : decode cX6_addJob 213 = .ok (.getfield 148, 3) := by decide +kernel
theorem dX6_addJob_216 : decode cX6_addJob 216 = .ok (.iload 7, 2) := by decide +kernel
theorem dX6_addJob_218 : decode cX6_addJob 218 = .ok (.iaload, 1) := by decide +kernel
theorem dX6_addJob_219 : decode cX6_addJob 219 = .ok (.iastore, 1) := by decide +kernel
theorem dX6_addJob_220 : decode cX6_addJob 220 = .ok (.aload_n 0, 1) := by decide +kernel
theorem dX6_addJob_221 : decode cX6_addJob 221 = .ok (.getfield 35, 3) := by decide +kernel
theorem dX6_addJob_224 : decode cX6_addJob 224 = .ok (.getfield 149, 3) := by decide +kernel
theorem dX6_addJob_227 : decode cX6_addJob 227 = .ok (.iload 6, 2) := by decide +kernel
theorem dX6_addJob_229 : decode cX6_addJob 229 = .ok (.iconst 4, 1) := by decide +kernel
theorem dX6_addJob_230 : decode cX6_addJob 230 = .ok (.imul, 1) := by decide +kernel
theorem dX6_addJob_231 : decode cX6_addJob 231 = .ok (.iload 7, 2) := by decide +kernel
theorem dX6_addJob_233 : decode cX6_addJob 233 = .ok (.iadd, 1) := by decide +kernel
theorem dX6_addJob_234 : decode cX6_addJob 234 = .ok (.aload_n 1, 1) := by decide +kernel
theorem dX6_addJob_235 : decode cX6_addJob 235 = .ok (.getfield 152, 3) := by decide +kernel
theorem dX6_addJob_238 : decode cX6_addJob 238 = .ok (.iload 7, 2) := by decide +kernel
theorem dX6_addJob_240 : decode cX6_addJob 240 = .ok (.iaload, 1) := by decide +kernel
theorem dX6_addJob_241 : decode cX6_addJob 241 = .ok (.iastore, 1) := by decide +kernel
theorem dX6_addJob_242 : decode cX6_addJob 242 = .ok (.aload_n 0, 1) := by decide +kernel
theorem dX6_addJob_243 : decode cX6_addJob 243 = .ok (.getfield 35, 3) := by decide +kernel
theorem dX6_addJob_246 : decode cX6_addJob 246 = .ok (.getfield 153, 3) := by decide +kernel
theorem dX6_addJob_249 : decode cX6_addJob 249 = .ok (.iload 6, 2) := by decide +kernel
theorem dX6_addJob_251 : decode cX6_addJob 251 = .ok (.iconst 4, 1) := by decide +kernel
theorem dX6_addJob_252 : decode cX6_addJob 252 = .ok (.imul, 1) := by decide +kernel
theorem dX6_addJob_253 : decode cX6_addJob 253 = .ok (.iload 7, 2) := by decide +kernel
theorem dX6_addJob_255 : decode cX6_addJob 255 = .ok (.iadd, 1) := by decide +kernel
theorem dX6_addJob_256 : decode cX6_addJob 256 = .ok (.iconst (-1), 1) := by decide +kernel
theorem dX6_addJob_257 : decode cX6_addJob 257 = .ok (.iastore, 1) := by decide +kernel
theorem dX6_addJob_258 : decode cX6_addJob 258 = .ok (.aload_n 0, 1) := by decide +kernel
theorem dX6_addJob_259 : decode cX6_addJob 259 = .ok (.getfield 35, 3) := by decide +kernel
theorem dX6_addJob_262 : decode cX6_addJob 262 = .ok (.getfield 156, 3) := by decide +kernel
theorem dX6_addJob_265 : decode cX6_addJob 265 = .ok (.iload 6, 2) := by decide +kernel
theorem dX6_addJob_267 : decode cX6_addJob 267 = .ok (.iconst 4, 1) := by decide +kernel
theorem dX6_addJob_268 : decode cX6_addJob 268 = .ok (.imul, 1) := by decide +kernel
theorem dX6_addJob_269 : decode cX6_addJob 269 = .ok (.iload 7, 2) := by decide +kernel
theorem dX6_addJob_271 : decode cX6_addJob 271 = .ok (.iadd, 1) := by decide +kernel
theorem dX6_addJob_272 : decode cX6_addJob 272 = .ok (.iconst (-1), 1) := by decide +kernel
theorem dX6_addJob_273 : decode cX6_addJob 273 = .ok (.iastore, 1) := by decide +kernel
theorem dX6_addJob_274 : decode cX6_addJob 274 = .ok (.iinc 7 1, 3) := by decide +kernel
theorem dX6_addJob_277 : decode cX6_addJob 277 = .ok (.goto (-88), 3) := by decide +kernel
theorem dX6_addJob_280 : decode cX6_addJob 280 = .ok (.aload_n 0, 1) := by decide +kernel
theorem dX6_addJob_281 : decode cX6_addJob 281 = .ok (.getfield 49, 3) := by decide +kernel
theorem dX6_addJob_284 : decode cX6_addJob 284 = .ok (.aload_n 0, 1) := by decide +kernel
theorem dX6_addJob_285 : decode cX6_addJob 285 = .ok (.getfield 71, 3) := by decide +kernel
theorem dX6_addJob_288 : decode cX6_addJob 288 = .ok (.iconst 0, 1) := by decide +kernel
theorem dX6_addJob_289 : decode cX6_addJob 289 = .ok (.iload 6, 2) := by decide +kernel
theorem dX6_addJob_291 : decode cX6_addJob 291 = .ok (.invokevirtual 159, 3) := by decide +kernel
theorem dX6_addJob_294 : decode cX6_addJob 294 = .ok (.iload 6, 2) := by decide +kernel
theorem dX6_addJob_296 : decode cX6_addJob 296 = .ok (.ireturn, 1) := by decide +kernel
theorem dX6_lasts_0 : decode cX6_lasts 0 = .ok (.iconst 1, 1) := by decide +kernel
theorem dX6_lasts_1 : decode cX6_lasts 1 = .ok (.aload_n 0, 1) := by decide +kernel
theorem dX6_lasts_2 : decode cX6_lasts 2 = .ok (.getfield 35, 3) := by decide +kernel
theorem dX6_lasts_5 : decode cX6_lasts 5 = .ok (.getfield 149, 3) := by decide +kernel
theorem dX6_lasts_8 : decode cX6_lasts 8 = .ok (.iload_n 1, 1) := by decide +kernel
theorem dX6_lasts_9 : decode cX6_lasts 9 = .ok (.iaload, 1) := by decide +kernel
theorem dX6_lasts_10 : decode cX6_lasts 10 = .ok (.aload_n 0, 1) := by decide +kernel
theorem dX6_lasts_11 : decode cX6_lasts 11 = .ok (.getfield 28, 3) := by decide +kernel
theorem dX6_lasts_14 : decode cX6_lasts 14 = .ok (.getfield 110, 3) := by decide +kernel
theorem dX6_lasts_17 : decode cX6_lasts 17 = .ok (.iload_n 1, 1) := by decide +kernel
theorem dX6_lasts_18 : decode cX6_lasts 18 = .ok (.iconst 4, 1) := by decide +kernel
theorem dX6_lasts_19 : decode cX6_lasts 19 = .ok (.idiv, 1) := by decide +kernel
theorem dX6_lasts_20 : decode cX6_lasts 20 = .ok (.iaload, 1) := by decide +kernel
theorem dX6_lasts_21 : decode cX6_lasts 21 = .ok (.imul, 1) := by decide +kernel
theorem dX6_lasts_22 : decode cX6_lasts 22 = .ok (.bipush 100, 2) := by decide +kernel
theorem dX6_lasts_24 : decode cX6_lasts 24 = .ok (.idiv, 1) := by decide +kernel
theorem dX6_lasts_25 : decode cX6_lasts 25 = .ok (.invokestatic 163, 3) := by decide +kernel
theorem dX6_lasts_28 : decode cX6_lasts 28 = .ok (.ireturn, 1) := by decide +kernel
theorem dX6_knownEnd_0 : decode cX6_knownEnd 0 = .ok (.aload_n 0, 1) := by decide +kernel
theorem dX6_knownEnd_1 : decode cX6_knownEnd 1 = .ok (.getfield 28, 3) := by decide +kernel
theorem dX6_knownEnd_4 : decode cX6_knownEnd 4 = .ok (.getfield 133, 3) := by decide +kernel
theorem dX6_knownEnd_7 : decode cX6_knownEnd 7 = .ok (.iload_n 1, 1) := by decide +kernel
theorem dX6_knownEnd_8 : decode cX6_knownEnd 8 = .ok (.iconst 4, 1) := by decide +kernel
theorem dX6_knownEnd_9 : decode cX6_knownEnd 9 = .ok (.idiv, 1) := by decide +kernel
theorem dX6_knownEnd_10 : decode cX6_knownEnd 10 = .ok (.iaload, 1) := by decide +kernel
theorem dX6_knownEnd_11 : decode cX6_knownEnd 11 = .ok (.aload_n 0, 1) := by decide +kernel
theorem dX6_knownEnd_12 : decode cX6_knownEnd 12 = .ok (.getfield 35, 3) := by decide +kernel
theorem dX6_knownEnd_15 : decode cX6_knownEnd 15 = .ok (.getfield 149, 3) := by decide +kernel
theorem dX6_knownEnd_18 : decode cX6_knownEnd 18 = .ok (.iload_n 1, 1) := by decide +kernel
theorem dX6_knownEnd_19 : decode cX6_knownEnd 19 = .ok (.iaload, 1) := by decide +kernel
theorem dX6_knownEnd_20 : decode cX6_knownEnd 20 = .ok (.iadd, 1) := by decide +kernel
theorem dX6_knownEnd_21 : decode cX6_knownEnd 21 = .ok (.ireturn, 1) := by decide +kernel
theorem dX6_accountOfArm_0 : decode cX6_accountOfArm 0 = .ok (.aload_n 0, 1) := by decide +kernel
theorem dX6_accountOfArm_1 : decode cX6_accountOfArm 1 = .ok (.getfield 28, 3) := by decide +kernel
theorem dX6_accountOfArm_4 : decode cX6_accountOfArm 4 = .ok (.getfield 104, 3) := by decide +kernel
theorem dX6_accountOfArm_7 : decode cX6_accountOfArm 7 = .ok (.iload_n 1, 1) := by decide +kernel
theorem dX6_accountOfArm_8 : decode cX6_accountOfArm 8 = .ok (.iconst 4, 1) := by decide +kernel
theorem dX6_accountOfArm_9 : decode cX6_accountOfArm 9 = .ok (.idiv, 1) := by decide +kernel
theorem dX6_accountOfArm_10 : decode cX6_accountOfArm 10 = .ok (.iaload, 1) := by decide +kernel
theorem dX6_accountOfArm_11 : decode cX6_accountOfArm 11 = .ok (.ireturn, 1) := by decide +kernel
theorem dX6_isKept_0 : decode cX6_isKept 0 = .ok (.iconst 0, 1) := by decide +kernel
theorem dX6_isKept_1 : decode cX6_isKept 1 = .ok (.istore 4, 2) := by decide +kernel
theorem dX6_isKept_3 : decode cX6_isKept 3 = .ok (.iload 4, 2) := by decide +kernel
theorem dX6_isKept_5 : decode cX6_isKept 5 = .ok (.bipush 16, 2) := by decide +kernel
theorem dX6_isKept_7 : decode cX6_isKept 7 = .ok (.if_icmp .ge 48, 3) := by decide +kernel
theorem dX6_isKept_10 : decode cX6_isKept 10 = .ok (.aload_n 0, 1) := by decide +kernel
theorem dX6_isKept_11 : decode cX6_isKept 11 = .ok (.getfield 35, 3) := by decide +kernel
theorem dX6_isKept_14 : decode cX6_isKept 14 = .ok (.getfield 169, 3) := by decide +kernel
theorem dX6_isKept_17 : decode cX6_isKept 17 = .ok (.iload 4, 2) := by decide +kernel
theorem dX6_isKept_19 : decode cX6_isKept 19 = .ok (.iaload, 1) := by decide +kernel
theorem dX6_isKept_20 : decode cX6_isKept 20 = .ok (.istore 5, 2) := by decide +kernel
theorem dX6_isKept_22 : decode cX6_isKept 22 = .ok (.iload 5, 2) := by decide +kernel
theorem dX6_isKept_24 : decode cX6_isKept 24 = .ok (.iconst (-1), 1) := by decide +kernel
theorem dX6_isKept_25 : decode cX6_isKept 25 = .ok (.if_icmp .eq 24, 3) := by decide +kernel
theorem dX6_isKept_28 : decode cX6_isKept 28 = .ok (.iload_n 1, 1) := by decide +kernel
theorem dX6_isKept_29 : decode cX6_isKept 29 = .ok (.iload 4, 2) := by decide +kernel
theorem dX6_isKept_31 : decode cX6_isKept 31 = .ok (.ishr, 1) := by decide +kernel
theorem dX6_isKept_32 : decode cX6_isKept 32 = .ok (.iconst 1, 1) := by decide +kernel
theorem dX6_isKept_33 : decode cX6_isKept 33 = .ok (.iand, 1) := by decide +kernel
theorem dX6_isKept_34 : decode cX6_isKept 34 = .ok (.ifCond .eq 15, 3) := by decide +kernel
theorem dX6_isKept_37 : decode cX6_isKept 37 = .ok (.iload_n 2, 1) := by decide +kernel
theorem dX6_isKept_38 : decode cX6_isKept 38 = .ok (.aload_n 0, 1) := by decide +kernel
theorem dX6_isKept_39 : decode cX6_isKept 39 = .ok (.iload 5, 2) := by decide +kernel
theorem dX6_isKept_41 : decode cX6_isKept 41 = .ok (.invokevirtual 172, 3) := by decide +kernel
theorem dX6_isKept_44 : decode cX6_isKept 44 = .ok (.if_icmp .ge 5, 3) := by decide +kernel
theorem dX6_isKept_47 : decode cX6_isKept 47 = .ok (.iconst 1, 1) := by decide +kernel
theorem dX6_isKept_48 : decode cX6_isKept 48 = .ok (.ireturn, 1) := by decide +kernel
theorem dX6_isKept_49 : decode cX6_isKept 49 = .ok (.iinc 4 1, 3) := by decide +kernel
theorem dX6_isKept_52 : decode cX6_isKept 52 = .ok (.goto (-49), 3) := by decide +kernel
theorem dX6_isKept_55 : decode cX6_isKept 55 = .ok (.aload_n 0, 1) := by decide +kernel
theorem dX6_isKept_56 : decode cX6_isKept 56 = .ok (.getfield 42, 3) := by decide +kernel
theorem dX6_isKept_59 : decode cX6_isKept 59 = .ok (.iload_n 1, 1) := by decide +kernel
theorem dX6_isKept_60 : decode cX6_isKept 60 = .ok (.iload_n 2, 1) := by decide +kernel
theorem dX6_isKept_61 : decode cX6_isKept 61 = .ok (.iload_n 3, 1) := by decide +kernel
theorem dX6_isKept_62 : decode cX6_isKept 62 = .ok (.invokevirtual 175, 3) := by decide +kernel
theorem dX6_isKept_65 : decode cX6_isKept 65 = .ok (.ireturn, 1) := by decide +kernel
theorem dX6_promisedTo_0 : decode cX6_promisedTo 0 = .ok (.iconst 0, 1) := by decide +kernel
theorem dX6_promisedTo_1 : decode cX6_promisedTo 1 = .ok (.istore_n 3, 1) := by decide +kernel
theorem dX6_promisedTo_2 : decode cX6_promisedTo 2 = .ok (.iload_n 3, 1) := by decide +kernel
theorem dX6_promisedTo_3 : decode cX6_promisedTo 3 = .ok (.aload_n 0, 1) := by decide +kernel
theorem dX6_promisedTo_4 : decode cX6_promisedTo 4 = .ok (.getfield 28, 3) := by decide +kernel
theorem dX6_promisedTo_7 : decode cX6_promisedTo 7 = .ok (.getfield 84, 3) := by decide +kernel
theorem dX6_promisedTo_10 : decode cX6_promisedTo 10 = .ok (.if_icmp .ge 34, 3) := by decide +kernel
theorem dX6_promisedTo_13 : decode cX6_promisedTo 13 = .ok (.aload_n 0, 1) := by decide +kernel
theorem dX6_promisedTo_14 : decode cX6_promisedTo 14 = .ok (.getfield 28, 3) := by decide +kernel
theorem dX6_promisedTo_17 : decode cX6_promisedTo 17 = .ok (.getfield 142, 3) := by decide +kernel
theorem dX6_promisedTo_20 : decode cX6_promisedTo 20 = .ok (.iload_n 3, 1) := by decide +kernel
theorem dX6_promisedTo_21 : decode cX6_promisedTo 21 = .ok (.iaload, 1) := by decide +kernel
theorem dX6_promisedTo_22 : decode cX6_promisedTo 22 = .ok (.iconst (-1), 1) := by decide +kernel
theorem dX6_promisedTo_23 : decode cX6_promisedTo 23 = .ok (.if_icmp .eq 15, 3) := by decide +kernel
theorem dX6_promisedTo_26 : decode cX6_promisedTo 26 = .ok (.aload_n 0, 1) := by decide +kernel
theorem dX6_promisedTo_27 : decode cX6_promisedTo 27 = .ok (.iload_n 3, 1) := by decide +kernel
theorem dX6_promisedTo_28 : decode cX6_promisedTo 28 = .ok (.iload_n 1, 1) := by decide +kernel
theorem dX6_promisedTo_29 : decode cX6_promisedTo 29 = .ok (.iload_n 2, 1) := by decide +kernel
theorem dX6_promisedTo_30 : decode cX6_promisedTo 30 = .ok (.invokevirtual 179, 3) := by decide +kernel
theorem dX6_promisedTo_33 : decode cX6_promisedTo 33 = .ok (.ifCond .eq 5, 3) := by decide +kernel
theorem dX6_promisedTo_36 : decode cX6_promisedTo 36 = .ok (.iload_n 3, 1) := by decide +kernel
theorem dX6_promisedTo_37 : decode cX6_promisedTo 37 = .ok (.ireturn, 1) := by decide +kernel
theorem dX6_promisedTo_38 : decode cX6_promisedTo 38 = .ok (.iinc 3 1, 3) := by decide +kernel
theorem dX6_promisedTo_41 : decode cX6_promisedTo 41 = .ok (.goto (-39), 3) := by decide +kernel
theorem dX6_promisedTo_44 : decode cX6_promisedTo 44 = .ok (.iconst (-1), 1) := by decide +kernel
theorem dX6_promisedTo_45 : decode cX6_promisedTo 45 = .ok (.ireturn, 1) := by decide +kernel
theorem dX6_promises_0 : decode cX6_promises 0 = .ok (.aload_n 0, 1) := by decide +kernel
theorem dX6_promises_1 : decode cX6_promises 1 = .ok (.getfield 28, 3) := by decide +kernel
theorem dX6_promises_4 : decode cX6_promises 4 = .ok (.getfield 142, 3) := by decide +kernel
theorem dX6_promises_7 : decode cX6_promises 7 = .ok (.iload_n 1, 1) := by decide +kernel
theorem dX6_promises_8 : decode cX6_promises 8 = .ok (.iaload, 1) := by decide +kernel
theorem dX6_promises_9 : decode cX6_promises 9 = .ok (.istore 4, 2) := by decide +kernel
theorem dX6_promises_11 : decode cX6_promises 11 = .ok (.iload_n 1, 1) := by decide +kernel
theorem dX6_promises_12 : decode cX6_promises 12 = .ok (.iconst 4, 1) := by decide +kernel
theorem dX6_promises_13 : decode cX6_promises 13 = .ok (.imul, 1) := by decide +kernel
theorem dX6_promises_14 : decode cX6_promises 14 = .ok (.istore 5, 2) := by decide +kernel
theorem dX6_promises_16 : decode cX6_promises 16 = .ok (.iload 5, 2) := by decide +kernel
theorem dX6_promises_18 : decode cX6_promises 18 = .ok (.iload_n 1, 1) := by decide +kernel
theorem dX6_promises_19 : decode cX6_promises 19 = .ok (.iconst 4, 1) := by decide +kernel
theorem dX6_promises_20 : decode cX6_promises 20 = .ok (.imul, 1) := by decide +kernel
theorem dX6_promises_21 : decode cX6_promises 21 = .ok (.aload_n 0, 1) := by decide +kernel
theorem dX6_promises_22 : decode cX6_promises 22 = .ok (.getfield 28, 3) := by decide +kernel
theorem dX6_promises_25 : decode cX6_promises 25 = .ok (.getfield 116, 3) := by decide +kernel
theorem dX6_promises_28 : decode cX6_promises 28 = .ok (.iload_n 1, 1) := by decide +kernel
theorem dX6_promises_29 : decode cX6_promises 29 = .ok (.iaload, 1) := by decide +kernel
theorem dX6_promises_30 : decode cX6_promises 30 = .ok (.iadd, 1) := by decide +kernel
theorem dX6_promises_31 : decode cX6_promises 31 = .ok (.if_icmp .ge 81, 3) := by decide +kernel
theorem dX6_promises_34 : decode cX6_promises 34 = .ok (.aload_n 0, 1) := by decide +kernel
theorem dX6_promises_35 : decode cX6_promises 35 = .ok (.getfield 35, 3) := by decide +kernel
theorem dX6_promises_38 : decode cX6_promises 38 = .ok (.getfield 182, 3) := by decide +kernel
theorem dX6_promises_41 : decode cX6_promises 41 = .ok (.iload 5, 2) := by decide +kernel
theorem dX6_promises_43 : decode cX6_promises 43 = .ok (.iaload, 1) := by decide +kernel
theorem dX6_promises_44 : decode cX6_promises 44 = .ok (.istore 6, 2) := by decide +kernel
theorem dX6_promises_46 : decode cX6_promises 46 = .ok (.iload_n 2, 1) := by decide +kernel
theorem dX6_promises_47 : decode cX6_promises 47 = .ok (.iload 6, 2) := by decide +kernel
theorem dX6_promises_49 : decode cX6_promises 49 = .ok (.if_icmp .lt 24, 3) := by decide +kernel
theorem dX6_promises_52 : decode cX6_promises 52 = .ok (.iload_n 2, 1) := by decide +kernel
theorem dX6_promises_53 : decode cX6_promises 53 = .ok (.iload 6, 2) := by decide +kernel
theorem dX6_promises_55 : decode cX6_promises 55 = .ok (.aload_n 0, 1) := by decide +kernel
theorem dX6_promises_56 : decode cX6_promises 56 = .ok (.getfield 35, 3) := by decide +kernel
theorem dX6_promises_59 : decode cX6_promises 59 = .ok (.getfield 145, 3) := by decide +kernel
theorem dX6_promises_62 : decode cX6_promises 62 = .ok (.iload 5, 2) := by decide +kernel
theorem dX6_promises_64 : decode cX6_promises 64 = .ok (.iaload, 1) := by decide +kernel
theorem dX6_promises_65 : decode cX6_promises 65 = .ok (.iadd, 1) := by decide +kernel
theorem dX6_promises_66 : decode cX6_promises 66 = .ok (.if_icmp .ge 7, 3) := by decide +kernel
theorem dX6_promises_69 : decode cX6_promises 69 = .ok (.iconst 1, 1) := by decide +kernel
theorem dX6_promises_70 : decode cX6_promises 70 = .ok (.goto 4, 3) := by decide +kernel
theorem dX6_promises_73 : decode cX6_promises 73 = .ok (.iconst 0, 1) := by decide +kernel
theorem dX6_promises_74 : decode cX6_promises 74 = .ok (.istore 7, 2) := by decide +kernel
theorem dX6_promises_76 : decode cX6_promises 76 = .ok (.iload 7, 2) := by decide +kernel
theorem dX6_promises_78 : decode cX6_promises 78 = .ok (.ifCond .eq 28, 3) := by decide +kernel
theorem dX6_promises_81 : decode cX6_promises 81 = .ok (.iload_n 3, 1) := by decide +kernel
theorem dX6_promises_82 : decode cX6_promises 82 = .ok (.iload 4, 2) := by decide +kernel
theorem dX6_promises_84 : decode cX6_promises 84 = .ok (.if_icmp .lt 22, 3) := by decide +kernel
theorem dX6_promises_87 : decode cX6_promises 87 = .ok (.iload_n 3, 1) := by decide +kernel
theorem dX6_promises_88 : decode cX6_promises 88 = .ok (.iload 4, 2) := by decide +kernel
theorem dX6_promises_90 : decode cX6_promises 90 = .ok (.aload_n 0, 1) := by decide +kernel
theorem dX6_promises_91 : decode cX6_promises 91 = .ok (.getfield 35, 3) := by decide +kernel
theorem dX6_promises_94 : decode cX6_promises 94 = .ok (.getfield 149, 3) := by decide +kernel
theorem dX6_promises_97 : decode cX6_promises 97 = .ok (.iload 5, 2) := by decide +kernel
theorem dX6_promises_99 : decode cX6_promises 99 = .ok (.iaload, 1) := by decide +kernel
theorem dX6_promises_100 : decode cX6_promises 100 = .ok (.iadd, 1) := by decide +kernel
theorem dX6_promises_101 : decode cX6_promises 101 = .ok (.if_icmp .ge 5, 3) := by decide +kernel
theorem dX6_promises_104 : decode cX6_promises 104 = .ok (.iconst 1, 1) := by decide +kernel
theorem dX6_promises_105 : decode cX6_promises 105 = .ok (.ireturn, 1) := by decide +kernel
theorem dX6_promises_106 : decode cX6_promises 106 = .ok (.iinc 5 1, 3) := by decide +kernel
theorem dX6_promises_109 : decode cX6_promises 109 = .ok (.goto (-93), 3) := by decide +kernel
theorem dX6_promises_112 : decode cX6_promises 112 = .ok (.iconst 0, 1) := by decide +kernel
theorem dX6_promises_113 : decode cX6_promises 113 = .ok (.ireturn, 1) := by decide +kernel
theorem dX7_init_0 : decode cX7_init 0 = .ok (.aload_n 0, 1) := by decide +kernel
theorem dX7_init_1 : decode cX7_init 1 = .ok (.invokespecial 3, 3) := by decide +kernel
theorem dX7_init_4 : decode cX7_init 4 = .ok (.aload_n 0, 1) := by decide +kernel
theorem dX7_init_5 : decode cX7_init 5 = .ok (.new 9, 3) := by decide +kernel
theorem dX7_init_8 : decode cX7_init 8 = .ok (.dup, 1) := by decide +kernel
theorem dX7_init_9 : decode cX7_init 9 = .ok (.invokespecial 11, 3) := by decide +kernel
theorem dX7_init_12 : decode cX7_init 12 = .ok (.putfield 12, 3) := by decide +kernel
theorem dX7_init_15 : decode cX7_init 15 = .ok (.aload_n 0, 1) := by decide +kernel
theorem dX7_init_16 : decode cX7_init 16 = .ok (.new 18, 3) := by decide +kernel
theorem dX7_init_19 : decode cX7_init 19 = .ok (.dup, 1) := by decide +kernel
theorem dX7_init_20 : decode cX7_init 20 = .ok (.invokespecial 20, 3) := by decide +kernel
theorem dX7_init_23 : decode cX7_init 23 = .ok (.putfield 21, 3) := by decide +kernel
theorem dX7_init_26 : decode cX7_init 26 = .ok (.aload_n 0, 1) := by decide +kernel
theorem dX7_init_27 : decode cX7_init 27 = .ok (.new 25, 3) := by decide +kernel
theorem dX7_init_30 : decode cX7_init 30 = .ok (.dup, 1) := by decide +kernel
theorem dX7_init_31 : decode cX7_init 31 = .ok (.invokespecial 27, 3) := by decide +kernel
theorem dX7_init_34 : decode cX7_init 34 = .ok (.putfield 28, 3) := by decide +kernel
theorem dX7_init_37 : decode cX7_init 37 = .ok (.aload_n 0, 1) := by decide +kernel
theorem dX7_init_38 : decode cX7_init 38 = .ok (.bipush 8, 2) := by decide +kernel
theorem dX7_init_40 : decode cX7_init 40 = .ok (.newarray .int, 2) := by decide +kernel
theorem dX7_init_42 : decode cX7_init 42 = .ok (.putfield 32, 3) := by decide +kernel
theorem dX7_init_45 : decode cX7_init 45 = .ok (.aload_n 0, 1) := by decide +kernel
theorem dX7_init_46 : decode cX7_init 46 = .ok (.bipush 80, 2) := by decide +kernel
theorem dX7_init_48 : decode cX7_init 48 = .ok (.newarray .int, 2) := by decide +kernel
theorem dX7_init_50 : decode cX7_init 50 = .ok (.putfield 36, 3) := by decide +kernel
theorem dX7_init_53 : decode cX7_init 53 = .ok (.aload_n 0, 1) := by decide +kernel
theorem dX7_init_54 : decode cX7_init 54 = .ok (.bipush 80, 2) := by decide +kernel
theorem dX7_init_56 : decode cX7_init 56 = .ok (.newarray .int, 2) := by decide +kernel
theorem dX7_init_58 : decode cX7_init 58 = .ok (.putfield 39, 3) := by decide +kernel
theorem dX7_init_61 : decode cX7_init 61 = .ok (.return_, 1) := by decide +kernel
theorem dX7_goPass_0 : decode cX7_goPass 0 = .ok (.aload_n 0, 1) := by decide +kernel
theorem dX7_goPass_1 : decode cX7_goPass 1 = .ok (.getfield 28, 3) := by decide +kernel
theorem dX7_goPass_4 : decode cX7_goPass 4 = .ok (.aload_n 1, 1) := by decide +kernel
theorem dX7_goPass_5 : decode cX7_goPass 5 = .ok (.invokevirtual 42, 3) := by decide +kernel
theorem dX7_goPass_8 : decode cX7_goPass 8 = .ok (.aload_n 0, 1) := by decide +kernel
theorem dX7_goPass_9 : decode cX7_goPass 9 = .ok (.aload_n 1, 1) := by decide +kernel
theorem dX7_goPass_10 : decode cX7_goPass 10 = .ok (.invokevirtual 46, 3) := by decide +kernel
theorem dX7_goPass_13 : decode cX7_goPass 13 = .ok (.aload_n 1, 1) := by decide +kernel
theorem dX7_goPass_14 : decode cX7_goPass 14 = .ok (.getfield 49, 3) := by decide +kernel
theorem dX7_goPass_17 : decode cX7_goPass 17 = .ok (.astore_n 2, 1) := by decide +kernel
theorem dX7_goPass_18 : decode cX7_goPass 18 = .ok (.aload_n 1, 1) := by decide +kernel
theorem dX7_goPass_19 : decode cX7_goPass 19 = .ok (.getfield 55, 3) := by decide +kernel
theorem dX7_goPass_22 : decode cX7_goPass 22 = .ok (.invokevirtual 59, 3) := by decide +kernel
theorem dX7_goPass_25 : decode cX7_goPass 25 = .ok (.istore_n 3, 1) := by decide +kernel
theorem dX7_goPass_26 : decode cX7_goPass 26 = .ok (.aload_n 1, 1) := by decide +kernel
theorem dX7_goPass_27 : decode cX7_goPass 27 = .ok (.getfield 65, 3) := by decide +kernel
theorem dX7_goPass_30 : decode cX7_goPass 30 = .ok (.ifCond .eq 12, 3) := by decide +kernel
theorem dX7_goPass_33 : decode cX7_goPass 33 = .ok (.aload_n 0, 1) := by decide +kernel
theorem dX7_goPass_34 : decode cX7_goPass 34 = .ok (.aload_n 1, 1) := by decide +kernel
theorem dX7_goPass_35 : decode cX7_goPass 35 = .ok (.iload_n 3, 1) := by decide +kernel
theorem dX7_goPass_36 : decode cX7_goPass 36 = .ok (.invokevirtual 69, 3) := by decide +kernel
theorem dX7_goPass_39 : decode cX7_goPass 39 = .ok (.goto 12, 3) := by decide +kernel
theorem dX7_goPass_42 : decode cX7_goPass 42 = .ok (.aload_n 0, 1) := by decide +kernel
theorem dX7_goPass_43 : decode cX7_goPass 43 = .ok (.getfield 28, 3) := by decide +kernel
theorem dX7_goPass_46 : decode cX7_goPass 46 = .ok (.getfield 73, 3) := by decide +kernel
theorem dX7_goPass_49 : decode cX7_goPass 49 = .ok (.iconst 1, 1) := by decide +kernel
theorem dX7_goPass_50 : decode cX7_goPass 50 = .ok (.isub, 1) := by decide +kernel
theorem dX7_goPass_51 : decode cX7_goPass 51 = .ok (.istore 4, 2) := by decide +kernel
theorem dX7_goPass_53 : decode cX7_goPass 53 = .ok (.iconst 0, 1) := by decide +kernel
theorem dX7_goPass_54 : decode cX7_goPass 54 = .ok (.istore 5, 2) := by decide +kernel
theorem dX7_goPass_56 : decode cX7_goPass 56 = .ok (.iconst 0, 1) := by decide +kernel
theorem dX7_goPass_57 : decode cX7_goPass 57 = .ok (.istore 6, 2) := by decide +kernel
theorem dX7_goPass_59 : decode cX7_goPass 59 = .ok (.aload_n 1, 1) := by decide +kernel
theorem dX7_goPass_60 : decode cX7_goPass 60 = .ok (.getfield 77, 3) := by decide +kernel
theorem dX7_goPass_63 : decode cX7_goPass 63 = .ok (.iconst 1, 1) := by decide +kernel
theorem dX7_goPass_64 : decode cX7_goPass 64 = .ok (.iaload, 1) := by decide +kernel
theorem dX7_goPass_65 : decode cX7_goPass 65 = .ok (.istore 7, 2) := by decide +kernel
theorem dX7_goPass_67 : decode cX7_goPass 67 = .ok (.iconst 0, 1) := by decide +kernel
theorem dX7_goPass_68 : decode cX7_goPass 68 = .ok (.istore 8, 2) := by decide +kernel
theorem dX7_goPass_70 : decode cX7_goPass 70 = .ok (.iconst 0, 1) := by decide +kernel
theorem dX7_goPass_71 : decode cX7_goPass 71 = .ok (.istore 9, 2) := by decide +kernel
theorem dX7_goPass_73 : decode cX7_goPass 73 = .ok (.iload 9, 2) := by decide +kernel
theorem dX7_goPass_75 : decode cX7_goPass 75 = .ok (.iload 4, 2) := by decide +kernel
theorem dX7_goPass_77 : decode cX7_goPass 77 = .ok (.if_icmp .gt 195, 3) := by decide +kernel
theorem dX7_goPass_80 : decode cX7_goPass 80 = .ok (.aload_n 0, 1) := by decide +kernel
theorem dX7_goPass_81 : decode cX7_goPass 81 = .ok (.getfield 28, 3) := by decide +kernel
theorem dX7_goPass_84 : decode cX7_goPass 84 = .ok (.getfield 80, 3) := by decide +kernel
theorem dX7_goPass_87 : decode cX7_goPass 87 = .ok (.iload 9, 2) := by decide +kernel
theorem dX7_goPass_89 : decode cX7_goPass 89 = .ok (.iaload, 1) := by decide +kernel
theorem dX7_goPass_90 : decode cX7_goPass 90 = .ok (.istore 10, 2) := by decide +kernel
theorem dX7_goPass_92 : decode cX7_goPass 92 = .ok (.aload_n 0, 1) := by decide +kernel
theorem dX7_goPass_93 : decode cX7_goPass 93 = .ok (.aload_n 1, 1) := by decide +kernel
theorem dX7_goPass_94 : decode cX7_goPass 94 = .ok (.iload 10, 2) := by decide +kernel
theorem dX7_goPass_96 : decode cX7_goPass 96 = .ok (.invokevirtual 83, 3) := by decide +kernel
theorem dX7_goPass_99 : decode cX7_goPass 99 = .ok (.ifCond .eq 6, 3) := by decide +kernel
theorem dX7_goPass_102 : decode cX7_goPass 102 = .ok (.goto 164, 3) := by decide +kernel
theorem dX7_goPass_105 : decode cX7_goPass 105 = .ok (.iload 8, 2) := by decide +kernel
theorem dX7_goPass_107 : decode cX7_goPass 107 = .ok (.ifCond .eq 14, 3) := by decide +kernel
theorem dX7_goPass_110 : decode cX7_goPass 110 = .ok (.iload 7, 2) := by decide +kernel
theorem dX7_goPass_112 : decode cX7_goPass 112 = .ok (.ifCond .ne 6, 3) := by decide +kernel
theorem dX7_goPass_115 : decode cX7_goPass 115 = .ok (.goto 157, 3) := by decide +kernel
theorem dX7_goPass_118 : decode cX7_goPass 118 = .ok (.iinc 7 (-1), 3) := by decide +kernel
theorem dX7_goPass_121 : decode cX7_goPass 121 = .ok (.aload_n 0, 1) := by decide +kernel
theorem dX7_goPass_122 : decode cX7_goPass 122 = .ok (.getfield 21, 3) := by decide +kernel
theorem dX7_goPass_125 : decode cX7_goPass 125 = .ok (.aload_n 1, 1) := by decide +kernel
theorem dX7_goPass_126 : decode cX7_goPass 126 = .ok (.iload 10, 2) := by decide +kernel
theorem dX7_goPass_128 : decode cX7_goPass 128 = .ok (.invokevirtual 87, 3) := by decide +kernel
theorem dX7_goPass_131 : decode cX7_goPass 131 = .ok (.aload_n 2, 1) := by decide +kernel
theorem dX7_goPass_132 : decode cX7_goPass 132 = .ok (.getfield 91, 3) := by decide +kernel
theorem dX7_goPass_135 : decode cX7_goPass 135 = .ok (.iload 10, 2) := by decide +kernel
theorem dX7_goPass_137 : decode cX7_goPass 137 = .ok (.iaload, 1) := by decide +kernel
theorem dX7_goPass_138 : decode cX7_goPass 138 = .ok (.iload_n 3, 1) := by decide +kernel
theorem dX7_goPass_139 : decode cX7_goPass 139 = .ok (.if_icmp .gt 53, 3) := by decide +kernel
theorem dX7_goPass_142 : decode cX7_goPass 142 = .ok (.aload_n 0, 1) := by decide +kernel
theorem dX7_goPass_143 : decode cX7_goPass 143 = .ok (.getfield 12, 3) := by decide +kernel
theorem dX7_goPass_146 : decode cX7_goPass 146 = .ok (.aload_n 0, 1) := by decide +kernel
theorem dX7_goPass_147 : decode cX7_goPass 147 = .ok (.getfield 21, 3) := by decide +kernel
theorem dX7_goPass_150 : decode cX7_goPass 150 = .ok (.aload_n 2, 1) := by decide +kernel
theorem dX7_goPass_151 : decode cX7_goPass 151 = .ok (.getfield 96, 3) := by decide +kernel
theorem dX7_goPass_154 : decode cX7_goPass 154 = .ok (.iload 10, 2) := by decide +kernel
theorem dX7_goPass_156 : decode cX7_goPass 156 = .ok (.iaload, 1) := by decide +kernel
theorem dX7_goPass_157 : decode cX7_goPass 157 = .ok (.aload_n 1, 1) := by decide +kernel
theorem dX7_goPass_158 : decode cX7_goPass 158 = .ok (.getfield 99, 3) := by decide +kernel
theorem dX7_goPass_161 : decode cX7_goPass 161 = .ok (.invokevirtual 102, 3) := by decide +kernel
theorem dX7_goPass_164 : decode cX7_goPass 164 = .ok (.ifCond .eq 28, 3) := by decide +kernel
theorem dX7_goPass_167 : decode cX7_goPass 167 = .ok (.aload_n 0, 1) := by decide +kernel
theorem dX7_goPass_168 : decode cX7_goPass 168 = .ok (.aload_n 1, 1) := by decide +kernel
theorem dX7_goPass_169 : decode cX7_goPass 169 = .ok (.iload 10, 2) := by decide +kernel
theorem dX7_goPass_171 : decode cX7_goPass 171 = .ok (.iload 8, 2) := by decide +kernel
theorem dX7_goPass_173 : decode cX7_goPass 173 = .ok (.invokevirtual 106, 3) := by decide +kernel
theorem dX7_goPass_176 : decode cX7_goPass 176 = .ok (.iinc 5 1, 3) := by decide +kernel
theorem dX7_goPass_179 : decode cX7_goPass 179 = .ok (.iload_n 3, 1) := by decide +kernel
theorem dX7_goPass_180 : decode cX7_goPass 180 = .ok (.aload_n 2, 1) := by decide +kernel
theorem dX7_goPass_181 : decode cX7_goPass 181 = .ok (.getfield 91, 3) := by decide +kernel
theorem dX7_goPass_184 : decode cX7_goPass 184 = .ok (.iload 10, 2) := by decide +kernel
theorem dX7_goPass_186 : decode cX7_goPass 186 = .ok (.iaload, 1) := by decide +kernel
theorem dX7_goPass_187 : decode cX7_goPass 187 = .ok (.isub, 1) := by decide +kernel
theorem dX7_goPass_188 : decode cX7_goPass 188 = .ok (.istore_n 3, 1) := by decide +kernel
theorem dX7_goPass_189 : decode cX7_goPass 189 = .ok (.goto 77, 3) := by decide +kernel
theorem dX7_goPass_192 : decode cX7_goPass 192 = .ok (.iconst 1, 1) := by decide +kernel
theorem dX7_goPass_193 : decode cX7_goPass 193 = .ok (.istore 8, 2) := by decide +kernel
theorem dX7_goPass_195 : decode cX7_goPass 195 = .ok (.iload 6, 2) := by decide +kernel
theorem dX7_goPass_197 : decode cX7_goPass 197 = .ok (.aload_n 1, 1) := by decide +kernel
theorem dX7_goPass_198 : decode cX7_goPass 198 = .ok (.getfield 77, 3) := by decide +kernel
theorem dX7_goPass_201 : decode cX7_goPass 201 = .ok (.iconst 0, 1) := by decide +kernel
theorem dX7_goPass_202 : decode cX7_goPass 202 = .ok (.iaload, 1) := by decide +kernel
theorem dX7_goPass_203 : decode cX7_goPass 203 = .ok (.if_icmp .ge 9, 3) := by decide +kernel
theorem dX7_goPass_206 : decode cX7_goPass 206 = .ok (.sipush 20000, 3) := by decide +kernel
theorem dX7_goPass_209 : decode cX7_goPass 209 = .ok (.goto 4, 3) := by decide +kernel
theorem dX7_goPass_212 : decode cX7_goPass 212 = .ok (.iconst 0, 1) := by decide +kernel
theorem dX7_goPass_213 : decode cX7_goPass 213 = .ok (.istore 11, 2) := by decide +kernel
theorem dX7_goPass_215 : decode cX7_goPass 215 = .ok (.aload_n 0, 1) := by decide +kernel
theorem dX7_goPass_216 : decode cX7_goPass 216 = .ok (.getfield 12, 3) := by decide +kernel
theorem dX7_goPass_219 : decode cX7_goPass 219 = .ok (.aload_n 0, 1) := by decide +kernel
theorem dX7_goPass_220 : decode cX7_goPass 220 = .ok (.getfield 21, 3) := by decide +kernel
theorem dX7_goPass_223 : decode cX7_goPass 223 = .ok (.aload_n 2, 1) := by decide +kernel
theorem dX7_goPass_224 : decode cX7_goPass 224 = .ok (.getfield 96, 3) := by decide +kernel
theorem dX7_goPass_227 : decode cX7_goPass 227 = .ok (.iload 10, 2) := by decide +kernel
theorem dX7_goPass_229 : decode cX7_goPass 229 = .ok (.iaload, 1) := by decide +kernel
theorem dX7_goPass_230 : decode cX7_goPass 230 = .ok (.aload_n 1, 1) := by decide +kernel
theorem dX7_goPass_231 : decode cX7_goPass 231 = .ok (.getfield 99, 3) := by decide +kernel
theorem dX7_goPass_234 : decode cX7_goPass 234 = .ok (.iconst 1, 1) := by decide +kernel
theorem dX7_goPass_235 : decode cX7_goPass 235 = .ok (.iadd, 1) := by decide +kernel
theorem dX7_goPass_236 : decode cX7_goPass 236 = .ok (.aload_n 1, 1) := by decide +kernel
theorem dX7_goPass_237 : decode cX7_goPass 237 = .ok (.getfield 99, 3) := by decide +kernel
theorem dX7_goPass_240 : decode cX7_goPass 240 = .ok (.iload 11, 2) := by decide +kernel
theorem dX7_goPass_242 : decode cX7_goPass 242 = .ok (.iadd, 1) := by decide +kernel
theorem dX7_goPass_243 : decode cX7_goPass 243 = .ok (.invokevirtual 110, 3) := by decide +kernel
theorem dX7_goPass_246 : decode cX7_goPass 246 = .ok (.istore 12, 2) := by decide +kernel
theorem dX7_goPass_248 : decode cX7_goPass 248 = .ok (.iload 12, 2) := by decide +kernel
theorem dX7_goPass_250 : decode cX7_goPass 250 = .ok (.iconst (-1), 1) := by decide +kernel
theorem dX7_goPass_251 : decode cX7_goPass 251 = .ok (.if_icmp .eq 15, 3) := by decide +kernel
theorem dX7_goPass_254 : decode cX7_goPass 254 = .ok (.aload_n 0, 1) := by decide +kernel
theorem dX7_goPass_255 : decode cX7_goPass 255 = .ok (.aload_n 1, 1) := by decide +kernel
theorem dX7_goPass_256 : decode cX7_goPass 256 = .ok (.iload 10, 2) := by decide +kernel
theorem dX7_goPass_258 : decode cX7_goPass 258 = .ok (.iload 12, 2) := by decide +kernel
theorem dX7_goPass_260 : decode cX7_goPass 260 = .ok (.invokevirtual 114, 3) := by decide +kernel
theorem dX7_goPass_263 : decode cX7_goPass 263 = .ok (.iinc 6 1, 3) := by decide +kernel
theorem dX7_goPass_266 : decode cX7_goPass 266 = .ok (.iinc 9 1, 3) := by decide +kernel
theorem dX7_goPass_269 : decode cX7_goPass 269 = .ok (.goto (-196), 3) := by decide +kernel
theorem dX7_goPass_272 : decode cX7_goPass 272 = .ok (.iload 5, 2) := by decide +kernel
theorem dX7_goPass_274 : decode cX7_goPass 274 = .ok (.ireturn, 1) := by decide +kernel
theorem dX7_beginPass_0 : decode cX7_beginPass 0 = .ok (.aload_n 1, 1) := by decide +kernel
theorem dX7_beginPass_1 : decode cX7_beginPass 1 = .ok (.getfield 118, 3) := by decide +kernel
theorem dX7_beginPass_4 : decode cX7_beginPass 4 = .ok (.getfield 122, 3) := by decide +kernel
theorem dX7_beginPass_7 : decode cX7_beginPass 7 = .ok (.bipush 7, 2) := by decide +kernel
theorem dX7_beginPass_9 : decode cX7_beginPass 9 = .ok (.dup2, 1) := by decide +kernel
theorem dX7_beginPass_10 : decode cX7_beginPass 10 = .ok (.laload, 1) := by decide +kernel
theorem dX7_beginPass_11 : decode cX7_beginPass 11 = .ok (.lconst 1, 1) := by decide +kernel
theorem dX7_beginPass_12 : decode cX7_beginPass 12 = .ok (.ladd, 1) := by decide +kernel
theorem dX7_beginPass_13 : decode cX7_beginPass 13 = .ok (.lastore, 1) := by decide +kernel
theorem dX7_beginPass_14 : decode cX7_beginPass 14 = .ok (.iconst 0, 1) := by decide +kernel
theorem dX7_beginPass_15 : decode cX7_beginPass 15 = .ok (.istore_n 2, 1) := by decide +kernel
theorem dX7_beginPass_16 : decode cX7_beginPass 16 = .ok (.iload_n 2, 1) := by decide +kernel
theorem dX7_beginPass_17 : decode cX7_beginPass 17 = .ok (.aload_n 1, 1) := by decide +kernel
theorem dX7_beginPass_18 : decode cX7_beginPass 18 = .ok (.getfield 49, 3) := by decide +kernel
theorem dX7_beginPass_21 : decode cX7_beginPass 21 = .ok (.getfield 128, 3) := by decide +kernel
theorem dX7_beginPass_24 : decode cX7_beginPass 24 = .ok (.if_icmp .ge 34, 3) := by decide +kernel
theorem dX7_beginPass_27 : decode cX7_beginPass 27 = .ok (.aload_n 0, 1) := by decide +kernel
theorem dX7_beginPass_28 : decode cX7_beginPass 28 = .ok (.getfield 36, 3) := by decide +kernel
theorem dX7_beginPass_31 : decode cX7_beginPass 31 = .ok (.iload_n 2, 1) := by decide +kernel
theorem dX7_beginPass_32 : decode cX7_beginPass 32 = .ok (.aload_n 1, 1) := by decide +kernel
theorem dX7_beginPass_33 : decode cX7_beginPass 33 = .ok (.getfield 49, 3) := by decide +kernel
theorem dX7_beginPass_36 : decode cX7_beginPass 36 = .ok (.getfield 129, 3) := by decide +kernel
theorem dX7_beginPass_39 : decode cX7_beginPass 39 = .ok (.iload_n 2, 1) := by decide +kernel
theorem dX7_beginPass_40 : decode cX7_beginPass 40 = .ok (.iaload, 1) := by decide +kernel
theorem dX7_beginPass_41 : decode cX7_beginPass 41 = .ok (.iastore, 1) := by decide +kernel
theorem dX7_beginPass_42 : decode cX7_beginPass 42 = .ok (.aload_n 1, 1) := by decide +kernel
theorem dX7_beginPass_43 : decode cX7_beginPass 43 = .ok (.getfield 49, 3) := by decide +kernel
theorem dX7_beginPass_46 : decode cX7_beginPass 46 = .ok (.getfield 129, 3) := by decide +kernel
theorem dX7_beginPass_49 : decode cX7_beginPass 49 = .ok (.iload_n 2, 1) := by decide +kernel
theorem dX7_beginPass_50 : decode cX7_beginPass 50 = .ok (.iconst (-1), 1) := by decide +kernel
theorem dX7_beginPass_51 : decode cX7_beginPass 51 = .ok (.iastore, 1) := by decide +kernel
theorem dX7_beginPass_52 : decode cX7_beginPass 52 = .ok (.iinc 2 1, 3) := by decide +kernel
theorem dX7_beginPass_55 : decode cX7_beginPass 55 = .ok (.goto (-39), 3) := by decide +kernel
theorem dX7_beginPass_58 : decode cX7_beginPass 58 = .ok (.aload_n 0, 1) := by decide +kernel
theorem dX7_beginPass_59 : decode cX7_beginPass 59 = .ok (.getfield 12, 3) := by decide +kernel
theorem dX7_beginPass_62 : decode cX7_beginPass 62 = .ok (.aload_n 1, 1) := by decide +kernel
theorem dX7_beginPass_63 : decode cX7_beginPass 63 = .ok (.iconst (-1), 1) := by decide +kernel
theorem dX7_beginPass_64 : decode cX7_beginPass 64 = .ok (.iconst (-1), 1) := by decide +kernel
theorem dX7_beginPass_65 : decode cX7_beginPass 65 = .ok (.invokevirtual 131, 3) := by decide +kernel
theorem dX7_beginPass_68 : decode cX7_beginPass 68 = .ok (.aload_n 0, 1) := by decide +kernel
theorem dX7_beginPass_69 : decode cX7_beginPass 69 = .ok (.getfield 32, 3) := by decide +kernel
theorem dX7_beginPass_72 : decode cX7_beginPass 72 = .ok (.iconst 0, 1) := by decide +kernel
theorem dX7_beginPass_73 : decode cX7_beginPass 73 = .ok (.invokestatic 134, 3) := by decide +kernel
theorem dX7_beginPass_76 : decode cX7_beginPass 76 = .ok (.iconst 0, 1) := by decide +kernel
theorem dX7_beginPass_77 : decode cX7_beginPass 77 = .ok (.istore_n 2, 1) := by decide +kernel
theorem dX7_beginPass_78 : decode cX7_beginPass 78 = .ok (.iload_n 2, 1) := by decide +kernel
theorem dX7_beginPass_79 : decode cX7_beginPass 79 = .ok (.bipush 16, 2) := by decide +kernel
theorem dX7_beginPass_81 : decode cX7_beginPass 81 = .ok (.if_icmp .ge 38, 3) := by decide +kernel
theorem dX7_beginPass_84 : decode cX7_beginPass 84 = .ok (.aload_n 1, 1) := by decide +kernel
theorem dX7_beginPass_85 : decode cX7_beginPass 85 = .ok (.getfield 55, 3) := by decide +kernel
theorem dX7_beginPass_88 : decode cX7_beginPass 88 = .ok (.getfield 140, 3) := by decide +kernel
theorem dX7_beginPass_91 : decode cX7_beginPass 91 = .ok (.iload_n 2, 1) := by decide +kernel
theorem dX7_beginPass_92 : decode cX7_beginPass 92 = .ok (.iaload, 1) := by decide +kernel
theorem dX7_beginPass_93 : decode cX7_beginPass 93 = .ok (.istore_n 3, 1) := by decide +kernel
theorem dX7_beginPass_94 : decode cX7_beginPass 94 = .ok (.iload_n 3, 1) := by decide +kernel
theorem dX7_beginPass_95 : decode cX7_beginPass 95 = .ok (.iconst (-1), 1) := by decide +kernel
theorem dX7_beginPass_96 : decode cX7_beginPass 96 = .ok (.if_icmp .eq 17, 3) := by decide +kernel
theorem dX7_beginPass_99 : decode cX7_beginPass 99 = .ok (.aload_n 0, 1) := by decide +kernel
theorem dX7_beginPass_100 : decode cX7_beginPass 100 = .ok (.getfield 32, 3) := by decide +kernel
theorem dX7_beginPass_103 : decode cX7_beginPass 103 = .ok (.aload_n 1, 1) := by decide +kernel
theorem dX7_beginPass_104 : decode cX7_beginPass 104 = .ok (.iload_n 3, 1) := by decide +kernel
theorem dX7_beginPass_105 : decode cX7_beginPass 105 = .ok (.invokevirtual 143, 3) := by decide +kernel
theorem dX7_beginPass_108 : decode cX7_beginPass 108 = .ok (.dup2, 1) := by decide +kernel
theorem dX7_beginPass_109 : decode cX7_beginPass 109 = .ok (.iaload, 1) := by decide +kernel
theorem dX7_beginPass_110 : decode cX7_beginPass 110 = .ok (.iconst 1, 1) := by decide +kernel
theorem dX7_beginPass_111 : decode cX7_beginPass 111 = .ok (.iadd, 1) := by decide +kernel
theorem dX7_beginPass_112 : decode cX7_beginPass 112 = .ok (.iastore, 1) := by decide +kernel
theorem dX7_beginPass_113 : decode cX7_beginPass 113 = .ok (.iinc 2 1, 3) := by decide +kernel
theorem dX7_beginPass_116 : decode cX7_beginPass 116 = .ok (.goto (-38), 3) := by decide +kernel
theorem dX7_beginPass_119 : decode cX7_beginPass 119 = .ok (.return_, 1) := by decide +kernel
theorem dX7_isOverLimit_0 : decode cX7_isOverLimit 0 = .ok (.aload_n 1, 1) := by decide +kernel
theorem dX7_isOverLimit_1 : decode cX7_isOverLimit 1 = .ok (.getfield 49, 3) := by decide +kernel
theorem dX7_isOverLimit_4 : decode cX7_isOverLimit 4 = .ok (.getfield 96, 3) := by decide +kernel
theorem dX7_isOverLimit_7 : decode cX7_isOverLimit 7 = .ok (.iload_n 2, 1) := by decide +kernel
theorem dX7_isOverLimit_8 : decode cX7_isOverLimit 8 = .ok (.iaload, 1) := by decide +kernel
theorem dX7_isOverLimit_9 : decode cX7_isOverLimit 9 = .ok (.istore_n 3, 1) := by decide +kernel
theorem dX7_isOverLimit_10 : decode cX7_isOverLimit 10 = .ok (.aload_n 1, 1) := by decide +kernel
theorem dX7_isOverLimit_11 : decode cX7_isOverLimit 11 = .ok (.getfield 49, 3) := by decide +kernel
theorem dX7_isOverLimit_14 : decode cX7_isOverLimit 14 = .ok (.getfield 91, 3) := by decide +kernel
theorem dX7_isOverLimit_17 : decode cX7_isOverLimit 17 = .ok (.iload_n 2, 1) := by decide +kernel
theorem dX7_isOverLimit_18 : decode cX7_isOverLimit 18 = .ok (.iaload, 1) := by decide +kernel
theorem dX7_isOverLimit_19 : decode cX7_isOverLimit 19 = .ok (.aload_n 0, 1) := by decide +kernel
theorem dX7_isOverLimit_20 : decode cX7_isOverLimit 20 = .ok (.getfield 32, 3) := by decide +kernel
theorem dX7_isOverLimit_23 : decode cX7_isOverLimit 23 = .ok (.iload_n 3, 1) := by decide +kernel
theorem dX7_isOverLimit_24 : decode cX7_isOverLimit 24 = .ok (.iaload, 1) := by decide +kernel
theorem dX7_isOverLimit_25 : decode cX7_isOverLimit 25 = .ok (.iadd, 1) := by decide +kernel
theorem dX7_isOverLimit_26 : decode cX7_isOverLimit 26 = .ok (.aload_n 1, 1) := by decide +kernel
theorem dX7_isOverLimit_27 : decode cX7_isOverLimit 27 = .ok (.getfield 147, 3) := by decide +kernel
theorem dX7_isOverLimit_30 : decode cX7_isOverLimit 30 = .ok (.iload_n 3, 1) := by decide +kernel
theorem dX7_isOverLimit_31 : decode cX7_isOverLimit 31 = .ok (.iaload, 1) := by decide +kernel
theorem dX7_isOverLimit_32 : decode cX7_isOverLimit 32 = .ok (.if_icmp .le 7, 3) := by decide +kernel
theorem dX7_isOverLimit_35 : decode cX7_isOverLimit 35 = .ok (.iconst 1, 1) := by decide +kernel
theorem dX7_isOverLimit_36 : decode cX7_isOverLimit 36 = .ok (.goto 4, 3) := by decide +kernel
theorem dX7_isOverLimit_39 : decode cX7_isOverLimit 39 = .ok (.iconst 0, 1) := by decide +kernel
theorem dX7_isOverLimit_40 : decode cX7_isOverLimit 40 = .ok (.ireturn, 1) := by decide +kernel
theorem dX7_lastHopeful_0 : decode cX7_lastHopeful 0 = .ok (.aload_n 0, 1) := by decide +kernel
theorem dX7_lastHopeful_1 : decode cX7_lastHopeful 1 = .ok (.getfield 28, 3) := by decide +kernel
theorem dX7_lastHopeful_4 : decode cX7_lastHopeful 4 = .ok (.getfield 73, 3) := by decide +kernel
theorem dX7_lastHopeful_7 : decode cX7_lastHopeful 7 = .ok (.iconst 1, 1) := by decide +kernel
theorem dX7_lastHopeful_8 : decode cX7_lastHopeful 8 = .ok (.isub, 1) := by decide +kernel
theorem dX7_lastHopeful_9 : decode cX7_lastHopeful 9 = .ok (.istore_n 3, 1) := by decide +kernel
theorem dX7_lastHopeful_10 : decode cX7_lastHopeful 10 = .ok (.iload_n 3, 1) := by decide +kernel
theorem dX7_lastHopeful_11 : decode cX7_lastHopeful 11 = .ok (.ifCond .lt 46, 3) := by decide +kernel
theorem dX7_lastHopeful_14 : decode cX7_lastHopeful 14 = .ok (.aload_n 0, 1) := by decide +kernel
theorem dX7_lastHopeful_15 : decode cX7_lastHopeful 15 = .ok (.getfield 28, 3) := by decide +kernel
theorem dX7_lastHopeful_18 : decode cX7_lastHopeful 18 = .ok (.getfield 80, 3) := by decide +kernel
theorem dX7_lastHopeful_21 : decode cX7_lastHopeful 21 = .ok (.iload_n 3, 1) := by decide +kernel
theorem dX7_lastHopeful_22 : decode cX7_lastHopeful 22 = .ok (.iaload, 1) := by decide +kernel
theorem dX7_lastHopeful_23 : decode cX7_lastHopeful 23 = .ok (.istore 4, 2) := by decide +kernel
theorem dX7_lastHopeful_25 : decode cX7_lastHopeful 25 = .ok (.aload_n 1, 1) := by decide +kernel
theorem dX7_lastHopeful_26 : decode cX7_lastHopeful 26 = .ok (.getfield 49, 3) := by decide +kernel
theorem dX7_lastHopeful_29 : decode cX7_lastHopeful 29 = .ok (.getfield 91, 3) := by decide +kernel
theorem dX7_lastHopeful_32 : decode cX7_lastHopeful 32 = .ok (.iload 4, 2) := by decide +kernel
theorem dX7_lastHopeful_34 : decode cX7_lastHopeful 34 = .ok (.iaload, 1) := by decide +kernel
theorem dX7_lastHopeful_35 : decode cX7_lastHopeful 35 = .ok (.iload_n 2, 1) := by decide +kernel
theorem dX7_lastHopeful_36 : decode cX7_lastHopeful 36 = .ok (.if_icmp .gt 15, 3) := by decide +kernel
theorem dX7_lastHopeful_39 : decode cX7_lastHopeful 39 = .ok (.aload_n 0, 1) := by decide +kernel
theorem dX7_lastHopeful_40 : decode cX7_lastHopeful 40 = .ok (.aload_n 1, 1) := by decide +kernel
theorem dX7_lastHopeful_41 : decode cX7_lastHopeful 41 = .ok (.iload 4, 2) := by decide +kernel
theorem dX7_lastHopeful_43 : decode cX7_lastHopeful 43 = .ok (.invokevirtual 83, 3) := by decide +kernel
theorem dX7_lastHopeful_46 : decode cX7_lastHopeful 46 = .ok (.ifCond .ne 5, 3) := by decide +kernel
theorem dX7_lastHopeful_49 : decode cX7_lastHopeful 49 = .ok (.iload_n 3, 1) := by decide +kernel
theorem dX7_lastHopeful_50 : decode cX7_lastHopeful 50 = .ok (.ireturn, 1) := by decide +kernel
theorem dX7_lastHopeful_51 : decode cX7_lastHopeful 51 = .ok (.iinc 3 (-1), 3) := by decide +kernel
theorem dX7_lastHopeful_54 : decode cX7_lastHopeful 54 = .ok (.goto (-44), 3) := by decide +kernel
theorem dX7_lastHopeful_57 : decode cX7_lastHopeful 57 = .ok (.iconst (-1), 1) := by decide +kernel
theorem dX7_lastHopeful_58 : decode cX7_lastHopeful 58 = .ok (.ireturn, 1) := by decide +kernel
theorem dX7_begin_0 : decode cX7_begin 0 = .ok (.aload_n 1, 1) := by decide +kernel
theorem dX7_begin_1 : decode cX7_begin 1 = .ok (.getfield 49, 3) := by decide +kernel
theorem dX7_begin_4 : decode cX7_begin 4 = .ok (.astore 4, 2) := by decide +kernel
theorem dX7_begin_6 : decode cX7_begin 6 = .ok (.aload 4, 2) := by decide +kernel
theorem dX7_begin_8 : decode cX7_begin 8 = .ok (.getfield 150, 3) := by decide +kernel
theorem dX7_begin_11 : decode cX7_begin 11 = .ok (.iload_n 2, 1) := by decide +kernel
theorem dX7_begin_12 : decode cX7_begin 12 = .ok (.iconst 1, 1) := by decide +kernel
theorem dX7_begin_13 : decode cX7_begin 13 = .ok (.iastore, 1) := by decide +kernel
theorem dX7_begin_14 : decode cX7_begin 14 = .ok (.aload 4, 2) := by decide +kernel
theorem dX7_begin_16 : decode cX7_begin 16 = .ok (.getfield 153, 3) := by decide +kernel
theorem dX7_begin_19 : decode cX7_begin 19 = .ok (.iload_n 2, 1) := by decide +kernel
theorem dX7_begin_20 : decode cX7_begin 20 = .ok (.aload_n 1, 1) := by decide +kernel
theorem dX7_begin_21 : decode cX7_begin 21 = .ok (.getfield 99, 3) := by decide +kernel
theorem dX7_begin_24 : decode cX7_begin 24 = .ok (.iastore, 1) := by decide +kernel
theorem dX7_begin_25 : decode cX7_begin 25 = .ok (.aload_n 0, 1) := by decide +kernel
theorem dX7_begin_26 : decode cX7_begin 26 = .ok (.getfield 32, 3) := by decide +kernel
theorem dX7_begin_29 : decode cX7_begin 29 = .ok (.aload 4, 2) := by decide +kernel
theorem dX7_begin_31 : decode cX7_begin 31 = .ok (.getfield 96, 3) := by decide +kernel
theorem dX7_begin_34 : decode cX7_begin 34 = .ok (.iload_n 2, 1) := by decide +kernel
theorem dX7_begin_35 : decode cX7_begin 35 = .ok (.iaload, 1) := by decide +kernel
theorem dX7_begin_36 : decode cX7_begin 36 = .ok (.dup2, 1) := by decide +kernel
theorem dX7_begin_37 : decode cX7_begin 37 = .ok (.iaload, 1) := by decide +kernel
theorem dX7_begin_38 : decode cX7_begin 38 = .ok (.aload 4, 2) := by decide +kernel
theorem dX7_begin_40 : decode cX7_begin 40 = .ok (.getfield 91, 3) := by decide +kernel
theorem dX7_begin_43 : decode cX7_begin 43 = .ok (.iload_n 2, 1) := by decide +kernel
theorem dX7_begin_44 : decode cX7_begin 44 = .ok (.iaload, 1) := by decide +kernel
theorem dX7_begin_45 : decode cX7_begin 45 = .ok (.iadd, 1) := by decide +kernel
theorem dX7_begin_46 : decode cX7_begin 46 = .ok (.iastore, 1) := by decide +kernel
theorem dX7_begin_47 : decode cX7_begin 47 = .ok (.iconst 0, 1) := by decide +kernel
theorem dX7_begin_48 : decode cX7_begin 48 = .ok (.istore 5, 2) := by decide +kernel
theorem dX7_begin_50 : decode cX7_begin 50 = .ok (.iload 5, 2) := by decide +kernel
theorem dX7_begin_52 : decode cX7_begin 52 = .ok (.aload_n 0, 1) := by decide +kernel
theorem dX7_begin_53 : decode cX7_begin 53 = .ok (.getfield 21, 3) := by decide +kernel
theorem dX7_begin_56 : decode cX7_begin 56 = .ok (.getfield 156, 3) := by decide +kernel
theorem dX7_begin_59 : decode cX7_begin 59 = .ok (.if_icmp .ge 123, 3) := by decide +kernel
theorem dX7_begin_62 : decode cX7_begin 62 = .ok (.iload_n 2, 1) := by decide +kernel
theorem dX7_begin_63 : decode cX7_begin 63 = .ok (.iconst 4, 1) := by decide +kernel
theorem dX7_begin_64 : decode cX7_begin 64 = .ok (.imul, 1) := by decide +kernel
theorem dX7_begin_65 : decode cX7_begin 65 = .ok (.iload 5, 2) := by decide +kernel
theorem dX7_begin_67 : decode cX7_begin 67 = .ok (.iadd, 1) := by decide +kernel
theorem dX7_begin_68 : decode cX7_begin 68 = .ok (.istore 6, 2) := by decide +kernel
theorem dX7_begin_70 : decode cX7_begin 70 = .ok (.aload_n 1, 1) := by decide +kernel
theorem dX7_begin_71 : decode cX7_begin 71 = .ok (.getfield 55, 3) := by decide +kernel
theorem dX7_begin_74 : decode cX7_begin 74 = .ok (.getfield 157, 3) := by decide +kernel
theorem dX7_begin_77 : decode cX7_begin 77 = .ok (.iload 6, 2) := by decide +kernel
theorem dX7_begin_79 : decode cX7_begin 79 = .ok (.aload_n 0, 1) := by decide +kernel
theorem dX7_begin_80 : decode cX7_begin 80 = .ok (.getfield 21, 3) := by decide +kernel
theorem dX7_begin_83 : decode cX7_begin 83 = .ok (.getfield 160, 3) := by decide +kernel
theorem dX7_begin_86 : decode cX7_begin 86 = .ok (.iload 5, 2) := by decide +kernel
theorem dX7_begin_88 : decode cX7_begin 88 = .ok (.iaload, 1) := by decide +kernel
theorem dX7_begin_89 : decode cX7_begin 89 = .ok (.iastore, 1) := by decide +kernel
theorem dX7_begin_90 : decode cX7_begin 90 = .ok (.aload_n 1, 1) := by decide +kernel
theorem dX7_begin_91 : decode cX7_begin 91 = .ok (.getfield 55, 3) := by decide +kernel
theorem dX7_begin_94 : decode cX7_begin 94 = .ok (.getfield 161, 3) := by decide +kernel
theorem dX7_begin_97 : decode cX7_begin 97 = .ok (.iload 6, 2) := by decide +kernel
theorem dX7_begin_99 : decode cX7_begin 99 = .ok (.aload_n 1, 1) := by decide +kernel
theorem dX7_begin_100 : decode cX7_begin 100 = .ok (.getfield 99, 3) := by decide +kernel
theorem dX7_begin_103 : decode cX7_begin 103 = .ok (.aload_n 0, 1) := by decide +kernel
theorem dX7_begin_104 : decode cX7_begin 104 = .ok (.getfield 21, 3) := by decide +kernel
theorem dX7_begin_107 : decode cX7_begin 107 = .ok (.getfield 164, 3) := by decide +kernel
theorem dX7_begin_110 : decode cX7_begin 110 = .ok (.iload 5, 2) := by decide +kernel
theorem dX7_begin_112 : decode cX7_begin 112 = .ok (.iaload, 1) := by decide +kernel
theorem dX7_begin_113 : decode cX7_begin 113 = .ok (.aload_n 1, 1) := by decide +kernel
theorem dX7_begin_114 : decode cX7_begin 114 = .ok (.iload 6, 2) := by decide +kernel
theorem dX7_begin_116 : decode cX7_begin 116 = .ok (.invokevirtual 167, 3) := by decide +kernel
theorem dX7_begin_119 : decode cX7_begin 119 = .ok (.invokestatic 170, 3) := by decide +kernel
theorem dX7_begin_122 : decode cX7_begin 122 = .ok (.iadd, 1) := by decide +kernel
theorem dX7_begin_123 : decode cX7_begin 123 = .ok (.iastore, 1) := by decide +kernel
theorem dX7_begin_124 : decode cX7_begin 124 = .ok (.aload_n 1, 1) := by decide +kernel
theorem dX7_begin_125 : decode cX7_begin 125 = .ok (.getfield 55, 3) := by decide +kernel
theorem dX7_begin_128 : decode cX7_begin 128 = .ok (.iload 6, 2) := by decide +kernel
theorem dX7_begin_130 : decode cX7_begin 130 = .ok (.iload 6, 2) := by decide +kernel
theorem dX7_begin_132 : decode cX7_begin 132 = .ok (.invokevirtual 176, 3) := by decide +kernel
theorem dX7_begin_135 : decode cX7_begin 135 = .ok (.aload_n 0, 1) := by decide +kernel
theorem dX7_begin_136 : decode cX7_begin 136 = .ok (.getfield 12, 3) := by decide +kernel
theorem dX7_begin_139 : decode cX7_begin 139 = .ok (.aload_n 0, 1) := by decide +kernel
theorem dX7_begin_140 : decode cX7_begin 140 = .ok (.getfield 21, 3) := by decide +kernel
theorem dX7_begin_143 : decode cX7_begin 143 = .ok (.getfield 160, 3) := by decide +kernel
theorem dX7_begin_146 : decode cX7_begin 146 = .ok (.iload 5, 2) := by decide +kernel
theorem dX7_begin_148 : decode cX7_begin 148 = .ok (.iaload, 1) := by decide +kernel
theorem dX7_begin_149 : decode cX7_begin 149 = .ok (.aload_n 0, 1) := by decide +kernel
theorem dX7_begin_150 : decode cX7_begin 150 = .ok (.getfield 21, 3) := by decide +kernel
theorem dX7_begin_153 : decode cX7_begin 153 = .ok (.getfield 180, 3) := by decide +kernel
theorem dX7_begin_156 : decode cX7_begin 156 = .ok (.iload 5, 2) := by decide +kernel
theorem dX7_begin_158 : decode cX7_begin 158 = .ok (.iaload, 1) := by decide +kernel
theorem dX7_begin_159 : decode cX7_begin 159 = .ok (.invokestatic 183, 3) := by decide +kernel
theorem dX7_begin_162 : decode cX7_begin 162 = .ok (.aload_n 1, 1) := by decide +kernel
theorem dX7_begin_163 : decode cX7_begin 163 = .ok (.getfield 99, 3) := by decide +kernel
theorem dX7_begin_166 : decode cX7_begin 166 = .ok (.aload_n 1, 1) := by decide +kernel
theorem dX7_begin_167 : decode cX7_begin 167 = .ok (.iload 6, 2) := by decide +kernel
theorem dX7_begin_169 : decode cX7_begin 169 = .ok (.invokevirtual 186, 3) := by decide +kernel
theorem dX7_begin_172 : decode cX7_begin 172 = .ok (.iconst (-1), 1) := by decide +kernel
theorem dX7_begin_173 : decode cX7_begin 173 = .ok (.invokevirtual 189, 3) := by decide +kernel
theorem dX7_begin_176 : decode cX7_begin 176 = .ok (.iinc 5 1, 3) := by decide +kernel
theorem dX7_begin_179 : decode cX7_begin 179 = .ok (.goto (-129), 3) := by decide +kernel
theorem dX7_begin_182 : decode cX7_begin 182 = .ok (.aload_n 1, 1) := by decide +kernel
theorem dX7_begin_183 : decode cX7_begin 183 = .ok (.getfield 118, 3) := by decide +kernel
theorem dX7_begin_186 : decode cX7_begin 186 = .ok (.astore 5, 2) := by decide +kernel
theorem dX7_begin_188 : decode cX7_begin 188 = .ok (.aload 5, 2) := by decide +kernel
theorem dX7_begin_190 : decode cX7_begin 190 = .ok (.iload_n 2, 1) := by decide +kernel
theorem dX7_begin_191 : decode cX7_begin 191 = .ok (.invokevirtual 193, 3) := by decide +kernel
theorem dX7_begin_194 : decode cX7_begin 194 = .ok (.aload 5, 2) := by decide +kernel
theorem dX7_begin_196 : decode cX7_begin 196 = .ok (.aload_n 1, 1) := by decide +kernel
theorem dX7_begin_197 : decode cX7_begin 197 = .ok (.getfield 99, 3) := by decide +kernel
theorem dX7_begin_200 : decode cX7_begin 200 = .ok (.iconst 1, 1) := by decide +kernel
theorem dX7_begin_201 : decode cX7_begin 201 = .ok (.iload_n 2, 1) := by decide +kernel
theorem dX7_begin_202 : decode cX7_begin 202 = .ok (.invokevirtual 197, 3) := by decide +kernel
theorem dX7_begin_205 : decode cX7_begin 205 = .ok (.aload 5, 2) := by decide +kernel
theorem dX7_begin_207 : decode cX7_begin 207 = .ok (.getfield 122, 3) := by decide +kernel
theorem dX7_begin_210 : decode cX7_begin 210 = .ok (.iconst 0, 1) := by decide +kernel
theorem dX7_begin_211 : decode cX7_begin 211 = .ok (.dup2, 1) := by decide +kernel
theorem dX7_begin_212 : decode cX7_begin 212 = .ok (.laload, 1) := by decide +kernel
theorem dX7_begin_213 : decode cX7_begin 213 = .ok (.lconst 1, 1) := by decide +kernel
theorem dX7_begin_214 : decode cX7_begin 214 = .ok (.ladd, 1) := by decide +kernel
theorem dX7_begin_215 : decode cX7_begin 215 = .ok (.lastore, 1) := by decide +kernel
theorem dX7_begin_216 : decode cX7_begin 216 = .ok (.aload 5, 2) := by decide +kernel
theorem dX7_begin_218 : decode cX7_begin 218 = .ok (.getfield 122, 3) := by decide +kernel
theorem dX7_begin_221 : decode cX7_begin 221 = .ok (.iconst 4, 1) := by decide +kernel
theorem dX7_begin_222 : decode cX7_begin 222 = .ok (.dup2, 1) := by decide +kernel
theorem dX7_begin_223 : decode cX7_begin 223 = .ok (.laload, 1) := by decide +kernel
theorem dX7_begin_224 : decode cX7_begin 224 = .ok (.iload_n 3, 1) := by decide +kernel
theorem dX7_begin_225 : decode cX7_begin 225 = .ok (.ifCond .eq 7, 3) := by decide +kernel
theorem dX7_begin_228 : decode cX7_begin 228 = .ok (.lconst 1, 1) := by decide +kernel
theorem dX7_begin_229 : decode cX7_begin 229 = .ok (.goto 4, 3) := by decide +kernel
theorem dX7_begin_232 : decode cX7_begin 232 = .ok (.lconst 0, 1) := by decide +kernel
theorem dX7_begin_233 : decode cX7_begin 233 = .ok (.ladd, 1) := by decide +kernel
theorem dX7_begin_234 : decode cX7_begin 234 = .ok (.lastore, 1) := by decide +kernel
theorem dX7_begin_235 : decode cX7_begin 235 = .ok (.aload 5, 2) := by decide +kernel
theorem dX7_begin_237 : decode cX7_begin 237 = .ok (.getfield 122, 3) := by decide +kernel
theorem dX7_begin_240 : decode cX7_begin 240 = .ok (.iconst 5, 1) := by decide +kernel
theorem dX7_begin_241 : decode cX7_begin 241 = .ok (.dup2, 1) := by decide +kernel
theorem dX7_begin_242 : decode cX7_begin 242 = .ok (.laload, 1) := by decide +kernel
theorem dX7_begin_243 : decode cX7_begin 243 = .ok (.aload_n 1, 1) := by decide +kernel
theorem dX7_begin_244 : decode cX7_begin 244 = .ok (.getfield 99, 3) := by decide +kernel
theorem dX7_begin_247 : decode cX7_begin 247 = .ok (.aload 4, 2) := by decide +kernel
theorem dX7_begin_249 : decode cX7_begin 249 = .ok (.getfield 201, 3) := by decide +kernel
theorem dX7_begin_252 : decode cX7_begin 252 = .ok (.iload_n 2, 1) := by decide +kernel
theorem dX7_begin_253 : decode cX7_begin 253 = .ok (.iaload, 1) := by decide +kernel
theorem dX7_begin_254 : decode cX7_begin 254 = .ok (.isub, 1) := by decide +kernel
theorem dX7_begin_255 : decode cX7_begin 255 = .ok (.i2l, 1) := by decide +kernel
theorem dX7_begin_256 : decode cX7_begin 256 = .ok (.ladd, 1) := by decide +kernel
theorem dX7_begin_257 : decode cX7_begin 257 = .ok (.lastore, 1) := by decide +kernel
theorem dX7_begin_258 : decode cX7_begin 258 = .ok (.return_, 1) := by decide +kernel
theorem dX7_promise_0 : decode cX7_promise 0 = .ok (.aload_n 1, 1) := by decide +kernel
theorem dX7_promise_1 : decode cX7_promise 1 = .ok (.getfield 49, 3) := by decide +kernel
theorem dX7_promise_4 : decode cX7_promise 4 = .ok (.astore 4, 2) := by decide +kernel
theorem dX7_promise_6 : decode cX7_promise 6 = .ok (.aload 4, 2) := by decide +kernel
theorem dX7_promise_8 : decode cX7_promise 8 = .ok (.getfield 129, 3) := by decide +kernel
theorem dX7_promise_11 : decode cX7_promise 11 = .ok (.iload_n 2, 1) := by decide +kernel
theorem dX7_promise_12 : decode cX7_promise 12 = .ok (.iload_n 3, 1) := by decide +kernel
theorem dX7_promise_13 : decode cX7_promise 13 = .ok (.iastore, 1) := by decide +kernel
theorem dX7_promise_14 : decode cX7_promise 14 = .ok (.iconst 0, 1) := by decide +kernel
theorem dX7_promise_15 : decode cX7_promise 15 = .ok (.istore 5, 2) := by decide +kernel
theorem dX7_promise_17 : decode cX7_promise 17 = .ok (.iload 5, 2) := by decide +kernel
theorem dX7_promise_19 : decode cX7_promise 19 = .ok (.aload_n 0, 1) := by decide +kernel
theorem dX7_promise_20 : decode cX7_promise 20 = .ok (.getfield 21, 3) := by decide +kernel
theorem dX7_promise_23 : decode cX7_promise 23 = .ok (.getfield 156, 3) := by decide +kernel
theorem dX7_promise_26 : decode cX7_promise 26 = .ok (.if_icmp .ge 33, 3) := by decide +kernel
theorem dX7_promise_29 : decode cX7_promise 29 = .ok (.aload_n 1, 1) := by decide +kernel
theorem dX7_promise_30 : decode cX7_promise 30 = .ok (.getfield 55, 3) := by decide +kernel
theorem dX7_promise_33 : decode cX7_promise 33 = .ok (.getfield 204, 3) := by decide +kernel
theorem dX7_promise_36 : decode cX7_promise 36 = .ok (.iload_n 2, 1) := by decide +kernel
theorem dX7_promise_37 : decode cX7_promise 37 = .ok (.iconst 4, 1) := by decide +kernel
theorem dX7_promise_38 : decode cX7_promise 38 = .ok (.imul, 1) := by decide +kernel
theorem dX7_promise_39 : decode cX7_promise 39 = .ok (.iload 5, 2) := by decide +kernel
theorem dX7_promise_41 : decode cX7_promise 41 = .ok (.iadd, 1) := by decide +kernel
theorem dX7_promise_42 : decode cX7_promise 42 = .ok (.aload_n 0, 1) := by decide +kernel
theorem dX7_promise_43 : decode cX7_promise 43 = .ok (.getfield 21, 3) := by decide +kernel
theorem dX7_promise_46 : decode cX7_promise 46 = .ok (.getfield 160, 3) := by decide +kernel
theorem dX7_promise_49 : decode cX7_promise 49 = .ok (.iload 5, 2) := by decide +kernel
theorem dX7_promise_51 : decode cX7_promise 51 = .ok (.iaload, 1) := by decide +kernel
theorem dX7_promise_52 : decode cX7_promise 52 = .ok (.iastore, 1) := by decide +kernel
theorem dX7_promise_53 : decode cX7_promise 53 = .ok (.iinc 5 1, 3) := by decide +kernel
theorem dX7_promise_56 : decode cX7_promise 56 = .ok (.goto (-39), 3) := by decide +kernel
theorem dX7_promise_59 : decode cX7_promise 59 = .ok (.aload_n 0, 1) := by decide +kernel
theorem dX7_promise_60 : decode cX7_promise 60 = .ok (.getfield 12, 3) := by decide +kernel
theorem dX7_promise_63 : decode cX7_promise 63 = .ok (.aload_n 1, 1) := by decide +kernel
theorem dX7_promise_64 : decode cX7_promise 64 = .ok (.iload_n 2, 1) := by decide +kernel
theorem dX7_promise_65 : decode cX7_promise 65 = .ok (.invokevirtual 207, 3) := by decide +kernel
theorem dX7_promise_68 : decode cX7_promise 68 = .ok (.aload 4, 2) := by decide +kernel
theorem dX7_promise_70 : decode cX7_promise 70 = .ok (.getfield 210, 3) := by decide +kernel
theorem dX7_promise_73 : decode cX7_promise 73 = .ok (.iload_n 2, 1) := by decide +kernel
theorem dX7_promise_74 : decode cX7_promise 74 = .ok (.iaload, 1) := by decide +kernel
theorem dX7_promise_75 : decode cX7_promise 75 = .ok (.iconst (-1), 1) := by decide +kernel
theorem dX7_promise_76 : decode cX7_promise 76 = .ok (.if_icmp .ne 11, 3) := by decide +kernel
theorem dX7_promise_79 : decode cX7_promise 79 = .ok (.aload 4, 2) := by decide +kernel
theorem dX7_promise_81 : decode cX7_promise 81 = .ok (.getfield 210, 3) := by decide +kernel
theorem dX7_promise_84 : decode cX7_promise 84 = .ok (.iload_n 2, 1) := by decide +kernel
theorem dX7_promise_85 : decode cX7_promise 85 = .ok (.iload_n 3, 1) := by decide +kernel
theorem dX7_promise_86 : decode cX7_promise 86 = .ok (.iastore, 1) := by decide +kernel
theorem dX7_promise_87 : decode cX7_promise 87 = .ok (.aload_n 0, 1) := by decide +kernel
theorem dX7_promise_88 : decode cX7_promise 88 = .ok (.getfield 36, 3) := by decide +kernel
theorem dX7_promise_91 : decode cX7_promise 91 = .ok (.iload_n 2, 1) := by decide +kernel
theorem dX7_promise_92 : decode cX7_promise 92 = .ok (.iaload, 1) := by decide +kernel
theorem dX7_promise_93 : decode cX7_promise 93 = .ok (.iload_n 3, 1) := by decide +kernel
theorem dX7_promise_94 : decode cX7_promise 94 = .ok (.if_icmp .eq 16, 3) := by decide +kernel
theorem dX7_promise_97 : decode cX7_promise 97 = .ok (.aload_n 1, 1) := by decide +kernel
theorem dX7_promise_98 : decode cX7_promise 98 = .ok (.getfield 118, 3) := by decide +kernel
theorem dX7_promise_101 : decode cX7_promise 101 = .ok (.aload_n 1, 1) := by decide +kernel
theorem dX7_promise_102 : decode cX7_promise 102 = .ok (.getfield 99, 3) := by decide +kernel
theorem dX7_promise_105 : decode cX7_promise 105 = .ok (.iconst 5, 1) := by decide +kernel
theorem dX7_promise_106 : decode cX7_promise 106 = .ok (.iload_n 2, 1) := by decide +kernel
theorem dX7_promise_107 : decode cX7_promise 107 = .ok (.invokevirtual 197, 3) := by decide +kernel
theorem dX7_promise_110 : decode cX7_promise 110 = .ok (.return_, 1) := by decide +kernel
theorem dX7_goTick_0 : decode cX7_goTick 0 = .ok (.aload_n 0, 1) := by decide +kernel
theorem dX7_goTick_1 : decode cX7_goTick 1 = .ok (.aload_n 1, 1) := by decide +kernel
theorem dX7_goTick_2 : decode cX7_goTick 2 = .ok (.invokevirtual 213, 3) := by decide +kernel
theorem dX7_goTick_5 : decode cX7_goTick 5 = .ok (.pop, 1) := by decide +kernel
theorem dX7_goTick_6 : decode cX7_goTick 6 = .ok (.aload_n 0, 1) := by decide +kernel
theorem dX7_goTick_7 : decode cX7_goTick 7 = .ok (.aload_n 1, 1) := by decide +kernel
theorem dX7_goTick_8 : decode cX7_goTick 8 = .ok (.invokevirtual 217, 3) := by decide +kernel
theorem dX7_goTick_11 : decode cX7_goTick 11 = .ok (.aload_n 1, 1) := by decide +kernel
theorem dX7_goTick_12 : decode cX7_goTick 12 = .ok (.dup, 1) := by decide +kernel
theorem dX7_goTick_13 : decode cX7_goTick 13 = .ok (.getfield 99, 3) := by decide +kernel
theorem dX7_goTick_16 : decode cX7_goTick 16 = .ok (.iconst 1, 1) := by decide +kernel
theorem dX7_goTick_17 : decode cX7_goTick 17 = .ok (.iadd, 1) := by decide +kernel
theorem dX7_goTick_18 : decode cX7_goTick 18 = .ok (.putfield 99, 3) := by decide +kernel
theorem dX7_goTick_21 : decode cX7_goTick 21 = .ok (.aload_n 0, 1) := by decide +kernel
theorem dX7_goTick_22 : decode cX7_goTick 22 = .ok (.aload_n 1, 1) := by decide +kernel
theorem dX7_goTick_23 : decode cX7_goTick 23 = .ok (.invokevirtual 219, 3) := by decide +kernel
theorem dX7_goTick_26 : decode cX7_goTick 26 = .ok (.ifCond .eq 8, 3) := by decide +kernel
theorem dX7_goTick_29 : decode cX7_goTick 29 = .ok (.aload_n 0, 1) := by decide +kernel
theorem dX7_goTick_30 : decode cX7_goTick 30 = .ok (.aload_n 1, 1) := by decide +kernel
theorem dX7_goTick_31 : decode cX7_goTick 31 = .ok (.invokevirtual 223, 3) := by decide +kernel
theorem dX7_goTick_34 : decode cX7_goTick 34 = .ok (.aload_n 1, 1) := by decide +kernel
theorem dX7_goTick_35 : decode cX7_goTick 35 = .ok (.getfield 77, 3) := by decide +kernel
theorem dX7_goTick_38 : decode cX7_goTick 38 = .ok (.iconst 2, 1) := by decide +kernel
theorem dX7_goTick_39 : decode cX7_goTick 39 = .ok (.iaload, 1) := by decide +kernel
theorem dX7_goTick_40 : decode cX7_goTick 40 = .ok (.istore_n 2, 1) := by decide +kernel
theorem dX7_goTick_41 : decode cX7_goTick 41 = .ok (.iload_n 2, 1) := by decide +kernel
theorem dX7_goTick_42 : decode cX7_goTick 42 = .ok (.ifCond .eq 38, 3) := by decide +kernel
theorem dX7_goTick_45 : decode cX7_goTick 45 = .ok (.aload_n 1, 1) := by decide +kernel
theorem dX7_goTick_46 : decode cX7_goTick 46 = .ok (.getfield 99, 3) := by decide +kernel
theorem dX7_goTick_49 : decode cX7_goTick 49 = .ok (.iload_n 2, 1) := by decide +kernel
theorem dX7_goTick_50 : decode cX7_goTick 50 = .ok (.irem, 1) := by decide +kernel
theorem dX7_goTick_51 : decode cX7_goTick 51 = .ok (.ifCond .ne 29, 3) := by decide +kernel
theorem dX7_goTick_54 : decode cX7_goTick 54 = .ok (.iconst 0, 1) := by decide +kernel
theorem dX7_goTick_55 : decode cX7_goTick 55 = .ok (.istore_n 3, 1) := by decide +kernel
theorem dX7_goTick_56 : decode cX7_goTick 56 = .ok (.iload_n 3, 1) := by decide +kernel
theorem dX7_goTick_57 : decode cX7_goTick 57 = .ok (.bipush 8, 2) := by decide +kernel
theorem dX7_goTick_59 : decode cX7_goTick 59 = .ok (.if_icmp .ge 21, 3) := by decide +kernel
theorem dX7_goTick_62 : decode cX7_goTick 62 = .ok (.aload_n 1, 1) := by decide +kernel
theorem dX7_goTick_63 : decode cX7_goTick 63 = .ok (.getfield 226, 3) := by decide +kernel
theorem dX7_goTick_66 : decode cX7_goTick 66 = .ok (.iload_n 3, 1) := by decide +kernel
theorem dX7_goTick_67 : decode cX7_goTick 67 = .ok (.dup2, 1) := by decide +kernel
theorem dX7_goTick_68 : decode cX7_goTick 68 = .ok (.laload, 1) := by decide +kernel
theorem dX7_goTick_69 : decode cX7_goTick 69 = .ok (.ldc2_w 229, 3) := by decide +kernel
theorem dX7_goTick_72 : decode cX7_goTick 72 = .ok (.ldiv, 1) := by decide +kernel
theorem dX7_goTick_73 : decode cX7_goTick 73 = .ok (.lastore, 1) := by decide +kernel
theorem dX7_goTick_74 : decode cX7_goTick 74 = .ok (.iinc 3 1, 3) := by decide +kernel
theorem dX7_goTick_77 : decode cX7_goTick 77 = .ok (.goto (-21), 3) := by decide +kernel
theorem dX7_goTick_80 : decode cX7_goTick 80 = .ok (.aload_n 1, 1) := by decide +kernel
theorem dX7_goTick_81 : decode cX7_goTick 81 = .ok (.getfield 231, 3) := by decide +kernel
theorem dX7_goTick_84 : decode cX7_goTick 84 = .ok (.aload_n 1, 1) := by decide +kernel
theorem dX7_goTick_85 : decode cX7_goTick 85 = .ok (.getfield 99, 3) := by decide +kernel
theorem dX7_goTick_88 : decode cX7_goTick 88 = .ok (.invokevirtual 235, 3) := by decide +kernel
theorem dX7_goTick_91 : decode cX7_goTick 91 = .ok (.return_, 1) := by decide +kernel
theorem dX7_account_0 : decode cX7_account 0 = .ok (.iconst 0, 1) := by decide +kernel
theorem dX7_account_1 : decode cX7_account 1 = .ok (.istore_n 2, 1) := by decide +kernel
theorem dX7_account_2 : decode cX7_account 2 = .ok (.iload_n 2, 1) := by decide +kernel
theorem dX7_account_3 : decode cX7_account 3 = .ok (.bipush 16, 2) := by decide +kernel
theorem dX7_account_5 : decode cX7_account 5 = .ok (.if_icmp .ge 75, 3) := by decide +kernel
theorem dX7_account_8 : decode cX7_account 8 = .ok (.aload_n 1, 1) := by decide +kernel
theorem dX7_account_9 : decode cX7_account 9 = .ok (.getfield 55, 3) := by decide +kernel
theorem dX7_account_12 : decode cX7_account 12 = .ok (.getfield 140, 3) := by decide +kernel
theorem dX7_account_15 : decode cX7_account 15 = .ok (.iload_n 2, 1) := by decide +kernel
theorem dX7_account_16 : decode cX7_account 16 = .ok (.iaload, 1) := by decide +kernel
theorem dX7_account_17 : decode cX7_account 17 = .ok (.istore_n 3, 1) := by decide +kernel
theorem dX7_account_18 : decode cX7_account 18 = .ok (.aload_n 1, 1) := by decide +kernel
theorem dX7_account_19 : decode cX7_account 19 = .ok (.getfield 118, 3) := by decide +kernel
theorem dX7_account_22 : decode cX7_account 22 = .ok (.iload_n 2, 1) := by decide +kernel
theorem dX7_account_23 : decode cX7_account 23 = .ok (.aload_n 1, 1) := by decide +kernel
theorem dX7_account_24 : decode cX7_account 24 = .ok (.getfield 99, 3) := by decide +kernel
theorem dX7_account_27 : decode cX7_account 27 = .ok (.aload_n 1, 1) := by decide +kernel
theorem dX7_account_28 : decode cX7_account 28 = .ok (.getfield 55, 3) := by decide +kernel
theorem dX7_account_31 : decode cX7_account 31 = .ok (.iload_n 2, 1) := by decide +kernel
theorem dX7_account_32 : decode cX7_account 32 = .ok (.invokevirtual 240, 3) := by decide +kernel
theorem dX7_account_35 : decode cX7_account 35 = .ok (.invokevirtual 243, 3) := by decide +kernel
theorem dX7_account_38 : decode cX7_account 38 = .ok (.iload_n 3, 1) := by decide +kernel
theorem dX7_account_39 : decode cX7_account 39 = .ok (.iconst (-1), 1) := by decide +kernel
theorem dX7_account_40 : decode cX7_account 40 = .ok (.if_icmp .ne 20, 3) := by decide +kernel
theorem dX7_account_43 : decode cX7_account 43 = .ok (.aload_n 1, 1) := by decide +kernel
theorem dX7_account_44 : decode cX7_account 44 = .ok (.getfield 118, 3) := by decide +kernel
theorem dX7_account_47 : decode cX7_account 47 = .ok (.getfield 122, 3) := by decide +kernel
theorem dX7_account_50 : decode cX7_account 50 = .ok (.bipush 6, 2) := by decide +kernel
theorem dX7_account_52 : decode cX7_account 52 = .ok (.dup2, 1) := by decide +kernel
theorem dX7_account_53 : decode cX7_account 53 = .ok (.laload, 1) := by decide +kernel
theorem dX7_account_54 : decode cX7_account 54 = .ok (.lconst 1, 1) := by decide +kernel
theorem dX7_account_55 : decode cX7_account 55 = .ok (.ladd, 1) := by decide +kernel
theorem dX7_account_56 : decode cX7_account 56 = .ok (.lastore, 1) := by decide +kernel
theorem dX7_account_57 : decode cX7_account 57 = .ok (.goto 17, 3) := by decide +kernel
theorem dX7_account_60 : decode cX7_account 60 = .ok (.aload_n 1, 1) := by decide +kernel
theorem dX7_account_61 : decode cX7_account 61 = .ok (.getfield 226, 3) := by decide +kernel
theorem dX7_account_64 : decode cX7_account 64 = .ok (.aload_n 1, 1) := by decide +kernel
theorem dX7_account_65 : decode cX7_account 65 = .ok (.iload_n 3, 1) := by decide +kernel
theorem dX7_account_66 : decode cX7_account 66 = .ok (.invokevirtual 143, 3) := by decide +kernel
theorem dX7_account_69 : decode cX7_account 69 = .ok (.dup2, 1) := by decide +kernel
theorem dX7_account_70 : decode cX7_account 70 = .ok (.laload, 1) := by decide +kernel
theorem dX7_account_71 : decode cX7_account 71 = .ok (.lconst 1, 1) := by decide +kernel
theorem dX7_account_72 : decode cX7_account 72 = .ok (.ladd, 1) := by decide +kernel
theorem dX7_account_73 : decode cX7_account 73 = .ok (.lastore, 1) := by decide +kernel
theorem dX7_account_74 : decode cX7_account 74 = .ok (.iinc 2 1, 3) := by decide +kernel
theorem dX7_account_77 : decode cX7_account 77 = .ok (.goto (-75), 3) := by decide +kernel
theorem dX7_account_80 : decode cX7_account 80 = .ok (.return_, 1) := by decide +kernel
theorem dX7_letArmsGo_0 : decode cX7_letArmsGo 0 = .ok (.iconst 0, 1) := by decide +kernel
theorem dX7_letArmsGo_1 : decode cX7_letArmsGo 1 = .ok (.istore_n 2, 1) := by decide +kernel
theorem dX7_letArmsGo_2 : decode cX7_letArmsGo 2 = .ok (.iconst 0, 1) := by decide +kernel
theorem dX7_letArmsGo_3 : decode cX7_letArmsGo 3 = .ok (.istore_n 3, 1) := by decide +kernel
theorem dX7_letArmsGo_4 : decode cX7_letArmsGo 4 = .ok (.iload_n 3, 1) := by decide +kernel
theorem dX7_letArmsGo_5 : decode cX7_letArmsGo 5 = .ok (.bipush 16, 2) := by decide +kernel
theorem dX7_letArmsGo_7 : decode cX7_letArmsGo 7 = .ok (.if_icmp .ge 55, 3) := by decide +kernel
theorem dX7_letArmsGo_10 : decode cX7_letArmsGo 10 = .ok (.aload_n 1, 1) := by decide +kernel
theorem dX7_letArmsGo_11 : decode cX7_letArmsGo 11 = .ok (.getfield 55, 3) := by decide +kernel
theorem dX7_letArmsGo_14 : decode cX7_letArmsGo 14 = .ok (.getfield 140, 3) := by decide +kernel
theorem dX7_letArmsGo_17 : decode cX7_letArmsGo 17 = .ok (.iload_n 3, 1) := by decide +kernel
theorem dX7_letArmsGo_18 : decode cX7_letArmsGo 18 = .ok (.iaload, 1) := by decide +kernel
theorem dX7_letArmsGo_19 : decode cX7_letArmsGo 19 = .ok (.istore 4, 2) := by decide +kernel
theorem dX7_letArmsGo_21 : decode cX7_letArmsGo 21 = .ok (.iload 4, 2) := by decide +kernel
theorem dX7_letArmsGo_23 : decode cX7_letArmsGo 23 = .ok (.iconst (-1), 1) := by decide +kernel
theorem dX7_letArmsGo_24 : decode cX7_letArmsGo 24 = .ok (.if_icmp .eq 32, 3) := by decide +kernel
theorem dX7_letArmsGo_27 : decode cX7_letArmsGo 27 = .ok (.aload_n 1, 1) := by decide +kernel
theorem dX7_letArmsGo_28 : decode cX7_letArmsGo 28 = .ok (.getfield 55, 3) := by decide +kernel
theorem dX7_letArmsGo_31 : decode cX7_letArmsGo 31 = .ok (.getfield 161, 3) := by decide +kernel
theorem dX7_letArmsGo_34 : decode cX7_letArmsGo 34 = .ok (.iload 4, 2) := by decide +kernel
theorem dX7_letArmsGo_36 : decode cX7_letArmsGo 36 = .ok (.iaload, 1) := by decide +kernel
theorem dX7_letArmsGo_37 : decode cX7_letArmsGo 37 = .ok (.aload_n 1, 1) := by decide +kernel
theorem dX7_letArmsGo_38 : decode cX7_letArmsGo 38 = .ok (.getfield 99, 3) := by decide +kernel
theorem dX7_letArmsGo_41 : decode cX7_letArmsGo 41 = .ok (.if_icmp .gt 15, 3) := by decide +kernel
theorem dX7_letArmsGo_44 : decode cX7_letArmsGo 44 = .ok (.aload_n 1, 1) := by decide +kernel
theorem dX7_letArmsGo_45 : decode cX7_letArmsGo 45 = .ok (.getfield 55, 3) := by decide +kernel
theorem dX7_letArmsGo_48 : decode cX7_letArmsGo 48 = .ok (.getfield 140, 3) := by decide +kernel
theorem dX7_letArmsGo_51 : decode cX7_letArmsGo 51 = .ok (.iload_n 3, 1) := by decide +kernel
theorem dX7_letArmsGo_52 : decode cX7_letArmsGo 52 = .ok (.iconst (-1), 1) := by decide +kernel
theorem dX7_letArmsGo_53 : decode cX7_letArmsGo 53 = .ok (.iastore, 1) := by decide +kernel
theorem dX7_letArmsGo_54 : decode cX7_letArmsGo 54 = .ok (.iconst 1, 1) := by decide +kernel
theorem dX7_letArmsGo_55 : decode cX7_letArmsGo 55 = .ok (.istore_n 2, 1) := by decide +kernel
theorem dX7_letArmsGo_56 : decode cX7_letArmsGo 56 = .ok (.iinc 3 1, 3) := by decide +kernel
theorem dX7_letArmsGo_59 : decode cX7_letArmsGo 59 = .ok (.goto (-55), 3) := by decide +kernel
theorem dX7_letArmsGo_62 : decode cX7_letArmsGo 62 = .ok (.iload_n 2, 1) := by decide +kernel
theorem dX7_letArmsGo_63 : decode cX7_letArmsGo 63 = .ok (.ireturn, 1) := by decide +kernel
theorem dX7_endJobs_0 : decode cX7_endJobs 0 = .ok (.iconst 0, 1) := by decide +kernel
theorem dX7_endJobs_1 : decode cX7_endJobs 1 = .ok (.istore_n 2, 1) := by decide +kernel
theorem dX7_endJobs_2 : decode cX7_endJobs 2 = .ok (.iload_n 2, 1) := by decide +kernel
theorem dX7_endJobs_3 : decode cX7_endJobs 3 = .ok (.aload_n 1, 1) := by decide +kernel
theorem dX7_endJobs_4 : decode cX7_endJobs 4 = .ok (.getfield 49, 3) := by decide +kernel
theorem dX7_endJobs_7 : decode cX7_endJobs 7 = .ok (.getfield 128, 3) := by decide +kernel
theorem dX7_endJobs_10 : decode cX7_endJobs 10 = .ok (.if_icmp .ge 51, 3) := by decide +kernel
theorem dX7_endJobs_13 : decode cX7_endJobs 13 = .ok (.aload_n 1, 1) := by decide +kernel
theorem dX7_endJobs_14 : decode cX7_endJobs 14 = .ok (.getfield 49, 3) := by decide +kernel
theorem dX7_endJobs_17 : decode cX7_endJobs 17 = .ok (.getfield 150, 3) := by decide +kernel
theorem dX7_endJobs_20 : decode cX7_endJobs 20 = .ok (.iload_n 2, 1) := by decide +kernel
theorem dX7_endJobs_21 : decode cX7_endJobs 21 = .ok (.iaload, 1) := by decide +kernel
theorem dX7_endJobs_22 : decode cX7_endJobs 22 = .ok (.iconst 1, 1) := by decide +kernel
theorem dX7_endJobs_23 : decode cX7_endJobs 23 = .ok (.if_icmp .ne 32, 3) := by decide +kernel
theorem dX7_endJobs_26 : decode cX7_endJobs 26 = .ok (.aload_n 0, 1) := by decide +kernel
theorem dX7_endJobs_27 : decode cX7_endJobs 27 = .ok (.aload_n 1, 1) := by decide +kernel
theorem dX7_endJobs_28 : decode cX7_endJobs 28 = .ok (.iload_n 2, 1) := by decide +kernel
theorem dX7_endJobs_29 : decode cX7_endJobs 29 = .ok (.invokevirtual 246, 3) := by decide +kernel
theorem dX7_endJobs_32 : decode cX7_endJobs 32 = .ok (.ifCond .ne 23, 3) := by decide +kernel
theorem dX7_endJobs_35 : decode cX7_endJobs 35 = .ok (.aload_n 0, 1) := by decide +kernel
theorem dX7_endJobs_36 : decode cX7_endJobs 36 = .ok (.aload_n 1, 1) := by decide +kernel
theorem dX7_endJobs_37 : decode cX7_endJobs 37 = .ok (.iload_n 2, 1) := by decide +kernel
theorem dX7_endJobs_38 : decode cX7_endJobs 38 = .ok (.aload_n 0, 1) := by decide +kernel
theorem dX7_endJobs_39 : decode cX7_endJobs 39 = .ok (.aload_n 1, 1) := by decide +kernel
theorem dX7_endJobs_40 : decode cX7_endJobs 40 = .ok (.iload_n 2, 1) := by decide +kernel
theorem dX7_endJobs_41 : decode cX7_endJobs 41 = .ok (.invokevirtual 249, 3) := by decide +kernel
theorem dX7_endJobs_44 : decode cX7_endJobs 44 = .ok (.ifCond .eq 7, 3) := by decide +kernel
theorem dX7_endJobs_47 : decode cX7_endJobs 47 = .ok (.iconst 3, 1) := by decide +kernel
theorem dX7_endJobs_48 : decode cX7_endJobs 48 = .ok (.goto 4, 3) := by decide +kernel
theorem dX7_endJobs_51 : decode cX7_endJobs 51 = .ok (.iconst 2, 1) := by decide +kernel
theorem dX7_endJobs_52 : decode cX7_endJobs 52 = .ok (.invokevirtual 252, 3) := by decide +kernel
theorem dX7_endJobs_55 : decode cX7_endJobs 55 = .ok (.iinc 2 1, 3) := by decide +kernel
theorem dX7_endJobs_58 : decode cX7_endJobs 58 = .ok (.goto (-56), 3) := by decide +kernel
theorem dX7_endJobs_61 : decode cX7_endJobs 61 = .ok (.return_, 1) := by decide +kernel
theorem dX7_anyArmHolds_0 : decode cX7_anyArmHolds 0 = .ok (.iload_n 2, 1) := by decide +kernel
theorem dX7_anyArmHolds_1 : decode cX7_anyArmHolds 1 = .ok (.iconst 4, 1) := by decide +kernel
theorem dX7_anyArmHolds_2 : decode cX7_anyArmHolds 2 = .ok (.imul, 1) := by decide +kernel
theorem dX7_anyArmHolds_3 : decode cX7_anyArmHolds 3 = .ok (.istore_n 3, 1) := by decide +kernel
theorem dX7_anyArmHolds_4 : decode cX7_anyArmHolds 4 = .ok (.iload_n 3, 1) := by decide +kernel
theorem dX7_anyArmHolds_5 : decode cX7_anyArmHolds 5 = .ok (.iload_n 2, 1) := by decide +kernel
theorem dX7_anyArmHolds_6 : decode cX7_anyArmHolds 6 = .ok (.iconst 4, 1) := by decide +kernel
theorem dX7_anyArmHolds_7 : decode cX7_anyArmHolds 7 = .ok (.imul, 1) := by decide +kernel
theorem dX7_anyArmHolds_8 : decode cX7_anyArmHolds 8 = .ok (.aload_n 1, 1) := by decide +kernel
theorem dX7_anyArmHolds_9 : decode cX7_anyArmHolds 9 = .ok (.getfield 49, 3) := by decide +kernel
theorem dX7_anyArmHolds_12 : decode cX7_anyArmHolds 12 = .ok (.getfield 255, 3) := by decide +kernel
theorem dX7_anyArmHolds_15 : decode cX7_anyArmHolds 15 = .ok (.iload_n 2, 1) := by decide +kernel
theorem dX7_anyArmHolds_16 : decode cX7_anyArmHolds 16 = .ok (.iaload, 1) := by decide +kernel
theorem dX7_anyArmHolds_17 : decode cX7_anyArmHolds 17 = .ok (.iadd, 1) := by decide +kernel
theorem dX7_anyArmHolds_18 : decode cX7_anyArmHolds 18 = .ok (.if_icmp .ge 22, 3) := by decide +kernel
theorem dX7_anyArmHolds_21 : decode cX7_anyArmHolds 21 = .ok (.aload_n 1, 1) := by decide +kernel
theorem dX7_anyArmHolds_22 : decode cX7_anyArmHolds 22 = .ok (.getfield 55, 3) := by decide +kernel
theorem dX7_anyArmHolds_25 : decode cX7_anyArmHolds 25 = .ok (.iload_n 3, 1) := by decide +kernel
theorem dX7_anyArmHolds_26 : decode cX7_anyArmHolds 26 = .ok (.invokevirtual 257, 3) := by decide +kernel
theorem dX7_anyArmHolds_29 : decode cX7_anyArmHolds 29 = .ok (.ifCond .eq 5, 3) := by decide +kernel
theorem dX7_anyArmHolds_32 : decode cX7_anyArmHolds 32 = .ok (.iconst 1, 1) := by decide +kernel
theorem dX7_anyArmHolds_33 : decode cX7_anyArmHolds 33 = .ok (.ireturn, 1) := by decide +kernel
theorem dX7_anyArmHolds_34 : decode cX7_anyArmHolds 34 = .ok (.iinc 3 1, 3) := by decide +kernel
theorem dX7_anyArmHolds_37 : decode cX7_anyArmHolds 37 = .ok (.goto (-33), 3) := by decide +kernel
theorem dX7_anyArmHolds_40 : decode cX7_anyArmHolds 40 = .ok (.iconst 0, 1) := by decide +kernel
theorem dX7_anyArmHolds_41 : decode cX7_anyArmHolds 41 = .ok (.ireturn, 1) := by decide +kernel
theorem dX7_isCut_0 : decode cX7_isCut 0 = .ok (.iload_n 2, 1) := by decide +kernel
theorem dX7_isCut_1 : decode cX7_isCut 1 = .ok (.iconst 4, 1) := by decide +kernel
theorem dX7_isCut_2 : decode cX7_isCut 2 = .ok (.imul, 1) := by decide +kernel
theorem dX7_isCut_3 : decode cX7_isCut 3 = .ok (.istore_n 3, 1) := by decide +kernel
theorem dX7_isCut_4 : decode cX7_isCut 4 = .ok (.iload_n 3, 1) := by decide +kernel
theorem dX7_isCut_5 : decode cX7_isCut 5 = .ok (.iload_n 2, 1) := by decide +kernel
theorem dX7_isCut_6 : decode cX7_isCut 6 = .ok (.iconst 4, 1) := by decide +kernel
theorem dX7_isCut_7 : decode cX7_isCut 7 = .ok (.imul, 1) := by decide +kernel
theorem dX7_isCut_8 : decode cX7_isCut 8 = .ok (.aload_n 1, 1) := by decide +kernel
theorem dX7_isCut_9 : decode cX7_isCut 9 = .ok (.getfield 49, 3) := by decide +kernel
theorem dX7_isCut_12 : decode cX7_isCut 12 = .ok (.getfield 255, 3) := by decide +kernel
theorem dX7_isCut_15 : decode cX7_isCut 15 = .ok (.iload_n 2, 1) := by decide +kernel
theorem dX7_isCut_16 : decode cX7_isCut 16 = .ok (.iaload, 1) := by decide +kernel
theorem dX7_isCut_17 : decode cX7_isCut 17 = .ok (.iadd, 1) := by decide +kernel
theorem dX7_isCut_18 : decode cX7_isCut 18 = .ok (.if_icmp .ge 28, 3) := by decide +kernel
theorem dX7_isCut_21 : decode cX7_isCut 21 = .ok (.aload_n 1, 1) := by decide +kernel
theorem dX7_isCut_22 : decode cX7_isCut 22 = .ok (.iload_n 3, 1) := by decide +kernel
theorem dX7_isCut_23 : decode cX7_isCut 23 = .ok (.invokevirtual 167, 3) := by decide +kernel
theorem dX7_isCut_26 : decode cX7_isCut 26 = .ok (.aload_n 1, 1) := by decide +kernel
theorem dX7_isCut_27 : decode cX7_isCut 27 = .ok (.getfield 55, 3) := by decide +kernel
theorem dX7_isCut_30 : decode cX7_isCut 30 = .ok (.getfield 261, 3) := by decide +kernel
theorem dX7_isCut_33 : decode cX7_isCut 33 = .ok (.iload_n 3, 1) := by decide +kernel
theorem dX7_isCut_34 : decode cX7_isCut 34 = .ok (.iaload, 1) := by decide +kernel
theorem dX7_isCut_35 : decode cX7_isCut 35 = .ok (.if_icmp .le 5, 3) := by decide +kernel
theorem dX7_isCut_38 : decode cX7_isCut 38 = .ok (.iconst 1, 1) := by decide +kernel
theorem dX7_isCut_39 : decode cX7_isCut 39 = .ok (.ireturn, 1) := by decide +kernel
theorem dX7_isCut_40 : decode cX7_isCut 40 = .ok (.iinc 3 1, 3) := by decide +kernel
theorem dX7_isCut_43 : decode cX7_isCut 43 = .ok (.goto (-39), 3) := by decide +kernel
theorem dX7_isCut_46 : decode cX7_isCut 46 = .ok (.iconst 0, 1) := by decide +kernel
theorem dX7_isCut_47 : decode cX7_isCut 47 = .ok (.ireturn, 1) := by decide +kernel
theorem dX7_endAs_0 : decode cX7_endAs 0 = .ok (.aload_n 1, 1) := by decide +kernel
theorem dX7_endAs_1 : decode cX7_endAs 1 = .ok (.getfield 49, 3) := by decide +kernel
theorem dX7_endAs_4 : decode cX7_endAs 4 = .ok (.getfield 150, 3) := by decide +kernel
theorem dX7_endAs_7 : decode cX7_endAs 7 = .ok (.iload_n 2, 1) := by decide +kernel
theorem dX7_endAs_8 : decode cX7_endAs 8 = .ok (.iload_n 3, 1) := by decide +kernel
theorem dX7_endAs_9 : decode cX7_endAs 9 = .ok (.iastore, 1) := by decide +kernel
theorem dX7_endAs_10 : decode cX7_endAs 10 = .ok (.aload_n 1, 1) := by decide +kernel
theorem dX7_endAs_11 : decode cX7_endAs 11 = .ok (.getfield 49, 3) := by decide +kernel
theorem dX7_endAs_14 : decode cX7_endAs 14 = .ok (.getfield 262, 3) := by decide +kernel
theorem dX7_endAs_17 : decode cX7_endAs 17 = .ok (.iload_n 2, 1) := by decide +kernel
theorem dX7_endAs_18 : decode cX7_endAs 18 = .ok (.aload_n 1, 1) := by decide +kernel
theorem dX7_endAs_19 : decode cX7_endAs 19 = .ok (.getfield 99, 3) := by decide +kernel
theorem dX7_endAs_22 : decode cX7_endAs 22 = .ok (.iastore, 1) := by decide +kernel
theorem dX7_endAs_23 : decode cX7_endAs 23 = .ok (.aload_n 1, 1) := by decide +kernel
theorem dX7_endAs_24 : decode cX7_endAs 24 = .ok (.getfield 118, 3) := by decide +kernel
theorem dX7_endAs_27 : decode cX7_endAs 27 = .ok (.getfield 122, 3) := by decide +kernel
theorem dX7_endAs_30 : decode cX7_endAs 30 = .ok (.iload_n 3, 1) := by decide +kernel
theorem dX7_endAs_31 : decode cX7_endAs 31 = .ok (.iconst 1, 1) := by decide +kernel
theorem dX7_endAs_32 : decode cX7_endAs 32 = .ok (.isub, 1) := by decide +kernel
theorem dX7_endAs_33 : decode cX7_endAs 33 = .ok (.dup2, 1) := by decide +kernel
theorem dX7_endAs_34 : decode cX7_endAs 34 = .ok (.laload, 1) := by decide +kernel
theorem dX7_endAs_35 : decode cX7_endAs 35 = .ok (.lconst 1, 1) := by decide +kernel
theorem dX7_endAs_36 : decode cX7_endAs 36 = .ok (.ladd, 1) := by decide +kernel
theorem dX7_endAs_37 : decode cX7_endAs 37 = .ok (.lastore, 1) := by decide +kernel
theorem dX7_endAs_38 : decode cX7_endAs 38 = .ok (.aload_n 1, 1) := by decide +kernel
theorem dX7_endAs_39 : decode cX7_endAs 39 = .ok (.getfield 118, 3) := by decide +kernel
theorem dX7_endAs_42 : decode cX7_endAs 42 = .ok (.aload_n 1, 1) := by decide +kernel
theorem dX7_endAs_43 : decode cX7_endAs 43 = .ok (.getfield 99, 3) := by decide +kernel
theorem dX7_endAs_46 : decode cX7_endAs 46 = .ok (.iload_n 3, 1) := by decide +kernel
theorem dX7_endAs_47 : decode cX7_endAs 47 = .ok (.iload_n 2, 1) := by decide +kernel
theorem dX7_endAs_48 : decode cX7_endAs 48 = .ok (.invokevirtual 197, 3) := by decide +kernel
theorem dX7_endAs_51 : decode cX7_endAs 51 = .ok (.return_, 1) := by decide +kernel
theorem dX7_takeOff_0 : decode cX7_takeOff 0 = .ok (.iconst 0, 1) := by decide +kernel
theorem dX7_takeOff_1 : decode cX7_takeOff 1 = .ok (.istore_n 3, 1) := by decide +kernel
theorem dX7_takeOff_2 : decode cX7_takeOff 2 = .ok (.iconst 1, 1) := by decide +kernel
theorem dX7_takeOff_3 : decode cX7_takeOff 3 = .ok (.istore 4, 2) := by decide +kernel
theorem dX7_takeOff_5 : decode cX7_takeOff 5 = .ok (.aload_n 0, 1) := by decide +kernel
theorem dX7_takeOff_6 : decode cX7_takeOff 6 = .ok (.getfield 39, 3) := by decide +kernel
theorem dX7_takeOff_9 : decode cX7_takeOff 9 = .ok (.iconst 0, 1) := by decide +kernel
theorem dX7_takeOff_10 : decode cX7_takeOff 10 = .ok (.iload_n 2, 1) := by decide +kernel
theorem dX7_takeOff_11 : decode cX7_takeOff 11 = .ok (.iastore, 1) := by decide +kernel
theorem dX7_takeOff_12 : decode cX7_takeOff 12 = .ok (.iload 4, 2) := by decide +kernel
theorem dX7_takeOff_14 : decode cX7_takeOff 14 = .ok (.ifCond .le 105, 3) := by decide +kernel
theorem dX7_takeOff_17 : decode cX7_takeOff 17 = .ok (.iload_n 3, 1) := by decide +kernel
theorem dX7_takeOff_18 : decode cX7_takeOff 18 = .ok (.bipush 80, 2) := by decide +kernel
theorem dX7_takeOff_20 : decode cX7_takeOff 20 = .ok (.if_icmp .ge 99, 3) := by decide +kernel
theorem dX7_takeOff_23 : decode cX7_takeOff 23 = .ok (.iinc 4 (-1), 3) := by decide +kernel
theorem dX7_takeOff_26 : decode cX7_takeOff 26 = .ok (.aload_n 0, 1) := by decide +kernel
theorem dX7_takeOff_27 : decode cX7_takeOff 27 = .ok (.getfield 39, 3) := by decide +kernel
theorem dX7_takeOff_30 : decode cX7_takeOff 30 = .ok (.iload 4, 2) := by decide +kernel
theorem dX7_takeOff_32 : decode cX7_takeOff 32 = .ok (.iaload, 1) := by decide +kernel
theorem dX7_takeOff_33 : decode cX7_takeOff 33 = .ok (.istore 5, 2) := by decide +kernel
theorem dX7_takeOff_35 : decode cX7_takeOff 35 = .ok (.aload_n 0, 1) := by decide +kernel
theorem dX7_takeOff_36 : decode cX7_takeOff 36 = .ok (.aload_n 1, 1) := by decide +kernel
theorem dX7_takeOff_37 : decode cX7_takeOff 37 = .ok (.iload 5, 2) := by decide +kernel
theorem dX7_takeOff_39 : decode cX7_takeOff 39 = .ok (.invokevirtual 265, 3) := by decide +kernel
theorem dX7_takeOff_42 : decode cX7_takeOff 42 = .ok (.iinc 3 1, 3) := by decide +kernel
theorem dX7_takeOff_45 : decode cX7_takeOff 45 = .ok (.aload_n 1, 1) := by decide +kernel
theorem dX7_takeOff_46 : decode cX7_takeOff 46 = .ok (.getfield 49, 3) := by decide +kernel
theorem dX7_takeOff_49 : decode cX7_takeOff 49 = .ok (.getfield 128, 3) := by decide +kernel
theorem dX7_takeOff_52 : decode cX7_takeOff 52 = .ok (.iconst 1, 1) := by decide +kernel
theorem dX7_takeOff_53 : decode cX7_takeOff 53 = .ok (.isub, 1) := by decide +kernel
theorem dX7_takeOff_54 : decode cX7_takeOff 54 = .ok (.istore 6, 2) := by decide +kernel
theorem dX7_takeOff_56 : decode cX7_takeOff 56 = .ok (.iload 6, 2) := by decide +kernel
theorem dX7_takeOff_58 : decode cX7_takeOff 58 = .ok (.iload 5, 2) := by decide +kernel
theorem dX7_takeOff_60 : decode cX7_takeOff 60 = .ok (.if_icmp .le 56, 3) := by decide +kernel
theorem dX7_takeOff_63 : decode cX7_takeOff 63 = .ok (.aload_n 1, 1) := by decide +kernel
theorem dX7_takeOff_64 : decode cX7_takeOff 64 = .ok (.getfield 49, 3) := by decide +kernel
theorem dX7_takeOff_67 : decode cX7_takeOff 67 = .ok (.getfield 150, 3) := by decide +kernel
theorem dX7_takeOff_70 : decode cX7_takeOff 70 = .ok (.iload 6, 2) := by decide +kernel
theorem dX7_takeOff_72 : decode cX7_takeOff 72 = .ok (.iaload, 1) := by decide +kernel
theorem dX7_takeOff_73 : decode cX7_takeOff 73 = .ok (.ifCond .ne 37, 3) := by decide +kernel
theorem dX7_takeOff_76 : decode cX7_takeOff 76 = .ok (.aload_n 1, 1) := by decide +kernel
theorem dX7_takeOff_77 : decode cX7_takeOff 77 = .ok (.getfield 49, 3) := by decide +kernel
theorem dX7_takeOff_80 : decode cX7_takeOff 80 = .ok (.getfield 268, 3) := by decide +kernel
theorem dX7_takeOff_83 : decode cX7_takeOff 83 = .ok (.iload 6, 2) := by decide +kernel
theorem dX7_takeOff_85 : decode cX7_takeOff 85 = .ok (.iaload, 1) := by decide +kernel
theorem dX7_takeOff_86 : decode cX7_takeOff 86 = .ok (.iload 5, 2) := by decide +kernel
theorem dX7_takeOff_88 : decode cX7_takeOff 88 = .ok (.if_icmp .ne 22, 3) := by decide +kernel
theorem dX7_takeOff_91 : decode cX7_takeOff 91 = .ok (.iload 4, 2) := by decide +kernel
theorem dX7_takeOff_93 : decode cX7_takeOff 93 = .ok (.bipush 80, 2) := by decide +kernel
theorem dX7_takeOff_95 : decode cX7_takeOff 95 = .ok (.if_icmp .ge 15, 3) := by decide +kernel
theorem dX7_takeOff_98 : decode cX7_takeOff 98 = .ok (.aload_n 0, 1) := by decide +kernel
theorem dX7_takeOff_99 : decode cX7_takeOff 99 = .ok (.getfield 39, 3) := by decide +kernel
theorem dX7_takeOff_102 : decode cX7_takeOff 102 = .ok (.iload 4, 2) := by decide +kernel
theorem dX7_takeOff_104 : decode cX7_takeOff 104 = .ok (.iload 6, 2) := by decide +kernel
theorem dX7_takeOff_106 : decode cX7_takeOff 106 = .ok (.iastore, 1) := by decide +kernel
theorem dX7_takeOff_107 : decode cX7_takeOff 107 = .ok (.iinc 4 1, 3) := by decide +kernel
theorem dX7_takeOff_110 : decode cX7_takeOff 110 = .ok (.iinc 6 (-1), 3) := by decide +kernel
theorem dX7_takeOff_113 : decode cX7_takeOff 113 = .ok (.goto (-57), 3) := by decide +kernel
theorem dX7_takeOff_116 : decode cX7_takeOff 116 = .ok (.goto (-104), 3) := by decide +kernel
theorem dX7_takeOff_119 : decode cX7_takeOff 119 = .ok (.iload_n 3, 1) := by decide +kernel
theorem dX7_takeOff_120 : decode cX7_takeOff 120 = .ok (.ireturn, 1) := by decide +kernel
