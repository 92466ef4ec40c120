theorem dX2_init_0 : decode cX2_init 0 = .ok (.aload_n 0, 1) := by decide +kernel
theorem dX2_init_1 : decode cX2_init 1 = .ok (.invokespecial 3, 3) := by decide +kernel
theorem dX2_init_4 : decode cX2_init 4 = .ok (.aload_n 0, 1) := by decide +kernel
theorem dX2_init_5 : decode cX2_init 5 = .ok (.bipush 16, 2) := by decide +kernel
theorem dX2_init_7 : decode cX2_init 7 = .ok (.newarray .int, 2) := by decide +kernel
theorem dX2_init_9 : decode cX2_init 9 = .ok (.putfield 9, 3) := by decide +kernel
theorem dX2_init_12 : decode cX2_init 12 = .ok (.aload_n 0, 1) := by decide +kernel
theorem dX2_init_13 : decode cX2_init 13 = .ok (.iconst 5, 1) := by decide +kernel
theorem dX2_init_14 : decode cX2_init 14 = .ok (.newarray .int, 2) := by decide +kernel
theorem dX2_init_16 : decode cX2_init 16 = .ok (.putfield 15, 3) := by decide +kernel
theorem dX2_init_19 : decode cX2_init 19 = .ok (.aload_n 0, 1) := by decide +kernel
theorem dX2_init_20 : decode cX2_init 20 = .ok (.bipush 16, 2) := by decide +kernel
theorem dX2_init_22 : decode cX2_init 22 = .ok (.newarray .int, 2) := by decide +kernel
theorem dX2_init_24 : decode cX2_init 24 = .ok (.putfield 18, 3) := by decide +kernel
theorem dX2_init_27 : decode cX2_init 27 = .ok (.aload_n 0, 1) := by decide +kernel
theorem dX2_init_28 : decode cX2_init 28 = .ok (.bipush 16, 2) := by decide +kernel
theorem dX2_init_30 : decode cX2_init 30 = .ok (.newarray .int, 2) := by decide +kernel
theorem dX2_init_32 : decode cX2_init 32 = .ok (.putfield 21, 3) := by decide +kernel
theorem dX2_init_35 : decode cX2_init 35 = .ok (.aload_n 0, 1) := by decide +kernel
theorem dX2_init_36 : decode cX2_init 36 = .ok (.bipush 16, 2) := by decide +kernel
theorem dX2_init_38 : decode cX2_init 38 = .ok (.newarray .int, 2) := by decide +kernel
theorem dX2_init_40 : decode cX2_init 40 = .ok (.putfield 24, 3) := by decide +kernel
theorem dX2_init_43 : decode cX2_init 43 = .ok (.aload_n 0, 1) := by decide +kernel
theorem dX2_init_44 : decode cX2_init 44 = .ok (.bipush 16, 2) := by decide +kernel
theorem dX2_init_46 : decode cX2_init 46 = .ok (.newarray .int, 2) := by decide +kernel
theorem dX2_init_48 : decode cX2_init 48 = .ok (.putfield 27, 3) := by decide +kernel
theorem dX2_init_51 : decode cX2_init 51 = .ok (.aload_n 0, 1) := by decide +kernel
theorem dX2_init_52 : decode cX2_init 52 = .ok (.bipush 16, 2) := by decide +kernel
theorem dX2_init_54 : decode cX2_init 54 = .ok (.newarray .int, 2) := by decide +kernel
theorem dX2_init_56 : decode cX2_init 56 = .ok (.putfield 30, 3) := by decide +kernel
theorem dX2_init_59 : decode cX2_init 59 = .ok (.aload_n 0, 1) := by decide +kernel
theorem dX2_init_60 : decode cX2_init 60 = .ok (.bipush 8, 2) := by decide +kernel
theorem dX2_init_62 : decode cX2_init 62 = .ok (.newarray .int, 2) := by decide +kernel
theorem dX2_init_64 : decode cX2_init 64 = .ok (.putfield 33, 3) := by decide +kernel
theorem dX2_init_67 : decode cX2_init 67 = .ok (.aload_n 0, 1) := by decide +kernel
theorem dX2_init_68 : decode cX2_init 68 = .ok (.aload_n 1, 1) := by decide +kernel
theorem dX2_init_69 : decode cX2_init 69 = .ok (.putfield 36, 3) := by decide +kernel
theorem dX2_init_72 : decode cX2_init 72 = .ok (.aload_n 0, 1) := by decide +kernel
theorem dX2_init_73 : decode cX2_init 73 = .ok (.iconst 1, 1) := by decide +kernel
theorem dX2_init_74 : decode cX2_init 74 = .ok (.putfield 40, 3) := by decide +kernel
theorem dX2_init_77 : decode cX2_init 77 = .ok (.return_, 1) := by decide +kernel
theorem dX2_begin_0 : decode cX2_begin 0 = .ok (.aload_n 0, 1) := by decide +kernel
theorem dX2_begin_1 : decode cX2_begin 1 = .ok (.iload_n 1, 1) := by decide +kernel
theorem dX2_begin_2 : decode cX2_begin 2 = .ok (.putfield 44, 3) := by decide +kernel
theorem dX2_begin_5 : decode cX2_begin 5 = .ok (.aload_n 0, 1) := by decide +kernel
theorem dX2_begin_6 : decode cX2_begin 6 = .ok (.iload_n 2, 1) := by decide +kernel
theorem dX2_begin_7 : decode cX2_begin 7 = .ok (.putfield 40, 3) := by decide +kernel
theorem dX2_begin_10 : decode cX2_begin 10 = .ok (.aload_n 0, 1) := by decide +kernel
theorem dX2_begin_11 : decode cX2_begin 11 = .ok (.getfield 9, 3) := by decide +kernel
theorem dX2_begin_14 : decode cX2_begin 14 = .ok (.iconst 0, 1) := by decide +kernel
theorem dX2_begin_15 : decode cX2_begin 15 = .ok (.invokestatic 47, 3) := by decide +kernel
theorem dX2_begin_18 : decode cX2_begin 18 = .ok (.aload_n 0, 1) := by decide +kernel
theorem dX2_begin_19 : decode cX2_begin 19 = .ok (.getfield 15, 3) := by decide +kernel
theorem dX2_begin_22 : decode cX2_begin 22 = .ok (.iconst 0, 1) := by decide +kernel
theorem dX2_begin_23 : decode cX2_begin 23 = .ok (.invokestatic 47, 3) := by decide +kernel
theorem dX2_begin_26 : decode cX2_begin 26 = .ok (.aload_n 0, 1) := by decide +kernel
theorem dX2_begin_27 : decode cX2_begin 27 = .ok (.iconst 0, 1) := by decide +kernel
theorem dX2_begin_28 : decode cX2_begin 28 = .ok (.putfield 53, 3) := by decide +kernel
theorem dX2_begin_31 : decode cX2_begin 31 = .ok (.aload_n 0, 1) := by decide +kernel
theorem dX2_begin_32 : decode cX2_begin 32 = .ok (.iconst 0, 1) := by decide +kernel
theorem dX2_begin_33 : decode cX2_begin 33 = .ok (.putfield 56, 3) := by decide +kernel
theorem dX2_begin_36 : decode cX2_begin 36 = .ok (.aload_n 0, 1) := by decide +kernel
theorem dX2_begin_37 : decode cX2_begin 37 = .ok (.iconst 0, 1) := by decide +kernel
theorem dX2_begin_38 : decode cX2_begin 38 = .ok (.putfield 59, 3) := by decide +kernel
theorem dX2_begin_41 : decode cX2_begin 41 = .ok (.aload_n 0, 1) := by decide +kernel
theorem dX2_begin_42 : decode cX2_begin 42 = .ok (.iconst 0, 1) := by decide +kernel
theorem dX2_begin_43 : decode cX2_begin 43 = .ok (.putfield 62, 3) := by decide +kernel
theorem dX2_begin_46 : decode cX2_begin 46 = .ok (.aload_n 0, 1) := by decide +kernel
theorem dX2_begin_47 : decode cX2_begin 47 = .ok (.iconst 0, 1) := by decide +kernel
theorem dX2_begin_48 : decode cX2_begin 48 = .ok (.putfield 65, 3) := by decide +kernel
theorem dX2_begin_51 : decode cX2_begin 51 = .ok (.aload_n 0, 1) := by decide +kernel
theorem dX2_begin_52 : decode cX2_begin 52 = .ok (.iconst 0, 1) := by decide +kernel
theorem dX2_begin_53 : decode cX2_begin 53 = .ok (.putfield 68, 3) := by decide +kernel
theorem dX2_begin_56 : decode cX2_begin 56 = .ok (.aload_n 0, 1) := by decide +kernel
theorem dX2_begin_57 : decode cX2_begin 57 = .ok (.getfield 44, 3) := by decide +kernel
theorem dX2_begin_60 : decode cX2_begin 60 = .ok (.bipush 8, 2) := by decide +kernel
theorem dX2_begin_62 : decode cX2_begin 62 = .ok (.if_icmp .ne 10, 3) := by decide +kernel
theorem dX2_begin_65 : decode cX2_begin 65 = .ok (.aload_n 0, 1) := by decide +kernel
theorem dX2_begin_66 : decode cX2_begin 66 = .ok (.getfield 36, 3) := by decide +kernel
theorem dX2_begin_69 : decode cX2_begin 69 = .ok (.invokevirtual 71, 3) := by decide +kernel
theorem dX2_begin_72 : decode cX2_begin 72 = .ok (.return_, 1) := by decide +kernel
theorem dX2_missesBy_0 : decode cX2_missesBy 0 = .ok (.aload_n 0, 1) := by decide +kernel
theorem dX2_missesBy_1 : decode cX2_missesBy 1 = .ok (.iload_n 1, 1) := by decide +kernel
theorem dX2_missesBy_2 : decode cX2_missesBy 2 = .ok (.iload_n 2, 1) := by decide +kernel
theorem dX2_missesBy_3 : decode cX2_missesBy 3 = .ok (.invokevirtual 76, 3) := by decide +kernel
theorem dX2_missesBy_6 : decode cX2_missesBy 6 = .ok (.iconst 0, 1) := by decide +kernel
theorem dX2_missesBy_7 : decode cX2_missesBy 7 = .ok (.istore_n 3, 1) := by decide +kernel
theorem dX2_missesBy_8 : decode cX2_missesBy 8 = .ok (.iconst 0, 1) := by decide +kernel
theorem dX2_missesBy_9 : decode cX2_missesBy 9 = .ok (.istore 4, 2) := by decide +kernel
theorem dX2_missesBy_11 : decode cX2_missesBy 11 = .ok (.iload 4, 2) := by decide +kernel
theorem dX2_missesBy_13 : decode cX2_missesBy 13 = .ok (.aload_n 0, 1) := by decide +kernel
theorem dX2_missesBy_14 : decode cX2_missesBy 14 = .ok (.getfield 36, 3) := by decide +kernel
theorem dX2_missesBy_17 : decode cX2_missesBy 17 = .ok (.getfield 80, 3) := by decide +kernel
theorem dX2_missesBy_20 : decode cX2_missesBy 20 = .ok (.if_icmp .ge 24, 3) := by decide +kernel
theorem dX2_missesBy_23 : decode cX2_missesBy 23 = .ok (.aload_n 0, 1) := by decide +kernel
theorem dX2_missesBy_24 : decode cX2_missesBy 24 = .ok (.invokevirtual 83, 3) := by decide +kernel
theorem dX2_missesBy_27 : decode cX2_missesBy 27 = .ok (.pop, 1) := by decide +kernel
theorem dX2_missesBy_28 : decode cX2_missesBy 28 = .ok (.aload_n 0, 1) := by decide +kernel
theorem dX2_missesBy_29 : decode cX2_missesBy 29 = .ok (.getfield 87, 3) := by decide +kernel
theorem dX2_missesBy_32 : decode cX2_missesBy 32 = .ok (.ifCond .ne 6, 3) := by decide +kernel
theorem dX2_missesBy_35 : decode cX2_missesBy 35 = .ok (.iinc 3 1, 3) := by decide +kernel
theorem dX2_missesBy_38 : decode cX2_missesBy 38 = .ok (.iinc 4 1, 3) := by decide +kernel
theorem dX2_missesBy_41 : decode cX2_missesBy 41 = .ok (.goto (-30), 3) := by decide +kernel
theorem dX2_missesBy_44 : decode cX2_missesBy 44 = .ok (.iload_n 3, 1) := by decide +kernel
theorem dX2_missesBy_45 : decode cX2_missesBy 45 = .ok (.ireturn, 1) := by decide +kernel
theorem dX2_standBehind_0 : decode cX2_standBehind 0 = .ok (.aload_n 0, 1) := by decide +kernel
theorem dX2_standBehind_1 : decode cX2_standBehind 1 = .ok (.getfield 53, 3) := by decide +kernel
theorem dX2_standBehind_4 : decode cX2_standBehind 4 = .ok (.iload_n 1, 1) := by decide +kernel
theorem dX2_standBehind_5 : decode cX2_standBehind 5 = .ok (.iconst 1, 1) := by decide +kernel
theorem dX2_standBehind_6 : decode cX2_standBehind 6 = .ok (.iadd, 1) := by decide +kernel
theorem dX2_standBehind_7 : decode cX2_standBehind 7 = .ok (.if_icmp .le 15, 3) := by decide +kernel
theorem dX2_standBehind_10 : decode cX2_standBehind 10 = .ok (.aload_n 0, 1) := by decide +kernel
theorem dX2_standBehind_11 : decode cX2_standBehind 11 = .ok (.aload_n 0, 1) := by decide +kernel
theorem dX2_standBehind_12 : decode cX2_standBehind 12 = .ok (.getfield 44, 3) := by decide +kernel
theorem dX2_standBehind_15 : decode cX2_standBehind 15 = .ok (.aload_n 0, 1) := by decide +kernel
theorem dX2_standBehind_16 : decode cX2_standBehind 16 = .ok (.getfield 40, 3) := by decide +kernel
theorem dX2_standBehind_19 : decode cX2_standBehind 19 = .ok (.invokevirtual 76, 3) := by decide +kernel
theorem dX2_standBehind_22 : decode cX2_standBehind 22 = .ok (.aload_n 0, 1) := by decide +kernel
theorem dX2_standBehind_23 : decode cX2_standBehind 23 = .ok (.getfield 53, 3) := by decide +kernel
theorem dX2_standBehind_26 : decode cX2_standBehind 26 = .ok (.istore_n 2, 1) := by decide +kernel
theorem dX2_standBehind_27 : decode cX2_standBehind 27 = .ok (.iload_n 2, 1) := by decide +kernel
theorem dX2_standBehind_28 : decode cX2_standBehind 28 = .ok (.iload_n 1, 1) := by decide +kernel
theorem dX2_standBehind_29 : decode cX2_standBehind 29 = .ok (.if_icmp .gt 14, 3) := by decide +kernel
theorem dX2_standBehind_32 : decode cX2_standBehind 32 = .ok (.aload_n 0, 1) := by decide +kernel
theorem dX2_standBehind_33 : decode cX2_standBehind 33 = .ok (.invokevirtual 83, 3) := by decide +kernel
theorem dX2_standBehind_36 : decode cX2_standBehind 36 = .ok (.pop, 1) := by decide +kernel
theorem dX2_standBehind_37 : decode cX2_standBehind 37 = .ok (.iinc 2 1, 3) := by decide +kernel
theorem dX2_standBehind_40 : decode cX2_standBehind 40 = .ok (.goto (-13), 3) := by decide +kernel
theorem dX2_standBehind_43 : decode cX2_standBehind 43 = .ok (.return_, 1) := by decide +kernel
theorem dX2_step_0 : decode cX2_step 0 = .ok (.aload_n 0, 1) := by decide +kernel
theorem dX2_step_1 : decode cX2_step 1 = .ok (.getfield 36, 3) := by decide +kernel
theorem dX2_step_4 : decode cX2_step 4 = .ok (.aload_n 0, 1) := by decide +kernel
theorem dX2_step_5 : decode cX2_step 5 = .ok (.getfield 53, 3) := by decide +kernel
theorem dX2_step_8 : decode cX2_step 8 = .ok (.invokevirtual 91, 3) := by decide +kernel
theorem dX2_step_11 : decode cX2_step 11 = .ok (.ifCond .ne 5, 3) := by decide +kernel
theorem dX2_step_14 : decode cX2_step 14 = .ok (.iconst (-1), 1) := by decide +kernel
theorem dX2_step_15 : decode cX2_step 15 = .ok (.ireturn, 1) := by decide +kernel
theorem dX2_step_16 : decode cX2_step 16 = .ok (.aload_n 0, 1) := by decide +kernel
theorem dX2_step_17 : decode cX2_step 17 = .ok (.getfield 36, 3) := by decide +kernel
theorem dX2_step_20 : decode cX2_step 20 = .ok (.getfield 95, 3) := by decide +kernel
theorem dX2_step_23 : decode cX2_step 23 = .ok (.aload_n 0, 1) := by decide +kernel
theorem dX2_step_24 : decode cX2_step 24 = .ok (.getfield 53, 3) := by decide +kernel
theorem dX2_step_27 : decode cX2_step 27 = .ok (.iaload, 1) := by decide +kernel
theorem dX2_step_28 : decode cX2_step 28 = .ok (.istore_n 1, 1) := by decide +kernel
theorem dX2_step_29 : decode cX2_step 29 = .ok (.iconst (-1), 1) := by decide +kernel
theorem dX2_step_30 : decode cX2_step 30 = .ok (.istore_n 2, 1) := by decide +kernel
theorem dX2_step_31 : decode cX2_step 31 = .ok (.aload_n 0, 1) := by decide +kernel
theorem dX2_step_32 : decode cX2_step 32 = .ok (.aload_n 0, 1) := by decide +kernel
theorem dX2_step_33 : decode cX2_step 33 = .ok (.iload_n 1, 1) := by decide +kernel
theorem dX2_step_34 : decode cX2_step 34 = .ok (.invokevirtual 98, 3) := by decide +kernel
theorem dX2_step_37 : decode cX2_step 37 = .ok (.putfield 87, 3) := by decide +kernel
theorem dX2_step_40 : decode cX2_step 40 = .ok (.aload_n 0, 1) := by decide +kernel
theorem dX2_step_41 : decode cX2_step 41 = .ok (.getfield 87, 3) := by decide +kernel
theorem dX2_step_44 : decode cX2_step 44 = .ok (.ifCond .eq 11, 3) := by decide +kernel
theorem dX2_step_47 : decode cX2_step 47 = .ok (.aload_n 0, 1) := by decide +kernel
theorem dX2_step_48 : decode cX2_step 48 = .ok (.iload_n 1, 1) := by decide +kernel
theorem dX2_step_49 : decode cX2_step 49 = .ok (.invokevirtual 101, 3) := by decide +kernel
theorem dX2_step_52 : decode cX2_step 52 = .ok (.goto 9, 3) := by decide +kernel
theorem dX2_step_55 : decode cX2_step 55 = .ok (.aload_n 0, 1) := by decide +kernel
theorem dX2_step_56 : decode cX2_step 56 = .ok (.iload_n 1, 1) := by decide +kernel
theorem dX2_step_57 : decode cX2_step 57 = .ok (.invokevirtual 105, 3) := by decide +kernel
theorem dX2_step_60 : decode cX2_step 60 = .ok (.istore_n 2, 1) := by decide +kernel
theorem dX2_step_61 : decode cX2_step 61 = .ok (.aload_n 0, 1) := by decide +kernel
theorem dX2_step_62 : decode cX2_step 62 = .ok (.getfield 27, 3) := by decide +kernel
theorem dX2_step_65 : decode cX2_step 65 = .ok (.iload_n 1, 1) := by decide +kernel
theorem dX2_step_66 : decode cX2_step 66 = .ok (.aload_n 0, 1) := by decide +kernel
theorem dX2_step_67 : decode cX2_step 67 = .ok (.getfield 68, 3) := by decide +kernel
theorem dX2_step_70 : decode cX2_step 70 = .ok (.aload_n 0, 1) := by decide +kernel
theorem dX2_step_71 : decode cX2_step 71 = .ok (.getfield 36, 3) := by decide +kernel
theorem dX2_step_74 : decode cX2_step 74 = .ok (.getfield 109, 3) := by decide +kernel
theorem dX2_step_77 : decode cX2_step 77 = .ok (.iload_n 1, 1) := by decide +kernel
theorem dX2_step_78 : decode cX2_step 78 = .ok (.iaload, 1) := by decide +kernel
theorem dX2_step_79 : decode cX2_step 79 = .ok (.iadd, 1) := by decide +kernel
theorem dX2_step_80 : decode cX2_step 80 = .ok (.iastore, 1) := by decide +kernel
theorem dX2_step_81 : decode cX2_step 81 = .ok (.aload_n 0, 1) := by decide +kernel
theorem dX2_step_82 : decode cX2_step 82 = .ok (.getfield 21, 3) := by decide +kernel
theorem dX2_step_85 : decode cX2_step 85 = .ok (.iload_n 1, 1) := by decide +kernel
theorem dX2_step_86 : decode cX2_step 86 = .ok (.aload_n 0, 1) := by decide +kernel
theorem dX2_step_87 : decode cX2_step 87 = .ok (.getfield 53, 3) := by decide +kernel
theorem dX2_step_90 : decode cX2_step 90 = .ok (.iastore, 1) := by decide +kernel
theorem dX2_step_91 : decode cX2_step 91 = .ok (.aload_n 0, 1) := by decide +kernel
theorem dX2_step_92 : decode cX2_step 92 = .ok (.dup, 1) := by decide +kernel
theorem dX2_step_93 : decode cX2_step 93 = .ok (.getfield 53, 3) := by decide +kernel
theorem dX2_step_96 : decode cX2_step 96 = .ok (.iconst 1, 1) := by decide +kernel
theorem dX2_step_97 : decode cX2_step 97 = .ok (.iadd, 1) := by decide +kernel
theorem dX2_step_98 : decode cX2_step 98 = .ok (.putfield 53, 3) := by decide +kernel
theorem dX2_step_101 : decode cX2_step 101 = .ok (.iload_n 2, 1) := by decide +kernel
theorem dX2_step_102 : decode cX2_step 102 = .ok (.ireturn, 1) := by decide +kernel
theorem dX2_lies_0 : decode cX2_lies 0 = .ok (.aload_n 0, 1) := by decide +kernel
theorem dX2_lies_1 : decode cX2_lies 1 = .ok (.getfield 9, 3) := by decide +kernel
theorem dX2_lies_4 : decode cX2_lies 4 = .ok (.iload_n 1, 1) := by decide +kernel
theorem dX2_lies_5 : decode cX2_lies 5 = .ok (.iaload, 1) := by decide +kernel
theorem dX2_lies_6 : decode cX2_lies 6 = .ok (.iconst 1, 1) := by decide +kernel
theorem dX2_lies_7 : decode cX2_lies 7 = .ok (.if_icmp .eq 13, 3) := by decide +kernel
theorem dX2_lies_10 : decode cX2_lies 10 = .ok (.aload_n 0, 1) := by decide +kernel
theorem dX2_lies_11 : decode cX2_lies 11 = .ok (.getfield 9, 3) := by decide +kernel
theorem dX2_lies_14 : decode cX2_lies 14 = .ok (.iload_n 1, 1) := by decide +kernel
theorem dX2_lies_15 : decode cX2_lies 15 = .ok (.iaload, 1) := by decide +kernel
theorem dX2_lies_16 : decode cX2_lies 16 = .ok (.iconst 2, 1) := by decide +kernel
theorem dX2_lies_17 : decode cX2_lies 17 = .ok (.if_icmp .ne 7, 3) := by decide +kernel
theorem dX2_lies_20 : decode cX2_lies 20 = .ok (.iconst 1, 1) := by decide +kernel
theorem dX2_lies_21 : decode cX2_lies 21 = .ok (.goto 4, 3) := by decide +kernel
theorem dX2_lies_24 : decode cX2_lies 24 = .ok (.iconst 0, 1) := by decide +kernel
theorem dX2_lies_25 : decode cX2_lies 25 = .ok (.ireturn, 1) := by decide +kernel
theorem dX2_lying_0 : decode cX2_lying 0 = .ok (.aload_n 0, 1) := by decide +kernel
theorem dX2_lying_1 : decode cX2_lying 1 = .ok (.getfield 15, 3) := by decide +kernel
theorem dX2_lying_4 : decode cX2_lying 4 = .ok (.iconst 1, 1) := by decide +kernel
theorem dX2_lying_5 : decode cX2_lying 5 = .ok (.iaload, 1) := by decide +kernel
theorem dX2_lying_6 : decode cX2_lying 6 = .ok (.aload_n 0, 1) := by decide +kernel
theorem dX2_lying_7 : decode cX2_lying 7 = .ok (.getfield 15, 3) := by decide +kernel
theorem dX2_lying_10 : decode cX2_lying 10 = .ok (.iconst 2, 1) := by decide +kernel
theorem dX2_lying_11 : decode cX2_lying 11 = .ok (.iaload, 1) := by decide +kernel
theorem dX2_lying_12 : decode cX2_lying 12 = .ok (.iadd, 1) := by decide +kernel
theorem dX2_lying_13 : decode cX2_lying 13 = .ok (.ireturn, 1) := by decide +kernel
theorem dX2_leastAbsent_0 : decode cX2_leastAbsent 0 = .ok (.iconst 0, 1) := by decide +kernel
theorem dX2_leastAbsent_1 : decode cX2_leastAbsent 1 = .ok (.istore_n 1, 1) := by decide +kernel
theorem dX2_leastAbsent_2 : decode cX2_leastAbsent 2 = .ok (.iload_n 1, 1) := by decide +kernel
theorem dX2_leastAbsent_3 : decode cX2_leastAbsent 3 = .ok (.aload_n 0, 1) := by decide +kernel
theorem dX2_leastAbsent_4 : decode cX2_leastAbsent 4 = .ok (.getfield 40, 3) := by decide +kernel
theorem dX2_leastAbsent_7 : decode cX2_leastAbsent 7 = .ok (.if_icmp .ge 17, 3) := by decide +kernel
theorem dX2_leastAbsent_10 : decode cX2_leastAbsent 10 = .ok (.aload_n 0, 1) := by decide +kernel
theorem dX2_leastAbsent_11 : decode cX2_leastAbsent 11 = .ok (.iload_n 1, 1) := by decide +kernel
theorem dX2_leastAbsent_12 : decode cX2_leastAbsent 12 = .ok (.invokevirtual 98, 3) := by decide +kernel
theorem dX2_leastAbsent_15 : decode cX2_leastAbsent 15 = .ok (.ifCond .eq 9, 3) := by decide +kernel
theorem dX2_leastAbsent_18 : decode cX2_leastAbsent 18 = .ok (.iinc 1 1, 3) := by decide +kernel
theorem dX2_leastAbsent_21 : decode cX2_leastAbsent 21 = .ok (.goto (-19), 3) := by decide +kernel
theorem dX2_leastAbsent_24 : decode cX2_leastAbsent 24 = .ok (.iload_n 1, 1) := by decide +kernel
theorem dX2_leastAbsent_25 : decode cX2_leastAbsent 25 = .ok (.ireturn, 1) := by decide +kernel
theorem dX2_hasBooks_0 : decode cX2_hasBooks 0 = .ok (.aload_n 0, 1) := by decide +kernel
theorem dX2_hasBooks_1 : decode cX2_hasBooks 1 = .ok (.getfield 44, 3) := by decide +kernel
theorem dX2_hasBooks_4 : decode cX2_hasBooks 4 = .ok (.iconst 5, 1) := by decide +kernel
theorem dX2_hasBooks_5 : decode cX2_hasBooks 5 = .ok (.if_icmp .eq 12, 3) := by decide +kernel
theorem dX2_hasBooks_8 : decode cX2_hasBooks 8 = .ok (.aload_n 0, 1) := by decide +kernel
theorem dX2_hasBooks_9 : decode cX2_hasBooks 9 = .ok (.getfield 44, 3) := by decide +kernel
theorem dX2_hasBooks_12 : decode cX2_hasBooks 12 = .ok (.bipush 6, 2) := by decide +kernel
theorem dX2_hasBooks_14 : decode cX2_hasBooks 14 = .ok (.if_icmp .ne 7, 3) := by decide +kernel
theorem dX2_hasBooks_17 : decode cX2_hasBooks 17 = .ok (.iconst 1, 1) := by decide +kernel
theorem dX2_hasBooks_18 : decode cX2_hasBooks 18 = .ok (.goto 4, 3) := by decide +kernel
theorem dX2_hasBooks_21 : decode cX2_hasBooks 21 = .ok (.iconst 0, 1) := by decide +kernel
theorem dX2_hasBooks_22 : decode cX2_hasBooks 22 = .ok (.ireturn, 1) := by decide +kernel
theorem dX2_meet_0 : decode cX2_meet 0 = .ok (.aload_n 0, 1) := by decide +kernel
theorem dX2_meet_1 : decode cX2_meet 1 = .ok (.getfield 24, 3) := by decide +kernel
theorem dX2_meet_4 : decode cX2_meet 4 = .ok (.iload_n 1, 1) := by decide +kernel
theorem dX2_meet_5 : decode cX2_meet 5 = .ok (.dup2, 1) := by decide +kernel
theorem dX2_meet_6 : decode cX2_meet 6 = .ok (.iaload, 1) := by decide +kernel
theorem dX2_meet_7 : decode cX2_meet 7 = .ok (.iconst 1, 1) := by decide +kernel
theorem dX2_meet_8 : decode cX2_meet 8 = .ok (.iadd, 1) := by decide +kernel
theorem dX2_meet_9 : decode cX2_meet 9 = .ok (.iastore, 1) := by decide +kernel
theorem dX2_meet_10 : decode cX2_meet 10 = .ok (.aload_n 0, 1) := by decide +kernel
theorem dX2_meet_11 : decode cX2_meet 11 = .ok (.dup, 1) := by decide +kernel
theorem dX2_meet_12 : decode cX2_meet 12 = .ok (.getfield 56, 3) := by decide +kernel
theorem dX2_meet_15 : decode cX2_meet 15 = .ok (.iconst 1, 1) := by decide +kernel
theorem dX2_meet_16 : decode cX2_meet 16 = .ok (.iload_n 1, 1) := by decide +kernel
theorem dX2_meet_17 : decode cX2_meet 17 = .ok (.ishl, 1) := by decide +kernel
theorem dX2_meet_18 : decode cX2_meet 18 = .ok (.ior, 1) := by decide +kernel
theorem dX2_meet_19 : decode cX2_meet 19 = .ok (.putfield 56, 3) := by decide +kernel
theorem dX2_meet_22 : decode cX2_meet 22 = .ok (.aload_n 0, 1) := by decide +kernel
theorem dX2_meet_23 : decode cX2_meet 23 = .ok (.invokevirtual 112, 3) := by decide +kernel
theorem dX2_meet_26 : decode cX2_meet 26 = .ok (.ifCond .eq 9, 3) := by decide +kernel
theorem dX2_meet_29 : decode cX2_meet 29 = .ok (.aload_n 0, 1) := by decide +kernel
theorem dX2_meet_30 : decode cX2_meet 30 = .ok (.iload_n 1, 1) := by decide +kernel
theorem dX2_meet_31 : decode cX2_meet 31 = .ok (.iconst 2, 1) := by decide +kernel
theorem dX2_meet_32 : decode cX2_meet 32 = .ok (.invokevirtual 116, 3) := by decide +kernel
theorem dX2_meet_35 : decode cX2_meet 35 = .ok (.return_, 1) := by decide +kernel
theorem dX2_bring_0 : decode cX2_bring 0 = .ok (.aload_n 0, 1) := by decide +kernel
theorem dX2_bring_1 : decode cX2_bring 1 = .ok (.iload_n 1, 1) := by decide +kernel
theorem dX2_bring_2 : decode cX2_bring 2 = .ok (.invokevirtual 119, 3) := by decide +kernel
theorem dX2_bring_5 : decode cX2_bring 5 = .ok (.istore_n 2, 1) := by decide +kernel
theorem dX2_bring_6 : decode cX2_bring 6 = .ok (.aload_n 0, 1) := by decide +kernel
theorem dX2_bring_7 : decode cX2_bring 7 = .ok (.invokevirtual 122, 3) := by decide +kernel
theorem dX2_bring_10 : decode cX2_bring 10 = .ok (.istore_n 3, 1) := by decide +kernel
theorem dX2_bring_11 : decode cX2_bring 11 = .ok (.iconst (-1), 1) := by decide +kernel
theorem dX2_bring_12 : decode cX2_bring 12 = .ok (.istore 4, 2) := by decide +kernel
theorem dX2_bring_14 : decode cX2_bring 14 = .ok (.iload_n 3, 1) := by decide +kernel
theorem dX2_bring_15 : decode cX2_bring 15 = .ok (.aload_n 0, 1) := by decide +kernel
theorem dX2_bring_16 : decode cX2_bring 16 = .ok (.getfield 40, 3) := by decide +kernel
theorem dX2_bring_19 : decode cX2_bring 19 = .ok (.if_icmp .lt 23, 3) := by decide +kernel
theorem dX2_bring_22 : decode cX2_bring 22 = .ok (.aload_n 0, 1) := by decide +kernel
theorem dX2_bring_23 : decode cX2_bring 23 = .ok (.invokevirtual 125, 3) := by decide +kernel
theorem dX2_bring_26 : decode cX2_bring 26 = .ok (.istore 4, 2) := by decide +kernel
theorem dX2_bring_28 : decode cX2_bring 28 = .ok (.aload_n 0, 1) := by decide +kernel
theorem dX2_bring_29 : decode cX2_bring 29 = .ok (.getfield 30, 3) := by decide +kernel
theorem dX2_bring_32 : decode cX2_bring 32 = .ok (.iload 4, 2) := by decide +kernel
theorem dX2_bring_34 : decode cX2_bring 34 = .ok (.iaload, 1) := by decide +kernel
theorem dX2_bring_35 : decode cX2_bring 35 = .ok (.istore_n 3, 1) := by decide +kernel
theorem dX2_bring_36 : decode cX2_bring 36 = .ok (.aload_n 0, 1) := by decide +kernel
theorem dX2_bring_37 : decode cX2_bring 37 = .ok (.iload 4, 2) := by decide +kernel
theorem dX2_bring_39 : decode cX2_bring 39 = .ok (.invokevirtual 128, 3) := by decide +kernel
theorem dX2_bring_42 : decode cX2_bring 42 = .ok (.aload_n 0, 1) := by decide +kernel
theorem dX2_bring_43 : decode cX2_bring 43 = .ok (.getfield 24, 3) := by decide +kernel
theorem dX2_bring_46 : decode cX2_bring 46 = .ok (.iload_n 1, 1) := by decide +kernel
theorem dX2_bring_47 : decode cX2_bring 47 = .ok (.iconst 1, 1) := by decide +kernel
theorem dX2_bring_48 : decode cX2_bring 48 = .ok (.iastore, 1) := by decide +kernel
theorem dX2_bring_49 : decode cX2_bring 49 = .ok (.aload_n 0, 1) := by decide +kernel
theorem dX2_bring_50 : decode cX2_bring 50 = .ok (.getfield 30, 3) := by decide +kernel
theorem dX2_bring_53 : decode cX2_bring 53 = .ok (.iload_n 1, 1) := by decide +kernel
theorem dX2_bring_54 : decode cX2_bring 54 = .ok (.iload_n 3, 1) := by decide +kernel
theorem dX2_bring_55 : decode cX2_bring 55 = .ok (.iastore, 1) := by decide +kernel
theorem dX2_bring_56 : decode cX2_bring 56 = .ok (.aload_n 0, 1) := by decide +kernel
theorem dX2_bring_57 : decode cX2_bring 57 = .ok (.getfield 33, 3) := by decide +kernel
theorem dX2_bring_60 : decode cX2_bring 60 = .ok (.iload_n 3, 1) := by decide +kernel
theorem dX2_bring_61 : decode cX2_bring 61 = .ok (.iload_n 1, 1) := by decide +kernel
theorem dX2_bring_62 : decode cX2_bring 62 = .ok (.iastore, 1) := by decide +kernel
theorem dX2_bring_63 : decode cX2_bring 63 = .ok (.aload_n 0, 1) := by decide +kernel
theorem dX2_bring_64 : decode cX2_bring 64 = .ok (.getfield 44, 3) := by decide +kernel
theorem dX2_bring_67 : decode cX2_bring 67 = .ok (.iconst 2, 1) := by decide +kernel
theorem dX2_bring_68 : decode cX2_bring 68 = .ok (.if_icmp .ne 15, 3) := by decide +kernel
theorem dX2_bring_71 : decode cX2_bring 71 = .ok (.aload_n 0, 1) := by decide +kernel
theorem dX2_bring_72 : decode cX2_bring 72 = .ok (.dup, 1) := by decide +kernel
theorem dX2_bring_73 : decode cX2_bring 73 = .ok (.getfield 56, 3) := by decide +kernel
theorem dX2_bring_76 : decode cX2_bring 76 = .ok (.iconst 1, 1) := by decide +kernel
theorem dX2_bring_77 : decode cX2_bring 77 = .ok (.iload_n 1, 1) := by decide +kernel
theorem dX2_bring_78 : decode cX2_bring 78 = .ok (.ishl, 1) := by decide +kernel
theorem dX2_bring_79 : decode cX2_bring 79 = .ok (.ior, 1) := by decide +kernel
theorem dX2_bring_80 : decode cX2_bring 80 = .ok (.putfield 56, 3) := by decide +kernel
theorem dX2_bring_83 : decode cX2_bring 83 = .ok (.aload_n 0, 1) := by decide +kernel
theorem dX2_bring_84 : decode cX2_bring 84 = .ok (.iload_n 1, 1) := by decide +kernel
theorem dX2_bring_85 : decode cX2_bring 85 = .ok (.iload_n 2, 1) := by decide +kernel
theorem dX2_bring_86 : decode cX2_bring 86 = .ok (.invokevirtual 116, 3) := by decide +kernel
theorem dX2_bring_89 : decode cX2_bring 89 = .ok (.iload 4, 2) := by decide +kernel
theorem dX2_bring_91 : decode cX2_bring 91 = .ok (.ireturn, 1) := by decide +kernel
theorem dX2_partFor_0 : decode cX2_partFor 0 = .ok (.aload_n 0, 1) := by decide +kernel
theorem dX2_partFor_1 : decode cX2_partFor 1 = .ok (.getfield 9, 3) := by decide +kernel
theorem dX2_partFor_4 : decode cX2_partFor 4 = .ok (.iload_n 1, 1) := by decide +kernel
theorem dX2_partFor_5 : decode cX2_partFor 5 = .ok (.iaload, 1) := by decide +kernel
theorem dX2_partFor_6 : decode cX2_partFor 6 = .ok (.istore_n 2, 1) := by decide +kernel
theorem dX2_partFor_7 : decode cX2_partFor 7 = .ok (.iload_n 2, 1) := by decide +kernel
theorem dX2_partFor_8 : decode cX2_partFor 8 = .ok (.ifCond .ne 5, 3) := by decide +kernel
theorem dX2_partFor_11 : decode cX2_partFor 11 = .ok (.iconst 1, 1) := by decide +kernel
theorem dX2_partFor_12 : decode cX2_partFor 12 = .ok (.ireturn, 1) := by decide +kernel
theorem dX2_partFor_13 : decode cX2_partFor 13 = .ok (.aload_n 0, 1) := by decide +kernel
theorem dX2_partFor_14 : decode cX2_partFor 14 = .ok (.getfield 44, 3) := by decide +kernel
theorem dX2_partFor_17 : decode cX2_partFor 17 = .ok (.bipush 6, 2) := by decide +kernel
theorem dX2_partFor_19 : decode cX2_partFor 19 = .ok (.if_icmp .ne 28, 3) := by decide +kernel
theorem dX2_partFor_22 : decode cX2_partFor 22 = .ok (.iload_n 2, 1) := by decide +kernel
theorem dX2_partFor_23 : decode cX2_partFor 23 = .ok (.iconst 3, 1) := by decide +kernel
theorem dX2_partFor_24 : decode cX2_partFor 24 = .ok (.if_icmp .ne 23, 3) := by decide +kernel
theorem dX2_partFor_27 : decode cX2_partFor 27 = .ok (.aload_n 0, 1) := by decide +kernel
theorem dX2_partFor_28 : decode cX2_partFor 28 = .ok (.aload_n 0, 1) := by decide +kernel
theorem dX2_partFor_29 : decode cX2_partFor 29 = .ok (.getfield 40, 3) := by decide +kernel
theorem dX2_partFor_32 : decode cX2_partFor 32 = .ok (.aload_n 0, 1) := by decide +kernel
theorem dX2_partFor_33 : decode cX2_partFor 33 = .ok (.getfield 65, 3) := by decide +kernel
theorem dX2_partFor_36 : decode cX2_partFor 36 = .ok (.iconst 1, 1) := by decide +kernel
theorem dX2_partFor_37 : decode cX2_partFor 37 = .ok (.iadd, 1) := by decide +kernel
theorem dX2_partFor_38 : decode cX2_partFor 38 = .ok (.invokestatic 131, 3) := by decide +kernel
theorem dX2_partFor_41 : decode cX2_partFor 41 = .ok (.putfield 65, 3) := by decide +kernel
theorem dX2_partFor_44 : decode cX2_partFor 44 = .ok (.goto 26, 3) := by decide +kernel
theorem dX2_partFor_47 : decode cX2_partFor 47 = .ok (.aload_n 0, 1) := by decide +kernel
theorem dX2_partFor_48 : decode cX2_partFor 48 = .ok (.getfield 44, 3) := by decide +kernel
theorem dX2_partFor_51 : decode cX2_partFor 51 = .ok (.bipush 6, 2) := by decide +kernel
theorem dX2_partFor_53 : decode cX2_partFor 53 = .ok (.if_icmp .ne 17, 3) := by decide +kernel
theorem dX2_partFor_56 : decode cX2_partFor 56 = .ok (.aload_n 0, 1) := by decide +kernel
theorem dX2_partFor_57 : decode cX2_partFor 57 = .ok (.iconst 0, 1) := by decide +kernel
theorem dX2_partFor_58 : decode cX2_partFor 58 = .ok (.aload_n 0, 1) := by decide +kernel
theorem dX2_partFor_59 : decode cX2_partFor 59 = .ok (.getfield 65, 3) := by decide +kernel
theorem dX2_partFor_62 : decode cX2_partFor 62 = .ok (.iconst 1, 1) := by decide +kernel
theorem dX2_partFor_63 : decode cX2_partFor 63 = .ok (.isub, 1) := by decide +kernel
theorem dX2_partFor_64 : decode cX2_partFor 64 = .ok (.invokestatic 137, 3) := by decide +kernel
theorem dX2_partFor_67 : decode cX2_partFor 67 = .ok (.putfield 65, 3) := by decide +kernel
theorem dX2_partFor_70 : decode cX2_partFor 70 = .ok (.aload_n 0, 1) := by decide +kernel
theorem dX2_partFor_71 : decode cX2_partFor 71 = .ok (.iload_n 1, 1) := by decide +kernel
theorem dX2_partFor_72 : decode cX2_partFor 72 = .ok (.iconst 0, 1) := by decide +kernel
theorem dX2_partFor_73 : decode cX2_partFor 73 = .ok (.invokevirtual 116, 3) := by decide +kernel
theorem dX2_partFor_76 : decode cX2_partFor 76 = .ok (.iconst 2, 1) := by decide +kernel
theorem dX2_partFor_77 : decode cX2_partFor 77 = .ok (.ireturn, 1) := by decide +kernel
theorem dX2_chooseGoing_0 : decode cX2_chooseGoing 0 = .ok (.aload_n 0, 1) := by decide +kernel
theorem dX2_chooseGoing_1 : decode cX2_chooseGoing 1 = .ok (.getfield 44, 3) := by decide +kernel
theorem dX2_chooseGoing_4 : decode cX2_chooseGoing 4 = .ok (.tableswitch 79 2 6 #[36, 46, 79, 51, 66], 36) := by decide +kernel
theorem dX2_chooseGoing_40 : decode cX2_chooseGoing 40 = .ok (.aload_n 0, 1) := by decide +kernel
theorem dX2_chooseGoing_41 : decode cX2_chooseGoing 41 = .ok (.invokevirtual 140, 3) := by decide +kernel
theorem dX2_chooseGoing_44 : decode cX2_chooseGoing 44 = .ok (.aload_n 0, 1) := by decide +kernel
theorem dX2_chooseGoing_45 : decode cX2_chooseGoing 45 = .ok (.iconst 1, 1) := by decide +kernel
theorem dX2_chooseGoing_46 : decode cX2_chooseGoing 46 = .ok (.invokevirtual 143, 3) := by decide +kernel
theorem dX2_chooseGoing_49 : decode cX2_chooseGoing 49 = .ok (.ireturn, 1) := by decide +kernel
theorem dX2_chooseGoing_50 : decode cX2_chooseGoing 50 = .ok (.aload_n 0, 1) := by decide +kernel
theorem dX2_chooseGoing_51 : decode cX2_chooseGoing 51 = .ok (.invokevirtual 146, 3) := by decide +kernel
theorem dX2_chooseGoing_54 : decode cX2_chooseGoing 54 = .ok (.ireturn, 1) := by decide +kernel
theorem dX2_chooseGoing_55 : decode cX2_chooseGoing 55 = .ok (.aload_n 0, 1) := by decide +kernel
theorem dX2_chooseGoing_56 : decode cX2_chooseGoing 56 = .ok (.aload_n 0, 1) := by decide +kernel
theorem dX2_chooseGoing_57 : decode cX2_chooseGoing 57 = .ok (.aload_n 0, 1) := by decide +kernel
theorem dX2_chooseGoing_58 : decode cX2_chooseGoing 58 = .ok (.getfield 40, 3) := by decide +kernel
theorem dX2_chooseGoing_61 : decode cX2_chooseGoing 61 = .ok (.iconst 4, 1) := by decide +kernel
theorem dX2_chooseGoing_62 : decode cX2_chooseGoing 62 = .ok (.idiv, 1) := by decide +kernel
theorem dX2_chooseGoing_63 : decode cX2_chooseGoing 63 = .ok (.invokevirtual 149, 3) := by decide +kernel
theorem dX2_chooseGoing_66 : decode cX2_chooseGoing 66 = .ok (.invokevirtual 143, 3) := by decide +kernel
theorem dX2_chooseGoing_69 : decode cX2_chooseGoing 69 = .ok (.ireturn, 1) := by decide +kernel
theorem dX2_chooseGoing_70 : decode cX2_chooseGoing 70 = .ok (.aload_n 0, 1) := by decide +kernel
theorem dX2_chooseGoing_71 : decode cX2_chooseGoing 71 = .ok (.aload_n 0, 1) := by decide +kernel
theorem dX2_chooseGoing_72 : decode cX2_chooseGoing 72 = .ok (.aload_n 0, 1) := by decide +kernel
theorem dX2_chooseGoing_73 : decode cX2_chooseGoing 73 = .ok (.getfield 65, 3) := by decide +kernel
theorem dX2_chooseGoing_76 : decode cX2_chooseGoing 76 = .ok (.invokevirtual 149, 3) := by decide +kernel
theorem dX2_chooseGoing_79 : decode cX2_chooseGoing 79 = .ok (.invokevirtual 143, 3) := by decide +kernel
theorem dX2_chooseGoing_82 : decode cX2_chooseGoing 82 = .ok (.ireturn, 1) := by decide +kernel
theorem dX2_chooseGoing_83 : decode cX2_chooseGoing 83 = .ok (.aload_n 0, 1) := by decide +kernel
theorem dX2_chooseGoing_84 : decode cX2_chooseGoing 84 = .ok (.iconst 1, 1) := by decide +kernel
theorem dX2_chooseGoing_85 : decode cX2_chooseGoing 85 = .ok (.invokevirtual 143, 3) := by decide +kernel
theorem dX2_chooseGoing_88 : decode cX2_chooseGoing 88 = .ok (.ireturn, 1) := by decide +kernel
theorem dX2_endFullRound_0 : decode cX2_endFullRound 0 = .ok (.aload_n 0, 1) := by decide +kernel
theorem dX2_endFullRound_1 : decode cX2_endFullRound 1 = .ok (.getfield 56, 3) := by decide +kernel
theorem dX2_endFullRound_4 : decode cX2_endFullRound 4 = .ok (.invokestatic 152, 3) := by decide +kernel
theorem dX2_endFullRound_7 : decode cX2_endFullRound 7 = .ok (.aload_n 0, 1) := by decide +kernel
theorem dX2_endFullRound_8 : decode cX2_endFullRound 8 = .ok (.getfield 40, 3) := by decide +kernel
theorem dX2_endFullRound_11 : decode cX2_endFullRound 11 = .ok (.if_icmp .lt 18, 3) := by decide +kernel
theorem dX2_endFullRound_14 : decode cX2_endFullRound 14 = .ok (.aload_n 0, 1) := by decide +kernel
theorem dX2_endFullRound_15 : decode cX2_endFullRound 15 = .ok (.iconst 0, 1) := by decide +kernel
theorem dX2_endFullRound_16 : decode cX2_endFullRound 16 = .ok (.putfield 56, 3) := by decide +kernel
theorem dX2_endFullRound_19 : decode cX2_endFullRound 19 = .ok (.aload_n 0, 1) := by decide +kernel
theorem dX2_endFullRound_20 : decode cX2_endFullRound 20 = .ok (.dup, 1) := by decide +kernel
theorem dX2_endFullRound_21 : decode cX2_endFullRound 21 = .ok (.getfield 59, 3) := by decide +kernel
theorem dX2_endFullRound_24 : decode cX2_endFullRound 24 = .ok (.iconst 1, 1) := by decide +kernel
theorem dX2_endFullRound_25 : decode cX2_endFullRound 25 = .ok (.iadd, 1) := by decide +kernel
theorem dX2_endFullRound_26 : decode cX2_endFullRound 26 = .ok (.putfield 59, 3) := by decide +kernel
theorem dX2_endFullRound_29 : decode cX2_endFullRound 29 = .ok (.return_, 1) := by decide +kernel
theorem dX2_turnHand_0 : decode cX2_turnHand 0 = .ok (.iconst 0, 1) := by decide +kernel
theorem dX2_turnHand_1 : decode cX2_turnHand 1 = .ok (.istore_n 1, 1) := by decide +kernel
theorem dX2_turnHand_2 : decode cX2_turnHand 2 = .ok (.iload_n 1, 1) := by decide +kernel
theorem dX2_turnHand_3 : decode cX2_turnHand 3 = .ok (.aload_n 0, 1) := by decide +kernel
theorem dX2_turnHand_4 : decode cX2_turnHand 4 = .ok (.getfield 40, 3) := by decide +kernel
theorem dX2_turnHand_7 : decode cX2_turnHand 7 = .ok (.if_icmp .ge 54, 3) := by decide +kernel
theorem dX2_turnHand_10 : decode cX2_turnHand 10 = .ok (.aload_n 0, 1) := by decide +kernel
theorem dX2_turnHand_11 : decode cX2_turnHand 11 = .ok (.getfield 56, 3) := by decide +kernel
theorem dX2_turnHand_14 : decode cX2_turnHand 14 = .ok (.iconst 1, 1) := by decide +kernel
theorem dX2_turnHand_15 : decode cX2_turnHand 15 = .ok (.aload_n 0, 1) := by decide +kernel
theorem dX2_turnHand_16 : decode cX2_turnHand 16 = .ok (.getfield 33, 3) := by decide +kernel
theorem dX2_turnHand_19 : decode cX2_turnHand 19 = .ok (.aload_n 0, 1) := by decide +kernel
theorem dX2_turnHand_20 : decode cX2_turnHand 20 = .ok (.getfield 62, 3) := by decide +kernel
theorem dX2_turnHand_23 : decode cX2_turnHand 23 = .ok (.iaload, 1) := by decide +kernel
theorem dX2_turnHand_24 : decode cX2_turnHand 24 = .ok (.ishl, 1) := by decide +kernel
theorem dX2_turnHand_25 : decode cX2_turnHand 25 = .ok (.iand, 1) := by decide +kernel
theorem dX2_turnHand_26 : decode cX2_turnHand 26 = .ok (.ifCond .eq 35, 3) := by decide +kernel
theorem dX2_turnHand_29 : decode cX2_turnHand 29 = .ok (.aload_n 0, 1) := by decide +kernel
theorem dX2_turnHand_30 : decode cX2_turnHand 30 = .ok (.dup, 1) := by decide +kernel
theorem dX2_turnHand_31 : decode cX2_turnHand 31 = .ok (.getfield 56, 3) := by decide +kernel
theorem dX2_turnHand_34 : decode cX2_turnHand 34 = .ok (.iconst 1, 1) := by decide +kernel
theorem dX2_turnHand_35 : decode cX2_turnHand 35 = .ok (.aload_n 0, 1) := by decide +kernel
theorem dX2_turnHand_36 : decode cX2_turnHand 36 = .ok (.getfield 33, 3) := by decide +kernel
theorem dX2_turnHand_39 : decode cX2_turnHand 39 = .ok (.aload_n 0, 1) := by decide +kernel
theorem dX2_turnHand_40 : decode cX2_turnHand 40 = .ok (.getfield 62, 3) := by decide +kernel
theorem dX2_turnHand_43 : decode cX2_turnHand 43 = .ok (.iaload, 1) := by decide +kernel
theorem dX2_turnHand_44 : decode cX2_turnHand 44 = .ok (.ishl, 1) := by decide +kernel
theorem dX2_turnHand_45 : decode cX2_turnHand 45 = .ok (.iconst (-1), 1) := by decide +kernel
theorem dX2_turnHand_46 : decode cX2_turnHand 46 = .ok (.ixor, 1) := by decide +kernel
theorem dX2_turnHand_47 : decode cX2_turnHand 47 = .ok (.iand, 1) := by decide +kernel
theorem dX2_turnHand_48 : decode cX2_turnHand 48 = .ok (.putfield 56, 3) := by decide +kernel
theorem dX2_turnHand_51 : decode cX2_turnHand 51 = .ok (.aload_n 0, 1) := by decide +kernel
theorem dX2_turnHand_52 : decode cX2_turnHand 52 = .ok (.invokevirtual 157, 3) := by decide +kernel
theorem dX2_turnHand_55 : decode cX2_turnHand 55 = .ok (.iinc 1 1, 3) := by decide +kernel
theorem dX2_turnHand_58 : decode cX2_turnHand 58 = .ok (.goto (-56), 3) := by decide +kernel
theorem dX2_turnHand_61 : decode cX2_turnHand 61 = .ok (.aload_n 0, 1) := by decide +kernel
theorem dX2_turnHand_62 : decode cX2_turnHand 62 = .ok (.getfield 33, 3) := by decide +kernel
theorem dX2_turnHand_65 : decode cX2_turnHand 65 = .ok (.aload_n 0, 1) := by decide +kernel
theorem dX2_turnHand_66 : decode cX2_turnHand 66 = .ok (.getfield 62, 3) := by decide +kernel
theorem dX2_turnHand_69 : decode cX2_turnHand 69 = .ok (.iaload, 1) := by decide +kernel
theorem dX2_turnHand_70 : decode cX2_turnHand 70 = .ok (.istore_n 1, 1) := by decide +kernel
theorem dX2_turnHand_71 : decode cX2_turnHand 71 = .ok (.aload_n 0, 1) := by decide +kernel
theorem dX2_turnHand_72 : decode cX2_turnHand 72 = .ok (.invokevirtual 157, 3) := by decide +kernel
theorem dX2_turnHand_75 : decode cX2_turnHand 75 = .ok (.iload_n 1, 1) := by decide +kernel
theorem dX2_turnHand_76 : decode cX2_turnHand 76 = .ok (.ireturn, 1) := by decide +kernel
theorem dX2_moveHandOn_0 : decode cX2_moveHandOn 0 = .ok (.aload_n 0, 1) := by decide +kernel
theorem dX2_moveHandOn_1 : decode cX2_moveHandOn 1 = .ok (.aload_n 0, 1) := by decide +kernel
theorem dX2_moveHandOn_2 : decode cX2_moveHandOn 2 = .ok (.getfield 62, 3) := by decide +kernel
theorem dX2_moveHandOn_5 : decode cX2_moveHandOn 5 = .ok (.iconst 1, 1) := by decide +kernel
theorem dX2_moveHandOn_6 : decode cX2_moveHandOn 6 = .ok (.iadd, 1) := by decide +kernel
theorem dX2_moveHandOn_7 : decode cX2_moveHandOn 7 = .ok (.aload_n 0, 1) := by decide +kernel
theorem dX2_moveHandOn_8 : decode cX2_moveHandOn 8 = .ok (.getfield 40, 3) := by decide +kernel
theorem dX2_moveHandOn_11 : decode cX2_moveHandOn 11 = .ok (.if_icmp .ge 12, 3) := by decide +kernel
theorem dX2_moveHandOn_14 : decode cX2_moveHandOn 14 = .ok (.aload_n 0, 1) := by decide +kernel
theorem dX2_moveHandOn_15 : decode cX2_moveHandOn 15 = .ok (.getfield 62, 3) := by decide +kernel
theorem dX2_moveHandOn_18 : decode cX2_moveHandOn 18 = .ok (.iconst 1, 1) := by decide +kernel
theorem dX2_moveHandOn_19 : decode cX2_moveHandOn 19 = .ok (.iadd, 1) := by decide +kernel
theorem dX2_moveHandOn_20 : decode cX2_moveHandOn 20 = .ok (.goto 4, 3) := by decide +kernel
theorem dX2_moveHandOn_23 : decode cX2_moveHandOn 23 = .ok (.iconst 0, 1) := by decide +kernel
theorem dX2_moveHandOn_24 : decode cX2_moveHandOn 24 = .ok (.putfield 62, 3) := by decide +kernel
theorem dX2_moveHandOn_27 : decode cX2_moveHandOn 27 = .ok (.return_, 1) := by decide +kernel
theorem dX2_partThatLoses_0 : decode cX2_partThatLoses 0 = .ok (.aload_n 0, 1) := by decide +kernel
theorem dX2_partThatLoses_1 : decode cX2_partThatLoses 1 = .ok (.getfield 15, 3) := by decide +kernel
theorem dX2_partThatLoses_4 : decode cX2_partThatLoses 4 = .ok (.iconst 1, 1) := by decide +kernel
theorem dX2_partThatLoses_5 : decode cX2_partThatLoses 5 = .ok (.iaload, 1) := by decide +kernel
theorem dX2_partThatLoses_6 : decode cX2_partThatLoses 6 = .ok (.iload_n 1, 1) := by decide +kernel
theorem dX2_partThatLoses_7 : decode cX2_partThatLoses 7 = .ok (.if_icmp .gt 12, 3) := by decide +kernel
theorem dX2_partThatLoses_10 : decode cX2_partThatLoses 10 = .ok (.aload_n 0, 1) := by decide +kernel
theorem dX2_partThatLoses_11 : decode cX2_partThatLoses 11 = .ok (.getfield 15, 3) := by decide +kernel
theorem dX2_partThatLoses_14 : decode cX2_partThatLoses 14 = .ok (.iconst 2, 1) := by decide +kernel
theorem dX2_partThatLoses_15 : decode cX2_partThatLoses 15 = .ok (.iaload, 1) := by decide +kernel
theorem dX2_partThatLoses_16 : decode cX2_partThatLoses 16 = .ok (.ifCond .ne 7, 3) := by decide +kernel
theorem dX2_partThatLoses_19 : decode cX2_partThatLoses 19 = .ok (.iconst 1, 1) := by decide +kernel
theorem dX2_partThatLoses_20 : decode cX2_partThatLoses 20 = .ok (.goto 4, 3) := by decide +kernel
theorem dX2_partThatLoses_23 : decode cX2_partThatLoses 23 = .ok (.iconst 2, 1) := by decide +kernel
theorem dX2_partThatLoses_24 : decode cX2_partThatLoses 24 = .ok (.ireturn, 1) := by decide +kernel
theorem dX2_firstOf_0 : decode cX2_firstOf 0 = .ok (.iconst 0, 1) := by decide +kernel
theorem dX2_firstOf_1 : decode cX2_firstOf 1 = .ok (.istore_n 2, 1) := by decide +kernel
theorem dX2_firstOf_2 : decode cX2_firstOf 2 = .ok (.iconst 0, 1) := by decide +kernel
theorem dX2_firstOf_3 : decode cX2_firstOf 3 = .ok (.istore_n 3, 1) := by decide +kernel
theorem dX2_firstOf_4 : decode cX2_firstOf 4 = .ok (.iconst 0, 1) := by decide +kernel
theorem dX2_firstOf_5 : decode cX2_firstOf 5 = .ok (.istore 4, 2) := by decide +kernel
theorem dX2_firstOf_7 : decode cX2_firstOf 7 = .ok (.iconst 0, 1) := by decide +kernel
theorem dX2_firstOf_8 : decode cX2_firstOf 8 = .ok (.istore 5, 2) := by decide +kernel
theorem dX2_firstOf_10 : decode cX2_firstOf 10 = .ok (.iload 5, 2) := by decide +kernel
theorem dX2_firstOf_12 : decode cX2_firstOf 12 = .ok (.bipush 16, 2) := by decide +kernel
theorem dX2_firstOf_14 : decode cX2_firstOf 14 = .ok (.if_icmp .ge 80, 3) := by decide +kernel
theorem dX2_firstOf_17 : decode cX2_firstOf 17 = .ok (.aload_n 0, 1) := by decide +kernel
theorem dX2_firstOf_18 : decode cX2_firstOf 18 = .ok (.getfield 44, 3) := by decide +kernel
theorem dX2_firstOf_21 : decode cX2_firstOf 21 = .ok (.iconst 2, 1) := by decide +kernel
theorem dX2_firstOf_22 : decode cX2_firstOf 22 = .ok (.if_icmp .ne 19, 3) := by decide +kernel
theorem dX2_firstOf_25 : decode cX2_firstOf 25 = .ok (.aload_n 0, 1) := by decide +kernel
theorem dX2_firstOf_26 : decode cX2_firstOf 26 = .ok (.getfield 56, 3) := by decide +kernel
theorem dX2_firstOf_29 : decode cX2_firstOf 29 = .ok (.iconst 1, 1) := by decide +kernel
theorem dX2_firstOf_30 : decode cX2_firstOf 30 = .ok (.iload 5, 2) := by decide +kernel
theorem dX2_firstOf_32 : decode cX2_firstOf 32 = .ok (.ishl, 1) := by decide +kernel
theorem dX2_firstOf_33 : decode cX2_firstOf 33 = .ok (.iand, 1) := by decide +kernel
theorem dX2_firstOf_34 : decode cX2_firstOf 34 = .ok (.ifCond .eq 7, 3) := by decide +kernel
theorem dX2_firstOf_37 : decode cX2_firstOf 37 = .ok (.iconst 1, 1) := by decide +kernel
theorem dX2_firstOf_38 : decode cX2_firstOf 38 = .ok (.goto 4, 3) := by decide +kernel
theorem dX2_firstOf_41 : decode cX2_firstOf 41 = .ok (.iconst 0, 1) := by decide +kernel
theorem dX2_firstOf_42 : decode cX2_firstOf 42 = .ok (.istore 6, 2) := by decide +kernel
theorem dX2_firstOf_44 : decode cX2_firstOf 44 = .ok (.aload_n 0, 1) := by decide +kernel
theorem dX2_firstOf_45 : decode cX2_firstOf 45 = .ok (.getfield 9, 3) := by decide +kernel
theorem dX2_firstOf_48 : decode cX2_firstOf 48 = .ok (.iload 5, 2) := by decide +kernel
theorem dX2_firstOf_50 : decode cX2_firstOf 50 = .ok (.iaload, 1) := by decide +kernel
theorem dX2_firstOf_51 : decode cX2_firstOf 51 = .ok (.iload_n 1, 1) := by decide +kernel
theorem dX2_firstOf_52 : decode cX2_firstOf 52 = .ok (.if_icmp .ne 36, 3) := by decide +kernel
theorem dX2_firstOf_55 : decode cX2_firstOf 55 = .ok (.iload 6, 2) := by decide +kernel
theorem dX2_firstOf_57 : decode cX2_firstOf 57 = .ok (.ifCond .ne 31, 3) := by decide +kernel
theorem dX2_firstOf_60 : decode cX2_firstOf 60 = .ok (.aload_n 0, 1) := by decide +kernel
theorem dX2_firstOf_61 : decode cX2_firstOf 61 = .ok (.iload 5, 2) := by decide +kernel
theorem dX2_firstOf_63 : decode cX2_firstOf 63 = .ok (.invokevirtual 160, 3) := by decide +kernel
theorem dX2_firstOf_66 : decode cX2_firstOf 66 = .ok (.istore 7, 2) := by decide +kernel
theorem dX2_firstOf_68 : decode cX2_firstOf 68 = .ok (.iload 4, 2) := by decide +kernel
theorem dX2_firstOf_70 : decode cX2_firstOf 70 = .ok (.ifCond .eq 9, 3) := by decide +kernel
theorem dX2_firstOf_73 : decode cX2_firstOf 73 = .ok (.iload 7, 2) := by decide +kernel
theorem dX2_firstOf_75 : decode cX2_firstOf 75 = .ok (.iload_n 3, 1) := by decide +kernel
theorem dX2_firstOf_76 : decode cX2_firstOf 76 = .ok (.if_icmp .ge 12, 3) := by decide +kernel
theorem dX2_firstOf_79 : decode cX2_firstOf 79 = .ok (.iload 5, 2) := by decide +kernel
theorem dX2_firstOf_81 : decode cX2_firstOf 81 = .ok (.istore_n 2, 1) := by decide +kernel
theorem dX2_firstOf_82 : decode cX2_firstOf 82 = .ok (.iload 7, 2) := by decide +kernel
theorem dX2_firstOf_84 : decode cX2_firstOf 84 = .ok (.istore_n 3, 1) := by decide +kernel
theorem dX2_firstOf_85 : decode cX2_firstOf 85 = .ok (.iconst 1, 1) := by decide +kernel
theorem dX2_firstOf_86 : decode cX2_firstOf 86 = .ok (.istore 4, 2) := by decide +kernel
theorem dX2_firstOf_88 : decode cX2_firstOf 88 = .ok (.iinc 5 1, 3) := by decide +kernel
theorem dX2_firstOf_91 : decode cX2_firstOf 91 = .ok (.goto (-81), 3) := by decide +kernel
theorem dX2_firstOf_94 : decode cX2_firstOf 94 = .ok (.iload_n 2, 1) := by decide +kernel
theorem dX2_firstOf_95 : decode cX2_firstOf 95 = .ok (.ireturn, 1) := by decide +kernel
theorem dX2_keyOf_0 : decode cX2_keyOf 0 = .ok (.aload_n 0, 1) := by decide +kernel
theorem dX2_keyOf_1 : decode cX2_keyOf 1 = .ok (.getfield 44, 3) := by decide +kernel
theorem dX2_keyOf_4 : decode cX2_keyOf 4 = .ok (.tableswitch 137 0 8 #[52, 137, 137, 137, 59, 77, 77, 103, 121], 52) := by decide +kernel
theorem dX2_keyOf_56 : decode cX2_keyOf 56 = .ok (.aload_n 0, 1) := by decide +kernel
theorem dX2_keyOf_57 : decode cX2_keyOf 57 = .ok (.getfield 18, 3) := by decide +kernel
theorem dX2_keyOf_60 : decode cX2_keyOf 60 = .ok (.iload_n 1, 1) := by decide +kernel
theorem dX2_keyOf_61 : decode cX2_keyOf 61 = .ok (.iaload, 1) := by decide +kernel
theorem dX2_keyOf_62 : decode cX2_keyOf 62 = .ok (.ireturn, 1) := by decide +kernel
theorem dX2_keyOf_63 : decode cX2_keyOf 63 = .ok (.aload_n 0, 1) := by decide +kernel
theorem dX2_keyOf_64 : decode cX2_keyOf 64 = .ok (.getfield 24, 3) := by decide +kernel
theorem dX2_keyOf_67 : decode cX2_keyOf 67 = .ok (.iload_n 1, 1) := by decide +kernel
theorem dX2_keyOf_68 : decode cX2_keyOf 68 = .ok (.iaload, 1) := by decide +kernel
theorem dX2_keyOf_69 : decode cX2_keyOf 69 = .ok (.sipush 300, 3) := by decide +kernel
theorem dX2_keyOf_72 : decode cX2_keyOf 72 = .ok (.imul, 1) := by decide +kernel
theorem dX2_keyOf_73 : decode cX2_keyOf 73 = .ok (.aload_n 0, 1) := by decide +kernel
theorem dX2_keyOf_74 : decode cX2_keyOf 74 = .ok (.getfield 21, 3) := by decide +kernel
theorem dX2_keyOf_77 : decode cX2_keyOf 77 = .ok (.iload_n 1, 1) := by decide +kernel
theorem dX2_keyOf_78 : decode cX2_keyOf 78 = .ok (.iaload, 1) := by decide +kernel
theorem dX2_keyOf_79 : decode cX2_keyOf 79 = .ok (.iadd, 1) := by decide +kernel
theorem dX2_keyOf_80 : decode cX2_keyOf 80 = .ok (.ireturn, 1) := by decide +kernel
theorem dX2_keyOf_81 : decode cX2_keyOf 81 = .ok (.aload_n 0, 1) := by decide +kernel
theorem dX2_keyOf_82 : decode cX2_keyOf 82 = .ok (.getfield 9, 3) := by decide +kernel
theorem dX2_keyOf_85 : decode cX2_keyOf 85 = .ok (.iload_n 1, 1) := by decide +kernel
theorem dX2_keyOf_86 : decode cX2_keyOf 86 = .ok (.iaload, 1) := by decide +kernel
theorem dX2_keyOf_87 : decode cX2_keyOf 87 = .ok (.iconst 2, 1) := by decide +kernel
theorem dX2_keyOf_88 : decode cX2_keyOf 88 = .ok (.if_icmp .ne 12, 3) := by decide +kernel
theorem dX2_keyOf_91 : decode cX2_keyOf 91 = .ok (.aload_n 0, 1) := by decide +kernel
theorem dX2_keyOf_92 : decode cX2_keyOf 92 = .ok (.getfield 21, 3) := by decide +kernel
theorem dX2_keyOf_95 : decode cX2_keyOf 95 = .ok (.iload_n 1, 1) := by decide +kernel
theorem dX2_keyOf_96 : decode cX2_keyOf 96 = .ok (.iaload, 1) := by decide +kernel
theorem dX2_keyOf_97 : decode cX2_keyOf 97 = .ok (.goto 9, 3) := by decide +kernel
theorem dX2_keyOf_100 : decode cX2_keyOf 100 = .ok (.aload_n 0, 1) := by decide +kernel
theorem dX2_keyOf_101 : decode cX2_keyOf 101 = .ok (.getfield 18, 3) := by decide +kernel
theorem dX2_keyOf_104 : decode cX2_keyOf 104 = .ok (.iload_n 1, 1) := by decide +kernel
theorem dX2_keyOf_105 : decode cX2_keyOf 105 = .ok (.iaload, 1) := by decide +kernel
theorem dX2_keyOf_106 : decode cX2_keyOf 106 = .ok (.ireturn, 1) := by decide +kernel
theorem dX2_keyOf_107 : decode cX2_keyOf 107 = .ok (.aload_n 0, 1) := by decide +kernel
theorem dX2_keyOf_108 : decode cX2_keyOf 108 = .ok (.getfield 27, 3) := by decide +kernel
theorem dX2_keyOf_111 : decode cX2_keyOf 111 = .ok (.iload_n 1, 1) := by decide +kernel
theorem dX2_keyOf_112 : decode cX2_keyOf 112 = .ok (.iaload, 1) := by decide +kernel
theorem dX2_keyOf_113 : decode cX2_keyOf 113 = .ok (.sipush 300, 3) := by decide +kernel
theorem dX2_keyOf_116 : decode cX2_keyOf 116 = .ok (.imul, 1) := by decide +kernel
theorem dX2_keyOf_117 : decode cX2_keyOf 117 = .ok (.aload_n 0, 1) := by decide +kernel
theorem dX2_keyOf_118 : decode cX2_keyOf 118 = .ok (.getfield 21, 3) := by decide +kernel
theorem dX2_keyOf_121 : decode cX2_keyOf 121 = .ok (.iload_n 1, 1) := by decide +kernel
theorem dX2_keyOf_122 : decode cX2_keyOf 122 = .ok (.iaload, 1) := by decide +kernel
theorem dX2_keyOf_123 : decode cX2_keyOf 123 = .ok (.iadd, 1) := by decide +kernel
theorem dX2_keyOf_124 : decode cX2_keyOf 124 = .ok (.ireturn, 1) := by decide +kernel
theorem dX2_keyOf_125 : decode cX2_keyOf 125 = .ok (.aload_n 0, 1) := by decide +kernel
theorem dX2_keyOf_126 : decode cX2_keyOf 126 = .ok (.getfield 36, 3) := by decide +kernel
theorem dX2_keyOf_129 : decode cX2_keyOf 129 = .ok (.getfield 163, 3) := by decide +kernel
theorem dX2_keyOf_132 : decode cX2_keyOf 132 = .ok (.aload_n 0, 1) := by decide +kernel
theorem dX2_keyOf_133 : decode cX2_keyOf 133 = .ok (.getfield 21, 3) := by decide +kernel
theorem dX2_keyOf_136 : decode cX2_keyOf 136 = .ok (.iload_n 1, 1) := by decide +kernel
theorem dX2_keyOf_137 : decode cX2_keyOf 137 = .ok (.iaload, 1) := by decide +kernel
theorem dX2_keyOf_138 : decode cX2_keyOf 138 = .ok (.iaload, 1) := by decide +kernel
theorem dX2_keyOf_139 : decode cX2_keyOf 139 = .ok (.ineg, 1) := by decide +kernel
theorem dX2_keyOf_140 : decode cX2_keyOf 140 = .ok (.ireturn, 1) := by decide +kernel
theorem dX2_keyOf_141 : decode cX2_keyOf 141 = .ok (.aload_n 0, 1) := by decide +kernel
theorem dX2_keyOf_142 : decode cX2_keyOf 142 = .ok (.getfield 21, 3) := by decide +kernel
theorem dX2_keyOf_145 : decode cX2_keyOf 145 = .ok (.iload_n 1, 1) := by decide +kernel
theorem dX2_keyOf_146 : decode cX2_keyOf 146 = .ok (.iaload, 1) := by decide +kernel
theorem dX2_keyOf_147 : decode cX2_keyOf 147 = .ok (.ireturn, 1) := by decide +kernel
theorem dX2_takeAway_0 : decode cX2_takeAway 0 = .ok (.aload_n 0, 1) := by decide +kernel
theorem dX2_takeAway_1 : decode cX2_takeAway 1 = .ok (.getfield 44, 3) := by decide +kernel
theorem dX2_takeAway_4 : decode cX2_takeAway 4 = .ok (.bipush 7, 2) := by decide +kernel
theorem dX2_takeAway_6 : decode cX2_takeAway 6 = .ok (.if_icmp .ne 13, 3) := by decide +kernel
theorem dX2_takeAway_9 : decode cX2_takeAway 9 = .ok (.aload_n 0, 1) := by decide +kernel
theorem dX2_takeAway_10 : decode cX2_takeAway 10 = .ok (.aload_n 0, 1) := by decide +kernel
theorem dX2_takeAway_11 : decode cX2_takeAway 11 = .ok (.getfield 27, 3) := by decide +kernel
theorem dX2_takeAway_14 : decode cX2_takeAway 14 = .ok (.iload_n 1, 1) := by decide +kernel
theorem dX2_takeAway_15 : decode cX2_takeAway 15 = .ok (.iaload, 1) := by decide +kernel
theorem dX2_takeAway_16 : decode cX2_takeAway 16 = .ok (.putfield 68, 3) := by decide +kernel
theorem dX2_takeAway_19 : decode cX2_takeAway 19 = .ok (.aload_n 0, 1) := by decide +kernel
theorem dX2_takeAway_20 : decode cX2_takeAway 20 = .ok (.iload_n 1, 1) := by decide +kernel
theorem dX2_takeAway_21 : decode cX2_takeAway 21 = .ok (.invokevirtual 166, 3) := by decide +kernel
theorem dX2_takeAway_24 : decode cX2_takeAway 24 = .ok (.istore_n 2, 1) := by decide +kernel
theorem dX2_takeAway_25 : decode cX2_takeAway 25 = .ok (.iload_n 2, 1) := by decide +kernel
theorem dX2_takeAway_26 : decode cX2_takeAway 26 = .ok (.ifCond .eq 26, 3) := by decide +kernel
theorem dX2_takeAway_29 : decode cX2_takeAway 29 = .ok (.aload_n 0, 1) := by decide +kernel
theorem dX2_takeAway_30 : decode cX2_takeAway 30 = .ok (.getfield 15, 3) := by decide +kernel
theorem dX2_takeAway_33 : decode cX2_takeAway 33 = .ok (.iload_n 2, 1) := by decide +kernel
theorem dX2_takeAway_34 : decode cX2_takeAway 34 = .ok (.iaload, 1) := by decide +kernel
theorem dX2_takeAway_35 : decode cX2_takeAway 35 = .ok (.aload_n 0, 1) := by decide +kernel
theorem dX2_takeAway_36 : decode cX2_takeAway 36 = .ok (.getfield 40, 3) := by decide +kernel
theorem dX2_takeAway_39 : decode cX2_takeAway 39 = .ok (.if_icmp .lt 13, 3) := by decide +kernel
theorem dX2_takeAway_42 : decode cX2_takeAway 42 = .ok (.aload_n 0, 1) := by decide +kernel
theorem dX2_takeAway_43 : decode cX2_takeAway 43 = .ok (.aload_n 0, 1) := by decide +kernel
theorem dX2_takeAway_44 : decode cX2_takeAway 44 = .ok (.iload_n 2, 1) := by decide +kernel
theorem dX2_takeAway_45 : decode cX2_takeAway 45 = .ok (.invokevirtual 143, 3) := by decide +kernel
theorem dX2_takeAway_48 : decode cX2_takeAway 48 = .ok (.iconst 0, 1) := by decide +kernel
theorem dX2_takeAway_49 : decode cX2_takeAway 49 = .ok (.invokevirtual 116, 3) := by decide +kernel
theorem dX2_takeAway_52 : decode cX2_takeAway 52 = .ok (.aload_n 0, 1) := by decide +kernel
theorem dX2_takeAway_53 : decode cX2_takeAway 53 = .ok (.iload_n 1, 1) := by decide +kernel
theorem dX2_takeAway_54 : decode cX2_takeAway 54 = .ok (.iload_n 2, 1) := by decide +kernel
theorem dX2_takeAway_55 : decode cX2_takeAway 55 = .ok (.invokevirtual 116, 3) := by decide +kernel
theorem dX2_takeAway_58 : decode cX2_takeAway 58 = .ok (.return_, 1) := by decide +kernel
theorem dX2_bookFor_0 : decode cX2_bookFor 0 = .ok (.aload_n 0, 1) := by decide +kernel
theorem dX2_bookFor_1 : decode cX2_bookFor 1 = .ok (.invokevirtual 112, 3) := by decide +kernel
theorem dX2_bookFor_4 : decode cX2_bookFor 4 = .ok (.ifCond .eq 15, 3) := by decide +kernel
theorem dX2_bookFor_7 : decode cX2_bookFor 7 = .ok (.aload_n 0, 1) := by decide +kernel
theorem dX2_bookFor_8 : decode cX2_bookFor 8 = .ok (.getfield 9, 3) := by decide +kernel
theorem dX2_bookFor_11 : decode cX2_bookFor 11 = .ok (.iload_n 1, 1) := by decide +kernel
theorem dX2_bookFor_12 : decode cX2_bookFor 12 = .ok (.iaload, 1) := by decide +kernel
theorem dX2_bookFor_13 : decode cX2_bookFor 13 = .ok (.iconst 1, 1) := by decide +kernel
theorem dX2_bookFor_14 : decode cX2_bookFor 14 = .ok (.if_icmp .ne 5, 3) := by decide +kernel
theorem dX2_bookFor_17 : decode cX2_bookFor 17 = .ok (.iconst 3, 1) := by decide +kernel
theorem dX2_bookFor_18 : decode cX2_bookFor 18 = .ok (.ireturn, 1) := by decide +kernel
theorem dX2_bookFor_19 : decode cX2_bookFor 19 = .ok (.aload_n 0, 1) := by decide +kernel
theorem dX2_bookFor_20 : decode cX2_bookFor 20 = .ok (.getfield 44, 3) := by decide +kernel
theorem dX2_bookFor_23 : decode cX2_bookFor 23 = .ok (.bipush 6, 2) := by decide +kernel
theorem dX2_bookFor_25 : decode cX2_bookFor 25 = .ok (.if_icmp .ne 7, 3) := by decide +kernel
theorem dX2_bookFor_28 : decode cX2_bookFor 28 = .ok (.iconst 4, 1) := by decide +kernel
theorem dX2_bookFor_29 : decode cX2_bookFor 29 = .ok (.goto 4, 3) := by decide +kernel
theorem dX2_bookFor_32 : decode cX2_bookFor 32 = .ok (.iconst 0, 1) := by decide +kernel
theorem dX2_bookFor_33 : decode cX2_bookFor 33 = .ok (.ireturn, 1) := by decide +kernel
theorem dX2_move_0 : decode cX2_move 0 = .ok (.aload_n 0, 1) := by decide +kernel
theorem dX2_move_1 : decode cX2_move 1 = .ok (.getfield 15, 3) := by decide +kernel
theorem dX2_move_4 : decode cX2_move 4 = .ok (.aload_n 0, 1) := by decide +kernel
theorem dX2_move_5 : decode cX2_move 5 = .ok (.getfield 9, 3) := by decide +kernel
theorem dX2_move_8 : decode cX2_move 8 = .ok (.iload_n 1, 1) := by decide +kernel
theorem dX2_move_9 : decode cX2_move 9 = .ok (.iaload, 1) := by decide +kernel
theorem dX2_move_10 : decode cX2_move 10 = .ok (.dup2, 1) := by decide +kernel
theorem dX2_move_11 : decode cX2_move 11 = .ok (.iaload, 1) := by decide +kernel
theorem dX2_move_12 : decode cX2_move 12 = .ok (.iconst 1, 1) := by decide +kernel
theorem dX2_move_13 : decode cX2_move 13 = .ok (.isub, 1) := by decide +kernel
theorem dX2_move_14 : decode cX2_move 14 = .ok (.iastore, 1) := by decide +kernel
theorem dX2_move_15 : decode cX2_move 15 = .ok (.aload_n 0, 1) := by decide +kernel
theorem dX2_move_16 : decode cX2_move 16 = .ok (.getfield 15, 3) := by decide +kernel
theorem dX2_move_19 : decode cX2_move 19 = .ok (.iload_n 2, 1) := by decide +kernel
theorem dX2_move_20 : decode cX2_move 20 = .ok (.dup2, 1) := by decide +kernel
theorem dX2_move_21 : decode cX2_move 21 = .ok (.iaload, 1) := by decide +kernel
theorem dX2_move_22 : decode cX2_move 22 = .ok (.iconst 1, 1) := by decide +kernel
theorem dX2_move_23 : decode cX2_move 23 = .ok (.iadd, 1) := by decide +kernel
theorem dX2_move_24 : decode cX2_move 24 = .ok (.iastore, 1) := by decide +kernel
theorem dX2_move_25 : decode cX2_move 25 = .ok (.aload_n 0, 1) := by decide +kernel
theorem dX2_move_26 : decode cX2_move 26 = .ok (.getfield 9, 3) := by decide +kernel
theorem dX2_move_29 : decode cX2_move 29 = .ok (.iload_n 1, 1) := by decide +kernel
theorem dX2_move_30 : decode cX2_move 30 = .ok (.iload_n 2, 1) := by decide +kernel
theorem dX2_move_31 : decode cX2_move 31 = .ok (.iastore, 1) := by decide +kernel
theorem dX2_move_32 : decode cX2_move 32 = .ok (.aload_n 0, 1) := by decide +kernel
theorem dX2_move_33 : decode cX2_move 33 = .ok (.getfield 18, 3) := by decide +kernel
theorem dX2_move_36 : decode cX2_move 36 = .ok (.iload_n 1, 1) := by decide +kernel
theorem dX2_move_37 : decode cX2_move 37 = .ok (.aload_n 0, 1) := by decide +kernel
theorem dX2_move_38 : decode cX2_move 38 = .ok (.getfield 53, 3) := by decide +kernel
theorem dX2_move_41 : decode cX2_move 41 = .ok (.iastore, 1) := by decide +kernel
theorem dX2_move_42 : decode cX2_move 42 = .ok (.return_, 1) := by decide +kernel
theorem dX2_knowsOfThing_0 : decode cX2_knowsOfThing 0 = .ok (.iload_n 1, 1) := by decide +kernel
theorem dX2_knowsOfThing_1 : decode cX2_knowsOfThing 1 = .ok (.tableswitch 87 2 5 #[31, 53, 67, 72], 31) := by decide +kernel
theorem dX2_knowsOfThing_32 : decode cX2_knowsOfThing 32 = .ok (.aload_n 0, 1) := by decide +kernel
theorem dX2_knowsOfThing_33 : decode cX2_knowsOfThing 33 = .ok (.getfield 44, 3) := by decide +kernel
theorem dX2_knowsOfThing_36 : decode cX2_knowsOfThing 36 = .ok (.iconst 2, 1) := by decide +kernel
theorem dX2_knowsOfThing_37 : decode cX2_knowsOfThing 37 = .ok (.if_icmp .eq 11, 3) := by decide +kernel
theorem dX2_knowsOfThing_40 : decode cX2_knowsOfThing 40 = .ok (.aload_n 0, 1) := by decide +kernel
theorem dX2_knowsOfThing_41 : decode cX2_knowsOfThing 41 = .ok (.getfield 44, 3) := by decide +kernel
theorem dX2_knowsOfThing_44 : decode cX2_knowsOfThing 44 = .ok (.iconst 3, 1) := by decide +kernel
theorem dX2_knowsOfThing_45 : decode cX2_knowsOfThing 45 = .ok (.if_icmp .ne 7, 3) := by decide +kernel
theorem dX2_knowsOfThing_48 : decode cX2_knowsOfThing 48 = .ok (.iconst 1, 1) := by decide +kernel
theorem dX2_knowsOfThing_49 : decode cX2_knowsOfThing 49 = .ok (.goto 4, 3) := by decide +kernel
theorem dX2_knowsOfThing_52 : decode cX2_knowsOfThing 52 = .ok (.iconst 0, 1) := by decide +kernel
theorem dX2_knowsOfThing_53 : decode cX2_knowsOfThing 53 = .ok (.ireturn, 1) := by decide +kernel
theorem dX2_knowsOfThing_54 : decode cX2_knowsOfThing 54 = .ok (.aload_n 0, 1) := by decide +kernel
theorem dX2_knowsOfThing_55 : decode cX2_knowsOfThing 55 = .ok (.getfield 44, 3) := by decide +kernel
theorem dX2_knowsOfThing_58 : decode cX2_knowsOfThing 58 = .ok (.iconst 3, 1) := by decide +kernel
theorem dX2_knowsOfThing_59 : decode cX2_knowsOfThing 59 = .ok (.if_icmp .ne 7, 3) := by decide +kernel
theorem dX2_knowsOfThing_62 : decode cX2_knowsOfThing 62 = .ok (.iconst 1, 1) := by decide +kernel
theorem dX2_knowsOfThing_63 : decode cX2_knowsOfThing 63 = .ok (.goto 4, 3) := by decide +kernel
theorem dX2_knowsOfThing_66 : decode cX2_knowsOfThing 66 = .ok (.iconst 0, 1) := by decide +kernel
theorem dX2_knowsOfThing_67 : decode cX2_knowsOfThing 67 = .ok (.ireturn, 1) := by decide +kernel
theorem dX2_knowsOfThing_68 : decode cX2_knowsOfThing 68 = .ok (.aload_n 0, 1) := by decide +kernel
theorem dX2_knowsOfThing_69 : decode cX2_knowsOfThing 69 = .ok (.invokevirtual 112, 3) := by decide +kernel
theorem dX2_knowsOfThing_72 : decode cX2_knowsOfThing 72 = .ok (.ireturn, 1) := by decide +kernel
theorem dX2_knowsOfThing_73 : decode cX2_knowsOfThing 73 = .ok (.aload_n 0, 1) := by decide +kernel
theorem dX2_knowsOfThing_74 : decode cX2_knowsOfThing 74 = .ok (.getfield 44, 3) := by decide +kernel
theorem dX2_knowsOfThing_77 : decode cX2_knowsOfThing 77 = .ok (.bipush 7, 2) := by decide +kernel
theorem dX2_knowsOfThing_79 : decode cX2_knowsOfThing 79 = .ok (.if_icmp .ne 7, 3) := by decide +kernel
theorem dX2_knowsOfThing_82 : decode cX2_knowsOfThing 82 = .ok (.iconst 1, 1) := by decide +kernel
theorem dX2_knowsOfThing_83 : decode cX2_knowsOfThing 83 = .ok (.goto 4, 3) := by decide +kernel
theorem dX2_knowsOfThing_86 : decode cX2_knowsOfThing 86 = .ok (.iconst 0, 1) := by decide +kernel
theorem dX2_knowsOfThing_87 : decode cX2_knowsOfThing 87 = .ok (.ireturn, 1) := by decide +kernel
theorem dX2_knowsOfThing_88 : decode cX2_knowsOfThing 88 = .ok (.iconst 1, 1) := by decide +kernel
theorem dX2_knowsOfThing_89 : decode cX2_knowsOfThing 89 = .ok (.ireturn, 1) := by decide +kernel
theorem dX2_tellOfThing_0 : decode cX2_tellOfThing 0 = .ok (.iload_n 2, 1) := by decide +kernel
theorem dX2_tellOfThing_1 : decode cX2_tellOfThing 1 = .ok (.tableswitch 103 0 4 #[35, 49, 68, 77, 96], 35) := by decide +kernel
theorem dX2_tellOfThing_36 : decode cX2_tellOfThing 36 = .ok (.aload_n 0, 1) := by decide +kernel
theorem dX2_tellOfThing_37 : decode cX2_tellOfThing 37 = .ok (.iload_n 1, 1) := by decide +kernel
theorem dX2_tellOfThing_38 : decode cX2_tellOfThing 38 = .ok (.invokevirtual 98, 3) := by decide +kernel
theorem dX2_tellOfThing_41 : decode cX2_tellOfThing 41 = .ok (.ifCond .eq 7, 3) := by decide +kernel
theorem dX2_tellOfThing_44 : decode cX2_tellOfThing 44 = .ok (.iconst 1, 1) := by decide +kernel
theorem dX2_tellOfThing_45 : decode cX2_tellOfThing 45 = .ok (.goto 4, 3) := by decide +kernel
theorem dX2_tellOfThing_48 : decode cX2_tellOfThing 48 = .ok (.iconst 0, 1) := by decide +kernel
theorem dX2_tellOfThing_49 : decode cX2_tellOfThing 49 = .ok (.ireturn, 1) := by decide +kernel
theorem dX2_tellOfThing_50 : decode cX2_tellOfThing 50 = .ok (.aload_n 0, 1) := by decide +kernel
theorem dX2_tellOfThing_51 : decode cX2_tellOfThing 51 = .ok (.iload_n 1, 1) := by decide +kernel
theorem dX2_tellOfThing_52 : decode cX2_tellOfThing 52 = .ok (.invokevirtual 98, 3) := by decide +kernel
theorem dX2_tellOfThing_55 : decode cX2_tellOfThing 55 = .ok (.ifCond .eq 12, 3) := by decide +kernel
theorem dX2_tellOfThing_58 : decode cX2_tellOfThing 58 = .ok (.aload_n 0, 1) := by decide +kernel
theorem dX2_tellOfThing_59 : decode cX2_tellOfThing 59 = .ok (.getfield 24, 3) := by decide +kernel
theorem dX2_tellOfThing_62 : decode cX2_tellOfThing 62 = .ok (.iload_n 1, 1) := by decide +kernel
theorem dX2_tellOfThing_63 : decode cX2_tellOfThing 63 = .ok (.iaload, 1) := by decide +kernel
theorem dX2_tellOfThing_64 : decode cX2_tellOfThing 64 = .ok (.goto 4, 3) := by decide +kernel
theorem dX2_tellOfThing_67 : decode cX2_tellOfThing 67 = .ok (.iconst 0, 1) := by decide +kernel
theorem dX2_tellOfThing_68 : decode cX2_tellOfThing 68 = .ok (.ireturn, 1) := by decide +kernel
theorem dX2_tellOfThing_69 : decode cX2_tellOfThing 69 = .ok (.aload_n 0, 1) := by decide +kernel
theorem dX2_tellOfThing_70 : decode cX2_tellOfThing 70 = .ok (.getfield 56, 3) := by decide +kernel
theorem dX2_tellOfThing_73 : decode cX2_tellOfThing 73 = .ok (.iload_n 1, 1) := by decide +kernel
theorem dX2_tellOfThing_74 : decode cX2_tellOfThing 74 = .ok (.ishr, 1) := by decide +kernel
theorem dX2_tellOfThing_75 : decode cX2_tellOfThing 75 = .ok (.iconst 1, 1) := by decide +kernel
theorem dX2_tellOfThing_76 : decode cX2_tellOfThing 76 = .ok (.iand, 1) := by decide +kernel
theorem dX2_tellOfThing_77 : decode cX2_tellOfThing 77 = .ok (.ireturn, 1) := by decide +kernel
theorem dX2_tellOfThing_78 : decode cX2_tellOfThing 78 = .ok (.aload_n 0, 1) := by decide +kernel
theorem dX2_tellOfThing_79 : decode cX2_tellOfThing 79 = .ok (.iload_n 1, 1) := by decide +kernel
theorem dX2_tellOfThing_80 : decode cX2_tellOfThing 80 = .ok (.invokevirtual 98, 3) := by decide +kernel
theorem dX2_tellOfThing_83 : decode cX2_tellOfThing 83 = .ok (.ifCond .eq 12, 3) := by decide +kernel
theorem dX2_tellOfThing_86 : decode cX2_tellOfThing 86 = .ok (.aload_n 0, 1) := by decide +kernel
theorem dX2_tellOfThing_87 : decode cX2_tellOfThing 87 = .ok (.getfield 30, 3) := by decide +kernel
theorem dX2_tellOfThing_90 : decode cX2_tellOfThing 90 = .ok (.iload_n 1, 1) := by decide +kernel
theorem dX2_tellOfThing_91 : decode cX2_tellOfThing 91 = .ok (.iaload, 1) := by decide +kernel
theorem dX2_tellOfThing_92 : decode cX2_tellOfThing 92 = .ok (.goto 4, 3) := by decide +kernel
theorem dX2_tellOfThing_95 : decode cX2_tellOfThing 95 = .ok (.iconst (-1), 1) := by decide +kernel
theorem dX2_tellOfThing_96 : decode cX2_tellOfThing 96 = .ok (.ireturn, 1) := by decide +kernel
theorem dX2_tellOfThing_97 : decode cX2_tellOfThing 97 = .ok (.aload_n 0, 1) := by decide +kernel
theorem dX2_tellOfThing_98 : decode cX2_tellOfThing 98 = .ok (.getfield 9, 3) := by decide +kernel
theorem dX2_tellOfThing_101 : decode cX2_tellOfThing 101 = .ok (.iload_n 1, 1) := by decide +kernel
theorem dX2_tellOfThing_102 : decode cX2_tellOfThing 102 = .ok (.iaload, 1) := by decide +kernel
theorem dX2_tellOfThing_103 : decode cX2_tellOfThing 103 = .ok (.ireturn, 1) := by decide +kernel
theorem dX2_tellOfThing_104 : decode cX2_tellOfThing 104 = .ok (.aload_n 0, 1) := by decide +kernel
theorem dX2_tellOfThing_105 : decode cX2_tellOfThing 105 = .ok (.iload_n 1, 1) := by decide +kernel
theorem dX2_tellOfThing_106 : decode cX2_tellOfThing 106 = .ok (.invokevirtual 98, 3) := by decide +kernel
theorem dX2_tellOfThing_109 : decode cX2_tellOfThing 109 = .ok (.ifCond .eq 12, 3) := by decide +kernel
theorem dX2_tellOfThing_112 : decode cX2_tellOfThing 112 = .ok (.aload_n 0, 1) := by decide +kernel
theorem dX2_tellOfThing_113 : decode cX2_tellOfThing 113 = .ok (.getfield 27, 3) := by decide +kernel
theorem dX2_tellOfThing_116 : decode cX2_tellOfThing 116 = .ok (.iload_n 1, 1) := by decide +kernel
theorem dX2_tellOfThing_117 : decode cX2_tellOfThing 117 = .ok (.iaload, 1) := by decide +kernel
theorem dX2_tellOfThing_118 : decode cX2_tellOfThing 118 = .ok (.goto 4, 3) := by decide +kernel
theorem dX2_tellOfThing_121 : decode cX2_tellOfThing 121 = .ok (.iconst 0, 1) := by decide +kernel
theorem dX2_tellOfThing_122 : decode cX2_tellOfThing 122 = .ok (.ireturn, 1) := by decide +kernel
theorem dX2_knowsOfAll_0 : decode cX2_knowsOfAll 0 = .ok (.iload_n 1, 1) := by decide +kernel
theorem dX2_knowsOfAll_1 : decode cX2_knowsOfAll 1 = .ok (.tableswitch 89 1 4 #[31, 45, 59, 74], 31) := by decide +kernel
theorem dX2_knowsOfAll_32 : decode cX2_knowsOfAll 32 = .ok (.aload_n 0, 1) := by decide +kernel
theorem dX2_knowsOfAll_33 : decode cX2_knowsOfAll 33 = .ok (.getfield 44, 3) := by decide +kernel
theorem dX2_knowsOfAll_36 : decode cX2_knowsOfAll 36 = .ok (.iconst 2, 1) := by decide +kernel
theorem dX2_knowsOfAll_37 : decode cX2_knowsOfAll 37 = .ok (.if_icmp .ne 7, 3) := by decide +kernel
theorem dX2_knowsOfAll_40 : decode cX2_knowsOfAll 40 = .ok (.iconst 1, 1) := by decide +kernel
theorem dX2_knowsOfAll_41 : decode cX2_knowsOfAll 41 = .ok (.goto 4, 3) := by decide +kernel
theorem dX2_knowsOfAll_44 : decode cX2_knowsOfAll 44 = .ok (.iconst 0, 1) := by decide +kernel
theorem dX2_knowsOfAll_45 : decode cX2_knowsOfAll 45 = .ok (.ireturn, 1) := by decide +kernel
theorem dX2_knowsOfAll_46 : decode cX2_knowsOfAll 46 = .ok (.aload_n 0, 1) := by decide +kernel
theorem dX2_knowsOfAll_47 : decode cX2_knowsOfAll 47 = .ok (.getfield 44, 3) := by decide +kernel
theorem dX2_knowsOfAll_50 : decode cX2_knowsOfAll 50 = .ok (.iconst 3, 1) := by decide +kernel
theorem dX2_knowsOfAll_51 : decode cX2_knowsOfAll 51 = .ok (.if_icmp .ne 7, 3) := by decide +kernel
theorem dX2_knowsOfAll_54 : decode cX2_knowsOfAll 54 = .ok (.iconst 1, 1) := by decide +kernel
theorem dX2_knowsOfAll_55 : decode cX2_knowsOfAll 55 = .ok (.goto 4, 3) := by decide +kernel
theorem dX2_knowsOfAll_58 : decode cX2_knowsOfAll 58 = .ok (.iconst 0, 1) := by decide +kernel
theorem dX2_knowsOfAll_59 : decode cX2_knowsOfAll 59 = .ok (.ireturn, 1) := by decide +kernel
theorem dX2_knowsOfAll_60 : decode cX2_knowsOfAll 60 = .ok (.aload_n 0, 1) := by decide +kernel
theorem dX2_knowsOfAll_61 : decode cX2_knowsOfAll 61 = .ok (.getfield 44, 3) := by decide +kernel
theorem dX2_knowsOfAll_64 : decode cX2_knowsOfAll 64 = .ok (.bipush 6, 2) := by decide +kernel
theorem dX2_knowsOfAll_66 : decode cX2_knowsOfAll 66 = .ok (.if_icmp .ne 7, 3) := by decide +kernel
theorem dX2_knowsOfAll_69 : decode cX2_knowsOfAll 69 = .ok (.iconst 1, 1) := by decide +kernel
theorem dX2_knowsOfAll_70 : decode cX2_knowsOfAll 70 = .ok (.goto 4, 3) := by decide +kernel
theorem dX2_knowsOfAll_73 : decode cX2_knowsOfAll 73 = .ok (.iconst 0, 1) := by decide +kernel
theorem dX2_knowsOfAll_74 : decode cX2_knowsOfAll 74 = .ok (.ireturn, 1) := by decide +kernel
theorem dX2_knowsOfAll_75 : decode cX2_knowsOfAll 75 = .ok (.aload_n 0, 1) := by decide +kernel
theorem dX2_knowsOfAll_76 : decode cX2_knowsOfAll 76 = .ok (.getfield 44, 3) := by decide +kernel
theorem dX2_knowsOfAll_79 : decode cX2_knowsOfAll 79 = .ok (.bipush 7, 2) := by decide +kernel
theorem dX2_knowsOfAll_81 : decode cX2_knowsOfAll 81 = .ok (.if_icmp .ne 7, 3) := by decide +kernel
theorem dX2_knowsOfAll_84 : decode cX2_knowsOfAll 84 = .ok (.iconst 1, 1) := by decide +kernel
theorem dX2_knowsOfAll_85 : decode cX2_knowsOfAll 85 = .ok (.goto 4, 3) := by decide +kernel
theorem dX2_knowsOfAll_88 : decode cX2_knowsOfAll 88 = .ok (.iconst 0, 1) := by decide +kernel
theorem dX2_knowsOfAll_89 : decode cX2_knowsOfAll 89 = .ok (.ireturn, 1) := by decide +kernel
theorem dX2_knowsOfAll_90 : decode cX2_knowsOfAll 90 = .ok (.iconst 1, 1) := by decide +kernel
theorem dX2_knowsOfAll_91 : decode cX2_knowsOfAll 91 = .ok (.ireturn, 1) := by decide +kernel
theorem dX2_tellOfAll_0 : decode cX2_tellOfAll 0 = .ok (.iload_n 1, 1) := by decide +kernel
theorem dX2_tellOfAll_1 : decode cX2_tellOfAll 1 = .ok (.tableswitch 51 1 4 #[31, 36, 41, 46], 31) := by decide +kernel
theorem dX2_tellOfAll_32 : decode cX2_tellOfAll 32 = .ok (.aload_n 0, 1) := by decide +kernel
theorem dX2_tellOfAll_33 : decode cX2_tellOfAll 33 = .ok (.getfield 59, 3) := by decide +kernel
theorem dX2_tellOfAll_36 : decode cX2_tellOfAll 36 = .ok (.ireturn, 1) := by decide +kernel
theorem dX2_tellOfAll_37 : decode cX2_tellOfAll 37 = .ok (.aload_n 0, 1) := by decide +kernel
theorem dX2_tellOfAll_38 : decode cX2_tellOfAll 38 = .ok (.getfield 62, 3) := by decide +kernel
theorem dX2_tellOfAll_41 : decode cX2_tellOfAll 41 = .ok (.ireturn, 1) := by decide +kernel
theorem dX2_tellOfAll_42 : decode cX2_tellOfAll 42 = .ok (.aload_n 0, 1) := by decide +kernel
theorem dX2_tellOfAll_43 : decode cX2_tellOfAll 43 = .ok (.getfield 65, 3) := by decide +kernel
theorem dX2_tellOfAll_46 : decode cX2_tellOfAll 46 = .ok (.ireturn, 1) := by decide +kernel
theorem dX2_tellOfAll_47 : decode cX2_tellOfAll 47 = .ok (.aload_n 0, 1) := by decide +kernel
theorem dX2_tellOfAll_48 : decode cX2_tellOfAll 48 = .ok (.getfield 68, 3) := by decide +kernel
theorem dX2_tellOfAll_51 : decode cX2_tellOfAll 51 = .ok (.ireturn, 1) := by decide +kernel
theorem dX2_tellOfAll_52 : decode cX2_tellOfAll 52 = .ok (.aload_n 0, 1) := by decide +kernel
theorem dX2_tellOfAll_53 : decode cX2_tellOfAll 53 = .ok (.invokevirtual 122, 3) := by decide +kernel
theorem dX2_tellOfAll_56 : decode cX2_tellOfAll 56 = .ok (.ireturn, 1) := by decide +kernel
