theorem dX0_init_0 : decode cX0_init 0 = .ok (.aload_n 0, 1) := by decide +kernel
theorem dX0_init_1 : decode cX0_init 1 = .ok (.invokespecial 3, 3) := by decide +kernel
theorem dX0_init_4 : decode cX0_init 4 = .ok (.aload_n 0, 1) := by decide +kernel
theorem dX0_init_5 : decode cX0_init 5 = .ok (.bipush 16, 2) := by decide +kernel
theorem dX0_init_7 : decode cX0_init 7 = .ok (.newarray .int, 2) := by decide +kernel
theorem dX0_init_9 : decode cX0_init 9 = .ok (.putfield 9, 3) := by decide +kernel
theorem dX0_init_12 : decode cX0_init 12 = .ok (.aload_n 0, 1) := by decide +kernel
theorem dX0_init_13 : decode cX0_init 13 = .ok (.bipush 16, 2) := by decide +kernel
theorem dX0_init_15 : decode cX0_init 15 = .ok (.newarray .int, 2) := by decide +kernel
theorem dX0_init_17 : decode cX0_init 17 = .ok (.putfield 15, 3) := by decide +kernel
theorem dX0_init_20 : decode cX0_init 20 = .ok (.aload_n 0, 1) := by decide +kernel
theorem dX0_init_21 : decode cX0_init 21 = .ok (.sipush 252, 3) := by decide +kernel
theorem dX0_init_24 : decode cX0_init 24 = .ok (.newarray .int, 2) := by decide +kernel
theorem dX0_init_26 : decode cX0_init 26 = .ok (.putfield 18, 3) := by decide +kernel
theorem dX0_init_29 : decode cX0_init 29 = .ok (.aload_n 0, 1) := by decide +kernel
theorem dX0_init_30 : decode cX0_init 30 = .ok (.sipush 1024, 3) := by decide +kernel
theorem dX0_init_33 : decode cX0_init 33 = .ok (.newarray .int, 2) := by decide +kernel
theorem dX0_init_35 : decode cX0_init 35 = .ok (.putfield 21, 3) := by decide +kernel
theorem dX0_init_38 : decode cX0_init 38 = .ok (.aload_n 0, 1) := by decide +kernel
theorem dX0_init_39 : decode cX0_init 39 = .ok (.sipush 1024, 3) := by decide +kernel
theorem dX0_init_42 : decode cX0_init 42 = .ok (.newarray .int, 2) := by decide +kernel
theorem dX0_init_44 : decode cX0_init 44 = .ok (.putfield 24, 3) := by decide +kernel
theorem dX0_init_47 : decode cX0_init 47 = .ok (.aload_n 0, 1) := by decide +kernel
theorem dX0_init_48 : decode cX0_init 48 = .ok (.sipush 4800, 3) := by decide +kernel
theorem dX0_init_51 : decode cX0_init 51 = .ok (.newarray .long, 2) := by decide +kernel
theorem dX0_init_53 : decode cX0_init 53 = .ok (.putfield 27, 3) := by decide +kernel
theorem dX0_init_56 : decode cX0_init 56 = .ok (.aload_n 0, 1) := by decide +kernel
theorem dX0_init_57 : decode cX0_init 57 = .ok (.sipush 300, 3) := by decide +kernel
theorem dX0_init_60 : decode cX0_init 60 = .ok (.newarray .int, 2) := by decide +kernel
theorem dX0_init_62 : decode cX0_init 62 = .ok (.putfield 31, 3) := by decide +kernel
theorem dX0_init_65 : decode cX0_init 65 = .ok (.aload_n 0, 1) := by decide +kernel
theorem dX0_init_66 : decode cX0_init 66 = .ok (.aload_n 1, 1) := by decide +kernel
theorem dX0_init_67 : decode cX0_init 67 = .ok (.putfield 34, 3) := by decide +kernel
theorem dX0_init_70 : decode cX0_init 70 = .ok (.aload_n 0, 1) := by decide +kernel
theorem dX0_init_71 : decode cX0_init 71 = .ok (.iconst 0, 1) := by decide +kernel
theorem dX0_init_72 : decode cX0_init 72 = .ok (.putfield 38, 3) := by decide +kernel
theorem dX0_init_75 : decode cX0_init 75 = .ok (.return_, 1) := by decide +kernel
theorem dX0_prepare_0 : decode cX0_prepare 0 = .ok (.aload_n 0, 1) := by decide +kernel
theorem dX0_prepare_1 : decode cX0_prepare 1 = .ok (.getfield 38, 3) := by decide +kernel
theorem dX0_prepare_4 : decode cX0_prepare 4 = .ok (.iload_n 1, 1) := by decide +kernel
theorem dX0_prepare_5 : decode cX0_prepare 5 = .ok (.if_icmp .ne 4, 3) := by decide +kernel
theorem dX0_prepare_8 : decode cX0_prepare 8 = .ok (.return_, 1) := by decide +kernel
theorem dX0_prepare_9 : decode cX0_prepare 9 = .ok (.aload_n 0, 1) := by decide +kernel
theorem dX0_prepare_10 : decode cX0_prepare 10 = .ok (.iload_n 1, 1) := by decide +kernel
theorem dX0_prepare_11 : decode cX0_prepare 11 = .ok (.putfield 38, 3) := by decide +kernel
theorem dX0_prepare_14 : decode cX0_prepare 14 = .ok (.aload_n 0, 1) := by decide +kernel
theorem dX0_prepare_15 : decode cX0_prepare 15 = .ok (.iconst 0, 1) := by decide +kernel
theorem dX0_prepare_16 : decode cX0_prepare 16 = .ok (.putfield 42, 3) := by decide +kernel
theorem dX0_prepare_19 : decode cX0_prepare 19 = .ok (.aload_n 0, 1) := by decide +kernel
theorem dX0_prepare_20 : decode cX0_prepare 20 = .ok (.getfield 31, 3) := by decide +kernel
theorem dX0_prepare_23 : decode cX0_prepare 23 = .ok (.iconst (-1), 1) := by decide +kernel
theorem dX0_prepare_24 : decode cX0_prepare 24 = .ok (.invokestatic 45, 3) := by decide +kernel
theorem dX0_prepare_27 : decode cX0_prepare 27 = .ok (.aload_n 0, 1) := by decide +kernel
theorem dX0_prepare_28 : decode cX0_prepare 28 = .ok (.invokevirtual 51, 3) := by decide +kernel
theorem dX0_prepare_31 : decode cX0_prepare 31 = .ok (.aload_n 0, 1) := by decide +kernel
theorem dX0_prepare_32 : decode cX0_prepare 32 = .ok (.invokevirtual 54, 3) := by decide +kernel
theorem dX0_prepare_35 : decode cX0_prepare 35 = .ok (.iconst 0, 1) := by decide +kernel
theorem dX0_prepare_36 : decode cX0_prepare 36 = .ok (.istore_n 2, 1) := by decide +kernel
theorem dX0_prepare_37 : decode cX0_prepare 37 = .ok (.iconst 0, 1) := by decide +kernel
theorem dX0_prepare_38 : decode cX0_prepare 38 = .ok (.istore_n 3, 1) := by decide +kernel
theorem dX0_prepare_39 : decode cX0_prepare 39 = .ok (.iload_n 3, 1) := by decide +kernel
theorem dX0_prepare_40 : decode cX0_prepare 40 = .ok (.aload_n 0, 1) := by decide +kernel
theorem dX0_prepare_41 : decode cX0_prepare 41 = .ok (.getfield 34, 3) := by decide +kernel
theorem dX0_prepare_44 : decode cX0_prepare 44 = .ok (.getfield 57, 3) := by decide +kernel
theorem dX0_prepare_47 : decode cX0_prepare 47 = .ok (.if_icmp .ge 64, 3) := by decide +kernel
theorem dX0_prepare_50 : decode cX0_prepare 50 = .ok (.iload_n 2, 1) := by decide +kernel
theorem dX0_prepare_51 : decode cX0_prepare 51 = .ok (.invokestatic 62, 3) := by decide +kernel
theorem dX0_prepare_54 : decode cX0_prepare 54 = .ok (.iload_n 1, 1) := by decide +kernel
theorem dX0_prepare_55 : decode cX0_prepare 55 = .ok (.if_icmp .ge 56, 3) := by decide +kernel
theorem dX0_prepare_58 : decode cX0_prepare 58 = .ok (.iconst 1, 1) := by decide +kernel
theorem dX0_prepare_59 : decode cX0_prepare 59 = .ok (.aload_n 0, 1) := by decide +kernel
theorem dX0_prepare_60 : decode cX0_prepare 60 = .ok (.getfield 9, 3) := by decide +kernel
theorem dX0_prepare_63 : decode cX0_prepare 63 = .ok (.aload_n 0, 1) := by decide +kernel
theorem dX0_prepare_64 : decode cX0_prepare 64 = .ok (.getfield 34, 3) := by decide +kernel
theorem dX0_prepare_67 : decode cX0_prepare 67 = .ok (.getfield 68, 3) := by decide +kernel
theorem dX0_prepare_70 : decode cX0_prepare 70 = .ok (.iload_n 3, 1) := by decide +kernel
theorem dX0_prepare_71 : decode cX0_prepare 71 = .ok (.iaload, 1) := by decide +kernel
theorem dX0_prepare_72 : decode cX0_prepare 72 = .ok (.iaload, 1) := by decide +kernel
theorem dX0_prepare_73 : decode cX0_prepare 73 = .ok (.ishl, 1) := by decide +kernel
theorem dX0_prepare_74 : decode cX0_prepare 74 = .ok (.istore 4, 2) := by decide +kernel
theorem dX0_prepare_76 : decode cX0_prepare 76 = .ok (.iload_n 2, 1) := by decide +kernel
theorem dX0_prepare_77 : decode cX0_prepare 77 = .ok (.iload 4, 2) := by decide +kernel
theorem dX0_prepare_79 : decode cX0_prepare 79 = .ok (.iand, 1) := by decide +kernel
theorem dX0_prepare_80 : decode cX0_prepare 80 = .ok (.ifCond .ne 20, 3) := by decide +kernel
theorem dX0_prepare_83 : decode cX0_prepare 83 = .ok (.aload_n 0, 1) := by decide +kernel
theorem dX0_prepare_84 : decode cX0_prepare 84 = .ok (.dup, 1) := by decide +kernel
theorem dX0_prepare_85 : decode cX0_prepare 85 = .ok (.getfield 42, 3) := by decide +kernel
theorem dX0_prepare_88 : decode cX0_prepare 88 = .ok (.aload_n 0, 1) := by decide +kernel
theorem dX0_prepare_89 : decode cX0_prepare 89 = .ok (.getfield 34, 3) := by decide +kernel
theorem dX0_prepare_92 : decode cX0_prepare 92 = .ok (.iload_n 3, 1) := by decide +kernel
theorem dX0_prepare_93 : decode cX0_prepare 93 = .ok (.invokevirtual 71, 3) := by decide +kernel
theorem dX0_prepare_96 : decode cX0_prepare 96 = .ok (.iadd, 1) := by decide +kernel
theorem dX0_prepare_97 : decode cX0_prepare 97 = .ok (.putfield 42, 3) := by decide +kernel
theorem dX0_prepare_100 : decode cX0_prepare 100 = .ok (.iload_n 2, 1) := by decide +kernel
theorem dX0_prepare_101 : decode cX0_prepare 101 = .ok (.iload 4, 2) := by decide +kernel
theorem dX0_prepare_103 : decode cX0_prepare 103 = .ok (.ior, 1) := by decide +kernel
theorem dX0_prepare_104 : decode cX0_prepare 104 = .ok (.istore_n 2, 1) := by decide +kernel
theorem dX0_prepare_105 : decode cX0_prepare 105 = .ok (.iinc 3 1, 3) := by decide +kernel
theorem dX0_prepare_108 : decode cX0_prepare 108 = .ok (.goto (-69), 3) := by decide +kernel
theorem dX0_prepare_111 : decode cX0_prepare 111 = .ok (.aload_n 0, 1) := by decide +kernel
theorem dX0_prepare_112 : decode cX0_prepare 112 = .ok (.getfield 34, 3) := by decide +kernel
theorem dX0_prepare_115 : decode cX0_prepare 115 = .ok (.getfield 57, 3) := by decide +kernel
theorem dX0_prepare_118 : decode cX0_prepare 118 = .ok (.iconst 1, 1) := by decide +kernel
theorem dX0_prepare_119 : decode cX0_prepare 119 = .ok (.isub, 1) := by decide +kernel
theorem dX0_prepare_120 : decode cX0_prepare 120 = .ok (.istore 4, 2) := by decide +kernel
theorem dX0_prepare_122 : decode cX0_prepare 122 = .ok (.iload 4, 2) := by decide +kernel
theorem dX0_prepare_124 : decode cX0_prepare 124 = .ok (.iload_n 3, 1) := by decide +kernel
theorem dX0_prepare_125 : decode cX0_prepare 125 = .ok (.if_icmp .lt 15, 3) := by decide +kernel
theorem dX0_prepare_128 : decode cX0_prepare 128 = .ok (.aload_n 0, 1) := by decide +kernel
theorem dX0_prepare_129 : decode cX0_prepare 129 = .ok (.iload 4, 2) := by decide +kernel
theorem dX0_prepare_131 : decode cX0_prepare 131 = .ok (.invokevirtual 74, 3) := by decide +kernel
theorem dX0_prepare_134 : decode cX0_prepare 134 = .ok (.iinc 4 (-1), 3) := by decide +kernel
theorem dX0_prepare_137 : decode cX0_prepare 137 = .ok (.goto (-15), 3) := by decide +kernel
theorem dX0_prepare_140 : decode cX0_prepare 140 = .ok (.aload_n 0, 1) := by decide +kernel
theorem dX0_prepare_141 : decode cX0_prepare 141 = .ok (.dup, 1) := by decide +kernel
theorem dX0_prepare_142 : decode cX0_prepare 142 = .ok (.getfield 42, 3) := by decide +kernel
theorem dX0_prepare_145 : decode cX0_prepare 145 = .ok (.aload_n 0, 1) := by decide +kernel
theorem dX0_prepare_146 : decode cX0_prepare 146 = .ok (.getfield 24, 3) := by decide +kernel
theorem dX0_prepare_149 : decode cX0_prepare 149 = .ok (.iload_n 2, 1) := by decide +kernel
theorem dX0_prepare_150 : decode cX0_prepare 150 = .ok (.iaload, 1) := by decide +kernel
theorem dX0_prepare_151 : decode cX0_prepare 151 = .ok (.iadd, 1) := by decide +kernel
theorem dX0_prepare_152 : decode cX0_prepare 152 = .ok (.putfield 42, 3) := by decide +kernel
theorem dX0_prepare_155 : decode cX0_prepare 155 = .ok (.aload_n 0, 1) := by decide +kernel
theorem dX0_prepare_156 : decode cX0_prepare 156 = .ok (.iload_n 2, 1) := by decide +kernel
theorem dX0_prepare_157 : decode cX0_prepare 157 = .ok (.iload_n 3, 1) := by decide +kernel
theorem dX0_prepare_158 : decode cX0_prepare 158 = .ok (.invokevirtual 78, 3) := by decide +kernel
theorem dX0_prepare_161 : decode cX0_prepare 161 = .ok (.return_, 1) := by decide +kernel
theorem dX0_numberThings_0 : decode cX0_numberThings 0 = .ok (.aload_n 0, 1) := by decide +kernel
theorem dX0_numberThings_1 : decode cX0_numberThings 1 = .ok (.getfield 34, 3) := by decide +kernel
theorem dX0_numberThings_4 : decode cX0_numberThings 4 = .ok (.invokevirtual 82, 3) := by decide +kernel
theorem dX0_numberThings_7 : decode cX0_numberThings 7 = .ok (.istore_n 1, 1) := by decide +kernel
theorem dX0_numberThings_8 : decode cX0_numberThings 8 = .ok (.aload_n 0, 1) := by decide +kernel
theorem dX0_numberThings_9 : decode cX0_numberThings 9 = .ok (.iconst 0, 1) := by decide +kernel
theorem dX0_numberThings_10 : decode cX0_numberThings 10 = .ok (.putfield 86, 3) := by decide +kernel
theorem dX0_numberThings_13 : decode cX0_numberThings 13 = .ok (.iconst 0, 1) := by decide +kernel
theorem dX0_numberThings_14 : decode cX0_numberThings 14 = .ok (.istore_n 2, 1) := by decide +kernel
theorem dX0_numberThings_15 : decode cX0_numberThings 15 = .ok (.iload_n 2, 1) := by decide +kernel
theorem dX0_numberThings_16 : decode cX0_numberThings 16 = .ok (.bipush 16, 2) := by decide +kernel
theorem dX0_numberThings_18 : decode cX0_numberThings 18 = .ok (.if_icmp .ge 56, 3) := by decide +kernel
theorem dX0_numberThings_21 : decode cX0_numberThings 21 = .ok (.iload_n 1, 1) := by decide +kernel
theorem dX0_numberThings_22 : decode cX0_numberThings 22 = .ok (.iconst 1, 1) := by decide +kernel
theorem dX0_numberThings_23 : decode cX0_numberThings 23 = .ok (.iload_n 2, 1) := by decide +kernel
theorem dX0_numberThings_24 : decode cX0_numberThings 24 = .ok (.ishl, 1) := by decide +kernel
theorem dX0_numberThings_25 : decode cX0_numberThings 25 = .ok (.iand, 1) := by decide +kernel
theorem dX0_numberThings_26 : decode cX0_numberThings 26 = .ok (.ifCond .eq 42, 3) := by decide +kernel
theorem dX0_numberThings_29 : decode cX0_numberThings 29 = .ok (.aload_n 0, 1) := by decide +kernel
theorem dX0_numberThings_30 : decode cX0_numberThings 30 = .ok (.getfield 86, 3) := by decide +kernel
theorem dX0_numberThings_33 : decode cX0_numberThings 33 = .ok (.bipush 10, 2) := by decide +kernel
theorem dX0_numberThings_35 : decode cX0_numberThings 35 = .ok (.if_icmp .ge 33, 3) := by decide +kernel
theorem dX0_numberThings_38 : decode cX0_numberThings 38 = .ok (.aload_n 0, 1) := by decide +kernel
theorem dX0_numberThings_39 : decode cX0_numberThings 39 = .ok (.getfield 9, 3) := by decide +kernel
theorem dX0_numberThings_42 : decode cX0_numberThings 42 = .ok (.iload_n 2, 1) := by decide +kernel
theorem dX0_numberThings_43 : decode cX0_numberThings 43 = .ok (.aload_n 0, 1) := by decide +kernel
theorem dX0_numberThings_44 : decode cX0_numberThings 44 = .ok (.getfield 86, 3) := by decide +kernel
theorem dX0_numberThings_47 : decode cX0_numberThings 47 = .ok (.iastore, 1) := by decide +kernel
theorem dX0_numberThings_48 : decode cX0_numberThings 48 = .ok (.aload_n 0, 1) := by decide +kernel
theorem dX0_numberThings_49 : decode cX0_numberThings 49 = .ok (.getfield 15, 3) := by decide +kernel
theorem dX0_numberThings_52 : decode cX0_numberThings 52 = .ok (.aload_n 0, 1) := by decide +kernel
theorem dX0_numberThings_53 : decode cX0_numberThings 53 = .ok (.getfield 86, 3) := by decide +kernel
theorem dX0_numberThings_56 : decode cX0_numberThings 56 = .ok (.iload_n 2, 1) := by decide +kernel
theorem dX0_numberThings_57 : decode cX0_numberThings 57 = .ok (.iastore, 1) := by decide +kernel
theorem dX0_numberThings_58 : decode cX0_numberThings 58 = .ok (.aload_n 0, 1) := by decide +kernel
theorem dX0_numberThings_59 : decode cX0_numberThings 59 = .ok (.dup, 1) := by decide +kernel
theorem dX0_numberThings_60 : decode cX0_numberThings 60 = .ok (.getfield 86, 3) := by decide +kernel
theorem dX0_numberThings_63 : decode cX0_numberThings 63 = .ok (.iconst 1, 1) := by decide +kernel
theorem dX0_numberThings_64 : decode cX0_numberThings 64 = .ok (.iadd, 1) := by decide +kernel
theorem dX0_numberThings_65 : decode cX0_numberThings 65 = .ok (.putfield 86, 3) := by decide +kernel
theorem dX0_numberThings_68 : decode cX0_numberThings 68 = .ok (.iinc 2 1, 3) := by decide +kernel
theorem dX0_numberThings_71 : decode cX0_numberThings 71 = .ok (.goto (-56), 3) := by decide +kernel
theorem dX0_numberThings_74 : decode cX0_numberThings 74 = .ok (.return_, 1) := by decide +kernel
theorem dX0_listFullMasks_0 : decode cX0_listFullMasks 0 = .ok (.aload_n 0, 1) := by decide +kernel
theorem dX0_listFullMasks_1 : decode cX0_listFullMasks 1 = .ok (.iconst 0, 1) := by decide +kernel
theorem dX0_listFullMasks_2 : decode cX0_listFullMasks 2 = .ok (.putfield 89, 3) := by decide +kernel
theorem dX0_listFullMasks_5 : decode cX0_listFullMasks 5 = .ok (.iconst 0, 1) := by decide +kernel
theorem dX0_listFullMasks_6 : decode cX0_listFullMasks 6 = .ok (.istore_n 1, 1) := by decide +kernel
theorem dX0_listFullMasks_7 : decode cX0_listFullMasks 7 = .ok (.iload_n 1, 1) := by decide +kernel
theorem dX0_listFullMasks_8 : decode cX0_listFullMasks 8 = .ok (.iconst 1, 1) := by decide +kernel
theorem dX0_listFullMasks_9 : decode cX0_listFullMasks 9 = .ok (.aload_n 0, 1) := by decide +kernel
theorem dX0_listFullMasks_10 : decode cX0_listFullMasks 10 = .ok (.getfield 86, 3) := by decide +kernel
theorem dX0_listFullMasks_13 : decode cX0_listFullMasks 13 = .ok (.ishl, 1) := by decide +kernel
theorem dX0_listFullMasks_14 : decode cX0_listFullMasks 14 = .ok (.if_icmp .ge 67, 3) := by decide +kernel
theorem dX0_listFullMasks_17 : decode cX0_listFullMasks 17 = .ok (.aload_n 0, 1) := by decide +kernel
theorem dX0_listFullMasks_18 : decode cX0_listFullMasks 18 = .ok (.getfield 24, 3) := by decide +kernel
theorem dX0_listFullMasks_21 : decode cX0_listFullMasks 21 = .ok (.iload_n 1, 1) := by decide +kernel
theorem dX0_listFullMasks_22 : decode cX0_listFullMasks 22 = .ok (.iconst 0, 1) := by decide +kernel
theorem dX0_listFullMasks_23 : decode cX0_listFullMasks 23 = .ok (.iastore, 1) := by decide +kernel
theorem dX0_listFullMasks_24 : decode cX0_listFullMasks 24 = .ok (.iload_n 1, 1) := by decide +kernel
theorem dX0_listFullMasks_25 : decode cX0_listFullMasks 25 = .ok (.invokestatic 62, 3) := by decide +kernel
theorem dX0_listFullMasks_28 : decode cX0_listFullMasks 28 = .ok (.aload_n 0, 1) := by decide +kernel
theorem dX0_listFullMasks_29 : decode cX0_listFullMasks 29 = .ok (.getfield 38, 3) := by decide +kernel
theorem dX0_listFullMasks_32 : decode cX0_listFullMasks 32 = .ok (.if_icmp .ne 43, 3) := by decide +kernel
theorem dX0_listFullMasks_35 : decode cX0_listFullMasks 35 = .ok (.aload_n 0, 1) := by decide +kernel
theorem dX0_listFullMasks_36 : decode cX0_listFullMasks 36 = .ok (.getfield 89, 3) := by decide +kernel
theorem dX0_listFullMasks_39 : decode cX0_listFullMasks 39 = .ok (.sipush 252, 3) := by decide +kernel
theorem dX0_listFullMasks_42 : decode cX0_listFullMasks 42 = .ok (.if_icmp .ge 33, 3) := by decide +kernel
theorem dX0_listFullMasks_45 : decode cX0_listFullMasks 45 = .ok (.aload_n 0, 1) := by decide +kernel
theorem dX0_listFullMasks_46 : decode cX0_listFullMasks 46 = .ok (.getfield 18, 3) := by decide +kernel
theorem dX0_listFullMasks_49 : decode cX0_listFullMasks 49 = .ok (.aload_n 0, 1) := by decide +kernel
theorem dX0_listFullMasks_50 : decode cX0_listFullMasks 50 = .ok (.getfield 89, 3) := by decide +kernel
theorem dX0_listFullMasks_53 : decode cX0_listFullMasks 53 = .ok (.iload_n 1, 1) := by decide +kernel
theorem dX0_listFullMasks_54 : decode cX0_listFullMasks 54 = .ok (.iastore, 1) := by decide +kernel
theorem dX0_listFullMasks_55 : decode cX0_listFullMasks 55 = .ok (.aload_n 0, 1) := by decide +kernel
theorem dX0_listFullMasks_56 : decode cX0_listFullMasks 56 = .ok (.getfield 21, 3) := by decide +kernel
theorem dX0_listFullMasks_59 : decode cX0_listFullMasks 59 = .ok (.iload_n 1, 1) := by decide +kernel
theorem dX0_listFullMasks_60 : decode cX0_listFullMasks 60 = .ok (.aload_n 0, 1) := by decide +kernel
theorem dX0_listFullMasks_61 : decode cX0_listFullMasks 61 = .ok (.getfield 89, 3) := by decide +kernel
theorem dX0_listFullMasks_64 : decode cX0_listFullMasks 64 = .ok (.iastore, 1) := by decide +kernel
theorem dX0_listFullMasks_65 : decode cX0_listFullMasks 65 = .ok (.aload_n 0, 1) := by decide +kernel
theorem dX0_listFullMasks_66 : decode cX0_listFullMasks 66 = .ok (.dup, 1) := by decide +kernel
theorem dX0_listFullMasks_67 : decode cX0_listFullMasks 67 = .ok (.getfield 89, 3) := by decide +kernel
theorem dX0_listFullMasks_70 : decode cX0_listFullMasks 70 = .ok (.iconst 1, 1) := by decide +kernel
theorem dX0_listFullMasks_71 : decode cX0_listFullMasks 71 = .ok (.iadd, 1) := by decide +kernel
theorem dX0_listFullMasks_72 : decode cX0_listFullMasks 72 = .ok (.putfield 89, 3) := by decide +kernel
theorem dX0_listFullMasks_75 : decode cX0_listFullMasks 75 = .ok (.iinc 1 1, 3) := by decide +kernel
theorem dX0_listFullMasks_78 : decode cX0_listFullMasks 78 = .ok (.goto (-71), 3) := by decide +kernel
theorem dX0_listFullMasks_81 : decode cX0_listFullMasks 81 = .ok (.return_, 1) := by decide +kernel
theorem dX0_fillAsking_0 : decode cX0_fillAsking 0 = .ok (.iconst 1, 1) := by decide +kernel
theorem dX0_fillAsking_1 : decode cX0_fillAsking 1 = .ok (.aload_n 0, 1) := by decide +kernel
theorem dX0_fillAsking_2 : decode cX0_fillAsking 2 = .ok (.getfield 9, 3) := by decide +kernel
theorem dX0_fillAsking_5 : decode cX0_fillAsking 5 = .ok (.aload_n 0, 1) := by decide +kernel
theorem dX0_fillAsking_6 : decode cX0_fillAsking 6 = .ok (.getfield 34, 3) := by decide +kernel
theorem dX0_fillAsking_9 : decode cX0_fillAsking 9 = .ok (.getfield 68, 3) := by decide +kernel
theorem dX0_fillAsking_12 : decode cX0_fillAsking 12 = .ok (.iload_n 1, 1) := by decide +kernel
theorem dX0_fillAsking_13 : decode cX0_fillAsking 13 = .ok (.iaload, 1) := by decide +kernel
theorem dX0_fillAsking_14 : decode cX0_fillAsking 14 = .ok (.iaload, 1) := by decide +kernel
theorem dX0_fillAsking_15 : decode cX0_fillAsking 15 = .ok (.ishl, 1) := by decide +kernel
theorem dX0_fillAsking_16 : decode cX0_fillAsking 16 = .ok (.istore_n 2, 1) := by decide +kernel
theorem dX0_fillAsking_17 : decode cX0_fillAsking 17 = .ok (.aload_n 0, 1) := by decide +kernel
theorem dX0_fillAsking_18 : decode cX0_fillAsking 18 = .ok (.getfield 34, 3) := by decide +kernel
theorem dX0_fillAsking_21 : decode cX0_fillAsking 21 = .ok (.iload_n 1, 1) := by decide +kernel
theorem dX0_fillAsking_22 : decode cX0_fillAsking 22 = .ok (.invokevirtual 71, 3) := by decide +kernel
theorem dX0_fillAsking_25 : decode cX0_fillAsking 25 = .ok (.istore_n 3, 1) := by decide +kernel
theorem dX0_fillAsking_26 : decode cX0_fillAsking 26 = .ok (.iconst 0, 1) := by decide +kernel
theorem dX0_fillAsking_27 : decode cX0_fillAsking 27 = .ok (.istore 4, 2) := by decide +kernel
theorem dX0_fillAsking_29 : decode cX0_fillAsking 29 = .ok (.iload 4, 2) := by decide +kernel
theorem dX0_fillAsking_31 : decode cX0_fillAsking 31 = .ok (.aload_n 0, 1) := by decide +kernel
theorem dX0_fillAsking_32 : decode cX0_fillAsking 32 = .ok (.getfield 89, 3) := by decide +kernel
theorem dX0_fillAsking_35 : decode cX0_fillAsking 35 = .ok (.if_icmp .ge 66, 3) := by decide +kernel
theorem dX0_fillAsking_38 : decode cX0_fillAsking 38 = .ok (.aload_n 0, 1) := by decide +kernel
theorem dX0_fillAsking_39 : decode cX0_fillAsking 39 = .ok (.getfield 18, 3) := by decide +kernel
theorem dX0_fillAsking_42 : decode cX0_fillAsking 42 = .ok (.iload 4, 2) := by decide +kernel
theorem dX0_fillAsking_44 : decode cX0_fillAsking 44 = .ok (.iaload, 1) := by decide +kernel
theorem dX0_fillAsking_45 : decode cX0_fillAsking 45 = .ok (.istore 5, 2) := by decide +kernel
theorem dX0_fillAsking_47 : decode cX0_fillAsking 47 = .ok (.iload 5, 2) := by decide +kernel
theorem dX0_fillAsking_49 : decode cX0_fillAsking 49 = .ok (.iload_n 2, 1) := by decide +kernel
theorem dX0_fillAsking_50 : decode cX0_fillAsking 50 = .ok (.iand, 1) := by decide +kernel
theorem dX0_fillAsking_51 : decode cX0_fillAsking 51 = .ok (.ifCond .ne 44, 3) := by decide +kernel
theorem dX0_fillAsking_54 : decode cX0_fillAsking 54 = .ok (.aload_n 0, 1) := by decide +kernel
theorem dX0_fillAsking_55 : decode cX0_fillAsking 55 = .ok (.iload 5, 2) := by decide +kernel
theorem dX0_fillAsking_57 : decode cX0_fillAsking 57 = .ok (.iload_n 2, 1) := by decide +kernel
theorem dX0_fillAsking_58 : decode cX0_fillAsking 58 = .ok (.invokevirtual 92, 3) := by decide +kernel
theorem dX0_fillAsking_61 : decode cX0_fillAsking 61 = .ok (.istore 6, 2) := by decide +kernel
theorem dX0_fillAsking_63 : decode cX0_fillAsking 63 = .ok (.aload_n 0, 1) := by decide +kernel
theorem dX0_fillAsking_64 : decode cX0_fillAsking 64 = .ok (.getfield 24, 3) := by decide +kernel
theorem dX0_fillAsking_67 : decode cX0_fillAsking 67 = .ok (.iload 5, 2) := by decide +kernel
theorem dX0_fillAsking_69 : decode cX0_fillAsking 69 = .ok (.iload_n 3, 1) := by decide +kernel
theorem dX0_fillAsking_70 : decode cX0_fillAsking 70 = .ok (.aload_n 0, 1) := by decide +kernel
theorem dX0_fillAsking_71 : decode cX0_fillAsking 71 = .ok (.getfield 24, 3) := by decide +kernel
theorem dX0_fillAsking_74 : decode cX0_fillAsking 74 = .ok (.iload 5, 2) := by decide +kernel
theorem dX0_fillAsking_76 : decode cX0_fillAsking 76 = .ok (.iconst 1, 1) := by decide +kernel
theorem dX0_fillAsking_77 : decode cX0_fillAsking 77 = .ok (.iload 6, 2) := by decide +kernel
theorem dX0_fillAsking_79 : decode cX0_fillAsking 79 = .ok (.ishl, 1) := by decide +kernel
theorem dX0_fillAsking_80 : decode cX0_fillAsking 80 = .ok (.ixor, 1) := by decide +kernel
theorem dX0_fillAsking_81 : decode cX0_fillAsking 81 = .ok (.iload_n 2, 1) := by decide +kernel
theorem dX0_fillAsking_82 : decode cX0_fillAsking 82 = .ok (.ior, 1) := by decide +kernel
theorem dX0_fillAsking_83 : decode cX0_fillAsking 83 = .ok (.iaload, 1) := by decide +kernel
theorem dX0_fillAsking_84 : decode cX0_fillAsking 84 = .ok (.iadd, 1) := by decide +kernel
theorem dX0_fillAsking_85 : decode cX0_fillAsking 85 = .ok (.iastore, 1) := by decide +kernel
theorem dX0_fillAsking_86 : decode cX0_fillAsking 86 = .ok (.aload_n 0, 1) := by decide +kernel
theorem dX0_fillAsking_87 : decode cX0_fillAsking 87 = .ok (.iload_n 1, 1) := by decide +kernel
theorem dX0_fillAsking_88 : decode cX0_fillAsking 88 = .ok (.iload 4, 2) := by decide +kernel
theorem dX0_fillAsking_90 : decode cX0_fillAsking 90 = .ok (.iload 6, 2) := by decide +kernel
theorem dX0_fillAsking_92 : decode cX0_fillAsking 92 = .ok (.invokevirtual 96, 3) := by decide +kernel
theorem dX0_fillAsking_95 : decode cX0_fillAsking 95 = .ok (.iinc 4 1, 3) := by decide +kernel
theorem dX0_fillAsking_98 : decode cX0_fillAsking 98 = .ok (.goto (-69), 3) := by decide +kernel
theorem dX0_fillAsking_101 : decode cX0_fillAsking 101 = .ok (.return_, 1) := by decide +kernel
theorem dX0_bestChoice_0 : decode cX0_bestChoice 0 = .ok (.iconst 0, 1) := by decide +kernel
theorem dX0_bestChoice_1 : decode cX0_bestChoice 1 = .ok (.istore_n 3, 1) := by decide +kernel
theorem dX0_bestChoice_2 : decode cX0_bestChoice 2 = .ok (.iconst 0, 1) := by decide +kernel
theorem dX0_bestChoice_3 : decode cX0_bestChoice 3 = .ok (.istore 4, 2) := by decide +kernel
theorem dX0_bestChoice_5 : decode cX0_bestChoice 5 = .ok (.iconst 0, 1) := by decide +kernel
theorem dX0_bestChoice_6 : decode cX0_bestChoice 6 = .ok (.istore 5, 2) := by decide +kernel
theorem dX0_bestChoice_8 : decode cX0_bestChoice 8 = .ok (.iconst 0, 1) := by decide +kernel
theorem dX0_bestChoice_9 : decode cX0_bestChoice 9 = .ok (.istore 6, 2) := by decide +kernel
theorem dX0_bestChoice_11 : decode cX0_bestChoice 11 = .ok (.iload 6, 2) := by decide +kernel
theorem dX0_bestChoice_13 : decode cX0_bestChoice 13 = .ok (.aload_n 0, 1) := by decide +kernel
theorem dX0_bestChoice_14 : decode cX0_bestChoice 14 = .ok (.getfield 86, 3) := by decide +kernel
theorem dX0_bestChoice_17 : decode cX0_bestChoice 17 = .ok (.if_icmp .ge 55, 3) := by decide +kernel
theorem dX0_bestChoice_20 : decode cX0_bestChoice 20 = .ok (.iload_n 1, 1) := by decide +kernel
theorem dX0_bestChoice_21 : decode cX0_bestChoice 21 = .ok (.iconst 1, 1) := by decide +kernel
theorem dX0_bestChoice_22 : decode cX0_bestChoice 22 = .ok (.iload 6, 2) := by decide +kernel
theorem dX0_bestChoice_24 : decode cX0_bestChoice 24 = .ok (.ishl, 1) := by decide +kernel
theorem dX0_bestChoice_25 : decode cX0_bestChoice 25 = .ok (.iand, 1) := by decide +kernel
theorem dX0_bestChoice_26 : decode cX0_bestChoice 26 = .ok (.ifCond .eq 40, 3) := by decide +kernel
theorem dX0_bestChoice_29 : decode cX0_bestChoice 29 = .ok (.aload_n 0, 1) := by decide +kernel
theorem dX0_bestChoice_30 : decode cX0_bestChoice 30 = .ok (.getfield 24, 3) := by decide +kernel
theorem dX0_bestChoice_33 : decode cX0_bestChoice 33 = .ok (.iload_n 1, 1) := by decide +kernel
theorem dX0_bestChoice_34 : decode cX0_bestChoice 34 = .ok (.iconst 1, 1) := by decide +kernel
theorem dX0_bestChoice_35 : decode cX0_bestChoice 35 = .ok (.iload 6, 2) := by decide +kernel
theorem dX0_bestChoice_37 : decode cX0_bestChoice 37 = .ok (.ishl, 1) := by decide +kernel
theorem dX0_bestChoice_38 : decode cX0_bestChoice 38 = .ok (.ixor, 1) := by decide +kernel
theorem dX0_bestChoice_39 : decode cX0_bestChoice 39 = .ok (.iload_n 2, 1) := by decide +kernel
theorem dX0_bestChoice_40 : decode cX0_bestChoice 40 = .ok (.ior, 1) := by decide +kernel
theorem dX0_bestChoice_41 : decode cX0_bestChoice 41 = .ok (.iaload, 1) := by decide +kernel
theorem dX0_bestChoice_42 : decode cX0_bestChoice 42 = .ok (.istore 7, 2) := by decide +kernel
theorem dX0_bestChoice_44 : decode cX0_bestChoice 44 = .ok (.iload 5, 2) := by decide +kernel
theorem dX0_bestChoice_46 : decode cX0_bestChoice 46 = .ok (.ifCond .eq 10, 3) := by decide +kernel
theorem dX0_bestChoice_49 : decode cX0_bestChoice 49 = .ok (.iload 7, 2) := by decide +kernel
theorem dX0_bestChoice_51 : decode cX0_bestChoice 51 = .ok (.iload 4, 2) := by decide +kernel
theorem dX0_bestChoice_53 : decode cX0_bestChoice 53 = .ok (.if_icmp .ge 13, 3) := by decide +kernel
theorem dX0_bestChoice_56 : decode cX0_bestChoice 56 = .ok (.iload 6, 2) := by decide +kernel
theorem dX0_bestChoice_58 : decode cX0_bestChoice 58 = .ok (.istore_n 3, 1) := by decide +kernel
theorem dX0_bestChoice_59 : decode cX0_bestChoice 59 = .ok (.iload 7, 2) := by decide +kernel
theorem dX0_bestChoice_61 : decode cX0_bestChoice 61 = .ok (.istore 4, 2) := by decide +kernel
theorem dX0_bestChoice_63 : decode cX0_bestChoice 63 = .ok (.iconst 1, 1) := by decide +kernel
theorem dX0_bestChoice_64 : decode cX0_bestChoice 64 = .ok (.istore 5, 2) := by decide +kernel
theorem dX0_bestChoice_66 : decode cX0_bestChoice 66 = .ok (.iinc 6 1, 3) := by decide +kernel
theorem dX0_bestChoice_69 : decode cX0_bestChoice 69 = .ok (.goto (-58), 3) := by decide +kernel
theorem dX0_bestChoice_72 : decode cX0_bestChoice 72 = .ok (.iload_n 3, 1) := by decide +kernel
theorem dX0_bestChoice_73 : decode cX0_bestChoice 73 = .ok (.ireturn, 1) := by decide +kernel
theorem dX0_followChoices_0 : decode cX0_followChoices 0 = .ok (.iload_n 1, 1) := by decide +kernel
theorem dX0_followChoices_1 : decode cX0_followChoices 1 = .ok (.istore_n 3, 1) := by decide +kernel
theorem dX0_followChoices_2 : decode cX0_followChoices 2 = .ok (.iload_n 2, 1) := by decide +kernel
theorem dX0_followChoices_3 : decode cX0_followChoices 3 = .ok (.istore 4, 2) := by decide +kernel
theorem dX0_followChoices_5 : decode cX0_followChoices 5 = .ok (.iload 4, 2) := by decide +kernel
theorem dX0_followChoices_7 : decode cX0_followChoices 7 = .ok (.aload_n 0, 1) := by decide +kernel
theorem dX0_followChoices_8 : decode cX0_followChoices 8 = .ok (.getfield 34, 3) := by decide +kernel
theorem dX0_followChoices_11 : decode cX0_followChoices 11 = .ok (.getfield 57, 3) := by decide +kernel
theorem dX0_followChoices_14 : decode cX0_followChoices 14 = .ok (.if_icmp .ge 73, 3) := by decide +kernel
theorem dX0_followChoices_17 : decode cX0_followChoices 17 = .ok (.iconst 1, 1) := by decide +kernel
theorem dX0_followChoices_18 : decode cX0_followChoices 18 = .ok (.aload_n 0, 1) := by decide +kernel
theorem dX0_followChoices_19 : decode cX0_followChoices 19 = .ok (.getfield 9, 3) := by decide +kernel
theorem dX0_followChoices_22 : decode cX0_followChoices 22 = .ok (.aload_n 0, 1) := by decide +kernel
theorem dX0_followChoices_23 : decode cX0_followChoices 23 = .ok (.getfield 34, 3) := by decide +kernel
theorem dX0_followChoices_26 : decode cX0_followChoices 26 = .ok (.getfield 68, 3) := by decide +kernel
theorem dX0_followChoices_29 : decode cX0_followChoices 29 = .ok (.iload 4, 2) := by decide +kernel
theorem dX0_followChoices_31 : decode cX0_followChoices 31 = .ok (.iaload, 1) := by decide +kernel
theorem dX0_followChoices_32 : decode cX0_followChoices 32 = .ok (.iaload, 1) := by decide +kernel
theorem dX0_followChoices_33 : decode cX0_followChoices 33 = .ok (.ishl, 1) := by decide +kernel
theorem dX0_followChoices_34 : decode cX0_followChoices 34 = .ok (.istore 5, 2) := by decide +kernel
theorem dX0_followChoices_36 : decode cX0_followChoices 36 = .ok (.iload_n 3, 1) := by decide +kernel
theorem dX0_followChoices_37 : decode cX0_followChoices 37 = .ok (.iload 5, 2) := by decide +kernel
theorem dX0_followChoices_39 : decode cX0_followChoices 39 = .ok (.iand, 1) := by decide +kernel
theorem dX0_followChoices_40 : decode cX0_followChoices 40 = .ok (.ifCond .ne 41, 3) := by decide +kernel
theorem dX0_followChoices_43 : decode cX0_followChoices 43 = .ok (.aload_n 0, 1) := by decide +kernel
theorem dX0_followChoices_44 : decode cX0_followChoices 44 = .ok (.iload 4, 2) := by decide +kernel
theorem dX0_followChoices_46 : decode cX0_followChoices 46 = .ok (.aload_n 0, 1) := by decide +kernel
theorem dX0_followChoices_47 : decode cX0_followChoices 47 = .ok (.getfield 21, 3) := by decide +kernel
theorem dX0_followChoices_50 : decode cX0_followChoices 50 = .ok (.iload_n 3, 1) := by decide +kernel
theorem dX0_followChoices_51 : decode cX0_followChoices 51 = .ok (.iaload, 1) := by decide +kernel
theorem dX0_followChoices_52 : decode cX0_followChoices 52 = .ok (.invokevirtual 100, 3) := by decide +kernel
theorem dX0_followChoices_55 : decode cX0_followChoices 55 = .ok (.istore 6, 2) := by decide +kernel
theorem dX0_followChoices_57 : decode cX0_followChoices 57 = .ok (.aload_n 0, 1) := by decide +kernel
theorem dX0_followChoices_58 : decode cX0_followChoices 58 = .ok (.getfield 31, 3) := by decide +kernel
theorem dX0_followChoices_61 : decode cX0_followChoices 61 = .ok (.iload 4, 2) := by decide +kernel
theorem dX0_followChoices_63 : decode cX0_followChoices 63 = .ok (.aload_n 0, 1) := by decide +kernel
theorem dX0_followChoices_64 : decode cX0_followChoices 64 = .ok (.getfield 15, 3) := by decide +kernel
theorem dX0_followChoices_67 : decode cX0_followChoices 67 = .ok (.iload 6, 2) := by decide +kernel
theorem dX0_followChoices_69 : decode cX0_followChoices 69 = .ok (.iaload, 1) := by decide +kernel
theorem dX0_followChoices_70 : decode cX0_followChoices 70 = .ok (.iastore, 1) := by decide +kernel
theorem dX0_followChoices_71 : decode cX0_followChoices 71 = .ok (.iload_n 3, 1) := by decide +kernel
theorem dX0_followChoices_72 : decode cX0_followChoices 72 = .ok (.iconst 1, 1) := by decide +kernel
theorem dX0_followChoices_73 : decode cX0_followChoices 73 = .ok (.iload 6, 2) := by decide +kernel
theorem dX0_followChoices_75 : decode cX0_followChoices 75 = .ok (.ishl, 1) := by decide +kernel
theorem dX0_followChoices_76 : decode cX0_followChoices 76 = .ok (.ixor, 1) := by decide +kernel
theorem dX0_followChoices_77 : decode cX0_followChoices 77 = .ok (.iload 5, 2) := by decide +kernel
theorem dX0_followChoices_79 : decode cX0_followChoices 79 = .ok (.ior, 1) := by decide +kernel
theorem dX0_followChoices_80 : decode cX0_followChoices 80 = .ok (.istore_n 3, 1) := by decide +kernel
theorem dX0_followChoices_81 : decode cX0_followChoices 81 = .ok (.iinc 4 1, 3) := by decide +kernel
theorem dX0_followChoices_84 : decode cX0_followChoices 84 = .ok (.goto (-79), 3) := by decide +kernel
theorem dX0_followChoices_87 : decode cX0_followChoices 87 = .ok (.return_, 1) := by decide +kernel
theorem dX0_keepChoice_0 : decode cX0_keepChoice 0 = .ok (.iload_n 1, 1) := by decide +kernel
theorem dX0_keepChoice_1 : decode cX0_keepChoice 1 = .ok (.bipush 16, 2) := by decide +kernel
theorem dX0_keepChoice_3 : decode cX0_keepChoice 3 = .ok (.imul, 1) := by decide +kernel
theorem dX0_keepChoice_4 : decode cX0_keepChoice 4 = .ok (.iload_n 2, 1) := by decide +kernel
theorem dX0_keepChoice_5 : decode cX0_keepChoice 5 = .ok (.iconst 4, 1) := by decide +kernel
theorem dX0_keepChoice_6 : decode cX0_keepChoice 6 = .ok (.ishr, 1) := by decide +kernel
theorem dX0_keepChoice_7 : decode cX0_keepChoice 7 = .ok (.iadd, 1) := by decide +kernel
theorem dX0_keepChoice_8 : decode cX0_keepChoice 8 = .ok (.istore 4, 2) := by decide +kernel
theorem dX0_keepChoice_10 : decode cX0_keepChoice 10 = .ok (.iload_n 2, 1) := by decide +kernel
theorem dX0_keepChoice_11 : decode cX0_keepChoice 11 = .ok (.bipush 15, 2) := by decide +kernel
theorem dX0_keepChoice_13 : decode cX0_keepChoice 13 = .ok (.iand, 1) := by decide +kernel
theorem dX0_keepChoice_14 : decode cX0_keepChoice 14 = .ok (.iconst 4, 1) := by decide +kernel
theorem dX0_keepChoice_15 : decode cX0_keepChoice 15 = .ok (.imul, 1) := by decide +kernel
theorem dX0_keepChoice_16 : decode cX0_keepChoice 16 = .ok (.istore 5, 2) := by decide +kernel
theorem dX0_keepChoice_18 : decode cX0_keepChoice 18 = .ok (.aload_n 0, 1) := by decide +kernel
theorem dX0_keepChoice_19 : decode cX0_keepChoice 19 = .ok (.getfield 27, 3) := by decide +kernel
theorem dX0_keepChoice_22 : decode cX0_keepChoice 22 = .ok (.iload 4, 2) := by decide +kernel
theorem dX0_keepChoice_24 : decode cX0_keepChoice 24 = .ok (.aload_n 0, 1) := by decide +kernel
theorem dX0_keepChoice_25 : decode cX0_keepChoice 25 = .ok (.getfield 27, 3) := by decide +kernel
theorem dX0_keepChoice_28 : decode cX0_keepChoice 28 = .ok (.iload 4, 2) := by decide +kernel
theorem dX0_keepChoice_30 : decode cX0_keepChoice 30 = .ok (.laload, 1) := by decide +kernel
theorem dX0_keepChoice_31 : decode cX0_keepChoice 31 = .ok (.ldc2_w 103, 3) := by decide +kernel
theorem dX0_keepChoice_34 : decode cX0_keepChoice 34 = .ok (.iload 5, 2) := by decide +kernel
theorem dX0_keepChoice_36 : decode cX0_keepChoice 36 = .ok (.lshl, 1) := by decide +kernel
theorem dX0_keepChoice_37 : decode cX0_keepChoice 37 = .ok (.ldc2_w 105, 3) := by decide +kernel
theorem dX0_keepChoice_40 : decode cX0_keepChoice 40 = .ok (.lxor, 1) := by decide +kernel
theorem dX0_keepChoice_41 : decode cX0_keepChoice 41 = .ok (.land, 1) := by decide +kernel
theorem dX0_keepChoice_42 : decode cX0_keepChoice 42 = .ok (.iload_n 3, 1) := by decide +kernel
theorem dX0_keepChoice_43 : decode cX0_keepChoice 43 = .ok (.i2l, 1) := by decide +kernel
theorem dX0_keepChoice_44 : decode cX0_keepChoice 44 = .ok (.iload 5, 2) := by decide +kernel
theorem dX0_keepChoice_46 : decode cX0_keepChoice 46 = .ok (.lshl, 1) := by decide +kernel
theorem dX0_keepChoice_47 : decode cX0_keepChoice 47 = .ok (.lor, 1) := by decide +kernel
theorem dX0_keepChoice_48 : decode cX0_keepChoice 48 = .ok (.lastore, 1) := by decide +kernel
theorem dX0_keepChoice_49 : decode cX0_keepChoice 49 = .ok (.return_, 1) := by decide +kernel
theorem dX0_keptChoice_0 : decode cX0_keptChoice 0 = .ok (.iload_n 1, 1) := by decide +kernel
theorem dX0_keptChoice_1 : decode cX0_keptChoice 1 = .ok (.bipush 16, 2) := by decide +kernel
theorem dX0_keptChoice_3 : decode cX0_keptChoice 3 = .ok (.imul, 1) := by decide +kernel
theorem dX0_keptChoice_4 : decode cX0_keptChoice 4 = .ok (.iload_n 2, 1) := by decide +kernel
theorem dX0_keptChoice_5 : decode cX0_keptChoice 5 = .ok (.iconst 4, 1) := by decide +kernel
theorem dX0_keptChoice_6 : decode cX0_keptChoice 6 = .ok (.ishr, 1) := by decide +kernel
theorem dX0_keptChoice_7 : decode cX0_keptChoice 7 = .ok (.iadd, 1) := by decide +kernel
theorem dX0_keptChoice_8 : decode cX0_keptChoice 8 = .ok (.istore_n 3, 1) := by decide +kernel
theorem dX0_keptChoice_9 : decode cX0_keptChoice 9 = .ok (.aload_n 0, 1) := by decide +kernel
theorem dX0_keptChoice_10 : decode cX0_keptChoice 10 = .ok (.getfield 27, 3) := by decide +kernel
theorem dX0_keptChoice_13 : decode cX0_keptChoice 13 = .ok (.iload_n 3, 1) := by decide +kernel
theorem dX0_keptChoice_14 : decode cX0_keptChoice 14 = .ok (.laload, 1) := by decide +kernel
theorem dX0_keptChoice_15 : decode cX0_keptChoice 15 = .ok (.iload_n 2, 1) := by decide +kernel
theorem dX0_keptChoice_16 : decode cX0_keptChoice 16 = .ok (.bipush 15, 2) := by decide +kernel
theorem dX0_keptChoice_18 : decode cX0_keptChoice 18 = .ok (.iand, 1) := by decide +kernel
theorem dX0_keptChoice_19 : decode cX0_keptChoice 19 = .ok (.iconst 4, 1) := by decide +kernel
theorem dX0_keptChoice_20 : decode cX0_keptChoice 20 = .ok (.imul, 1) := by decide +kernel
theorem dX0_keptChoice_21 : decode cX0_keptChoice 21 = .ok (.lshr, 1) := by decide +kernel
theorem dX0_keptChoice_22 : decode cX0_keptChoice 22 = .ok (.l2i, 1) := by decide +kernel
theorem dX0_keptChoice_23 : decode cX0_keptChoice 23 = .ok (.bipush 15, 2) := by decide +kernel
theorem dX0_keptChoice_25 : decode cX0_keptChoice 25 = .ok (.iand, 1) := by decide +kernel
theorem dX0_keptChoice_26 : decode cX0_keptChoice 26 = .ok (.ireturn, 1) := by decide +kernel
