theorem dX4_init_0 : decode cX4_init 0 = .ok (.aload_n 0, 1) := by decide +kernel
theorem dX4_init_1 : decode cX4_init 1 = .ok (.invokespecial 1, 3) := by decide +kernel
theorem dX4_init_4 : decode cX4_init 4 = .ok (.aload_n 0, 1) := by decide +kernel
theorem dX4_init_5 : decode cX4_init 5 = .ok (.bipush 16, 2) := by decide +kernel
theorem dX4_init_7 : decode cX4_init 7 = .ok (.newarray .int, 2) := by decide +kernel
theorem dX4_init_9 : decode cX4_init 9 = .ok (.putfield 7, 3) := by decide +kernel
theorem dX4_init_12 : decode cX4_init 12 = .ok (.aload_n 0, 1) := by decide +kernel
theorem dX4_init_13 : decode cX4_init 13 = .ok (.sipush 300, 3) := by decide +kernel
theorem dX4_init_16 : decode cX4_init 16 = .ok (.newarray .int, 2) := by decide +kernel
theorem dX4_init_18 : decode cX4_init 18 = .ok (.putfield 13, 3) := by decide +kernel
theorem dX4_init_21 : decode cX4_init 21 = .ok (.aload_n 0, 1) := by decide +kernel
theorem dX4_init_22 : decode cX4_init 22 = .ok (.sipush 300, 3) := by decide +kernel
theorem dX4_init_25 : decode cX4_init 25 = .ok (.newarray .int, 2) := by decide +kernel
theorem dX4_init_27 : decode cX4_init 27 = .ok (.putfield 16, 3) := by decide +kernel
theorem dX4_init_30 : decode cX4_init 30 = .ok (.aload_n 0, 1) := by decide +kernel
theorem dX4_init_31 : decode cX4_init 31 = .ok (.sipush 300, 3) := by decide +kernel
theorem dX4_init_34 : decode cX4_init 34 = .ok (.newarray .int, 2) := by decide +kernel
theorem dX4_init_36 : decode cX4_init 36 = .ok (.putfield 19, 3) := by decide +kernel
theorem dX4_init_39 : decode cX4_init 39 = .ok (.aload_n 0, 1) := by decide +kernel
theorem dX4_init_40 : decode cX4_init 40 = .ok (.sipush 300, 3) := by decide +kernel
theorem dX4_init_43 : decode cX4_init 43 = .ok (.newarray .int, 2) := by decide +kernel
theorem dX4_init_45 : decode cX4_init 45 = .ok (.putfield 22, 3) := by decide +kernel
theorem dX4_init_48 : decode cX4_init 48 = .ok (.aload_n 0, 1) := by decide +kernel
theorem dX4_init_49 : decode cX4_init 49 = .ok (.iconst 5, 1) := by decide +kernel
theorem dX4_init_50 : decode cX4_init 50 = .ok (.newarray .int, 2) := by decide +kernel
theorem dX4_init_52 : decode cX4_init 52 = .ok (.putfield 25, 3) := by decide +kernel
theorem dX4_init_55 : decode cX4_init 55 = .ok (.aload_n 0, 1) := by decide +kernel
theorem dX4_init_56 : decode cX4_init 56 = .ok (.bipush 16, 2) := by decide +kernel
theorem dX4_init_58 : decode cX4_init 58 = .ok (.newarray .boolean, 2) := by decide +kernel
theorem dX4_init_60 : decode cX4_init 60 = .ok (.putfield 28, 3) := by decide +kernel
theorem dX4_init_63 : decode cX4_init 63 = .ok (.aload_n 0, 1) := by decide +kernel
theorem dX4_init_64 : decode cX4_init 64 = .ok (.bipush 16, 2) := by decide +kernel
theorem dX4_init_66 : decode cX4_init 66 = .ok (.newarray .int, 2) := by decide +kernel
theorem dX4_init_68 : decode cX4_init 68 = .ok (.putfield 32, 3) := by decide +kernel
theorem dX4_init_71 : decode cX4_init 71 = .ok (.aload_n 0, 1) := by decide +kernel
theorem dX4_init_72 : decode cX4_init 72 = .ok (.bipush 16, 2) := by decide +kernel
theorem dX4_init_74 : decode cX4_init 74 = .ok (.newarray .int, 2) := by decide +kernel
theorem dX4_init_76 : decode cX4_init 76 = .ok (.putfield 35, 3) := by decide +kernel
theorem dX4_init_79 : decode cX4_init 79 = .ok (.aload_n 0, 1) := by decide +kernel
theorem dX4_init_80 : decode cX4_init 80 = .ok (.bipush 16, 2) := by decide +kernel
theorem dX4_init_82 : decode cX4_init 82 = .ok (.newarray .int, 2) := by decide +kernel
theorem dX4_init_84 : decode cX4_init 84 = .ok (.putfield 38, 3) := by decide +kernel
theorem dX4_init_87 : decode cX4_init 87 = .ok (.aload_n 0, 1) := by decide +kernel
theorem dX4_init_88 : decode cX4_init 88 = .ok (.bipush 16, 2) := by decide +kernel
theorem dX4_init_90 : decode cX4_init 90 = .ok (.newarray .boolean, 2) := by decide +kernel
theorem dX4_init_92 : decode cX4_init 92 = .ok (.putfield 41, 3) := by decide +kernel
theorem dX4_init_95 : decode cX4_init 95 = .ok (.aload_n 0, 1) := by decide +kernel
theorem dX4_init_96 : decode cX4_init 96 = .ok (.bipush 16, 2) := by decide +kernel
theorem dX4_init_98 : decode cX4_init 98 = .ok (.newarray .int, 2) := by decide +kernel
theorem dX4_init_100 : decode cX4_init 100 = .ok (.putfield 44, 3) := by decide +kernel
theorem dX4_init_103 : decode cX4_init 103 = .ok (.aload_n 0, 1) := by decide +kernel
theorem dX4_init_104 : decode cX4_init 104 = .ok (.bipush 16, 2) := by decide +kernel
theorem dX4_init_106 : decode cX4_init 106 = .ok (.newarray .int, 2) := by decide +kernel
theorem dX4_init_108 : decode cX4_init 108 = .ok (.putfield 47, 3) := by decide +kernel
theorem dX4_init_111 : decode cX4_init 111 = .ok (.aload_n 0, 1) := by decide +kernel
theorem dX4_init_112 : decode cX4_init 112 = .ok (.bipush 16, 2) := by decide +kernel
theorem dX4_init_114 : decode cX4_init 114 = .ok (.newarray .int, 2) := by decide +kernel
theorem dX4_init_116 : decode cX4_init 116 = .ok (.putfield 50, 3) := by decide +kernel
theorem dX4_init_119 : decode cX4_init 119 = .ok (.aload_n 0, 1) := by decide +kernel
theorem dX4_init_120 : decode cX4_init 120 = .ok (.bipush 16, 2) := by decide +kernel
theorem dX4_init_122 : decode cX4_init 122 = .ok (.newarray .int, 2) := by decide +kernel
theorem dX4_init_124 : decode cX4_init 124 = .ok (.putfield 53, 3) := by decide +kernel
theorem dX4_init_127 : decode cX4_init 127 = .ok (.aload_n 0, 1) := by decide +kernel
theorem dX4_init_128 : decode cX4_init 128 = .ok (.bipush 16, 2) := by decide +kernel
theorem dX4_init_130 : decode cX4_init 130 = .ok (.newarray .int, 2) := by decide +kernel
theorem dX4_init_132 : decode cX4_init 132 = .ok (.putfield 56, 3) := by decide +kernel
theorem dX4_init_135 : decode cX4_init 135 = .ok (.aload_n 0, 1) := by decide +kernel
theorem dX4_init_136 : decode cX4_init 136 = .ok (.ldc 59, 2) := by decide +kernel
theorem dX4_init_138 : decode cX4_init 138 = .ok (.newarray .int, 2) := by decide +kernel
theorem dX4_init_140 : decode cX4_init 140 = .ok (.putfield 60, 3) := by decide +kernel
theorem dX4_init_143 : decode cX4_init 143 = .ok (.aload_n 0, 1) := by decide +kernel
theorem dX4_init_144 : decode cX4_init 144 = .ok (.bipush 16, 2) := by decide +kernel
theorem dX4_init_146 : decode cX4_init 146 = .ok (.newarray .boolean, 2) := by decide +kernel
theorem dX4_init_148 : decode cX4_init 148 = .ok (.putfield 63, 3) := by decide +kernel
theorem dX4_init_151 : decode cX4_init 151 = .ok (.aload_n 0, 1) := by decide +kernel
theorem dX4_init_152 : decode cX4_init 152 = .ok (.bipush 16, 2) := by decide +kernel
theorem dX4_init_154 : decode cX4_init 154 = .ok (.newarray .boolean, 2) := by decide +kernel
theorem dX4_init_156 : decode cX4_init 156 = .ok (.putfield 66, 3) := by decide +kernel
theorem dX4_init_159 : decode cX4_init 159 = .ok (.iconst 0, 1) := by decide +kernel
theorem dX4_init_160 : decode cX4_init 160 = .ok (.istore_n 1, 1) := by decide +kernel
theorem dX4_init_161 : decode cX4_init 161 = .ok (.iload_n 1, 1) := by decide +kernel
theorem dX4_init_162 : decode cX4_init 162 = .ok (.bipush 16, 2) := by decide +kernel
theorem dX4_init_164 : decode cX4_init 164 = .ok (.if_icmp .ge 16, 3) := by decide +kernel
theorem dX4_init_167 : decode cX4_init 167 = .ok (.aload_n 0, 1) := by decide +kernel
theorem dX4_init_168 : decode cX4_init 168 = .ok (.getfield 7, 3) := by decide +kernel
theorem dX4_init_171 : decode cX4_init 171 = .ok (.iload_n 1, 1) := by decide +kernel
theorem dX4_init_172 : decode cX4_init 172 = .ok (.iconst 1, 1) := by decide +kernel
theorem dX4_init_173 : decode cX4_init 173 = .ok (.iastore, 1) := by decide +kernel
theorem dX4_init_174 : decode cX4_init 174 = .ok (.iinc 1 1, 3) := by decide +kernel
theorem dX4_init_177 : decode cX4_init 177 = .ok (.goto (-16), 3) := by decide +kernel
theorem dX4_init_180 : decode cX4_init 180 = .ok (.return_, 1) := by decide +kernel
theorem dX4_in_0 : decode cX4_in 0 = .ok (.iload_n 0, 1) := by decide +kernel
theorem dX4_in_1 : decode cX4_in 1 = .ok (.iload_n 1, 1) := by decide +kernel
theorem dX4_in_2 : decode cX4_in 2 = .ok (.if_icmp .lt 12, 3) := by decide +kernel
theorem dX4_in_5 : decode cX4_in 5 = .ok (.iload_n 0, 1) := by decide +kernel
theorem dX4_in_6 : decode cX4_in 6 = .ok (.iload_n 2, 1) := by decide +kernel
theorem dX4_in_7 : decode cX4_in 7 = .ok (.if_icmp .gt 7, 3) := by decide +kernel
theorem dX4_in_10 : decode cX4_in 10 = .ok (.iconst 1, 1) := by decide +kernel
theorem dX4_in_11 : decode cX4_in 11 = .ok (.goto 4, 3) := by decide +kernel
theorem dX4_in_14 : decode cX4_in 14 = .ok (.iconst 0, 1) := by decide +kernel
theorem dX4_in_15 : decode cX4_in 15 = .ok (.ireturn, 1) := by decide +kernel
theorem dX4_isThing_0 : decode cX4_isThing 0 = .ok (.iload_n 0, 1) := by decide +kernel
theorem dX4_isThing_1 : decode cX4_isThing 1 = .ok (.iconst 0, 1) := by decide +kernel
theorem dX4_isThing_2 : decode cX4_isThing 2 = .ok (.bipush 15, 2) := by decide +kernel
theorem dX4_isThing_4 : decode cX4_isThing 4 = .ok (.invokestatic 69, 3) := by decide +kernel
theorem dX4_isThing_7 : decode cX4_isThing 7 = .ok (.ireturn, 1) := by decide +kernel
theorem dX4_isAsking_0 : decode cX4_isAsking 0 = .ok (.iload_n 1, 1) := by decide +kernel
theorem dX4_isAsking_1 : decode cX4_isAsking 1 = .ok (.iconst 0, 1) := by decide +kernel
theorem dX4_isAsking_2 : decode cX4_isAsking 2 = .ok (.aload_n 0, 1) := by decide +kernel
theorem dX4_isAsking_3 : decode cX4_isAsking 3 = .ok (.getfield 73, 3) := by decide +kernel
theorem dX4_isAsking_6 : decode cX4_isAsking 6 = .ok (.iconst 1, 1) := by decide +kernel
theorem dX4_isAsking_7 : decode cX4_isAsking 7 = .ok (.isub, 1) := by decide +kernel
theorem dX4_isAsking_8 : decode cX4_isAsking 8 = .ok (.invokestatic 69, 3) := by decide +kernel
theorem dX4_isAsking_11 : decode cX4_isAsking 11 = .ok (.ireturn, 1) := by decide +kernel
theorem dX4_price_0 : decode cX4_price 0 = .ok (.iload_n 1, 1) := by decide +kernel
theorem dX4_price_1 : decode cX4_price 1 = .ok (.invokestatic 77, 3) := by decide +kernel
theorem dX4_price_4 : decode cX4_price 4 = .ok (.ifCond .eq 14, 3) := by decide +kernel
theorem dX4_price_7 : decode cX4_price 7 = .ok (.iload_n 2, 1) := by decide +kernel
theorem dX4_price_8 : decode cX4_price 8 = .ok (.iconst 1, 1) := by decide +kernel
theorem dX4_price_9 : decode cX4_price 9 = .ok (.sipush 1000, 3) := by decide +kernel
theorem dX4_price_12 : decode cX4_price 12 = .ok (.invokestatic 69, 3) := by decide +kernel
theorem dX4_price_15 : decode cX4_price 15 = .ok (.ifCond .ne 5, 3) := by decide +kernel
theorem dX4_price_18 : decode cX4_price 18 = .ok (.iconst (-1), 1) := by decide +kernel
theorem dX4_price_19 : decode cX4_price 19 = .ok (.ireturn, 1) := by decide +kernel
theorem dX4_price_20 : decode cX4_price 20 = .ok (.aload_n 0, 1) := by decide +kernel
theorem dX4_price_21 : decode cX4_price 21 = .ok (.iconst 0, 1) := by decide +kernel
theorem dX4_price_22 : decode cX4_price 22 = .ok (.putfield 81, 3) := by decide +kernel
theorem dX4_price_25 : decode cX4_price 25 = .ok (.aload_n 0, 1) := by decide +kernel
theorem dX4_price_26 : decode cX4_price 26 = .ok (.getfield 7, 3) := by decide +kernel
theorem dX4_price_29 : decode cX4_price 29 = .ok (.iload_n 1, 1) := by decide +kernel
theorem dX4_price_30 : decode cX4_price 30 = .ok (.iload_n 2, 1) := by decide +kernel
theorem dX4_price_31 : decode cX4_price 31 = .ok (.iastore, 1) := by decide +kernel
theorem dX4_price_32 : decode cX4_price 32 = .ok (.iconst 1, 1) := by decide +kernel
theorem dX4_price_33 : decode cX4_price 33 = .ok (.ireturn, 1) := by decide +kernel
theorem dX4_add_0 : decode cX4_add 0 = .ok (.aload_n 0, 1) := by decide +kernel
theorem dX4_add_1 : decode cX4_add 1 = .ok (.getfield 13, 3) := by decide +kernel
theorem dX4_add_4 : decode cX4_add 4 = .ok (.aload_n 0, 1) := by decide +kernel
theorem dX4_add_5 : decode cX4_add 5 = .ok (.getfield 73, 3) := by decide +kernel
theorem dX4_add_8 : decode cX4_add 8 = .ok (.iload_n 1, 1) := by decide +kernel
theorem dX4_add_9 : decode cX4_add 9 = .ok (.iastore, 1) := by decide +kernel
theorem dX4_add_10 : decode cX4_add 10 = .ok (.aload_n 0, 1) := by decide +kernel
theorem dX4_add_11 : decode cX4_add 11 = .ok (.dup, 1) := by decide +kernel
theorem dX4_add_12 : decode cX4_add 12 = .ok (.getfield 73, 3) := by decide +kernel
theorem dX4_add_15 : decode cX4_add 15 = .ok (.iconst 1, 1) := by decide +kernel
theorem dX4_add_16 : decode cX4_add 16 = .ok (.iadd, 1) := by decide +kernel
theorem dX4_add_17 : decode cX4_add 17 = .ok (.putfield 73, 3) := by decide +kernel
theorem dX4_add_20 : decode cX4_add 20 = .ok (.return_, 1) := by decide +kernel
theorem dX4_ask_0 : decode cX4_ask 0 = .ok (.aload_n 0, 1) := by decide +kernel
theorem dX4_ask_1 : decode cX4_ask 1 = .ok (.getfield 25, 3) := by decide +kernel
theorem dX4_ask_4 : decode cX4_ask 4 = .ok (.iconst 0, 1) := by decide +kernel
theorem dX4_ask_5 : decode cX4_ask 5 = .ok (.iload_n 1, 1) := by decide +kernel
theorem dX4_ask_6 : decode cX4_ask 6 = .ok (.iastore, 1) := by decide +kernel
theorem dX4_ask_7 : decode cX4_ask 7 = .ok (.aload_n 0, 1) := by decide +kernel
theorem dX4_ask_8 : decode cX4_ask 8 = .ok (.getfield 25, 3) := by decide +kernel
theorem dX4_ask_11 : decode cX4_ask 11 = .ok (.iconst 1, 1) := by decide +kernel
theorem dX4_ask_12 : decode cX4_ask 12 = .ok (.iload_n 2, 1) := by decide +kernel
theorem dX4_ask_13 : decode cX4_ask 13 = .ok (.iastore, 1) := by decide +kernel
theorem dX4_ask_14 : decode cX4_ask 14 = .ok (.aload_n 0, 1) := by decide +kernel
theorem dX4_ask_15 : decode cX4_ask 15 = .ok (.getfield 25, 3) := by decide +kernel
theorem dX4_ask_18 : decode cX4_ask 18 = .ok (.iconst 2, 1) := by decide +kernel
theorem dX4_ask_19 : decode cX4_ask 19 = .ok (.iload_n 3, 1) := by decide +kernel
theorem dX4_ask_20 : decode cX4_ask 20 = .ok (.iastore, 1) := by decide +kernel
theorem dX4_ask_21 : decode cX4_ask 21 = .ok (.aload_n 0, 1) := by decide +kernel
theorem dX4_ask_22 : decode cX4_ask 22 = .ok (.getfield 25, 3) := by decide +kernel
theorem dX4_ask_25 : decode cX4_ask 25 = .ok (.iconst 3, 1) := by decide +kernel
theorem dX4_ask_26 : decode cX4_ask 26 = .ok (.iload 4, 2) := by decide +kernel
theorem dX4_ask_28 : decode cX4_ask 28 = .ok (.iastore, 1) := by decide +kernel
theorem dX4_ask_29 : decode cX4_ask 29 = .ok (.aload_n 0, 1) := by decide +kernel
theorem dX4_ask_30 : decode cX4_ask 30 = .ok (.getfield 25, 3) := by decide +kernel
theorem dX4_ask_33 : decode cX4_ask 33 = .ok (.iconst 4, 1) := by decide +kernel
theorem dX4_ask_34 : decode cX4_ask 34 = .ok (.iload 5, 2) := by decide +kernel
theorem dX4_ask_36 : decode cX4_ask 36 = .ok (.iastore, 1) := by decide +kernel
theorem dX4_ask_37 : decode cX4_ask 37 = .ok (.iconst 0, 1) := by decide +kernel
theorem dX4_ask_38 : decode cX4_ask 38 = .ok (.istore 6, 2) := by decide +kernel
theorem dX4_ask_40 : decode cX4_ask 40 = .ok (.iload 6, 2) := by decide +kernel
theorem dX4_ask_42 : decode cX4_ask 42 = .ok (.iconst 5, 1) := by decide +kernel
theorem dX4_ask_43 : decode cX4_ask 43 = .ok (.if_icmp .ge 35, 3) := by decide +kernel
theorem dX4_ask_46 : decode cX4_ask 46 = .ok (.aload_n 0, 1) := by decide +kernel
theorem dX4_ask_47 : decode cX4_ask 47 = .ok (.getfield 25, 3) := by decide +kernel
theorem dX4_ask_50 : decode cX4_ask 50 = .ok (.iload 6, 2) := by decide +kernel
theorem dX4_ask_52 : decode cX4_ask 52 = .ok (.iaload, 1) := by decide +kernel
theorem dX4_ask_53 : decode cX4_ask 53 = .ok (.iconst (-1), 1) := by decide +kernel
theorem dX4_ask_54 : decode cX4_ask 54 = .ok (.if_icmp .eq 24, 3) := by decide +kernel
theorem dX4_ask_57 : decode cX4_ask 57 = .ok (.aload_n 0, 1) := by decide +kernel
theorem dX4_ask_58 : decode cX4_ask 58 = .ok (.getfield 25, 3) := by decide +kernel
theorem dX4_ask_61 : decode cX4_ask 61 = .ok (.iload 6, 2) := by decide +kernel
theorem dX4_ask_63 : decode cX4_ask 63 = .ok (.iaload, 1) := by decide +kernel
theorem dX4_ask_64 : decode cX4_ask 64 = .ok (.invokestatic 77, 3) := by decide +kernel
theorem dX4_ask_67 : decode cX4_ask 67 = .ok (.ifCond .ne 5, 3) := by decide +kernel
theorem dX4_ask_70 : decode cX4_ask 70 = .ok (.iconst (-1), 1) := by decide +kernel
theorem dX4_ask_71 : decode cX4_ask 71 = .ok (.ireturn, 1) := by decide +kernel
theorem dX4_ask_72 : decode cX4_ask 72 = .ok (.iinc 6 1, 3) := by decide +kernel
theorem dX4_ask_75 : decode cX4_ask 75 = .ok (.goto (-35), 3) := by decide +kernel
theorem dX4_ask_78 : decode cX4_ask 78 = .ok (.aload_n 0, 1) := by decide +kernel
theorem dX4_ask_79 : decode cX4_ask 79 = .ok (.getfield 73, 3) := by decide +kernel
theorem dX4_ask_82 : decode cX4_ask 82 = .ok (.iload 6, 2) := by decide +kernel
theorem dX4_ask_84 : decode cX4_ask 84 = .ok (.iadd, 1) := by decide +kernel
theorem dX4_ask_85 : decode cX4_ask 85 = .ok (.sipush 300, 3) := by decide +kernel
theorem dX4_ask_88 : decode cX4_ask 88 = .ok (.if_icmp .le 6, 3) := by decide +kernel
theorem dX4_ask_91 : decode cX4_ask 91 = .ok (.bipush (-2), 2) := by decide +kernel
theorem dX4_ask_93 : decode cX4_ask 93 = .ok (.ireturn, 1) := by decide +kernel
theorem dX4_ask_94 : decode cX4_ask 94 = .ok (.aload_n 0, 1) := by decide +kernel
theorem dX4_ask_95 : decode cX4_ask 95 = .ok (.iconst 0, 1) := by decide +kernel
theorem dX4_ask_96 : decode cX4_ask 96 = .ok (.putfield 81, 3) := by decide +kernel
theorem dX4_ask_99 : decode cX4_ask 99 = .ok (.iconst 0, 1) := by decide +kernel
theorem dX4_ask_100 : decode cX4_ask 100 = .ok (.istore 7, 2) := by decide +kernel
theorem dX4_ask_102 : decode cX4_ask 102 = .ok (.iload 7, 2) := by decide +kernel
theorem dX4_ask_104 : decode cX4_ask 104 = .ok (.iload 6, 2) := by decide +kernel
theorem dX4_ask_106 : decode cX4_ask 106 = .ok (.if_icmp .ge 20, 3) := by decide +kernel
theorem dX4_ask_109 : decode cX4_ask 109 = .ok (.aload_n 0, 1) := by decide +kernel
theorem dX4_ask_110 : decode cX4_ask 110 = .ok (.aload_n 0, 1) := by decide +kernel
theorem dX4_ask_111 : decode cX4_ask 111 = .ok (.getfield 25, 3) := by decide +kernel
theorem dX4_ask_114 : decode cX4_ask 114 = .ok (.iload 7, 2) := by decide +kernel
theorem dX4_ask_116 : decode cX4_ask 116 = .ok (.iaload, 1) := by decide +kernel
theorem dX4_ask_117 : decode cX4_ask 117 = .ok (.invokevirtual 85, 3) := by decide +kernel
theorem dX4_ask_120 : decode cX4_ask 120 = .ok (.iinc 7 1, 3) := by decide +kernel
theorem dX4_ask_123 : decode cX4_ask 123 = .ok (.goto (-21), 3) := by decide +kernel
theorem dX4_ask_126 : decode cX4_ask 126 = .ok (.aload_n 0, 1) := by decide +kernel
theorem dX4_ask_127 : decode cX4_ask 127 = .ok (.getfield 73, 3) := by decide +kernel
theorem dX4_ask_130 : decode cX4_ask 130 = .ok (.ireturn, 1) := by decide +kernel
theorem dX4_draw_0 : decode cX4_draw 0 = .ok (.iload_n 1, 1) := by decide +kernel
theorem dX4_draw_1 : decode cX4_draw 1 = .ok (.iconst 0, 1) := by decide +kernel
theorem dX4_draw_2 : decode cX4_draw 2 = .ok (.sipush 300, 3) := by decide +kernel
theorem dX4_draw_5 : decode cX4_draw 5 = .ok (.invokestatic 69, 3) := by decide +kernel
theorem dX4_draw_8 : decode cX4_draw 8 = .ok (.ifCond .eq 13, 3) := by decide +kernel
theorem dX4_draw_11 : decode cX4_draw 11 = .ok (.iload_n 2, 1) := by decide +kernel
theorem dX4_draw_12 : decode cX4_draw 12 = .ok (.iconst 1, 1) := by decide +kernel
theorem dX4_draw_13 : decode cX4_draw 13 = .ok (.bipush 16, 2) := by decide +kernel
theorem dX4_draw_15 : decode cX4_draw 15 = .ok (.invokestatic 69, 3) := by decide +kernel
theorem dX4_draw_18 : decode cX4_draw 18 = .ok (.ifCond .ne 5, 3) := by decide +kernel
theorem dX4_draw_21 : decode cX4_draw 21 = .ok (.iconst (-1), 1) := by decide +kernel
theorem dX4_draw_22 : decode cX4_draw 22 = .ok (.ireturn, 1) := by decide +kernel
theorem dX4_draw_23 : decode cX4_draw 23 = .ok (.aload_n 0, 1) := by decide +kernel
theorem dX4_draw_24 : decode cX4_draw 24 = .ok (.getfield 73, 3) := by decide +kernel
theorem dX4_draw_27 : decode cX4_draw 27 = .ok (.iload_n 1, 1) := by decide +kernel
theorem dX4_draw_28 : decode cX4_draw 28 = .ok (.iadd, 1) := by decide +kernel
theorem dX4_draw_29 : decode cX4_draw 29 = .ok (.sipush 300, 3) := by decide +kernel
theorem dX4_draw_32 : decode cX4_draw 32 = .ok (.if_icmp .le 6, 3) := by decide +kernel
theorem dX4_draw_35 : decode cX4_draw 35 = .ok (.bipush (-2), 2) := by decide +kernel
theorem dX4_draw_37 : decode cX4_draw 37 = .ok (.ireturn, 1) := by decide +kernel
theorem dX4_draw_38 : decode cX4_draw 38 = .ok (.iload_n 3, 1) := by decide +kernel
theorem dX4_draw_39 : decode cX4_draw 39 = .ok (.istore 4, 2) := by decide +kernel
theorem dX4_draw_41 : decode cX4_draw 41 = .ok (.aload_n 0, 1) := by decide +kernel
theorem dX4_draw_42 : decode cX4_draw 42 = .ok (.iconst 0, 1) := by decide +kernel
theorem dX4_draw_43 : decode cX4_draw 43 = .ok (.putfield 81, 3) := by decide +kernel
theorem dX4_draw_46 : decode cX4_draw 46 = .ok (.iconst 0, 1) := by decide +kernel
theorem dX4_draw_47 : decode cX4_draw 47 = .ok (.istore 5, 2) := by decide +kernel
theorem dX4_draw_49 : decode cX4_draw 49 = .ok (.iload 5, 2) := by decide +kernel
theorem dX4_draw_51 : decode cX4_draw 51 = .ok (.iload_n 1, 1) := by decide +kernel
theorem dX4_draw_52 : decode cX4_draw 52 = .ok (.if_icmp .ge 31, 3) := by decide +kernel
theorem dX4_draw_55 : decode cX4_draw 55 = .ok (.ldc 89, 2) := by decide +kernel
theorem dX4_draw_57 : decode cX4_draw 57 = .ok (.iload 4, 2) := by decide +kernel
theorem dX4_draw_59 : decode cX4_draw 59 = .ok (.imul, 1) := by decide +kernel
theorem dX4_draw_60 : decode cX4_draw 60 = .ok (.sipush 12345, 3) := by decide +kernel
theorem dX4_draw_63 : decode cX4_draw 63 = .ok (.iadd, 1) := by decide +kernel
theorem dX4_draw_64 : decode cX4_draw 64 = .ok (.istore 4, 2) := by decide +kernel
theorem dX4_draw_66 : decode cX4_draw 66 = .ok (.aload_n 0, 1) := by decide +kernel
theorem dX4_draw_67 : decode cX4_draw 67 = .ok (.iload 4, 2) := by decide +kernel
theorem dX4_draw_69 : decode cX4_draw 69 = .ok (.bipush 16, 2) := by decide +kernel
theorem dX4_draw_71 : decode cX4_draw 71 = .ok (.iushr, 1) := by decide +kernel
theorem dX4_draw_72 : decode cX4_draw 72 = .ok (.iload_n 2, 1) := by decide +kernel
theorem dX4_draw_73 : decode cX4_draw 73 = .ok (.irem, 1) := by decide +kernel
theorem dX4_draw_74 : decode cX4_draw 74 = .ok (.invokevirtual 85, 3) := by decide +kernel
theorem dX4_draw_77 : decode cX4_draw 77 = .ok (.iinc 5 1, 3) := by decide +kernel
theorem dX4_draw_80 : decode cX4_draw 80 = .ok (.goto (-31), 3) := by decide +kernel
theorem dX4_draw_83 : decode cX4_draw 83 = .ok (.aload_n 0, 1) := by decide +kernel
theorem dX4_draw_84 : decode cX4_draw 84 = .ok (.getfield 73, 3) := by decide +kernel
theorem dX4_draw_87 : decode cX4_draw 87 = .ok (.ireturn, 1) := by decide +kernel
theorem dX4_change_0 : decode cX4_change 0 = .ok (.aload_n 0, 1) := by decide +kernel
theorem dX4_change_1 : decode cX4_change 1 = .ok (.iload_n 1, 1) := by decide +kernel
theorem dX4_change_2 : decode cX4_change 2 = .ok (.invokevirtual 90, 3) := by decide +kernel
theorem dX4_change_5 : decode cX4_change 5 = .ok (.ifCond .eq 10, 3) := by decide +kernel
theorem dX4_change_8 : decode cX4_change 8 = .ok (.iload_n 2, 1) := by decide +kernel
theorem dX4_change_9 : decode cX4_change 9 = .ok (.invokestatic 77, 3) := by decide +kernel
theorem dX4_change_12 : decode cX4_change 12 = .ok (.ifCond .ne 5, 3) := by decide +kernel
theorem dX4_change_15 : decode cX4_change 15 = .ok (.iconst (-1), 1) := by decide +kernel
theorem dX4_change_16 : decode cX4_change 16 = .ok (.ireturn, 1) := by decide +kernel
theorem dX4_change_17 : decode cX4_change 17 = .ok (.aload_n 0, 1) := by decide +kernel
theorem dX4_change_18 : decode cX4_change 18 = .ok (.iconst 0, 1) := by decide +kernel
theorem dX4_change_19 : decode cX4_change 19 = .ok (.putfield 81, 3) := by decide +kernel
theorem dX4_change_22 : decode cX4_change 22 = .ok (.aload_n 0, 1) := by decide +kernel
theorem dX4_change_23 : decode cX4_change 23 = .ok (.getfield 13, 3) := by decide +kernel
theorem dX4_change_26 : decode cX4_change 26 = .ok (.iload_n 1, 1) := by decide +kernel
theorem dX4_change_27 : decode cX4_change 27 = .ok (.iload_n 2, 1) := by decide +kernel
theorem dX4_change_28 : decode cX4_change 28 = .ok (.iastore, 1) := by decide +kernel
theorem dX4_change_29 : decode cX4_change 29 = .ok (.iconst 1, 1) := by decide +kernel
theorem dX4_change_30 : decode cX4_change 30 = .ok (.ireturn, 1) := by decide +kernel
theorem dX4_cut_0 : decode cX4_cut 0 = .ok (.iload_n 1, 1) := by decide +kernel
theorem dX4_cut_1 : decode cX4_cut 1 = .ok (.iconst 0, 1) := by decide +kernel
theorem dX4_cut_2 : decode cX4_cut 2 = .ok (.aload_n 0, 1) := by decide +kernel
theorem dX4_cut_3 : decode cX4_cut 3 = .ok (.getfield 73, 3) := by decide +kernel
theorem dX4_cut_6 : decode cX4_cut 6 = .ok (.invokestatic 69, 3) := by decide +kernel
theorem dX4_cut_9 : decode cX4_cut 9 = .ok (.ifCond .ne 5, 3) := by decide +kernel
theorem dX4_cut_12 : decode cX4_cut 12 = .ok (.iconst (-1), 1) := by decide +kernel
theorem dX4_cut_13 : decode cX4_cut 13 = .ok (.ireturn, 1) := by decide +kernel
theorem dX4_cut_14 : decode cX4_cut 14 = .ok (.aload_n 0, 1) := by decide +kernel
theorem dX4_cut_15 : decode cX4_cut 15 = .ok (.iconst 0, 1) := by decide +kernel
theorem dX4_cut_16 : decode cX4_cut 16 = .ok (.putfield 81, 3) := by decide +kernel
theorem dX4_cut_19 : decode cX4_cut 19 = .ok (.aload_n 0, 1) := by decide +kernel
theorem dX4_cut_20 : decode cX4_cut 20 = .ok (.iload_n 1, 1) := by decide +kernel
theorem dX4_cut_21 : decode cX4_cut 21 = .ok (.putfield 73, 3) := by decide +kernel
theorem dX4_cut_24 : decode cX4_cut 24 = .ok (.iload_n 1, 1) := by decide +kernel
theorem dX4_cut_25 : decode cX4_cut 25 = .ok (.ireturn, 1) := by decide +kernel
theorem dX4_asked_0 : decode cX4_asked 0 = .ok (.aload_n 0, 1) := by decide +kernel
theorem dX4_asked_1 : decode cX4_asked 1 = .ok (.iload_n 1, 1) := by decide +kernel
theorem dX4_asked_2 : decode cX4_asked 2 = .ok (.invokevirtual 90, 3) := by decide +kernel
theorem dX4_asked_5 : decode cX4_asked 5 = .ok (.ifCond .eq 12, 3) := by decide +kernel
theorem dX4_asked_8 : decode cX4_asked 8 = .ok (.aload_n 0, 1) := by decide +kernel
theorem dX4_asked_9 : decode cX4_asked 9 = .ok (.getfield 13, 3) := by decide +kernel
theorem dX4_asked_12 : decode cX4_asked 12 = .ok (.iload_n 1, 1) := by decide +kernel
theorem dX4_asked_13 : decode cX4_asked 13 = .ok (.iaload, 1) := by decide +kernel
theorem dX4_asked_14 : decode cX4_asked 14 = .ok (.goto 4, 3) := by decide +kernel
theorem dX4_asked_17 : decode cX4_asked 17 = .ok (.iconst (-1), 1) := by decide +kernel
theorem dX4_asked_18 : decode cX4_asked 18 = .ok (.ireturn, 1) := by decide +kernel
theorem dX4_unlike_0 : decode cX4_unlike 0 = .ok (.iconst 0, 1) := by decide +kernel
theorem dX4_unlike_1 : decode cX4_unlike 1 = .ok (.istore_n 1, 1) := by decide +kernel
theorem dX4_unlike_2 : decode cX4_unlike 2 = .ok (.iconst 0, 1) := by decide +kernel
theorem dX4_unlike_3 : decode cX4_unlike 3 = .ok (.istore_n 2, 1) := by decide +kernel
theorem dX4_unlike_4 : decode cX4_unlike 4 = .ok (.iload_n 2, 1) := by decide +kernel
theorem dX4_unlike_5 : decode cX4_unlike 5 = .ok (.bipush 16, 2) := by decide +kernel
theorem dX4_unlike_7 : decode cX4_unlike 7 = .ok (.if_icmp .ge 62, 3) := by decide +kernel
theorem dX4_unlike_10 : decode cX4_unlike 10 = .ok (.iconst 0, 1) := by decide +kernel
theorem dX4_unlike_11 : decode cX4_unlike 11 = .ok (.istore_n 3, 1) := by decide +kernel
theorem dX4_unlike_12 : decode cX4_unlike 12 = .ok (.iconst 0, 1) := by decide +kernel
theorem dX4_unlike_13 : decode cX4_unlike 13 = .ok (.istore 4, 2) := by decide +kernel
theorem dX4_unlike_15 : decode cX4_unlike 15 = .ok (.iload 4, 2) := by decide +kernel
theorem dX4_unlike_17 : decode cX4_unlike 17 = .ok (.aload_n 0, 1) := by decide +kernel
theorem dX4_unlike_18 : decode cX4_unlike 18 = .ok (.getfield 73, 3) := by decide +kernel
theorem dX4_unlike_21 : decode cX4_unlike 21 = .ok (.if_icmp .ge 30, 3) := by decide +kernel
theorem dX4_unlike_24 : decode cX4_unlike 24 = .ok (.iload_n 3, 1) := by decide +kernel
theorem dX4_unlike_25 : decode cX4_unlike 25 = .ok (.ifCond .ne 14, 3) := by decide +kernel
theorem dX4_unlike_28 : decode cX4_unlike 28 = .ok (.aload_n 0, 1) := by decide +kernel
theorem dX4_unlike_29 : decode cX4_unlike 29 = .ok (.getfield 13, 3) := by decide +kernel
theorem dX4_unlike_32 : decode cX4_unlike 32 = .ok (.iload 4, 2) := by decide +kernel
theorem dX4_unlike_34 : decode cX4_unlike 34 = .ok (.iaload, 1) := by decide +kernel
theorem dX4_unlike_35 : decode cX4_unlike 35 = .ok (.iload_n 2, 1) := by decide +kernel
theorem dX4_unlike_36 : decode cX4_unlike 36 = .ok (.if_icmp .ne 7, 3) := by decide +kernel
theorem dX4_unlike_39 : decode cX4_unlike 39 = .ok (.iconst 1, 1) := by decide +kernel
theorem dX4_unlike_40 : decode cX4_unlike 40 = .ok (.goto 4, 3) := by decide +kernel
theorem dX4_unlike_43 : decode cX4_unlike 43 = .ok (.iconst 0, 1) := by decide +kernel
theorem dX4_unlike_44 : decode cX4_unlike 44 = .ok (.istore_n 3, 1) := by decide +kernel
theorem dX4_unlike_45 : decode cX4_unlike 45 = .ok (.iinc 4 1, 3) := by decide +kernel
theorem dX4_unlike_48 : decode cX4_unlike 48 = .ok (.goto (-33), 3) := by decide +kernel
theorem dX4_unlike_51 : decode cX4_unlike 51 = .ok (.iload_n 1, 1) := by decide +kernel
theorem dX4_unlike_52 : decode cX4_unlike 52 = .ok (.iload_n 3, 1) := by decide +kernel
theorem dX4_unlike_53 : decode cX4_unlike 53 = .ok (.ifCond .eq 7, 3) := by decide +kernel
theorem dX4_unlike_56 : decode cX4_unlike 56 = .ok (.iconst 1, 1) := by decide +kernel
theorem dX4_unlike_57 : decode cX4_unlike 57 = .ok (.goto 4, 3) := by decide +kernel
theorem dX4_unlike_60 : decode cX4_unlike 60 = .ok (.iconst 0, 1) := by decide +kernel
theorem dX4_unlike_61 : decode cX4_unlike 61 = .ok (.iadd, 1) := by decide +kernel
theorem dX4_unlike_62 : decode cX4_unlike 62 = .ok (.istore_n 1, 1) := by decide +kernel
theorem dX4_unlike_63 : decode cX4_unlike 63 = .ok (.iinc 2 1, 3) := by decide +kernel
theorem dX4_unlike_66 : decode cX4_unlike 66 = .ok (.goto (-62), 3) := by decide +kernel
theorem dX4_unlike_69 : decode cX4_unlike 69 = .ok (.iload_n 1, 1) := by decide +kernel
theorem dX4_unlike_70 : decode cX4_unlike 70 = .ok (.ireturn, 1) := by decide +kernel
theorem dX4_allPrices_0 : decode cX4_allPrices 0 = .ok (.iconst 0, 1) := by decide +kernel
theorem dX4_allPrices_1 : decode cX4_allPrices 1 = .ok (.istore_n 1, 1) := by decide +kernel
theorem dX4_allPrices_2 : decode cX4_allPrices 2 = .ok (.iconst 0, 1) := by decide +kernel
theorem dX4_allPrices_3 : decode cX4_allPrices 3 = .ok (.istore_n 2, 1) := by decide +kernel
theorem dX4_allPrices_4 : decode cX4_allPrices 4 = .ok (.iload_n 2, 1) := by decide +kernel
theorem dX4_allPrices_5 : decode cX4_allPrices 5 = .ok (.aload_n 0, 1) := by decide +kernel
theorem dX4_allPrices_6 : decode cX4_allPrices 6 = .ok (.getfield 73, 3) := by decide +kernel
theorem dX4_allPrices_9 : decode cX4_allPrices 9 = .ok (.if_icmp .ge 23, 3) := by decide +kernel
theorem dX4_allPrices_12 : decode cX4_allPrices 12 = .ok (.iload_n 1, 1) := by decide +kernel
theorem dX4_allPrices_13 : decode cX4_allPrices 13 = .ok (.aload_n 0, 1) := by decide +kernel
theorem dX4_allPrices_14 : decode cX4_allPrices 14 = .ok (.getfield 7, 3) := by decide +kernel
theorem dX4_allPrices_17 : decode cX4_allPrices 17 = .ok (.aload_n 0, 1) := by decide +kernel
theorem dX4_allPrices_18 : decode cX4_allPrices 18 = .ok (.getfield 13, 3) := by decide +kernel
theorem dX4_allPrices_21 : decode cX4_allPrices 21 = .ok (.iload_n 2, 1) := by decide +kernel
theorem dX4_allPrices_22 : decode cX4_allPrices 22 = .ok (.iaload, 1) := by decide +kernel
theorem dX4_allPrices_23 : decode cX4_allPrices 23 = .ok (.iaload, 1) := by decide +kernel
theorem dX4_allPrices_24 : decode cX4_allPrices 24 = .ok (.iadd, 1) := by decide +kernel
theorem dX4_allPrices_25 : decode cX4_allPrices 25 = .ok (.istore_n 1, 1) := by decide +kernel
theorem dX4_allPrices_26 : decode cX4_allPrices 26 = .ok (.iinc 2 1, 3) := by decide +kernel
theorem dX4_allPrices_29 : decode cX4_allPrices 29 = .ok (.goto (-25), 3) := by decide +kernel
theorem dX4_allPrices_32 : decode cX4_allPrices 32 = .ok (.iload_n 1, 1) := by decide +kernel
theorem dX4_allPrices_33 : decode cX4_allPrices 33 = .ok (.ireturn, 1) := by decide +kernel
theorem dX4_many_0 : decode cX4_many 0 = .ok (.iload_n 1, 1) := by decide +kernel
theorem dX4_many_1 : decode cX4_many 1 = .ok (.tableswitch 51 0 3 #[31, 36, 41, 46], 31) := by decide +kernel
theorem dX4_many_32 : decode cX4_many 32 = .ok (.aload_n 0, 1) := by decide +kernel
theorem dX4_many_33 : decode cX4_many 33 = .ok (.getfield 73, 3) := by decide +kernel
theorem dX4_many_36 : decode cX4_many 36 = .ok (.ireturn, 1) := by decide +kernel
theorem dX4_many_37 : decode cX4_many 37 = .ok (.aload_n 0, 1) := by decide +kernel
theorem dX4_many_38 : decode cX4_many 38 = .ok (.invokevirtual 93, 3) := by decide +kernel
theorem dX4_many_41 : decode cX4_many 41 = .ok (.ireturn, 1) := by decide +kernel
theorem dX4_many_42 : decode cX4_many 42 = .ok (.aload_n 0, 1) := by decide +kernel
theorem dX4_many_43 : decode cX4_many 43 = .ok (.getfield 97, 3) := by decide +kernel
theorem dX4_many_46 : decode cX4_many 46 = .ok (.ireturn, 1) := by decide +kernel
theorem dX4_many_47 : decode cX4_many 47 = .ok (.aload_n 0, 1) := by decide +kernel
theorem dX4_many_48 : decode cX4_many 48 = .ok (.invokevirtual 100, 3) := by decide +kernel
theorem dX4_many_51 : decode cX4_many 51 = .ok (.ireturn, 1) := by decide +kernel
theorem dX4_many_52 : decode cX4_many 52 = .ok (.iconst (-1), 1) := by decide +kernel
theorem dX4_many_53 : decode cX4_many 53 = .ok (.ireturn, 1) := by decide +kernel
theorem dX4_begin_0 : decode cX4_begin 0 = .ok (.aload_n 0, 1) := by decide +kernel
theorem dX4_begin_1 : decode cX4_begin 1 = .ok (.iload_n 1, 1) := by decide +kernel
theorem dX4_begin_2 : decode cX4_begin 2 = .ok (.putfield 103, 3) := by decide +kernel
theorem dX4_begin_5 : decode cX4_begin 5 = .ok (.aload_n 0, 1) := by decide +kernel
theorem dX4_begin_6 : decode cX4_begin 6 = .ok (.iload_n 2, 1) := by decide +kernel
theorem dX4_begin_7 : decode cX4_begin 7 = .ok (.putfield 106, 3) := by decide +kernel
theorem dX4_begin_10 : decode cX4_begin 10 = .ok (.aload_n 0, 1) := by decide +kernel
theorem dX4_begin_11 : decode cX4_begin 11 = .ok (.iconst 0, 1) := by decide +kernel
theorem dX4_begin_12 : decode cX4_begin 12 = .ok (.putfield 109, 3) := by decide +kernel
theorem dX4_begin_15 : decode cX4_begin 15 = .ok (.aload_n 0, 1) := by decide +kernel
theorem dX4_begin_16 : decode cX4_begin 16 = .ok (.iconst 0, 1) := by decide +kernel
theorem dX4_begin_17 : decode cX4_begin 17 = .ok (.putfield 112, 3) := by decide +kernel
theorem dX4_begin_20 : decode cX4_begin 20 = .ok (.aload_n 0, 1) := by decide +kernel
theorem dX4_begin_21 : decode cX4_begin 21 = .ok (.iconst 0, 1) := by decide +kernel
theorem dX4_begin_22 : decode cX4_begin 22 = .ok (.putfield 115, 3) := by decide +kernel
theorem dX4_begin_25 : decode cX4_begin 25 = .ok (.aload_n 0, 1) := by decide +kernel
theorem dX4_begin_26 : decode cX4_begin 26 = .ok (.iconst 0, 1) := by decide +kernel
theorem dX4_begin_27 : decode cX4_begin 27 = .ok (.putfield 118, 3) := by decide +kernel
theorem dX4_begin_30 : decode cX4_begin 30 = .ok (.aload_n 0, 1) := by decide +kernel
theorem dX4_begin_31 : decode cX4_begin 31 = .ok (.iconst 0, 1) := by decide +kernel
theorem dX4_begin_32 : decode cX4_begin 32 = .ok (.putfield 121, 3) := by decide +kernel
theorem dX4_begin_35 : decode cX4_begin 35 = .ok (.iconst 0, 1) := by decide +kernel
theorem dX4_begin_36 : decode cX4_begin 36 = .ok (.istore_n 3, 1) := by decide +kernel
theorem dX4_begin_37 : decode cX4_begin 37 = .ok (.iload_n 3, 1) := by decide +kernel
theorem dX4_begin_38 : decode cX4_begin 38 = .ok (.bipush 16, 2) := by decide +kernel
theorem dX4_begin_40 : decode cX4_begin 40 = .ok (.if_icmp .ge 51, 3) := by decide +kernel
theorem dX4_begin_43 : decode cX4_begin 43 = .ok (.aload_n 0, 1) := by decide +kernel
theorem dX4_begin_44 : decode cX4_begin 44 = .ok (.getfield 28, 3) := by decide +kernel
theorem dX4_begin_47 : decode cX4_begin 47 = .ok (.iload_n 3, 1) := by decide +kernel
theorem dX4_begin_48 : decode cX4_begin 48 = .ok (.iconst 0, 1) := by decide +kernel
theorem dX4_begin_49 : decode cX4_begin 49 = .ok (.bastore, 1) := by decide +kernel
theorem dX4_begin_50 : decode cX4_begin 50 = .ok (.aload_n 0, 1) := by decide +kernel
theorem dX4_begin_51 : decode cX4_begin 51 = .ok (.getfield 41, 3) := by decide +kernel
theorem dX4_begin_54 : decode cX4_begin 54 = .ok (.iload_n 3, 1) := by decide +kernel
theorem dX4_begin_55 : decode cX4_begin 55 = .ok (.iconst 0, 1) := by decide +kernel
theorem dX4_begin_56 : decode cX4_begin 56 = .ok (.bastore, 1) := by decide +kernel
theorem dX4_begin_57 : decode cX4_begin 57 = .ok (.aload_n 0, 1) := by decide +kernel
theorem dX4_begin_58 : decode cX4_begin 58 = .ok (.getfield 47, 3) := by decide +kernel
theorem dX4_begin_61 : decode cX4_begin 61 = .ok (.iload_n 3, 1) := by decide +kernel
theorem dX4_begin_62 : decode cX4_begin 62 = .ok (.iconst 0, 1) := by decide +kernel
theorem dX4_begin_63 : decode cX4_begin 63 = .ok (.iastore, 1) := by decide +kernel
theorem dX4_begin_64 : decode cX4_begin 64 = .ok (.aload_n 0, 1) := by decide +kernel
theorem dX4_begin_65 : decode cX4_begin 65 = .ok (.getfield 38, 3) := by decide +kernel
theorem dX4_begin_68 : decode cX4_begin 68 = .ok (.iload_n 3, 1) := by decide +kernel
theorem dX4_begin_69 : decode cX4_begin 69 = .ok (.iconst 0, 1) := by decide +kernel
theorem dX4_begin_70 : decode cX4_begin 70 = .ok (.iastore, 1) := by decide +kernel
theorem dX4_begin_71 : decode cX4_begin 71 = .ok (.aload_n 0, 1) := by decide +kernel
theorem dX4_begin_72 : decode cX4_begin 72 = .ok (.getfield 53, 3) := by decide +kernel
theorem dX4_begin_75 : decode cX4_begin 75 = .ok (.iload_n 3, 1) := by decide +kernel
theorem dX4_begin_76 : decode cX4_begin 76 = .ok (.iconst 0, 1) := by decide +kernel
theorem dX4_begin_77 : decode cX4_begin 77 = .ok (.iastore, 1) := by decide +kernel
theorem dX4_begin_78 : decode cX4_begin 78 = .ok (.aload_n 0, 1) := by decide +kernel
theorem dX4_begin_79 : decode cX4_begin 79 = .ok (.getfield 44, 3) := by decide +kernel
theorem dX4_begin_82 : decode cX4_begin 82 = .ok (.iload_n 3, 1) := by decide +kernel
theorem dX4_begin_83 : decode cX4_begin 83 = .ok (.iconst (-1), 1) := by decide +kernel
theorem dX4_begin_84 : decode cX4_begin 84 = .ok (.iastore, 1) := by decide +kernel
theorem dX4_begin_85 : decode cX4_begin 85 = .ok (.iinc 3 1, 3) := by decide +kernel
theorem dX4_begin_88 : decode cX4_begin 88 = .ok (.goto (-51), 3) := by decide +kernel
theorem dX4_begin_91 : decode cX4_begin 91 = .ok (.return_, 1) := by decide +kernel
theorem dX4_partSize_0 : decode cX4_partSize 0 = .ok (.iconst 0, 1) := by decide +kernel
theorem dX4_partSize_1 : decode cX4_partSize 1 = .ok (.istore_n 2, 1) := by decide +kernel
theorem dX4_partSize_2 : decode cX4_partSize 2 = .ok (.iconst 0, 1) := by decide +kernel
theorem dX4_partSize_3 : decode cX4_partSize 3 = .ok (.istore_n 3, 1) := by decide +kernel
theorem dX4_partSize_4 : decode cX4_partSize 4 = .ok (.iload_n 3, 1) := by decide +kernel
theorem dX4_partSize_5 : decode cX4_partSize 5 = .ok (.bipush 16, 2) := by decide +kernel
theorem dX4_partSize_7 : decode cX4_partSize 7 = .ok (.if_icmp .ge 27, 3) := by decide +kernel
theorem dX4_partSize_10 : decode cX4_partSize 10 = .ok (.iload_n 2, 1) := by decide +kernel
theorem dX4_partSize_11 : decode cX4_partSize 11 = .ok (.aload_n 0, 1) := by decide +kernel
theorem dX4_partSize_12 : decode cX4_partSize 12 = .ok (.getfield 47, 3) := by decide +kernel
theorem dX4_partSize_15 : decode cX4_partSize 15 = .ok (.iload_n 3, 1) := by decide +kernel
theorem dX4_partSize_16 : decode cX4_partSize 16 = .ok (.iaload, 1) := by decide +kernel
theorem dX4_partSize_17 : decode cX4_partSize 17 = .ok (.iload_n 1, 1) := by decide +kernel
theorem dX4_partSize_18 : decode cX4_partSize 18 = .ok (.if_icmp .ne 7, 3) := by decide +kernel
theorem dX4_partSize_21 : decode cX4_partSize 21 = .ok (.iconst 1, 1) := by decide +kernel
theorem dX4_partSize_22 : decode cX4_partSize 22 = .ok (.goto 4, 3) := by decide +kernel
theorem dX4_partSize_25 : decode cX4_partSize 25 = .ok (.iconst 0, 1) := by decide +kernel
theorem dX4_partSize_26 : decode cX4_partSize 26 = .ok (.iadd, 1) := by decide +kernel
theorem dX4_partSize_27 : decode cX4_partSize 27 = .ok (.istore_n 2, 1) := by decide +kernel
theorem dX4_partSize_28 : decode cX4_partSize 28 = .ok (.iinc 3 1, 3) := by decide +kernel
theorem dX4_partSize_31 : decode cX4_partSize 31 = .ok (.goto (-27), 3) := by decide +kernel
theorem dX4_partSize_34 : decode cX4_partSize 34 = .ok (.iload_n 2, 1) := by decide +kernel
theorem dX4_partSize_35 : decode cX4_partSize 35 = .ok (.ireturn, 1) := by decide +kernel
theorem dX4_firstIn_0 : decode cX4_firstIn 0 = .ok (.iconst (-1), 1) := by decide +kernel
theorem dX4_firstIn_1 : decode cX4_firstIn 1 = .ok (.istore_n 2, 1) := by decide +kernel
theorem dX4_firstIn_2 : decode cX4_firstIn 2 = .ok (.iconst 0, 1) := by decide +kernel
theorem dX4_firstIn_3 : decode cX4_firstIn 3 = .ok (.istore_n 3, 1) := by decide +kernel
theorem dX4_firstIn_4 : decode cX4_firstIn 4 = .ok (.iload_n 3, 1) := by decide +kernel
theorem dX4_firstIn_5 : decode cX4_firstIn 5 = .ok (.bipush 16, 2) := by decide +kernel
theorem dX4_firstIn_7 : decode cX4_firstIn 7 = .ok (.if_icmp .ge 44, 3) := by decide +kernel
theorem dX4_firstIn_10 : decode cX4_firstIn 10 = .ok (.aload_n 0, 1) := by decide +kernel
theorem dX4_firstIn_11 : decode cX4_firstIn 11 = .ok (.getfield 47, 3) := by decide +kernel
theorem dX4_firstIn_14 : decode cX4_firstIn 14 = .ok (.iload_n 3, 1) := by decide +kernel
theorem dX4_firstIn_15 : decode cX4_firstIn 15 = .ok (.iaload, 1) := by decide +kernel
theorem dX4_firstIn_16 : decode cX4_firstIn 16 = .ok (.iload_n 1, 1) := by decide +kernel
theorem dX4_firstIn_17 : decode cX4_firstIn 17 = .ok (.if_icmp .ne 26, 3) := by decide +kernel
theorem dX4_firstIn_20 : decode cX4_firstIn 20 = .ok (.iload_n 2, 1) := by decide +kernel
theorem dX4_firstIn_21 : decode cX4_firstIn 21 = .ok (.ifCond .lt 18, 3) := by decide +kernel
theorem dX4_firstIn_24 : decode cX4_firstIn 24 = .ok (.aload_n 0, 1) := by decide +kernel
theorem dX4_firstIn_25 : decode cX4_firstIn 25 = .ok (.getfield 50, 3) := by decide +kernel
theorem dX4_firstIn_28 : decode cX4_firstIn 28 = .ok (.iload_n 3, 1) := by decide +kernel
theorem dX4_firstIn_29 : decode cX4_firstIn 29 = .ok (.iaload, 1) := by decide +kernel
theorem dX4_firstIn_30 : decode cX4_firstIn 30 = .ok (.aload_n 0, 1) := by decide +kernel
theorem dX4_firstIn_31 : decode cX4_firstIn 31 = .ok (.getfield 50, 3) := by decide +kernel
theorem dX4_firstIn_34 : decode cX4_firstIn 34 = .ok (.iload_n 2, 1) := by decide +kernel
theorem dX4_firstIn_35 : decode cX4_firstIn 35 = .ok (.iaload, 1) := by decide +kernel
theorem dX4_firstIn_36 : decode cX4_firstIn 36 = .ok (.if_icmp .ge 7, 3) := by decide +kernel
theorem dX4_firstIn_39 : decode cX4_firstIn 39 = .ok (.iload_n 3, 1) := by decide +kernel
theorem dX4_firstIn_40 : decode cX4_firstIn 40 = .ok (.goto 4, 3) := by decide +kernel
theorem dX4_firstIn_43 : decode cX4_firstIn 43 = .ok (.iload_n 2, 1) := by decide +kernel
theorem dX4_firstIn_44 : decode cX4_firstIn 44 = .ok (.istore_n 2, 1) := by decide +kernel
theorem dX4_firstIn_45 : decode cX4_firstIn 45 = .ok (.iinc 3 1, 3) := by decide +kernel
theorem dX4_firstIn_48 : decode cX4_firstIn 48 = .ok (.goto (-44), 3) := by decide +kernel
theorem dX4_firstIn_51 : decode cX4_firstIn 51 = .ok (.iload_n 2, 1) := by decide +kernel
theorem dX4_firstIn_52 : decode cX4_firstIn 52 = .ok (.ireturn, 1) := by decide +kernel
theorem dX4_resting_0 : decode cX4_resting 0 = .ok (.iconst (-1), 1) := by decide +kernel
theorem dX4_resting_1 : decode cX4_resting 1 = .ok (.istore_n 3, 1) := by decide +kernel
theorem dX4_resting_2 : decode cX4_resting 2 = .ok (.iconst 0, 1) := by decide +kernel
theorem dX4_resting_3 : decode cX4_resting 3 = .ok (.istore 4, 2) := by decide +kernel
theorem dX4_resting_5 : decode cX4_resting 5 = .ok (.iload 4, 2) := by decide +kernel
theorem dX4_resting_7 : decode cX4_resting 7 = .ok (.bipush 16, 2) := by decide +kernel
theorem dX4_resting_9 : decode cX4_resting 9 = .ok (.if_icmp .ge 87, 3) := by decide +kernel
theorem dX4_resting_12 : decode cX4_resting 12 = .ok (.aload_n 0, 1) := by decide +kernel
theorem dX4_resting_13 : decode cX4_resting 13 = .ok (.getfield 28, 3) := by decide +kernel
theorem dX4_resting_16 : decode cX4_resting 16 = .ok (.iload 4, 2) := by decide +kernel
theorem dX4_resting_18 : decode cX4_resting 18 = .ok (.baload, 1) := by decide +kernel
theorem dX4_resting_19 : decode cX4_resting 19 = .ok (.ifCond .eq 36, 3) := by decide +kernel
theorem dX4_resting_22 : decode cX4_resting 22 = .ok (.iload_n 1, 1) := by decide +kernel
theorem dX4_resting_23 : decode cX4_resting 23 = .ok (.ifCond .eq 14, 3) := by decide +kernel
theorem dX4_resting_26 : decode cX4_resting 26 = .ok (.aload_n 0, 1) := by decide +kernel
theorem dX4_resting_27 : decode cX4_resting 27 = .ok (.getfield 47, 3) := by decide +kernel
theorem dX4_resting_30 : decode cX4_resting 30 = .ok (.iload 4, 2) := by decide +kernel
theorem dX4_resting_32 : decode cX4_resting 32 = .ok (.iaload, 1) := by decide +kernel
theorem dX4_resting_33 : decode cX4_resting 33 = .ok (.iload_n 1, 1) := by decide +kernel
theorem dX4_resting_34 : decode cX4_resting 34 = .ok (.if_icmp .ne 21, 3) := by decide +kernel
theorem dX4_resting_37 : decode cX4_resting 37 = .ok (.iload_n 2, 1) := by decide +kernel
theorem dX4_resting_38 : decode cX4_resting 38 = .ok (.ifCond .eq 13, 3) := by decide +kernel
theorem dX4_resting_41 : decode cX4_resting 41 = .ok (.aload_n 0, 1) := by decide +kernel
theorem dX4_resting_42 : decode cX4_resting 42 = .ok (.getfield 41, 3) := by decide +kernel
theorem dX4_resting_45 : decode cX4_resting 45 = .ok (.iload 4, 2) := by decide +kernel
theorem dX4_resting_47 : decode cX4_resting 47 = .ok (.baload, 1) := by decide +kernel
theorem dX4_resting_48 : decode cX4_resting 48 = .ok (.ifCond .ne 7, 3) := by decide +kernel
theorem dX4_resting_51 : decode cX4_resting 51 = .ok (.iconst 1, 1) := by decide +kernel
theorem dX4_resting_52 : decode cX4_resting 52 = .ok (.goto 4, 3) := by decide +kernel
theorem dX4_resting_55 : decode cX4_resting 55 = .ok (.iconst 0, 1) := by decide +kernel
theorem dX4_resting_56 : decode cX4_resting 56 = .ok (.istore 5, 2) := by decide +kernel
theorem dX4_resting_58 : decode cX4_resting 58 = .ok (.iload 5, 2) := by decide +kernel
theorem dX4_resting_60 : decode cX4_resting 60 = .ok (.ifCond .eq 28, 3) := by decide +kernel
theorem dX4_resting_63 : decode cX4_resting 63 = .ok (.iload_n 3, 1) := by decide +kernel
theorem dX4_resting_64 : decode cX4_resting 64 = .ok (.ifCond .lt 19, 3) := by decide +kernel
theorem dX4_resting_67 : decode cX4_resting 67 = .ok (.aload_n 0, 1) := by decide +kernel
theorem dX4_resting_68 : decode cX4_resting 68 = .ok (.getfield 35, 3) := by decide +kernel
theorem dX4_resting_71 : decode cX4_resting 71 = .ok (.iload 4, 2) := by decide +kernel
theorem dX4_resting_73 : decode cX4_resting 73 = .ok (.iaload, 1) := by decide +kernel
theorem dX4_resting_74 : decode cX4_resting 74 = .ok (.aload_n 0, 1) := by decide +kernel
theorem dX4_resting_75 : decode cX4_resting 75 = .ok (.getfield 35, 3) := by decide +kernel
theorem dX4_resting_78 : decode cX4_resting 78 = .ok (.iload_n 3, 1) := by decide +kernel
theorem dX4_resting_79 : decode cX4_resting 79 = .ok (.iaload, 1) := by decide +kernel
theorem dX4_resting_80 : decode cX4_resting 80 = .ok (.if_icmp .ge 8, 3) := by decide +kernel
theorem dX4_resting_83 : decode cX4_resting 83 = .ok (.iload 4, 2) := by decide +kernel
theorem dX4_resting_85 : decode cX4_resting 85 = .ok (.goto 4, 3) := by decide +kernel
theorem dX4_resting_88 : decode cX4_resting 88 = .ok (.iload_n 3, 1) := by decide +kernel
theorem dX4_resting_89 : decode cX4_resting 89 = .ok (.istore_n 3, 1) := by decide +kernel
theorem dX4_resting_90 : decode cX4_resting 90 = .ok (.iinc 4 1, 3) := by decide +kernel
theorem dX4_resting_93 : decode cX4_resting 93 = .ok (.goto (-88), 3) := by decide +kernel
theorem dX4_resting_96 : decode cX4_resting 96 = .ok (.iload_n 3, 1) := by decide +kernel
theorem dX4_resting_97 : decode cX4_resting 97 = .ok (.ireturn, 1) := by decide +kernel
theorem dX4_oldest_0 : decode cX4_oldest 0 = .ok (.iconst (-1), 1) := by decide +kernel
theorem dX4_oldest_1 : decode cX4_oldest 1 = .ok (.istore_n 1, 1) := by decide +kernel
theorem dX4_oldest_2 : decode cX4_oldest 2 = .ok (.iconst 0, 1) := by decide +kernel
theorem dX4_oldest_3 : decode cX4_oldest 3 = .ok (.istore_n 2, 1) := by decide +kernel
theorem dX4_oldest_4 : decode cX4_oldest 4 = .ok (.iload_n 2, 1) := by decide +kernel
theorem dX4_oldest_5 : decode cX4_oldest 5 = .ok (.bipush 16, 2) := by decide +kernel
theorem dX4_oldest_7 : decode cX4_oldest 7 = .ok (.if_icmp .ge 43, 3) := by decide +kernel
theorem dX4_oldest_10 : decode cX4_oldest 10 = .ok (.aload_n 0, 1) := by decide +kernel
theorem dX4_oldest_11 : decode cX4_oldest 11 = .ok (.getfield 28, 3) := by decide +kernel
theorem dX4_oldest_14 : decode cX4_oldest 14 = .ok (.iload_n 2, 1) := by decide +kernel
theorem dX4_oldest_15 : decode cX4_oldest 15 = .ok (.baload, 1) := by decide +kernel
theorem dX4_oldest_16 : decode cX4_oldest 16 = .ok (.ifCond .eq 26, 3) := by decide +kernel
theorem dX4_oldest_19 : decode cX4_oldest 19 = .ok (.iload_n 1, 1) := by decide +kernel
theorem dX4_oldest_20 : decode cX4_oldest 20 = .ok (.ifCond .lt 18, 3) := by decide +kernel
theorem dX4_oldest_23 : decode cX4_oldest 23 = .ok (.aload_n 0, 1) := by decide +kernel
theorem dX4_oldest_24 : decode cX4_oldest 24 = .ok (.getfield 32, 3) := by decide +kernel
theorem dX4_oldest_27 : decode cX4_oldest 27 = .ok (.iload_n 2, 1) := by decide +kernel
theorem dX4_oldest_28 : decode cX4_oldest 28 = .ok (.iaload, 1) := by decide +kernel
theorem dX4_oldest_29 : decode cX4_oldest 29 = .ok (.aload_n 0, 1) := by decide +kernel
theorem dX4_oldest_30 : decode cX4_oldest 30 = .ok (.getfield 32, 3) := by decide +kernel
theorem dX4_oldest_33 : decode cX4_oldest 33 = .ok (.iload_n 1, 1) := by decide +kernel
theorem dX4_oldest_34 : decode cX4_oldest 34 = .ok (.iaload, 1) := by decide +kernel
theorem dX4_oldest_35 : decode cX4_oldest 35 = .ok (.if_icmp .ge 7, 3) := by decide +kernel
theorem dX4_oldest_38 : decode cX4_oldest 38 = .ok (.iload_n 2, 1) := by decide +kernel
theorem dX4_oldest_39 : decode cX4_oldest 39 = .ok (.goto 4, 3) := by decide +kernel
theorem dX4_oldest_42 : decode cX4_oldest 42 = .ok (.iload_n 1, 1) := by decide +kernel
theorem dX4_oldest_43 : decode cX4_oldest 43 = .ok (.istore_n 1, 1) := by decide +kernel
theorem dX4_oldest_44 : decode cX4_oldest 44 = .ok (.iinc 2 1, 3) := by decide +kernel
theorem dX4_oldest_47 : decode cX4_oldest 47 = .ok (.goto (-43), 3) := by decide +kernel
theorem dX4_oldest_50 : decode cX4_oldest 50 = .ok (.iload_n 1, 1) := by decide +kernel
theorem dX4_oldest_51 : decode cX4_oldest 51 = .ok (.ireturn, 1) := by decide +kernel
theorem dX4_unmarked_0 : decode cX4_unmarked 0 = .ok (.aload_n 0, 1) := by decide +kernel
theorem dX4_unmarked_1 : decode cX4_unmarked 1 = .ok (.iconst 0, 1) := by decide +kernel
theorem dX4_unmarked_2 : decode cX4_unmarked 2 = .ok (.iconst 1, 1) := by decide +kernel
theorem dX4_unmarked_3 : decode cX4_unmarked 3 = .ok (.invokevirtual 124, 3) := by decide +kernel
theorem dX4_unmarked_6 : decode cX4_unmarked 6 = .ok (.istore_n 1, 1) := by decide +kernel
theorem dX4_unmarked_7 : decode cX4_unmarked 7 = .ok (.iload_n 1, 1) := by decide +kernel
theorem dX4_unmarked_8 : decode cX4_unmarked 8 = .ok (.ifCond .ge 41, 3) := by decide +kernel
theorem dX4_unmarked_11 : decode cX4_unmarked 11 = .ok (.iconst 0, 1) := by decide +kernel
theorem dX4_unmarked_12 : decode cX4_unmarked 12 = .ok (.istore_n 2, 1) := by decide +kernel
theorem dX4_unmarked_13 : decode cX4_unmarked 13 = .ok (.iload_n 2, 1) := by decide +kernel
theorem dX4_unmarked_14 : decode cX4_unmarked 14 = .ok (.bipush 16, 2) := by decide +kernel
theorem dX4_unmarked_16 : decode cX4_unmarked 16 = .ok (.if_icmp .ge 16, 3) := by decide +kernel
theorem dX4_unmarked_19 : decode cX4_unmarked 19 = .ok (.aload_n 0, 1) := by decide +kernel
theorem dX4_unmarked_20 : decode cX4_unmarked 20 = .ok (.getfield 41, 3) := by decide +kernel
theorem dX4_unmarked_23 : decode cX4_unmarked 23 = .ok (.iload_n 2, 1) := by decide +kernel
theorem dX4_unmarked_24 : decode cX4_unmarked 24 = .ok (.iconst 0, 1) := by decide +kernel
theorem dX4_unmarked_25 : decode cX4_unmarked 25 = .ok (.bastore, 1) := by decide +kernel
theorem dX4_unmarked_26 : decode cX4_unmarked 26 = .ok (.iinc 2 1, 3) := by decide +kernel
theorem dX4_unmarked_29 : decode cX4_unmarked 29 = .ok (.goto (-16), 3) := by decide +kernel
theorem dX4_unmarked_32 : decode cX4_unmarked 32 = .ok (.aload_n 0, 1) := by decide +kernel
theorem dX4_unmarked_33 : decode cX4_unmarked 33 = .ok (.dup, 1) := by decide +kernel
theorem dX4_unmarked_34 : decode cX4_unmarked 34 = .ok (.getfield 112, 3) := by decide +kernel
theorem dX4_unmarked_37 : decode cX4_unmarked 37 = .ok (.iconst 1, 1) := by decide +kernel
theorem dX4_unmarked_38 : decode cX4_unmarked 38 = .ok (.iadd, 1) := by decide +kernel
theorem dX4_unmarked_39 : decode cX4_unmarked 39 = .ok (.putfield 112, 3) := by decide +kernel
theorem dX4_unmarked_42 : decode cX4_unmarked 42 = .ok (.aload_n 0, 1) := by decide +kernel
theorem dX4_unmarked_43 : decode cX4_unmarked 43 = .ok (.iconst 0, 1) := by decide +kernel
theorem dX4_unmarked_44 : decode cX4_unmarked 44 = .ok (.iconst 1, 1) := by decide +kernel
theorem dX4_unmarked_45 : decode cX4_unmarked 45 = .ok (.invokevirtual 124, 3) := by decide +kernel
theorem dX4_unmarked_48 : decode cX4_unmarked 48 = .ok (.istore_n 1, 1) := by decide +kernel
theorem dX4_unmarked_49 : decode cX4_unmarked 49 = .ok (.iload_n 1, 1) := by decide +kernel
theorem dX4_unmarked_50 : decode cX4_unmarked 50 = .ok (.ireturn, 1) := by decide +kernel
theorem dX4_atPlace_0 : decode cX4_atPlace 0 = .ok (.iconst (-1), 1) := by decide +kernel
theorem dX4_atPlace_1 : decode cX4_atPlace 1 = .ok (.istore_n 2, 1) := by decide +kernel
theorem dX4_atPlace_2 : decode cX4_atPlace 2 = .ok (.iconst 0, 1) := by decide +kernel
theorem dX4_atPlace_3 : decode cX4_atPlace 3 = .ok (.istore_n 3, 1) := by decide +kernel
theorem dX4_atPlace_4 : decode cX4_atPlace 4 = .ok (.iload_n 3, 1) := by decide +kernel
theorem dX4_atPlace_5 : decode cX4_atPlace 5 = .ok (.bipush 16, 2) := by decide +kernel
theorem dX4_atPlace_7 : decode cX4_atPlace 7 = .ok (.if_icmp .ge 34, 3) := by decide +kernel
theorem dX4_atPlace_10 : decode cX4_atPlace 10 = .ok (.aload_n 0, 1) := by decide +kernel
theorem dX4_atPlace_11 : decode cX4_atPlace 11 = .ok (.getfield 28, 3) := by decide +kernel
theorem dX4_atPlace_14 : decode cX4_atPlace 14 = .ok (.iload_n 3, 1) := by decide +kernel
theorem dX4_atPlace_15 : decode cX4_atPlace 15 = .ok (.baload, 1) := by decide +kernel
theorem dX4_atPlace_16 : decode cX4_atPlace 16 = .ok (.ifCond .eq 17, 3) := by decide +kernel
theorem dX4_atPlace_19 : decode cX4_atPlace 19 = .ok (.aload_n 0, 1) := by decide +kernel
theorem dX4_atPlace_20 : decode cX4_atPlace 20 = .ok (.getfield 44, 3) := by decide +kernel
theorem dX4_atPlace_23 : decode cX4_atPlace 23 = .ok (.iload_n 3, 1) := by decide +kernel
theorem dX4_atPlace_24 : decode cX4_atPlace 24 = .ok (.iaload, 1) := by decide +kernel
theorem dX4_atPlace_25 : decode cX4_atPlace 25 = .ok (.iload_n 1, 1) := by decide +kernel
theorem dX4_atPlace_26 : decode cX4_atPlace 26 = .ok (.if_icmp .ne 7, 3) := by decide +kernel
theorem dX4_atPlace_29 : decode cX4_atPlace 29 = .ok (.iload_n 3, 1) := by decide +kernel
theorem dX4_atPlace_30 : decode cX4_atPlace 30 = .ok (.goto 4, 3) := by decide +kernel
theorem dX4_atPlace_33 : decode cX4_atPlace 33 = .ok (.iload_n 2, 1) := by decide +kernel
theorem dX4_atPlace_34 : decode cX4_atPlace 34 = .ok (.istore_n 2, 1) := by decide +kernel
theorem dX4_atPlace_35 : decode cX4_atPlace 35 = .ok (.iinc 3 1, 3) := by decide +kernel
theorem dX4_atPlace_38 : decode cX4_atPlace 38 = .ok (.goto (-34), 3) := by decide +kernel
theorem dX4_atPlace_41 : decode cX4_atPlace 41 = .ok (.iload_n 2, 1) := by decide +kernel
theorem dX4_atPlace_42 : decode cX4_atPlace 42 = .ok (.ireturn, 1) := by decide +kernel
theorem dX4_atHand_0 : decode cX4_atHand 0 = .ok (.aload_n 0, 1) := by decide +kernel
theorem dX4_atHand_1 : decode cX4_atHand 1 = .ok (.aload_n 0, 1) := by decide +kernel
theorem dX4_atHand_2 : decode cX4_atHand 2 = .ok (.getfield 115, 3) := by decide +kernel
theorem dX4_atHand_5 : decode cX4_atHand 5 = .ok (.invokevirtual 128, 3) := by decide +kernel
theorem dX4_atHand_8 : decode cX4_atHand 8 = .ok (.istore_n 1, 1) := by decide +kernel
theorem dX4_atHand_9 : decode cX4_atHand 9 = .ok (.aload_n 0, 1) := by decide +kernel
theorem dX4_atHand_10 : decode cX4_atHand 10 = .ok (.getfield 41, 3) := by decide +kernel
theorem dX4_atHand_13 : decode cX4_atHand 13 = .ok (.iload_n 1, 1) := by decide +kernel
theorem dX4_atHand_14 : decode cX4_atHand 14 = .ok (.baload, 1) := by decide +kernel
theorem dX4_atHand_15 : decode cX4_atHand 15 = .ok (.ifCond .eq 37, 3) := by decide +kernel
theorem dX4_atHand_18 : decode cX4_atHand 18 = .ok (.aload_n 0, 1) := by decide +kernel
theorem dX4_atHand_19 : decode cX4_atHand 19 = .ok (.getfield 41, 3) := by decide +kernel
theorem dX4_atHand_22 : decode cX4_atHand 22 = .ok (.iload_n 1, 1) := by decide +kernel
theorem dX4_atHand_23 : decode cX4_atHand 23 = .ok (.iconst 0, 1) := by decide +kernel
theorem dX4_atHand_24 : decode cX4_atHand 24 = .ok (.bastore, 1) := by decide +kernel
theorem dX4_atHand_25 : decode cX4_atHand 25 = .ok (.aload_n 0, 1) := by decide +kernel
theorem dX4_atHand_26 : decode cX4_atHand 26 = .ok (.aload_n 0, 1) := by decide +kernel
theorem dX4_atHand_27 : decode cX4_atHand 27 = .ok (.getfield 115, 3) := by decide +kernel
theorem dX4_atHand_30 : decode cX4_atHand 30 = .ok (.iconst 1, 1) := by decide +kernel
theorem dX4_atHand_31 : decode cX4_atHand 31 = .ok (.iadd, 1) := by decide +kernel
theorem dX4_atHand_32 : decode cX4_atHand 32 = .ok (.aload_n 0, 1) := by decide +kernel
theorem dX4_atHand_33 : decode cX4_atHand 33 = .ok (.getfield 106, 3) := by decide +kernel
theorem dX4_atHand_36 : decode cX4_atHand 36 = .ok (.irem, 1) := by decide +kernel
theorem dX4_atHand_37 : decode cX4_atHand 37 = .ok (.putfield 115, 3) := by decide +kernel
theorem dX4_atHand_40 : decode cX4_atHand 40 = .ok (.aload_n 0, 1) := by decide +kernel
theorem dX4_atHand_41 : decode cX4_atHand 41 = .ok (.aload_n 0, 1) := by decide +kernel
theorem dX4_atHand_42 : decode cX4_atHand 42 = .ok (.getfield 115, 3) := by decide +kernel
theorem dX4_atHand_45 : decode cX4_atHand 45 = .ok (.invokevirtual 128, 3) := by decide +kernel
theorem dX4_atHand_48 : decode cX4_atHand 48 = .ok (.istore_n 1, 1) := by decide +kernel
theorem dX4_atHand_49 : decode cX4_atHand 49 = .ok (.goto (-40), 3) := by decide +kernel
theorem dX4_atHand_52 : decode cX4_atHand 52 = .ok (.iload_n 1, 1) := by decide +kernel
theorem dX4_atHand_53 : decode cX4_atHand 53 = .ok (.ireturn, 1) := by decide +kernel
theorem dX4_least_0 : decode cX4_least 0 = .ok (.iconst (-1), 1) := by decide +kernel
theorem dX4_least_1 : decode cX4_least 1 = .ok (.istore_n 2, 1) := by decide +kernel
theorem dX4_least_2 : decode cX4_least 2 = .ok (.iconst 0, 1) := by decide +kernel
theorem dX4_least_3 : decode cX4_least 3 = .ok (.istore_n 3, 1) := by decide +kernel
theorem dX4_least_4 : decode cX4_least 4 = .ok (.iload_n 3, 1) := by decide +kernel
theorem dX4_least_5 : decode cX4_least 5 = .ok (.bipush 16, 2) := by decide +kernel
theorem dX4_least_7 : decode cX4_least 7 = .ok (.if_icmp .ge 73, 3) := by decide +kernel
theorem dX4_least_10 : decode cX4_least 10 = .ok (.aload_n 0, 1) := by decide +kernel
theorem dX4_least_11 : decode cX4_least 11 = .ok (.getfield 28, 3) := by decide +kernel
theorem dX4_least_14 : decode cX4_least 14 = .ok (.iload_n 3, 1) := by decide +kernel
theorem dX4_least_15 : decode cX4_least 15 = .ok (.baload, 1) := by decide +kernel
theorem dX4_least_16 : decode cX4_least 16 = .ok (.ifCond .eq 44, 3) := by decide +kernel
theorem dX4_least_19 : decode cX4_least 19 = .ok (.iload_n 2, 1) := by decide +kernel
theorem dX4_least_20 : decode cX4_least 20 = .ok (.ifCond .lt 36, 3) := by decide +kernel
theorem dX4_least_23 : decode cX4_least 23 = .ok (.aload_n 1, 1) := by decide +kernel
theorem dX4_least_24 : decode cX4_least 24 = .ok (.iload_n 3, 1) := by decide +kernel
theorem dX4_least_25 : decode cX4_least 25 = .ok (.iaload, 1) := by decide +kernel
theorem dX4_least_26 : decode cX4_least 26 = .ok (.aload_n 1, 1) := by decide +kernel
theorem dX4_least_27 : decode cX4_least 27 = .ok (.iload_n 2, 1) := by decide +kernel
theorem dX4_least_28 : decode cX4_least 28 = .ok (.iaload, 1) := by decide +kernel
theorem dX4_least_29 : decode cX4_least 29 = .ok (.if_icmp .lt 27, 3) := by decide +kernel
theorem dX4_least_32 : decode cX4_least 32 = .ok (.aload_n 1, 1) := by decide +kernel
theorem dX4_least_33 : decode cX4_least 33 = .ok (.iload_n 3, 1) := by decide +kernel
theorem dX4_least_34 : decode cX4_least 34 = .ok (.iaload, 1) := by decide +kernel
theorem dX4_least_35 : decode cX4_least 35 = .ok (.aload_n 1, 1) := by decide +kernel
theorem dX4_least_36 : decode cX4_least 36 = .ok (.iload_n 2, 1) := by decide +kernel
theorem dX4_least_37 : decode cX4_least 37 = .ok (.iaload, 1) := by decide +kernel
theorem dX4_least_38 : decode cX4_least 38 = .ok (.if_icmp .ne 22, 3) := by decide +kernel
theorem dX4_least_41 : decode cX4_least 41 = .ok (.aload_n 0, 1) := by decide +kernel
theorem dX4_least_42 : decode cX4_least 42 = .ok (.getfield 35, 3) := by decide +kernel
theorem dX4_least_45 : decode cX4_least 45 = .ok (.iload_n 3, 1) := by decide +kernel
theorem dX4_least_46 : decode cX4_least 46 = .ok (.iaload, 1) := by decide +kernel
theorem dX4_least_47 : decode cX4_least 47 = .ok (.aload_n 0, 1) := by decide +kernel
theorem dX4_least_48 : decode cX4_least 48 = .ok (.getfield 35, 3) := by decide +kernel
theorem dX4_least_51 : decode cX4_least 51 = .ok (.iload_n 2, 1) := by decide +kernel
theorem dX4_least_52 : decode cX4_least 52 = .ok (.iaload, 1) := by decide +kernel
theorem dX4_least_53 : decode cX4_least 53 = .ok (.if_icmp .ge 7, 3) := by decide +kernel
theorem dX4_least_56 : decode cX4_least 56 = .ok (.iconst 1, 1) := by decide +kernel
theorem dX4_least_57 : decode cX4_least 57 = .ok (.goto 4, 3) := by decide +kernel
theorem dX4_least_60 : decode cX4_least 60 = .ok (.iconst 0, 1) := by decide +kernel
theorem dX4_least_61 : decode cX4_least 61 = .ok (.istore 4, 2) := by decide +kernel
theorem dX4_least_63 : decode cX4_least 63 = .ok (.iload 4, 2) := by decide +kernel
theorem dX4_least_65 : decode cX4_least 65 = .ok (.ifCond .eq 7, 3) := by decide +kernel
theorem dX4_least_68 : decode cX4_least 68 = .ok (.iload_n 3, 1) := by decide +kernel
theorem dX4_least_69 : decode cX4_least 69 = .ok (.goto 4, 3) := by decide +kernel
theorem dX4_least_72 : decode cX4_least 72 = .ok (.iload_n 2, 1) := by decide +kernel
theorem dX4_least_73 : decode cX4_least 73 = .ok (.istore_n 2, 1) := by decide +kernel
theorem dX4_least_74 : decode cX4_least 74 = .ok (.iinc 3 1, 3) := by decide +kernel
theorem dX4_least_77 : decode cX4_least 77 = .ok (.goto (-73), 3) := by decide +kernel
theorem dX4_least_80 : decode cX4_least 80 = .ok (.iload_n 2, 1) := by decide +kernel
theorem dX4_least_81 : decode cX4_least 81 = .ok (.ireturn, 1) := by decide +kernel
theorem dX4_toBook_0 : decode cX4_toBook 0 = .ok (.aload_n 0, 1) := by decide +kernel
theorem dX4_toBook_1 : decode cX4_toBook 1 = .ok (.iload_n 2, 1) := by decide +kernel
theorem dX4_toBook_2 : decode cX4_toBook 2 = .ok (.invokevirtual 132, 3) := by decide +kernel
theorem dX4_toBook_5 : decode cX4_toBook 5 = .ok (.aload_n 0, 1) := by decide +kernel
theorem dX4_toBook_6 : decode cX4_toBook 6 = .ok (.getfield 106, 3) := by decide +kernel
theorem dX4_toBook_9 : decode cX4_toBook 9 = .ok (.if_icmp .ne 14, 3) := by decide +kernel
theorem dX4_toBook_12 : decode cX4_toBook 12 = .ok (.aload_n 0, 1) := by decide +kernel
theorem dX4_toBook_13 : decode cX4_toBook 13 = .ok (.getfield 47, 3) := by decide +kernel
theorem dX4_toBook_16 : decode cX4_toBook 16 = .ok (.aload_n 0, 1) := by decide +kernel
theorem dX4_toBook_17 : decode cX4_toBook 17 = .ok (.iload_n 2, 1) := by decide +kernel
theorem dX4_toBook_18 : decode cX4_toBook 18 = .ok (.invokevirtual 135, 3) := by decide +kernel
theorem dX4_toBook_21 : decode cX4_toBook 21 = .ok (.iconst 0, 1) := by decide +kernel
theorem dX4_toBook_22 : decode cX4_toBook 22 = .ok (.iastore, 1) := by decide +kernel
theorem dX4_toBook_23 : decode cX4_toBook 23 = .ok (.aload_n 0, 1) := by decide +kernel
theorem dX4_toBook_24 : decode cX4_toBook 24 = .ok (.getfield 47, 3) := by decide +kernel
theorem dX4_toBook_27 : decode cX4_toBook 27 = .ok (.iload_n 1, 1) := by decide +kernel
theorem dX4_toBook_28 : decode cX4_toBook 28 = .ok (.iload_n 2, 1) := by decide +kernel
theorem dX4_toBook_29 : decode cX4_toBook 29 = .ok (.iastore, 1) := by decide +kernel
theorem dX4_toBook_30 : decode cX4_toBook 30 = .ok (.aload_n 0, 1) := by decide +kernel
theorem dX4_toBook_31 : decode cX4_toBook 31 = .ok (.getfield 50, 3) := by decide +kernel
theorem dX4_toBook_34 : decode cX4_toBook 34 = .ok (.iload_n 1, 1) := by decide +kernel
theorem dX4_toBook_35 : decode cX4_toBook 35 = .ok (.iload_n 3, 1) := by decide +kernel
theorem dX4_toBook_36 : decode cX4_toBook 36 = .ok (.iastore, 1) := by decide +kernel
theorem dX4_toBook_37 : decode cX4_toBook 37 = .ok (.return_, 1) := by decide +kernel
theorem dX4_ofTwoParts_0 : decode cX4_ofTwoParts 0 = .ok (.aload_n 0, 1) := by decide +kernel
theorem dX4_ofTwoParts_1 : decode cX4_ofTwoParts 1 = .ok (.getfield 103, 3) := by decide +kernel
theorem dX4_ofTwoParts_4 : decode cX4_ofTwoParts 4 = .ok (.iconst 5, 1) := by decide +kernel
theorem dX4_ofTwoParts_5 : decode cX4_ofTwoParts 5 = .ok (.if_icmp .ne 12, 3) := by decide +kernel
theorem dX4_ofTwoParts_8 : decode cX4_ofTwoParts 8 = .ok (.aload_n 0, 1) := by decide +kernel
theorem dX4_ofTwoParts_9 : decode cX4_ofTwoParts 9 = .ok (.getfield 106, 3) := by decide +kernel
theorem dX4_ofTwoParts_12 : decode cX4_ofTwoParts 12 = .ok (.iconst 4, 1) := by decide +kernel
theorem dX4_ofTwoParts_13 : decode cX4_ofTwoParts 13 = .ok (.idiv, 1) := by decide +kernel
theorem dX4_ofTwoParts_14 : decode cX4_ofTwoParts 14 = .ok (.goto 7, 3) := by decide +kernel
theorem dX4_ofTwoParts_17 : decode cX4_ofTwoParts 17 = .ok (.aload_n 0, 1) := by decide +kernel
theorem dX4_ofTwoParts_18 : decode cX4_ofTwoParts 18 = .ok (.getfield 118, 3) := by decide +kernel
theorem dX4_ofTwoParts_21 : decode cX4_ofTwoParts 21 = .ok (.istore_n 2, 1) := by decide +kernel
theorem dX4_ofTwoParts_22 : decode cX4_ofTwoParts 22 = .ok (.aload_n 0, 1) := by decide +kernel
theorem dX4_ofTwoParts_23 : decode cX4_ofTwoParts 23 = .ok (.iconst 1, 1) := by decide +kernel
theorem dX4_ofTwoParts_24 : decode cX4_ofTwoParts 24 = .ok (.invokevirtual 132, 3) := by decide +kernel
theorem dX4_ofTwoParts_27 : decode cX4_ofTwoParts 27 = .ok (.istore_n 3, 1) := by decide +kernel
theorem dX4_ofTwoParts_28 : decode cX4_ofTwoParts 28 = .ok (.iload_n 3, 1) := by decide +kernel
theorem dX4_ofTwoParts_29 : decode cX4_ofTwoParts 29 = .ok (.ifCond .le 20, 3) := by decide +kernel
theorem dX4_ofTwoParts_32 : decode cX4_ofTwoParts 32 = .ok (.iload_n 3, 1) := by decide +kernel
theorem dX4_ofTwoParts_33 : decode cX4_ofTwoParts 33 = .ok (.iload_n 2, 1) := by decide +kernel
theorem dX4_ofTwoParts_34 : decode cX4_ofTwoParts 34 = .ok (.if_icmp .gt 11, 3) := by decide +kernel
theorem dX4_ofTwoParts_37 : decode cX4_ofTwoParts 37 = .ok (.aload_n 0, 1) := by decide +kernel
theorem dX4_ofTwoParts_38 : decode cX4_ofTwoParts 38 = .ok (.iconst 2, 1) := by decide +kernel
theorem dX4_ofTwoParts_39 : decode cX4_ofTwoParts 39 = .ok (.invokevirtual 132, 3) := by decide +kernel
theorem dX4_ofTwoParts_42 : decode cX4_ofTwoParts 42 = .ok (.ifCond .ne 7, 3) := by decide +kernel
theorem dX4_ofTwoParts_45 : decode cX4_ofTwoParts 45 = .ok (.iconst 1, 1) := by decide +kernel
theorem dX4_ofTwoParts_46 : decode cX4_ofTwoParts 46 = .ok (.goto 4, 3) := by decide +kernel
theorem dX4_ofTwoParts_49 : decode cX4_ofTwoParts 49 = .ok (.iconst 0, 1) := by decide +kernel
theorem dX4_ofTwoParts_50 : decode cX4_ofTwoParts 50 = .ok (.istore 4, 2) := by decide +kernel
theorem dX4_ofTwoParts_52 : decode cX4_ofTwoParts 52 = .ok (.iload 4, 2) := by decide +kernel
theorem dX4_ofTwoParts_54 : decode cX4_ofTwoParts 54 = .ok (.ifCond .eq 11, 3) := by decide +kernel
theorem dX4_ofTwoParts_57 : decode cX4_ofTwoParts 57 = .ok (.aload_n 0, 1) := by decide +kernel
theorem dX4_ofTwoParts_58 : decode cX4_ofTwoParts 58 = .ok (.iconst 1, 1) := by decide +kernel
theorem dX4_ofTwoParts_59 : decode cX4_ofTwoParts 59 = .ok (.invokevirtual 135, 3) := by decide +kernel
theorem dX4_ofTwoParts_62 : decode cX4_ofTwoParts 62 = .ok (.goto 9, 3) := by decide +kernel
theorem dX4_ofTwoParts_65 : decode cX4_ofTwoParts 65 = .ok (.aload_n 0, 1) := by decide +kernel
theorem dX4_ofTwoParts_66 : decode cX4_ofTwoParts 66 = .ok (.iconst 2, 1) := by decide +kernel
theorem dX4_ofTwoParts_67 : decode cX4_ofTwoParts 67 = .ok (.iconst 0, 1) := by decide +kernel
theorem dX4_ofTwoParts_68 : decode cX4_ofTwoParts 68 = .ok (.invokevirtual 124, 3) := by decide +kernel
theorem dX4_ofTwoParts_71 : decode cX4_ofTwoParts 71 = .ok (.istore 5, 2) := by decide +kernel
theorem dX4_ofTwoParts_73 : decode cX4_ofTwoParts 73 = .ok (.aload_n 0, 1) := by decide +kernel
theorem dX4_ofTwoParts_74 : decode cX4_ofTwoParts 74 = .ok (.getfield 47, 3) := by decide +kernel
theorem dX4_ofTwoParts_77 : decode cX4_ofTwoParts 77 = .ok (.iload 5, 2) := by decide +kernel
theorem dX4_ofTwoParts_79 : decode cX4_ofTwoParts 79 = .ok (.iconst 0, 1) := by decide +kernel
theorem dX4_ofTwoParts_80 : decode cX4_ofTwoParts 80 = .ok (.iastore, 1) := by decide +kernel
theorem dX4_ofTwoParts_81 : decode cX4_ofTwoParts 81 = .ok (.iload 4, 2) := by decide +kernel
theorem dX4_ofTwoParts_83 : decode cX4_ofTwoParts 83 = .ok (.ifCond .eq 14, 3) := by decide +kernel
theorem dX4_ofTwoParts_86 : decode cX4_ofTwoParts 86 = .ok (.aload_n 0, 1) := by decide +kernel
theorem dX4_ofTwoParts_87 : decode cX4_ofTwoParts 87 = .ok (.iload 5, 2) := by decide +kernel
theorem dX4_ofTwoParts_89 : decode cX4_ofTwoParts 89 = .ok (.iconst 3, 1) := by decide +kernel
theorem dX4_ofTwoParts_90 : decode cX4_ofTwoParts 90 = .ok (.iload_n 1, 1) := by decide +kernel
theorem dX4_ofTwoParts_91 : decode cX4_ofTwoParts 91 = .ok (.invokevirtual 138, 3) := by decide +kernel
theorem dX4_ofTwoParts_94 : decode cX4_ofTwoParts 94 = .ok (.goto 20, 3) := by decide +kernel
theorem dX4_ofTwoParts_97 : decode cX4_ofTwoParts 97 = .ok (.aload_n 0, 1) := by decide +kernel
theorem dX4_ofTwoParts_98 : decode cX4_ofTwoParts 98 = .ok (.getfield 103, 3) := by decide +kernel
theorem dX4_ofTwoParts_101 : decode cX4_ofTwoParts 101 = .ok (.bipush 6, 2) := by decide +kernel
theorem dX4_ofTwoParts_103 : decode cX4_ofTwoParts 103 = .ok (.if_icmp .ne 11, 3) := by decide +kernel
theorem dX4_ofTwoParts_106 : decode cX4_ofTwoParts 106 = .ok (.aload_n 0, 1) := by decide +kernel
theorem dX4_ofTwoParts_107 : decode cX4_ofTwoParts 107 = .ok (.iload 5, 2) := by decide +kernel
theorem dX4_ofTwoParts_109 : decode cX4_ofTwoParts 109 = .ok (.iconst 4, 1) := by decide +kernel
theorem dX4_ofTwoParts_110 : decode cX4_ofTwoParts 110 = .ok (.iload_n 1, 1) := by decide +kernel
theorem dX4_ofTwoParts_111 : decode cX4_ofTwoParts 111 = .ok (.invokevirtual 138, 3) := by decide +kernel
theorem dX4_ofTwoParts_114 : decode cX4_ofTwoParts 114 = .ok (.iload 5, 2) := by decide +kernel
theorem dX4_ofTwoParts_116 : decode cX4_ofTwoParts 116 = .ok (.ireturn, 1) := by decide +kernel
theorem dX4_askedNext_0 : decode cX4_askedNext 0 = .ok (.iload_n 2, 1) := by decide +kernel
theorem dX4_askedNext_1 : decode cX4_askedNext 1 = .ok (.iconst 1, 1) := by decide +kernel
theorem dX4_askedNext_2 : decode cX4_askedNext 2 = .ok (.iadd, 1) := by decide +kernel
theorem dX4_askedNext_3 : decode cX4_askedNext 3 = .ok (.istore_n 3, 1) := by decide +kernel
theorem dX4_askedNext_4 : decode cX4_askedNext 4 = .ok (.iload_n 3, 1) := by decide +kernel
theorem dX4_askedNext_5 : decode cX4_askedNext 5 = .ok (.aload_n 0, 1) := by decide +kernel
theorem dX4_askedNext_6 : decode cX4_askedNext 6 = .ok (.getfield 73, 3) := by decide +kernel
theorem dX4_askedNext_9 : decode cX4_askedNext 9 = .ok (.if_icmp .ge 19, 3) := by decide +kernel
theorem dX4_askedNext_12 : decode cX4_askedNext 12 = .ok (.aload_n 0, 1) := by decide +kernel
theorem dX4_askedNext_13 : decode cX4_askedNext 13 = .ok (.getfield 13, 3) := by decide +kernel
theorem dX4_askedNext_16 : decode cX4_askedNext 16 = .ok (.iload_n 3, 1) := by decide +kernel
theorem dX4_askedNext_17 : decode cX4_askedNext 17 = .ok (.iaload, 1) := by decide +kernel
theorem dX4_askedNext_18 : decode cX4_askedNext 18 = .ok (.iload_n 1, 1) := by decide +kernel
theorem dX4_askedNext_19 : decode cX4_askedNext 19 = .ok (.if_icmp .eq 9, 3) := by decide +kernel
theorem dX4_askedNext_22 : decode cX4_askedNext 22 = .ok (.iinc 3 1, 3) := by decide +kernel
theorem dX4_askedNext_25 : decode cX4_askedNext 25 = .ok (.goto (-21), 3) := by decide +kernel
theorem dX4_askedNext_28 : decode cX4_askedNext 28 = .ok (.iload_n 3, 1) := by decide +kernel
theorem dX4_askedNext_29 : decode cX4_askedNext 29 = .ok (.ireturn, 1) := by decide +kernel
theorem dX4_latestAhead_0 : decode cX4_latestAhead 0 = .ok (.iconst (-1), 1) := by decide +kernel
theorem dX4_latestAhead_1 : decode cX4_latestAhead 1 = .ok (.istore_n 2, 1) := by decide +kernel
theorem dX4_latestAhead_2 : decode cX4_latestAhead 2 = .ok (.iconst (-1), 1) := by decide +kernel
theorem dX4_latestAhead_3 : decode cX4_latestAhead 3 = .ok (.istore_n 3, 1) := by decide +kernel
theorem dX4_latestAhead_4 : decode cX4_latestAhead 4 = .ok (.iconst 0, 1) := by decide +kernel
theorem dX4_latestAhead_5 : decode cX4_latestAhead 5 = .ok (.istore 4, 2) := by decide +kernel
theorem dX4_latestAhead_7 : decode cX4_latestAhead 7 = .ok (.iload 4, 2) := by decide +kernel
theorem dX4_latestAhead_9 : decode cX4_latestAhead 9 = .ok (.bipush 16, 2) := by decide +kernel
theorem dX4_latestAhead_11 : decode cX4_latestAhead 11 = .ok (.if_icmp .ge 54, 3) := by decide +kernel
theorem dX4_latestAhead_14 : decode cX4_latestAhead 14 = .ok (.aload_n 0, 1) := by decide +kernel
theorem dX4_latestAhead_15 : decode cX4_latestAhead 15 = .ok (.getfield 28, 3) := by decide +kernel
theorem dX4_latestAhead_18 : decode cX4_latestAhead 18 = .ok (.iload 4, 2) := by decide +kernel
theorem dX4_latestAhead_20 : decode cX4_latestAhead 20 = .ok (.baload, 1) := by decide +kernel
theorem dX4_latestAhead_21 : decode cX4_latestAhead 21 = .ok (.ifCond .eq 38, 3) := by decide +kernel
theorem dX4_latestAhead_24 : decode cX4_latestAhead 24 = .ok (.aload_n 0, 1) := by decide +kernel
theorem dX4_latestAhead_25 : decode cX4_latestAhead 25 = .ok (.iload 4, 2) := by decide +kernel
theorem dX4_latestAhead_27 : decode cX4_latestAhead 27 = .ok (.iload_n 1, 1) := by decide +kernel
theorem dX4_latestAhead_28 : decode cX4_latestAhead 28 = .ok (.invokevirtual 142, 3) := by decide +kernel
theorem dX4_latestAhead_31 : decode cX4_latestAhead 31 = .ok (.istore 5, 2) := by decide +kernel
theorem dX4_latestAhead_33 : decode cX4_latestAhead 33 = .ok (.iload 5, 2) := by decide +kernel
theorem dX4_latestAhead_35 : decode cX4_latestAhead 35 = .ok (.iload_n 3, 1) := by decide +kernel
theorem dX4_latestAhead_36 : decode cX4_latestAhead 36 = .ok (.if_icmp .le 8, 3) := by decide +kernel
theorem dX4_latestAhead_39 : decode cX4_latestAhead 39 = .ok (.iload 4, 2) := by decide +kernel
theorem dX4_latestAhead_41 : decode cX4_latestAhead 41 = .ok (.goto 4, 3) := by decide +kernel
theorem dX4_latestAhead_44 : decode cX4_latestAhead 44 = .ok (.iload_n 2, 1) := by decide +kernel
theorem dX4_latestAhead_45 : decode cX4_latestAhead 45 = .ok (.istore_n 2, 1) := by decide +kernel
theorem dX4_latestAhead_46 : decode cX4_latestAhead 46 = .ok (.iload 5, 2) := by decide +kernel
theorem dX4_latestAhead_48 : decode cX4_latestAhead 48 = .ok (.iload_n 3, 1) := by decide +kernel
theorem dX4_latestAhead_49 : decode cX4_latestAhead 49 = .ok (.if_icmp .le 8, 3) := by decide +kernel
theorem dX4_latestAhead_52 : decode cX4_latestAhead 52 = .ok (.iload 5, 2) := by decide +kernel
theorem dX4_latestAhead_54 : decode cX4_latestAhead 54 = .ok (.goto 4, 3) := by decide +kernel
theorem dX4_latestAhead_57 : decode cX4_latestAhead 57 = .ok (.iload_n 3, 1) := by decide +kernel
theorem dX4_latestAhead_58 : decode cX4_latestAhead 58 = .ok (.istore_n 3, 1) := by decide +kernel
theorem dX4_latestAhead_59 : decode cX4_latestAhead 59 = .ok (.iinc 4 1, 3) := by decide +kernel
theorem dX4_latestAhead_62 : decode cX4_latestAhead 62 = .ok (.goto (-55), 3) := by decide +kernel
theorem dX4_latestAhead_65 : decode cX4_latestAhead 65 = .ok (.iload_n 2, 1) := by decide +kernel
theorem dX4_latestAhead_66 : decode cX4_latestAhead 66 = .ok (.ireturn, 1) := by decide +kernel
theorem dX4_chosen_0 : decode cX4_chosen 0 = .ok (.aload_n 0, 1) := by decide +kernel
theorem dX4_chosen_1 : decode cX4_chosen 1 = .ok (.getfield 103, 3) := by decide +kernel
theorem dX4_chosen_4 : decode cX4_chosen 4 = .ok (.tableswitch 94 0 7 #[48, 53, 60, 65, 70, 79, 79, 85], 48) := by decide +kernel
theorem dX4_chosen_52 : decode cX4_chosen 52 = .ok (.aload_n 0, 1) := by decide +kernel
theorem dX4_chosen_53 : decode cX4_chosen 53 = .ok (.invokevirtual 146, 3) := by decide +kernel
theorem dX4_chosen_56 : decode cX4_chosen 56 = .ok (.ireturn, 1) := by decide +kernel
theorem dX4_chosen_57 : decode cX4_chosen 57 = .ok (.aload_n 0, 1) := by decide +kernel
theorem dX4_chosen_58 : decode cX4_chosen 58 = .ok (.iconst 0, 1) := by decide +kernel
theorem dX4_chosen_59 : decode cX4_chosen 59 = .ok (.iconst 0, 1) := by decide +kernel
theorem dX4_chosen_60 : decode cX4_chosen 60 = .ok (.invokevirtual 124, 3) := by decide +kernel
theorem dX4_chosen_63 : decode cX4_chosen 63 = .ok (.ireturn, 1) := by decide +kernel
theorem dX4_chosen_64 : decode cX4_chosen 64 = .ok (.aload_n 0, 1) := by decide +kernel
theorem dX4_chosen_65 : decode cX4_chosen 65 = .ok (.invokevirtual 149, 3) := by decide +kernel
theorem dX4_chosen_68 : decode cX4_chosen 68 = .ok (.ireturn, 1) := by decide +kernel
theorem dX4_chosen_69 : decode cX4_chosen 69 = .ok (.aload_n 0, 1) := by decide +kernel
theorem dX4_chosen_70 : decode cX4_chosen 70 = .ok (.invokevirtual 152, 3) := by decide +kernel
theorem dX4_chosen_73 : decode cX4_chosen 73 = .ok (.ireturn, 1) := by decide +kernel
theorem dX4_chosen_74 : decode cX4_chosen 74 = .ok (.aload_n 0, 1) := by decide +kernel
theorem dX4_chosen_75 : decode cX4_chosen 75 = .ok (.aload_n 0, 1) := by decide +kernel
theorem dX4_chosen_76 : decode cX4_chosen 76 = .ok (.getfield 38, 3) := by decide +kernel
theorem dX4_chosen_79 : decode cX4_chosen 79 = .ok (.invokevirtual 155, 3) := by decide +kernel
theorem dX4_chosen_82 : decode cX4_chosen 82 = .ok (.ireturn, 1) := by decide +kernel
theorem dX4_chosen_83 : decode cX4_chosen 83 = .ok (.aload_n 0, 1) := by decide +kernel
theorem dX4_chosen_84 : decode cX4_chosen 84 = .ok (.iload_n 1, 1) := by decide +kernel
theorem dX4_chosen_85 : decode cX4_chosen 85 = .ok (.invokevirtual 159, 3) := by decide +kernel
theorem dX4_chosen_88 : decode cX4_chosen 88 = .ok (.ireturn, 1) := by decide +kernel
theorem dX4_chosen_89 : decode cX4_chosen 89 = .ok (.aload_n 0, 1) := by decide +kernel
theorem dX4_chosen_90 : decode cX4_chosen 90 = .ok (.aload_n 0, 1) := by decide +kernel
theorem dX4_chosen_91 : decode cX4_chosen 91 = .ok (.getfield 53, 3) := by decide +kernel
theorem dX4_chosen_94 : decode cX4_chosen 94 = .ok (.invokevirtual 155, 3) := by decide +kernel
theorem dX4_chosen_97 : decode cX4_chosen 97 = .ok (.ireturn, 1) := by decide +kernel
theorem dX4_chosen_98 : decode cX4_chosen 98 = .ok (.aload_n 0, 1) := by decide +kernel
theorem dX4_chosen_99 : decode cX4_chosen 99 = .ok (.iload_n 1, 1) := by decide +kernel
theorem dX4_chosen_100 : decode cX4_chosen 100 = .ok (.invokevirtual 162, 3) := by decide +kernel
theorem dX4_chosen_103 : decode cX4_chosen 103 = .ok (.ireturn, 1) := by decide +kernel
theorem dX4_hit_0 : decode cX4_hit 0 = .ok (.aload_n 0, 1) := by decide +kernel
theorem dX4_hit_1 : decode cX4_hit 1 = .ok (.getfield 38, 3) := by decide +kernel
theorem dX4_hit_4 : decode cX4_hit 4 = .ok (.iload_n 1, 1) := by decide +kernel
theorem dX4_hit_5 : decode cX4_hit 5 = .ok (.dup2, 1) := by decide +kernel
theorem dX4_hit_6 : decode cX4_hit 6 = .ok (.iaload, 1) := by decide +kernel
theorem dX4_hit_7 : decode cX4_hit 7 = .ok (.iconst 1, 1) := by decide +kernel
theorem dX4_hit_8 : decode cX4_hit 8 = .ok (.iadd, 1) := by decide +kernel
theorem dX4_hit_9 : decode cX4_hit 9 = .ok (.iastore, 1) := by decide +kernel
theorem dX4_hit_10 : decode cX4_hit 10 = .ok (.aload_n 0, 1) := by decide +kernel
theorem dX4_hit_11 : decode cX4_hit 11 = .ok (.getfield 41, 3) := by decide +kernel
theorem dX4_hit_14 : decode cX4_hit 14 = .ok (.iload_n 1, 1) := by decide +kernel
theorem dX4_hit_15 : decode cX4_hit 15 = .ok (.aload_n 0, 1) := by decide +kernel
theorem dX4_hit_16 : decode cX4_hit 16 = .ok (.getfield 103, 3) := by decide +kernel
theorem dX4_hit_19 : decode cX4_hit 19 = .ok (.iconst 2, 1) := by decide +kernel
theorem dX4_hit_20 : decode cX4_hit 20 = .ok (.if_icmp .eq 11, 3) := by decide +kernel
theorem dX4_hit_23 : decode cX4_hit 23 = .ok (.aload_n 0, 1) := by decide +kernel
theorem dX4_hit_24 : decode cX4_hit 24 = .ok (.getfield 103, 3) := by decide +kernel
theorem dX4_hit_27 : decode cX4_hit 27 = .ok (.iconst 3, 1) := by decide +kernel
theorem dX4_hit_28 : decode cX4_hit 28 = .ok (.if_icmp .ne 7, 3) := by decide +kernel
theorem dX4_hit_31 : decode cX4_hit 31 = .ok (.iconst 1, 1) := by decide +kernel
theorem dX4_hit_32 : decode cX4_hit 32 = .ok (.goto 4, 3) := by decide +kernel
theorem dX4_hit_35 : decode cX4_hit 35 = .ok (.iconst 0, 1) := by decide +kernel
theorem dX4_hit_36 : decode cX4_hit 36 = .ok (.bastore, 1) := by decide +kernel
theorem dX4_hit_37 : decode cX4_hit 37 = .ok (.aload_n 0, 1) := by decide +kernel
theorem dX4_hit_38 : decode cX4_hit 38 = .ok (.getfield 47, 3) := by decide +kernel
theorem dX4_hit_41 : decode cX4_hit 41 = .ok (.iload_n 1, 1) := by decide +kernel
theorem dX4_hit_42 : decode cX4_hit 42 = .ok (.iaload, 1) := by decide +kernel
theorem dX4_hit_43 : decode cX4_hit 43 = .ok (.iconst 2, 1) := by decide +kernel
theorem dX4_hit_44 : decode cX4_hit 44 = .ok (.if_icmp .eq 17, 3) := by decide +kernel
theorem dX4_hit_47 : decode cX4_hit 47 = .ok (.aload_n 0, 1) := by decide +kernel
theorem dX4_hit_48 : decode cX4_hit 48 = .ok (.getfield 47, 3) := by decide +kernel
theorem dX4_hit_51 : decode cX4_hit 51 = .ok (.iload_n 1, 1) := by decide +kernel
theorem dX4_hit_52 : decode cX4_hit 52 = .ok (.iconst 2, 1) := by decide +kernel
theorem dX4_hit_53 : decode cX4_hit 53 = .ok (.iastore, 1) := by decide +kernel
theorem dX4_hit_54 : decode cX4_hit 54 = .ok (.aload_n 0, 1) := by decide +kernel
theorem dX4_hit_55 : decode cX4_hit 55 = .ok (.getfield 50, 3) := by decide +kernel
theorem dX4_hit_58 : decode cX4_hit 58 = .ok (.iload_n 1, 1) := by decide +kernel
theorem dX4_hit_59 : decode cX4_hit 59 = .ok (.iload_n 2, 1) := by decide +kernel
theorem dX4_hit_60 : decode cX4_hit 60 = .ok (.iastore, 1) := by decide +kernel
theorem dX4_hit_61 : decode cX4_hit 61 = .ok (.aload_n 0, 1) := by decide +kernel
theorem dX4_hit_62 : decode cX4_hit 62 = .ok (.getfield 53, 3) := by decide +kernel
theorem dX4_hit_65 : decode cX4_hit 65 = .ok (.iload_n 1, 1) := by decide +kernel
theorem dX4_hit_66 : decode cX4_hit 66 = .ok (.aload_n 0, 1) := by decide +kernel
theorem dX4_hit_67 : decode cX4_hit 67 = .ok (.getfield 121, 3) := by decide +kernel
theorem dX4_hit_70 : decode cX4_hit 70 = .ok (.aload_n 0, 1) := by decide +kernel
theorem dX4_hit_71 : decode cX4_hit 71 = .ok (.getfield 7, 3) := by decide +kernel
theorem dX4_hit_74 : decode cX4_hit 74 = .ok (.iload_n 1, 1) := by decide +kernel
theorem dX4_hit_75 : decode cX4_hit 75 = .ok (.iaload, 1) := by decide +kernel
theorem dX4_hit_76 : decode cX4_hit 76 = .ok (.iadd, 1) := by decide +kernel
theorem dX4_hit_77 : decode cX4_hit 77 = .ok (.iastore, 1) := by decide +kernel
theorem dX4_hit_78 : decode cX4_hit 78 = .ok (.return_, 1) := by decide +kernel
theorem dX4_fromBook_0 : decode cX4_fromBook 0 = .ok (.aload_n 0, 1) := by decide +kernel
theorem dX4_fromBook_1 : decode cX4_fromBook 1 = .ok (.getfield 47, 3) := by decide +kernel
theorem dX4_fromBook_4 : decode cX4_fromBook 4 = .ok (.iload_n 1, 1) := by decide +kernel
theorem dX4_fromBook_5 : decode cX4_fromBook 5 = .ok (.iaload, 1) := by decide +kernel
theorem dX4_fromBook_6 : decode cX4_fromBook 6 = .ok (.iconst 3, 1) := by decide +kernel
theorem dX4_fromBook_7 : decode cX4_fromBook 7 = .ok (.if_icmp .eq 13, 3) := by decide +kernel
theorem dX4_fromBook_10 : decode cX4_fromBook 10 = .ok (.aload_n 0, 1) := by decide +kernel
theorem dX4_fromBook_11 : decode cX4_fromBook 11 = .ok (.getfield 47, 3) := by decide +kernel
theorem dX4_fromBook_14 : decode cX4_fromBook 14 = .ok (.iload_n 1, 1) := by decide +kernel
theorem dX4_fromBook_15 : decode cX4_fromBook 15 = .ok (.iaload, 1) := by decide +kernel
theorem dX4_fromBook_16 : decode cX4_fromBook 16 = .ok (.iconst 4, 1) := by decide +kernel
theorem dX4_fromBook_17 : decode cX4_fromBook 17 = .ok (.if_icmp .ne 7, 3) := by decide +kernel
theorem dX4_fromBook_20 : decode cX4_fromBook 20 = .ok (.iconst 1, 1) := by decide +kernel
theorem dX4_fromBook_21 : decode cX4_fromBook 21 = .ok (.goto 4, 3) := by decide +kernel
theorem dX4_fromBook_24 : decode cX4_fromBook 24 = .ok (.iconst 0, 1) := by decide +kernel
theorem dX4_fromBook_25 : decode cX4_fromBook 25 = .ok (.istore_n 2, 1) := by decide +kernel
theorem dX4_fromBook_26 : decode cX4_fromBook 26 = .ok (.aload_n 0, 1) := by decide +kernel
theorem dX4_fromBook_27 : decode cX4_fromBook 27 = .ok (.getfield 103, 3) := by decide +kernel
theorem dX4_fromBook_30 : decode cX4_fromBook 30 = .ok (.bipush 6, 2) := by decide +kernel
theorem dX4_fromBook_32 : decode cX4_fromBook 32 = .ok (.if_icmp .ne 41, 3) := by decide +kernel
theorem dX4_fromBook_35 : decode cX4_fromBook 35 = .ok (.aload_n 0, 1) := by decide +kernel
theorem dX4_fromBook_36 : decode cX4_fromBook 36 = .ok (.getfield 47, 3) := by decide +kernel
theorem dX4_fromBook_39 : decode cX4_fromBook 39 = .ok (.iload_n 1, 1) := by decide +kernel
theorem dX4_fromBook_40 : decode cX4_fromBook 40 = .ok (.iaload, 1) := by decide +kernel
theorem dX4_fromBook_41 : decode cX4_fromBook 41 = .ok (.iconst 3, 1) := by decide +kernel
theorem dX4_fromBook_42 : decode cX4_fromBook 42 = .ok (.if_icmp .ne 31, 3) := by decide +kernel
theorem dX4_fromBook_45 : decode cX4_fromBook 45 = .ok (.aload_n 0, 1) := by decide +kernel
theorem dX4_fromBook_46 : decode cX4_fromBook 46 = .ok (.aload_n 0, 1) := by decide +kernel
theorem dX4_fromBook_47 : decode cX4_fromBook 47 = .ok (.getfield 118, 3) := by decide +kernel
theorem dX4_fromBook_50 : decode cX4_fromBook 50 = .ok (.aload_n 0, 1) := by decide +kernel
theorem dX4_fromBook_51 : decode cX4_fromBook 51 = .ok (.getfield 106, 3) := by decide +kernel
theorem dX4_fromBook_54 : decode cX4_fromBook 54 = .ok (.if_icmp .ge 12, 3) := by decide +kernel
theorem dX4_fromBook_57 : decode cX4_fromBook 57 = .ok (.aload_n 0, 1) := by decide +kernel
theorem dX4_fromBook_58 : decode cX4_fromBook 58 = .ok (.getfield 118, 3) := by decide +kernel
theorem dX4_fromBook_61 : decode cX4_fromBook 61 = .ok (.iconst 1, 1) := by decide +kernel
theorem dX4_fromBook_62 : decode cX4_fromBook 62 = .ok (.iadd, 1) := by decide +kernel
theorem dX4_fromBook_63 : decode cX4_fromBook 63 = .ok (.goto 7, 3) := by decide +kernel
theorem dX4_fromBook_66 : decode cX4_fromBook 66 = .ok (.aload_n 0, 1) := by decide +kernel
theorem dX4_fromBook_67 : decode cX4_fromBook 67 = .ok (.getfield 118, 3) := by decide +kernel
theorem dX4_fromBook_70 : decode cX4_fromBook 70 = .ok (.putfield 118, 3) := by decide +kernel
theorem dX4_fromBook_73 : decode cX4_fromBook 73 = .ok (.aload_n 0, 1) := by decide +kernel
theorem dX4_fromBook_74 : decode cX4_fromBook 74 = .ok (.getfield 103, 3) := by decide +kernel
theorem dX4_fromBook_77 : decode cX4_fromBook 77 = .ok (.bipush 6, 2) := by decide +kernel
theorem dX4_fromBook_79 : decode cX4_fromBook 79 = .ok (.if_icmp .ne 37, 3) := by decide +kernel
theorem dX4_fromBook_82 : decode cX4_fromBook 82 = .ok (.aload_n 0, 1) := by decide +kernel
theorem dX4_fromBook_83 : decode cX4_fromBook 83 = .ok (.getfield 47, 3) := by decide +kernel
theorem dX4_fromBook_86 : decode cX4_fromBook 86 = .ok (.iload_n 1, 1) := by decide +kernel
theorem dX4_fromBook_87 : decode cX4_fromBook 87 = .ok (.iaload, 1) := by decide +kernel
theorem dX4_fromBook_88 : decode cX4_fromBook 88 = .ok (.iconst 4, 1) := by decide +kernel
theorem dX4_fromBook_89 : decode cX4_fromBook 89 = .ok (.if_icmp .ne 27, 3) := by decide +kernel
theorem dX4_fromBook_92 : decode cX4_fromBook 92 = .ok (.aload_n 0, 1) := by decide +kernel
theorem dX4_fromBook_93 : decode cX4_fromBook 93 = .ok (.aload_n 0, 1) := by decide +kernel
theorem dX4_fromBook_94 : decode cX4_fromBook 94 = .ok (.getfield 118, 3) := by decide +kernel
theorem dX4_fromBook_97 : decode cX4_fromBook 97 = .ok (.ifCond .le 12, 3) := by decide +kernel
theorem dX4_fromBook_100 : decode cX4_fromBook 100 = .ok (.aload_n 0, 1) := by decide +kernel
theorem dX4_fromBook_101 : decode cX4_fromBook 101 = .ok (.getfield 118, 3) := by decide +kernel
theorem dX4_fromBook_104 : decode cX4_fromBook 104 = .ok (.iconst 1, 1) := by decide +kernel
theorem dX4_fromBook_105 : decode cX4_fromBook 105 = .ok (.isub, 1) := by decide +kernel
theorem dX4_fromBook_106 : decode cX4_fromBook 106 = .ok (.goto 7, 3) := by decide +kernel
theorem dX4_fromBook_109 : decode cX4_fromBook 109 = .ok (.aload_n 0, 1) := by decide +kernel
theorem dX4_fromBook_110 : decode cX4_fromBook 110 = .ok (.getfield 118, 3) := by decide +kernel
theorem dX4_fromBook_113 : decode cX4_fromBook 113 = .ok (.putfield 118, 3) := by decide +kernel
theorem dX4_fromBook_116 : decode cX4_fromBook 116 = .ok (.aload_n 0, 1) := by decide +kernel
theorem dX4_fromBook_117 : decode cX4_fromBook 117 = .ok (.getfield 47, 3) := by decide +kernel
theorem dX4_fromBook_120 : decode cX4_fromBook 120 = .ok (.iload_n 1, 1) := by decide +kernel
theorem dX4_fromBook_121 : decode cX4_fromBook 121 = .ok (.iconst 0, 1) := by decide +kernel
theorem dX4_fromBook_122 : decode cX4_fromBook 122 = .ok (.iastore, 1) := by decide +kernel
theorem dX4_fromBook_123 : decode cX4_fromBook 123 = .ok (.iload_n 2, 1) := by decide +kernel
theorem dX4_fromBook_124 : decode cX4_fromBook 124 = .ok (.ireturn, 1) := by decide +kernel
theorem dX4_leave_0 : decode cX4_leave 0 = .ok (.aload_n 0, 1) := by decide +kernel
theorem dX4_leave_1 : decode cX4_leave 1 = .ok (.getfield 28, 3) := by decide +kernel
theorem dX4_leave_4 : decode cX4_leave 4 = .ok (.iload_n 1, 1) := by decide +kernel
theorem dX4_leave_5 : decode cX4_leave 5 = .ok (.iconst 0, 1) := by decide +kernel
theorem dX4_leave_6 : decode cX4_leave 6 = .ok (.bastore, 1) := by decide +kernel
theorem dX4_leave_7 : decode cX4_leave 7 = .ok (.aload_n 0, 1) := by decide +kernel
theorem dX4_leave_8 : decode cX4_leave 8 = .ok (.getfield 41, 3) := by decide +kernel
theorem dX4_leave_11 : decode cX4_leave 11 = .ok (.iload_n 1, 1) := by decide +kernel
theorem dX4_leave_12 : decode cX4_leave 12 = .ok (.iconst 0, 1) := by decide +kernel
theorem dX4_leave_13 : decode cX4_leave 13 = .ok (.bastore, 1) := by decide +kernel
theorem dX4_leave_14 : decode cX4_leave 14 = .ok (.aload_n 0, 1) := by decide +kernel
theorem dX4_leave_15 : decode cX4_leave 15 = .ok (.getfield 38, 3) := by decide +kernel
theorem dX4_leave_18 : decode cX4_leave 18 = .ok (.iload_n 1, 1) := by decide +kernel
theorem dX4_leave_19 : decode cX4_leave 19 = .ok (.iconst 0, 1) := by decide +kernel
theorem dX4_leave_20 : decode cX4_leave 20 = .ok (.iastore, 1) := by decide +kernel
theorem dX4_leave_21 : decode cX4_leave 21 = .ok (.aload_n 0, 1) := by decide +kernel
theorem dX4_leave_22 : decode cX4_leave 22 = .ok (.aload_n 0, 1) := by decide +kernel
theorem dX4_leave_23 : decode cX4_leave 23 = .ok (.getfield 103, 3) := by decide +kernel
theorem dX4_leave_26 : decode cX4_leave 26 = .ok (.bipush 7, 2) := by decide +kernel
theorem dX4_leave_28 : decode cX4_leave 28 = .ok (.if_icmp .ne 12, 3) := by decide +kernel
theorem dX4_leave_31 : decode cX4_leave 31 = .ok (.aload_n 0, 1) := by decide +kernel
theorem dX4_leave_32 : decode cX4_leave 32 = .ok (.getfield 53, 3) := by decide +kernel
theorem dX4_leave_35 : decode cX4_leave 35 = .ok (.iload_n 1, 1) := by decide +kernel
theorem dX4_leave_36 : decode cX4_leave 36 = .ok (.iaload, 1) := by decide +kernel
theorem dX4_leave_37 : decode cX4_leave 37 = .ok (.goto 7, 3) := by decide +kernel
theorem dX4_leave_40 : decode cX4_leave 40 = .ok (.aload_n 0, 1) := by decide +kernel
theorem dX4_leave_41 : decode cX4_leave 41 = .ok (.getfield 121, 3) := by decide +kernel
theorem dX4_leave_44 : decode cX4_leave 44 = .ok (.putfield 121, 3) := by decide +kernel
theorem dX4_leave_47 : decode cX4_leave 47 = .ok (.aload_n 0, 1) := by decide +kernel
theorem dX4_leave_48 : decode cX4_leave 48 = .ok (.getfield 53, 3) := by decide +kernel
theorem dX4_leave_51 : decode cX4_leave 51 = .ok (.iload_n 1, 1) := by decide +kernel
theorem dX4_leave_52 : decode cX4_leave 52 = .ok (.iconst 0, 1) := by decide +kernel
theorem dX4_leave_53 : decode cX4_leave 53 = .ok (.iastore, 1) := by decide +kernel
theorem dX4_leave_54 : decode cX4_leave 54 = .ok (.aload_n 0, 1) := by decide +kernel
theorem dX4_leave_55 : decode cX4_leave 55 = .ok (.dup, 1) := by decide +kernel
theorem dX4_leave_56 : decode cX4_leave 56 = .ok (.getfield 109, 3) := by decide +kernel
theorem dX4_leave_59 : decode cX4_leave 59 = .ok (.iconst 1, 1) := by decide +kernel
theorem dX4_leave_60 : decode cX4_leave 60 = .ok (.isub, 1) := by decide +kernel
theorem dX4_leave_61 : decode cX4_leave 61 = .ok (.putfield 109, 3) := by decide +kernel
theorem dX4_leave_64 : decode cX4_leave 64 = .ok (.return_, 1) := by decide +kernel
theorem dX4_serveOne_0 : decode cX4_serveOne 0 = .ok (.aload_n 0, 1) := by decide +kernel
theorem dX4_serveOne_1 : decode cX4_serveOne 1 = .ok (.getfield 13, 3) := by decide +kernel
theorem dX4_serveOne_4 : decode cX4_serveOne 4 = .ok (.iload_n 1, 1) := by decide +kernel
theorem dX4_serveOne_5 : decode cX4_serveOne 5 = .ok (.iaload, 1) := by decide +kernel
theorem dX4_serveOne_6 : decode cX4_serveOne 6 = .ok (.istore_n 2, 1) := by decide +kernel
theorem dX4_serveOne_7 : decode cX4_serveOne 7 = .ok (.aload_n 0, 1) := by decide +kernel
theorem dX4_serveOne_8 : decode cX4_serveOne 8 = .ok (.aload_n 0, 1) := by decide +kernel
theorem dX4_serveOne_9 : decode cX4_serveOne 9 = .ok (.getfield 28, 3) := by decide +kernel
theorem dX4_serveOne_12 : decode cX4_serveOne 12 = .ok (.iload_n 2, 1) := by decide +kernel
theorem dX4_serveOne_13 : decode cX4_serveOne 13 = .ok (.baload, 1) := by decide +kernel
theorem dX4_serveOne_14 : decode cX4_serveOne 14 = .ok (.ifCond .eq 7, 3) := by decide +kernel
theorem dX4_serveOne_17 : decode cX4_serveOne 17 = .ok (.iconst 1, 1) := by decide +kernel
theorem dX4_serveOne_18 : decode cX4_serveOne 18 = .ok (.goto 4, 3) := by decide +kernel
theorem dX4_serveOne_21 : decode cX4_serveOne 21 = .ok (.iconst 0, 1) := by decide +kernel
theorem dX4_serveOne_22 : decode cX4_serveOne 22 = .ok (.putfield 165, 3) := by decide +kernel
theorem dX4_serveOne_25 : decode cX4_serveOne 25 = .ok (.aload_n 0, 1) := by decide +kernel
theorem dX4_serveOne_26 : decode cX4_serveOne 26 = .ok (.iconst (-1), 1) := by decide +kernel
theorem dX4_serveOne_27 : decode cX4_serveOne 27 = .ok (.putfield 168, 3) := by decide +kernel
theorem dX4_serveOne_30 : decode cX4_serveOne 30 = .ok (.aload_n 0, 1) := by decide +kernel
theorem dX4_serveOne_31 : decode cX4_serveOne 31 = .ok (.getfield 28, 3) := by decide +kernel
theorem dX4_serveOne_34 : decode cX4_serveOne 34 = .ok (.iload_n 2, 1) := by decide +kernel
theorem dX4_serveOne_35 : decode cX4_serveOne 35 = .ok (.baload, 1) := by decide +kernel
theorem dX4_serveOne_36 : decode cX4_serveOne 36 = .ok (.ifCond .eq 12, 3) := by decide +kernel
theorem dX4_serveOne_39 : decode cX4_serveOne 39 = .ok (.aload_n 0, 1) := by decide +kernel
theorem dX4_serveOne_40 : decode cX4_serveOne 40 = .ok (.iload_n 2, 1) := by decide +kernel
theorem dX4_serveOne_41 : decode cX4_serveOne 41 = .ok (.iload_n 1, 1) := by decide +kernel
theorem dX4_serveOne_42 : decode cX4_serveOne 42 = .ok (.invokevirtual 171, 3) := by decide +kernel
theorem dX4_serveOne_45 : decode cX4_serveOne 45 = .ok (.goto 191, 3) := by decide +kernel
theorem dX4_serveOne_48 : decode cX4_serveOne 48 = .ok (.aload_n 0, 1) := by decide +kernel
theorem dX4_serveOne_49 : decode cX4_serveOne 49 = .ok (.iload_n 2, 1) := by decide +kernel
theorem dX4_serveOne_50 : decode cX4_serveOne 50 = .ok (.invokevirtual 175, 3) := by decide +kernel
theorem dX4_serveOne_53 : decode cX4_serveOne 53 = .ok (.istore_n 3, 1) := by decide +kernel
theorem dX4_serveOne_54 : decode cX4_serveOne 54 = .ok (.aload_n 0, 1) := by decide +kernel
theorem dX4_serveOne_55 : decode cX4_serveOne 55 = .ok (.getfield 109, 3) := by decide +kernel
theorem dX4_serveOne_58 : decode cX4_serveOne 58 = .ok (.istore 4, 2) := by decide +kernel
theorem dX4_serveOne_60 : decode cX4_serveOne 60 = .ok (.aload_n 0, 1) := by decide +kernel
theorem dX4_serveOne_61 : decode cX4_serveOne 61 = .ok (.getfield 109, 3) := by decide +kernel
theorem dX4_serveOne_64 : decode cX4_serveOne 64 = .ok (.aload_n 0, 1) := by decide +kernel
theorem dX4_serveOne_65 : decode cX4_serveOne 65 = .ok (.getfield 106, 3) := by decide +kernel
theorem dX4_serveOne_68 : decode cX4_serveOne 68 = .ok (.if_icmp .ne 71, 3) := by decide +kernel
theorem dX4_serveOne_71 : decode cX4_serveOne 71 = .ok (.aload_n 0, 1) := by decide +kernel
theorem dX4_serveOne_72 : decode cX4_serveOne 72 = .ok (.aload_n 0, 1) := by decide +kernel
theorem dX4_serveOne_73 : decode cX4_serveOne 73 = .ok (.iload_n 1, 1) := by decide +kernel
theorem dX4_serveOne_74 : decode cX4_serveOne 74 = .ok (.invokevirtual 178, 3) := by decide +kernel
theorem dX4_serveOne_77 : decode cX4_serveOne 77 = .ok (.putfield 168, 3) := by decide +kernel
theorem dX4_serveOne_80 : decode cX4_serveOne 80 = .ok (.aload_n 0, 1) := by decide +kernel
theorem dX4_serveOne_81 : decode cX4_serveOne 81 = .ok (.getfield 44, 3) := by decide +kernel
theorem dX4_serveOne_84 : decode cX4_serveOne 84 = .ok (.aload_n 0, 1) := by decide +kernel
theorem dX4_serveOne_85 : decode cX4_serveOne 85 = .ok (.getfield 168, 3) := by decide +kernel
theorem dX4_serveOne_88 : decode cX4_serveOne 88 = .ok (.iaload, 1) := by decide +kernel
theorem dX4_serveOne_89 : decode cX4_serveOne 89 = .ok (.istore 4, 2) := by decide +kernel
theorem dX4_serveOne_91 : decode cX4_serveOne 91 = .ok (.aload_n 0, 1) := by decide +kernel
theorem dX4_serveOne_92 : decode cX4_serveOne 92 = .ok (.getfield 44, 3) := by decide +kernel
theorem dX4_serveOne_95 : decode cX4_serveOne 95 = .ok (.aload_n 0, 1) := by decide +kernel
theorem dX4_serveOne_96 : decode cX4_serveOne 96 = .ok (.getfield 168, 3) := by decide +kernel
theorem dX4_serveOne_99 : decode cX4_serveOne 99 = .ok (.iconst (-1), 1) := by decide +kernel
theorem dX4_serveOne_100 : decode cX4_serveOne 100 = .ok (.iastore, 1) := by decide +kernel
theorem dX4_serveOne_101 : decode cX4_serveOne 101 = .ok (.aload_n 0, 1) := by decide +kernel
theorem dX4_serveOne_102 : decode cX4_serveOne 102 = .ok (.aload_n 0, 1) := by decide +kernel
theorem dX4_serveOne_103 : decode cX4_serveOne 103 = .ok (.getfield 168, 3) := by decide +kernel
theorem dX4_serveOne_106 : decode cX4_serveOne 106 = .ok (.invokevirtual 181, 3) := by decide +kernel
theorem dX4_serveOne_109 : decode cX4_serveOne 109 = .ok (.aload_n 0, 1) := by decide +kernel
theorem dX4_serveOne_110 : decode cX4_serveOne 110 = .ok (.aload_n 0, 1) := by decide +kernel
theorem dX4_serveOne_111 : decode cX4_serveOne 111 = .ok (.getfield 103, 3) := by decide +kernel
theorem dX4_serveOne_114 : decode cX4_serveOne 114 = .ok (.iconst 3, 1) := by decide +kernel
theorem dX4_serveOne_115 : decode cX4_serveOne 115 = .ok (.if_icmp .ne 17, 3) := by decide +kernel
theorem dX4_serveOne_118 : decode cX4_serveOne 118 = .ok (.aload_n 0, 1) := by decide +kernel
theorem dX4_serveOne_119 : decode cX4_serveOne 119 = .ok (.getfield 115, 3) := by decide +kernel
theorem dX4_serveOne_122 : decode cX4_serveOne 122 = .ok (.iconst 1, 1) := by decide +kernel
theorem dX4_serveOne_123 : decode cX4_serveOne 123 = .ok (.iadd, 1) := by decide +kernel
theorem dX4_serveOne_124 : decode cX4_serveOne 124 = .ok (.aload_n 0, 1) := by decide +kernel
theorem dX4_serveOne_125 : decode cX4_serveOne 125 = .ok (.getfield 106, 3) := by decide +kernel
theorem dX4_serveOne_128 : decode cX4_serveOne 128 = .ok (.irem, 1) := by decide +kernel
theorem dX4_serveOne_129 : decode cX4_serveOne 129 = .ok (.goto 7, 3) := by decide +kernel
theorem dX4_serveOne_132 : decode cX4_serveOne 132 = .ok (.aload_n 0, 1) := by decide +kernel
theorem dX4_serveOne_133 : decode cX4_serveOne 133 = .ok (.getfield 115, 3) := by decide +kernel
theorem dX4_serveOne_136 : decode cX4_serveOne 136 = .ok (.putfield 115, 3) := by decide +kernel
theorem dX4_serveOne_139 : decode cX4_serveOne 139 = .ok (.aload_n 0, 1) := by decide +kernel
theorem dX4_serveOne_140 : decode cX4_serveOne 140 = .ok (.getfield 28, 3) := by decide +kernel
theorem dX4_serveOne_143 : decode cX4_serveOne 143 = .ok (.iload_n 2, 1) := by decide +kernel
theorem dX4_serveOne_144 : decode cX4_serveOne 144 = .ok (.iconst 1, 1) := by decide +kernel
theorem dX4_serveOne_145 : decode cX4_serveOne 145 = .ok (.bastore, 1) := by decide +kernel
theorem dX4_serveOne_146 : decode cX4_serveOne 146 = .ok (.aload_n 0, 1) := by decide +kernel
theorem dX4_serveOne_147 : decode cX4_serveOne 147 = .ok (.dup, 1) := by decide +kernel
theorem dX4_serveOne_148 : decode cX4_serveOne 148 = .ok (.getfield 109, 3) := by decide +kernel
theorem dX4_serveOne_151 : decode cX4_serveOne 151 = .ok (.iconst 1, 1) := by decide +kernel
theorem dX4_serveOne_152 : decode cX4_serveOne 152 = .ok (.iadd, 1) := by decide +kernel
theorem dX4_serveOne_153 : decode cX4_serveOne 153 = .ok (.putfield 109, 3) := by decide +kernel
theorem dX4_serveOne_156 : decode cX4_serveOne 156 = .ok (.aload_n 0, 1) := by decide +kernel
theorem dX4_serveOne_157 : decode cX4_serveOne 157 = .ok (.getfield 32, 3) := by decide +kernel
theorem dX4_serveOne_160 : decode cX4_serveOne 160 = .ok (.iload_n 2, 1) := by decide +kernel
theorem dX4_serveOne_161 : decode cX4_serveOne 161 = .ok (.iload_n 1, 1) := by decide +kernel
theorem dX4_serveOne_162 : decode cX4_serveOne 162 = .ok (.iastore, 1) := by decide +kernel
theorem dX4_serveOne_163 : decode cX4_serveOne 163 = .ok (.aload_n 0, 1) := by decide +kernel
theorem dX4_serveOne_164 : decode cX4_serveOne 164 = .ok (.getfield 38, 3) := by decide +kernel
theorem dX4_serveOne_167 : decode cX4_serveOne 167 = .ok (.iload_n 2, 1) := by decide +kernel
theorem dX4_serveOne_168 : decode cX4_serveOne 168 = .ok (.iconst 1, 1) := by decide +kernel
theorem dX4_serveOne_169 : decode cX4_serveOne 169 = .ok (.iastore, 1) := by decide +kernel
theorem dX4_serveOne_170 : decode cX4_serveOne 170 = .ok (.aload_n 0, 1) := by decide +kernel
theorem dX4_serveOne_171 : decode cX4_serveOne 171 = .ok (.getfield 41, 3) := by decide +kernel
theorem dX4_serveOne_174 : decode cX4_serveOne 174 = .ok (.iload_n 2, 1) := by decide +kernel
theorem dX4_serveOne_175 : decode cX4_serveOne 175 = .ok (.aload_n 0, 1) := by decide +kernel
theorem dX4_serveOne_176 : decode cX4_serveOne 176 = .ok (.getfield 103, 3) := by decide +kernel
theorem dX4_serveOne_179 : decode cX4_serveOne 179 = .ok (.iconst 2, 1) := by decide +kernel
theorem dX4_serveOne_180 : decode cX4_serveOne 180 = .ok (.if_icmp .ne 7, 3) := by decide +kernel
theorem dX4_serveOne_183 : decode cX4_serveOne 183 = .ok (.iconst 1, 1) := by decide +kernel
theorem dX4_serveOne_184 : decode cX4_serveOne 184 = .ok (.goto 4, 3) := by decide +kernel
theorem dX4_serveOne_187 : decode cX4_serveOne 187 = .ok (.iconst 0, 1) := by decide +kernel
theorem dX4_serveOne_188 : decode cX4_serveOne 188 = .ok (.bastore, 1) := by decide +kernel
theorem dX4_serveOne_189 : decode cX4_serveOne 189 = .ok (.aload_n 0, 1) := by decide +kernel
theorem dX4_serveOne_190 : decode cX4_serveOne 190 = .ok (.getfield 44, 3) := by decide +kernel
theorem dX4_serveOne_193 : decode cX4_serveOne 193 = .ok (.iload_n 2, 1) := by decide +kernel
theorem dX4_serveOne_194 : decode cX4_serveOne 194 = .ok (.iload 4, 2) := by decide +kernel
theorem dX4_serveOne_196 : decode cX4_serveOne 196 = .ok (.iastore, 1) := by decide +kernel
theorem dX4_serveOne_197 : decode cX4_serveOne 197 = .ok (.aload_n 0, 1) := by decide +kernel
theorem dX4_serveOne_198 : decode cX4_serveOne 198 = .ok (.getfield 47, 3) := by decide +kernel
theorem dX4_serveOne_201 : decode cX4_serveOne 201 = .ok (.iload_n 2, 1) := by decide +kernel
theorem dX4_serveOne_202 : decode cX4_serveOne 202 = .ok (.iload_n 3, 1) := by decide +kernel
theorem dX4_serveOne_203 : decode cX4_serveOne 203 = .ok (.ifCond .eq 7, 3) := by decide +kernel
theorem dX4_serveOne_206 : decode cX4_serveOne 206 = .ok (.iconst 2, 1) := by decide +kernel
theorem dX4_serveOne_207 : decode cX4_serveOne 207 = .ok (.goto 4, 3) := by decide +kernel
theorem dX4_serveOne_210 : decode cX4_serveOne 210 = .ok (.iconst 1, 1) := by decide +kernel
theorem dX4_serveOne_211 : decode cX4_serveOne 211 = .ok (.iastore, 1) := by decide +kernel
theorem dX4_serveOne_212 : decode cX4_serveOne 212 = .ok (.aload_n 0, 1) := by decide +kernel
theorem dX4_serveOne_213 : decode cX4_serveOne 213 = .ok (.getfield 50, 3) := by decide +kernel
theorem dX4_serveOne_216 : decode cX4_serveOne 216 = .ok (.iload_n 2, 1) := by decide +kernel
theorem dX4_serveOne_217 : decode cX4_serveOne 217 = .ok (.iload_n 1, 1) := by decide +kernel
theorem dX4_serveOne_218 : decode cX4_serveOne 218 = .ok (.iastore, 1) := by decide +kernel
theorem dX4_serveOne_219 : decode cX4_serveOne 219 = .ok (.aload_n 0, 1) := by decide +kernel
theorem dX4_serveOne_220 : decode cX4_serveOne 220 = .ok (.getfield 53, 3) := by decide +kernel
theorem dX4_serveOne_223 : decode cX4_serveOne 223 = .ok (.iload_n 2, 1) := by decide +kernel
theorem dX4_serveOne_224 : decode cX4_serveOne 224 = .ok (.aload_n 0, 1) := by decide +kernel
theorem dX4_serveOne_225 : decode cX4_serveOne 225 = .ok (.getfield 121, 3) := by decide +kernel
theorem dX4_serveOne_228 : decode cX4_serveOne 228 = .ok (.aload_n 0, 1) := by decide +kernel
theorem dX4_serveOne_229 : decode cX4_serveOne 229 = .ok (.getfield 7, 3) := by decide +kernel
theorem dX4_serveOne_232 : decode cX4_serveOne 232 = .ok (.iload_n 2, 1) := by decide +kernel
theorem dX4_serveOne_233 : decode cX4_serveOne 233 = .ok (.iaload, 1) := by decide +kernel
theorem dX4_serveOne_234 : decode cX4_serveOne 234 = .ok (.iadd, 1) := by decide +kernel
theorem dX4_serveOne_235 : decode cX4_serveOne 235 = .ok (.iastore, 1) := by decide +kernel
theorem dX4_serveOne_236 : decode cX4_serveOne 236 = .ok (.aload_n 0, 1) := by decide +kernel
theorem dX4_serveOne_237 : decode cX4_serveOne 237 = .ok (.getfield 35, 3) := by decide +kernel
theorem dX4_serveOne_240 : decode cX4_serveOne 240 = .ok (.iload_n 2, 1) := by decide +kernel
theorem dX4_serveOne_241 : decode cX4_serveOne 241 = .ok (.iload_n 1, 1) := by decide +kernel
theorem dX4_serveOne_242 : decode cX4_serveOne 242 = .ok (.iastore, 1) := by decide +kernel
theorem dX4_serveOne_243 : decode cX4_serveOne 243 = .ok (.return_, 1) := by decide +kernel
theorem dX4_serveTo_0 : decode cX4_serveTo 0 = .ok (.aload_n 0, 1) := by decide +kernel
theorem dX4_serveTo_1 : decode cX4_serveTo 1 = .ok (.iload_n 1, 1) := by decide +kernel
theorem dX4_serveTo_2 : decode cX4_serveTo 2 = .ok (.iload_n 2, 1) := by decide +kernel
theorem dX4_serveTo_3 : decode cX4_serveTo 3 = .ok (.invokevirtual 184, 3) := by decide +kernel
theorem dX4_serveTo_6 : decode cX4_serveTo 6 = .ok (.iconst 0, 1) := by decide +kernel
theorem dX4_serveTo_7 : decode cX4_serveTo 7 = .ok (.istore 4, 2) := by decide +kernel
theorem dX4_serveTo_9 : decode cX4_serveTo 9 = .ok (.iload 4, 2) := by decide +kernel
theorem dX4_serveTo_11 : decode cX4_serveTo 11 = .ok (.iload_n 3, 1) := by decide +kernel
theorem dX4_serveTo_12 : decode cX4_serveTo 12 = .ok (.if_icmp .gt 15, 3) := by decide +kernel
theorem dX4_serveTo_15 : decode cX4_serveTo 15 = .ok (.aload_n 0, 1) := by decide +kernel
theorem dX4_serveTo_16 : decode cX4_serveTo 16 = .ok (.iload 4, 2) := by decide +kernel
theorem dX4_serveTo_18 : decode cX4_serveTo 18 = .ok (.invokevirtual 187, 3) := by decide +kernel
theorem dX4_serveTo_21 : decode cX4_serveTo 21 = .ok (.iinc 4 1, 3) := by decide +kernel
theorem dX4_serveTo_24 : decode cX4_serveTo 24 = .ok (.goto (-15), 3) := by decide +kernel
theorem dX4_serveTo_27 : decode cX4_serveTo 27 = .ok (.return_, 1) := by decide +kernel
theorem dX4_missesOf_0 : decode cX4_missesOf 0 = .ok (.aload_n 0, 1) := by decide +kernel
theorem dX4_missesOf_1 : decode cX4_missesOf 1 = .ok (.iload_n 1, 1) := by decide +kernel
theorem dX4_missesOf_2 : decode cX4_missesOf 2 = .ok (.iload_n 2, 1) := by decide +kernel
theorem dX4_missesOf_3 : decode cX4_missesOf 3 = .ok (.invokevirtual 184, 3) := by decide +kernel
theorem dX4_missesOf_6 : decode cX4_missesOf 6 = .ok (.iconst 0, 1) := by decide +kernel
theorem dX4_missesOf_7 : decode cX4_missesOf 7 = .ok (.istore_n 3, 1) := by decide +kernel
theorem dX4_missesOf_8 : decode cX4_missesOf 8 = .ok (.iconst 0, 1) := by decide +kernel
theorem dX4_missesOf_9 : decode cX4_missesOf 9 = .ok (.istore 4, 2) := by decide +kernel
theorem dX4_missesOf_11 : decode cX4_missesOf 11 = .ok (.iload 4, 2) := by decide +kernel
theorem dX4_missesOf_13 : decode cX4_missesOf 13 = .ok (.aload_n 0, 1) := by decide +kernel
theorem dX4_missesOf_14 : decode cX4_missesOf 14 = .ok (.getfield 73, 3) := by decide +kernel
theorem dX4_missesOf_17 : decode cX4_missesOf 17 = .ok (.if_icmp .ge 24, 3) := by decide +kernel
theorem dX4_missesOf_20 : decode cX4_missesOf 20 = .ok (.aload_n 0, 1) := by decide +kernel
theorem dX4_missesOf_21 : decode cX4_missesOf 21 = .ok (.iload 4, 2) := by decide +kernel
theorem dX4_missesOf_23 : decode cX4_missesOf 23 = .ok (.invokevirtual 187, 3) := by decide +kernel
theorem dX4_missesOf_26 : decode cX4_missesOf 26 = .ok (.iload_n 3, 1) := by decide +kernel
theorem dX4_missesOf_27 : decode cX4_missesOf 27 = .ok (.iconst 1, 1) := by decide +kernel
theorem dX4_missesOf_28 : decode cX4_missesOf 28 = .ok (.aload_n 0, 1) := by decide +kernel
theorem dX4_missesOf_29 : decode cX4_missesOf 29 = .ok (.getfield 165, 3) := by decide +kernel
theorem dX4_missesOf_32 : decode cX4_missesOf 32 = .ok (.isub, 1) := by decide +kernel
theorem dX4_missesOf_33 : decode cX4_missesOf 33 = .ok (.iadd, 1) := by decide +kernel
theorem dX4_missesOf_34 : decode cX4_missesOf 34 = .ok (.istore_n 3, 1) := by decide +kernel
theorem dX4_missesOf_35 : decode cX4_missesOf 35 = .ok (.iinc 4 1, 3) := by decide +kernel
theorem dX4_missesOf_38 : decode cX4_missesOf 38 = .ok (.goto (-27), 3) := by decide +kernel
theorem dX4_missesOf_41 : decode cX4_missesOf 41 = .ok (.iload_n 3, 1) := by decide +kernel
theorem dX4_missesOf_42 : decode cX4_missesOf 42 = .ok (.ireturn, 1) := by decide +kernel
theorem dX4_serve_0 : decode cX4_serve 0 = .ok (.iload_n 1, 1) := by decide +kernel
theorem dX4_serve_1 : decode cX4_serve 1 = .ok (.iconst 0, 1) := by decide +kernel
theorem dX4_serve_2 : decode cX4_serve 2 = .ok (.bipush 8, 2) := by decide +kernel
theorem dX4_serve_4 : decode cX4_serve 4 = .ok (.invokestatic 69, 3) := by decide +kernel
theorem dX4_serve_7 : decode cX4_serve 7 = .ok (.ifCond .eq 13, 3) := by decide +kernel
theorem dX4_serve_10 : decode cX4_serve 10 = .ok (.iload_n 2, 1) := by decide +kernel
theorem dX4_serve_11 : decode cX4_serve 11 = .ok (.iconst 1, 1) := by decide +kernel
theorem dX4_serve_12 : decode cX4_serve 12 = .ok (.bipush 8, 2) := by decide +kernel
theorem dX4_serve_14 : decode cX4_serve 14 = .ok (.invokestatic 69, 3) := by decide +kernel
theorem dX4_serve_17 : decode cX4_serve 17 = .ok (.ifCond .ne 5, 3) := by decide +kernel
theorem dX4_serve_20 : decode cX4_serve 20 = .ok (.iconst (-1), 1) := by decide +kernel
theorem dX4_serve_21 : decode cX4_serve 21 = .ok (.ireturn, 1) := by decide +kernel
theorem dX4_serve_22 : decode cX4_serve 22 = .ok (.aload_n 0, 1) := by decide +kernel
theorem dX4_serve_23 : decode cX4_serve 23 = .ok (.iload_n 1, 1) := by decide +kernel
theorem dX4_serve_24 : decode cX4_serve 24 = .ok (.iload_n 2, 1) := by decide +kernel
theorem dX4_serve_25 : decode cX4_serve 25 = .ok (.invokevirtual 184, 3) := by decide +kernel
theorem dX4_serve_28 : decode cX4_serve 28 = .ok (.iconst 0, 1) := by decide +kernel
theorem dX4_serve_29 : decode cX4_serve 29 = .ok (.istore_n 3, 1) := by decide +kernel
theorem dX4_serve_30 : decode cX4_serve 30 = .ok (.iconst 0, 1) := by decide +kernel
theorem dX4_serve_31 : decode cX4_serve 31 = .ok (.istore 4, 2) := by decide +kernel
theorem dX4_serve_33 : decode cX4_serve 33 = .ok (.iload 4, 2) := by decide +kernel
theorem dX4_serve_35 : decode cX4_serve 35 = .ok (.aload_n 0, 1) := by decide +kernel
theorem dX4_serve_36 : decode cX4_serve 36 = .ok (.getfield 73, 3) := by decide +kernel
theorem dX4_serve_39 : decode cX4_serve 39 = .ok (.if_icmp .ge 46, 3) := by decide +kernel
theorem dX4_serve_42 : decode cX4_serve 42 = .ok (.aload_n 0, 1) := by decide +kernel
theorem dX4_serve_43 : decode cX4_serve 43 = .ok (.iload 4, 2) := by decide +kernel
theorem dX4_serve_45 : decode cX4_serve 45 = .ok (.invokevirtual 187, 3) := by decide +kernel
theorem dX4_serve_48 : decode cX4_serve 48 = .ok (.aload_n 0, 1) := by decide +kernel
theorem dX4_serve_49 : decode cX4_serve 49 = .ok (.getfield 16, 3) := by decide +kernel
theorem dX4_serve_52 : decode cX4_serve 52 = .ok (.iload 4, 2) := by decide +kernel
theorem dX4_serve_54 : decode cX4_serve 54 = .ok (.aload_n 0, 1) := by decide +kernel
theorem dX4_serve_55 : decode cX4_serve 55 = .ok (.getfield 165, 3) := by decide +kernel
theorem dX4_serve_58 : decode cX4_serve 58 = .ok (.iastore, 1) := by decide +kernel
theorem dX4_serve_59 : decode cX4_serve 59 = .ok (.aload_n 0, 1) := by decide +kernel
theorem dX4_serve_60 : decode cX4_serve 60 = .ok (.getfield 19, 3) := by decide +kernel
theorem dX4_serve_63 : decode cX4_serve 63 = .ok (.iload 4, 2) := by decide +kernel
theorem dX4_serve_65 : decode cX4_serve 65 = .ok (.aload_n 0, 1) := by decide +kernel
theorem dX4_serve_66 : decode cX4_serve 66 = .ok (.getfield 168, 3) := by decide +kernel
theorem dX4_serve_69 : decode cX4_serve 69 = .ok (.iastore, 1) := by decide +kernel
theorem dX4_serve_70 : decode cX4_serve 70 = .ok (.iload_n 3, 1) := by decide +kernel
theorem dX4_serve_71 : decode cX4_serve 71 = .ok (.iconst 1, 1) := by decide +kernel
theorem dX4_serve_72 : decode cX4_serve 72 = .ok (.aload_n 0, 1) := by decide +kernel
theorem dX4_serve_73 : decode cX4_serve 73 = .ok (.getfield 165, 3) := by decide +kernel
theorem dX4_serve_76 : decode cX4_serve 76 = .ok (.isub, 1) := by decide +kernel
theorem dX4_serve_77 : decode cX4_serve 77 = .ok (.iadd, 1) := by decide +kernel
