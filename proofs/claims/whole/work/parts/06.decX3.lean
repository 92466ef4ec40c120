theorem dX3_init_0 : decode cX3_init 0 = .ok (.aload_n 0, 1) := by decide +kernel
theorem dX3_init_1 : decode cX3_init 1 = .ok (.invokespecial 1, 3) := by decide +kernel
theorem dX3_init_4 : decode cX3_init 4 = .ok (.aload_n 0, 1) := by decide +kernel
theorem dX3_init_5 : decode cX3_init 5 = .ok (.new 7, 3) := by decide +kernel
theorem dX3_init_8 : decode cX3_init 8 = .ok (.dup, 1) := by decide +kernel
theorem dX3_init_9 : decode cX3_init 9 = .ok (.invokespecial 9, 3) := by decide +kernel
theorem dX3_init_12 : decode cX3_init 12 = .ok (.putfield 10, 3) := by decide +kernel
theorem dX3_init_15 : decode cX3_init 15 = .ok (.aload_n 0, 1) := by decide +kernel
theorem dX3_init_16 : decode cX3_init 16 = .ok (.new 16, 3) := by decide +kernel
theorem dX3_init_19 : decode cX3_init 19 = .ok (.dup, 1) := by decide +kernel
theorem dX3_init_20 : decode cX3_init 20 = .ok (.aload_n 0, 1) := by decide +kernel
theorem dX3_init_21 : decode cX3_init 21 = .ok (.getfield 10, 3) := by decide +kernel
theorem dX3_init_24 : decode cX3_init 24 = .ok (.invokespecial 18, 3) := by decide +kernel
theorem dX3_init_27 : decode cX3_init 27 = .ok (.putfield 21, 3) := by decide +kernel
theorem dX3_init_30 : decode cX3_init 30 = .ok (.aload_n 0, 1) := by decide +kernel
theorem dX3_init_31 : decode cX3_init 31 = .ok (.new 16, 3) := by decide +kernel
theorem dX3_init_34 : decode cX3_init 34 = .ok (.dup, 1) := by decide +kernel
theorem dX3_init_35 : decode cX3_init 35 = .ok (.aload_n 0, 1) := by decide +kernel
theorem dX3_init_36 : decode cX3_init 36 = .ok (.getfield 10, 3) := by decide +kernel
theorem dX3_init_39 : decode cX3_init 39 = .ok (.invokespecial 18, 3) := by decide +kernel
theorem dX3_init_42 : decode cX3_init 42 = .ok (.putfield 25, 3) := by decide +kernel
theorem dX3_init_45 : decode cX3_init 45 = .ok (.aload_n 0, 1) := by decide +kernel
theorem dX3_init_46 : decode cX3_init 46 = .ok (.new 28, 3) := by decide +kernel
theorem dX3_init_49 : decode cX3_init 49 = .ok (.dup, 1) := by decide +kernel
theorem dX3_init_50 : decode cX3_init 50 = .ok (.aload_n 0, 1) := by decide +kernel
theorem dX3_init_51 : decode cX3_init 51 = .ok (.getfield 10, 3) := by decide +kernel
theorem dX3_init_54 : decode cX3_init 54 = .ok (.invokespecial 30, 3) := by decide +kernel
theorem dX3_init_57 : decode cX3_init 57 = .ok (.putfield 31, 3) := by decide +kernel
theorem dX3_init_60 : decode cX3_init 60 = .ok (.aload_n 0, 1) := by decide +kernel
theorem dX3_init_61 : decode cX3_init 61 = .ok (.iconst 5, 1) := by decide +kernel
theorem dX3_init_62 : decode cX3_init 62 = .ok (.newarray .int, 2) := by decide +kernel
theorem dX3_init_64 : decode cX3_init 64 = .ok (.putfield 35, 3) := by decide +kernel
theorem dX3_init_67 : decode cX3_init 67 = .ok (.aload_n 0, 1) := by decide +kernel
theorem dX3_init_68 : decode cX3_init 68 = .ok (.sipush 300, 3) := by decide +kernel
theorem dX3_init_71 : decode cX3_init 71 = .ok (.newarray .int, 2) := by decide +kernel
theorem dX3_init_73 : decode cX3_init 73 = .ok (.putfield 39, 3) := by decide +kernel
theorem dX3_init_76 : decode cX3_init 76 = .ok (.aload_n 0, 1) := by decide +kernel
theorem dX3_init_77 : decode cX3_init 77 = .ok (.sipush 300, 3) := by decide +kernel
theorem dX3_init_80 : decode cX3_init 80 = .ok (.newarray .int, 2) := by decide +kernel
theorem dX3_init_82 : decode cX3_init 82 = .ok (.putfield 42, 3) := by decide +kernel
theorem dX3_init_85 : decode cX3_init 85 = .ok (.aload_n 0, 1) := by decide +kernel
theorem dX3_init_86 : decode cX3_init 86 = .ok (.sipush 300, 3) := by decide +kernel
theorem dX3_init_89 : decode cX3_init 89 = .ok (.newarray .int, 2) := by decide +kernel
theorem dX3_init_91 : decode cX3_init 91 = .ok (.putfield 45, 3) := by decide +kernel
theorem dX3_init_94 : decode cX3_init 94 = .ok (.aload_n 0, 1) := by decide +kernel
theorem dX3_init_95 : decode cX3_init 95 = .ok (.iconst 0, 1) := by decide +kernel
theorem dX3_init_96 : decode cX3_init 96 = .ok (.putfield 48, 3) := by decide +kernel
theorem dX3_init_99 : decode cX3_init 99 = .ok (.aload_n 0, 1) := by decide +kernel
theorem dX3_init_100 : decode cX3_init 100 = .ok (.iconst 0, 1) := by decide +kernel
theorem dX3_init_101 : decode cX3_init 101 = .ok (.putfield 52, 3) := by decide +kernel
theorem dX3_init_104 : decode cX3_init 104 = .ok (.return_, 1) := by decide +kernel
theorem dX3_price_0 : decode cX3_price 0 = .ok (.iload_n 1, 1) := by decide +kernel
theorem dX3_price_1 : decode cX3_price 1 = .ok (.invokestatic 56, 3) := by decide +kernel
theorem dX3_price_4 : decode cX3_price 4 = .ok (.ifCond .eq 15, 3) := by decide +kernel
theorem dX3_price_7 : decode cX3_price 7 = .ok (.iload_n 2, 1) := by decide +kernel
theorem dX3_price_8 : decode cX3_price 8 = .ok (.iconst 1, 1) := by decide +kernel
theorem dX3_price_9 : decode cX3_price 9 = .ok (.if_icmp .lt 10, 3) := by decide +kernel
theorem dX3_price_12 : decode cX3_price 12 = .ok (.iload_n 2, 1) := by decide +kernel
theorem dX3_price_13 : decode cX3_price 13 = .ok (.sipush 1000, 3) := by decide +kernel
theorem dX3_price_16 : decode cX3_price 16 = .ok (.if_icmp .le 5, 3) := by decide +kernel
theorem dX3_price_19 : decode cX3_price 19 = .ok (.iconst (-1), 1) := by decide +kernel
theorem dX3_price_20 : decode cX3_price 20 = .ok (.ireturn, 1) := by decide +kernel
theorem dX3_price_21 : decode cX3_price 21 = .ok (.aload_n 0, 1) := by decide +kernel
theorem dX3_price_22 : decode cX3_price 22 = .ok (.getfield 10, 3) := by decide +kernel
theorem dX3_price_25 : decode cX3_price 25 = .ok (.getfield 60, 3) := by decide +kernel
theorem dX3_price_28 : decode cX3_price 28 = .ok (.iload_n 1, 1) := by decide +kernel
theorem dX3_price_29 : decode cX3_price 29 = .ok (.iload_n 2, 1) := by decide +kernel
theorem dX3_price_30 : decode cX3_price 30 = .ok (.iastore, 1) := by decide +kernel
theorem dX3_price_31 : decode cX3_price 31 = .ok (.aload_n 0, 1) := by decide +kernel
theorem dX3_price_32 : decode cX3_price 32 = .ok (.invokevirtual 63, 3) := by decide +kernel
theorem dX3_price_35 : decode cX3_price 35 = .ok (.iconst 1, 1) := by decide +kernel
theorem dX3_price_36 : decode cX3_price 36 = .ok (.ireturn, 1) := by decide +kernel
theorem dX3_ask_0 : decode cX3_ask 0 = .ok (.aload_n 0, 1) := by decide +kernel
theorem dX3_ask_1 : decode cX3_ask 1 = .ok (.getfield 35, 3) := by decide +kernel
theorem dX3_ask_4 : decode cX3_ask 4 = .ok (.iconst 0, 1) := by decide +kernel
theorem dX3_ask_5 : decode cX3_ask 5 = .ok (.iload_n 1, 1) := by decide +kernel
theorem dX3_ask_6 : decode cX3_ask 6 = .ok (.iastore, 1) := by decide +kernel
theorem dX3_ask_7 : decode cX3_ask 7 = .ok (.aload_n 0, 1) := by decide +kernel
theorem dX3_ask_8 : decode cX3_ask 8 = .ok (.getfield 35, 3) := by decide +kernel
theorem dX3_ask_11 : decode cX3_ask 11 = .ok (.iconst 1, 1) := by decide +kernel
theorem dX3_ask_12 : decode cX3_ask 12 = .ok (.iload_n 2, 1) := by decide +kernel
theorem dX3_ask_13 : decode cX3_ask 13 = .ok (.iastore, 1) := by decide +kernel
theorem dX3_ask_14 : decode cX3_ask 14 = .ok (.aload_n 0, 1) := by decide +kernel
theorem dX3_ask_15 : decode cX3_ask 15 = .ok (.getfield 35, 3) := by decide +kernel
theorem dX3_ask_18 : decode cX3_ask 18 = .ok (.iconst 2, 1) := by decide +kernel
theorem dX3_ask_19 : decode cX3_ask 19 = .ok (.iload_n 3, 1) := by decide +kernel
theorem dX3_ask_20 : decode cX3_ask 20 = .ok (.iastore, 1) := by decide +kernel
theorem dX3_ask_21 : decode cX3_ask 21 = .ok (.aload_n 0, 1) := by decide +kernel
theorem dX3_ask_22 : decode cX3_ask 22 = .ok (.getfield 35, 3) := by decide +kernel
theorem dX3_ask_25 : decode cX3_ask 25 = .ok (.iconst 3, 1) := by decide +kernel
theorem dX3_ask_26 : decode cX3_ask 26 = .ok (.iload 4, 2) := by decide +kernel
theorem dX3_ask_28 : decode cX3_ask 28 = .ok (.iastore, 1) := by decide +kernel
theorem dX3_ask_29 : decode cX3_ask 29 = .ok (.aload_n 0, 1) := by decide +kernel
theorem dX3_ask_30 : decode cX3_ask 30 = .ok (.getfield 35, 3) := by decide +kernel
theorem dX3_ask_33 : decode cX3_ask 33 = .ok (.iconst 4, 1) := by decide +kernel
theorem dX3_ask_34 : decode cX3_ask 34 = .ok (.iload 5, 2) := by decide +kernel
theorem dX3_ask_36 : decode cX3_ask 36 = .ok (.iastore, 1) := by decide +kernel
theorem dX3_ask_37 : decode cX3_ask 37 = .ok (.iconst 0, 1) := by decide +kernel
theorem dX3_ask_38 : decode cX3_ask 38 = .ok (.istore 6, 2) := by decide +kernel
theorem dX3_ask_40 : decode cX3_ask 40 = .ok (.iload 6, 2) := by decide +kernel
theorem dX3_ask_42 : decode cX3_ask 42 = .ok (.aload_n 0, 1) := by decide +kernel
theorem dX3_ask_43 : decode cX3_ask 43 = .ok (.getfield 35, 3) := by decide +kernel
theorem dX3_ask_46 : decode cX3_ask 46 = .ok (.arraylength, 1) := by decide +kernel
theorem dX3_ask_47 : decode cX3_ask 47 = .ok (.if_icmp .ge 35, 3) := by decide +kernel
theorem dX3_ask_50 : decode cX3_ask 50 = .ok (.aload_n 0, 1) := by decide +kernel
theorem dX3_ask_51 : decode cX3_ask 51 = .ok (.getfield 35, 3) := by decide +kernel
theorem dX3_ask_54 : decode cX3_ask 54 = .ok (.iload 6, 2) := by decide +kernel
theorem dX3_ask_56 : decode cX3_ask 56 = .ok (.iaload, 1) := by decide +kernel
theorem dX3_ask_57 : decode cX3_ask 57 = .ok (.iconst (-1), 1) := by decide +kernel
theorem dX3_ask_58 : decode cX3_ask 58 = .ok (.if_icmp .eq 24, 3) := by decide +kernel
theorem dX3_ask_61 : decode cX3_ask 61 = .ok (.aload_n 0, 1) := by decide +kernel
theorem dX3_ask_62 : decode cX3_ask 62 = .ok (.getfield 35, 3) := by decide +kernel
theorem dX3_ask_65 : decode cX3_ask 65 = .ok (.iload 6, 2) := by decide +kernel
theorem dX3_ask_67 : decode cX3_ask 67 = .ok (.iaload, 1) := by decide +kernel
theorem dX3_ask_68 : decode cX3_ask 68 = .ok (.invokestatic 56, 3) := by decide +kernel
theorem dX3_ask_71 : decode cX3_ask 71 = .ok (.ifCond .ne 5, 3) := by decide +kernel
theorem dX3_ask_74 : decode cX3_ask 74 = .ok (.iconst (-1), 1) := by decide +kernel
theorem dX3_ask_75 : decode cX3_ask 75 = .ok (.ireturn, 1) := by decide +kernel
theorem dX3_ask_76 : decode cX3_ask 76 = .ok (.iinc 6 1, 3) := by decide +kernel
theorem dX3_ask_79 : decode cX3_ask 79 = .ok (.goto (-39), 3) := by decide +kernel
theorem dX3_ask_82 : decode cX3_ask 82 = .ok (.aload_n 0, 1) := by decide +kernel
theorem dX3_ask_83 : decode cX3_ask 83 = .ok (.getfield 10, 3) := by decide +kernel
theorem dX3_ask_86 : decode cX3_ask 86 = .ok (.getfield 66, 3) := by decide +kernel
theorem dX3_ask_89 : decode cX3_ask 89 = .ok (.iload 6, 2) := by decide +kernel
theorem dX3_ask_91 : decode cX3_ask 91 = .ok (.iadd, 1) := by decide +kernel
theorem dX3_ask_92 : decode cX3_ask 92 = .ok (.sipush 300, 3) := by decide +kernel
theorem dX3_ask_95 : decode cX3_ask 95 = .ok (.if_icmp .le 6, 3) := by decide +kernel
theorem dX3_ask_98 : decode cX3_ask 98 = .ok (.bipush (-2), 2) := by decide +kernel
theorem dX3_ask_100 : decode cX3_ask 100 = .ok (.ireturn, 1) := by decide +kernel
theorem dX3_ask_101 : decode cX3_ask 101 = .ok (.iconst 0, 1) := by decide +kernel
theorem dX3_ask_102 : decode cX3_ask 102 = .ok (.istore 7, 2) := by decide +kernel
theorem dX3_ask_104 : decode cX3_ask 104 = .ok (.iload 7, 2) := by decide +kernel
theorem dX3_ask_106 : decode cX3_ask 106 = .ok (.iload 6, 2) := by decide +kernel
theorem dX3_ask_108 : decode cX3_ask 108 = .ok (.if_icmp .ge 23, 3) := by decide +kernel
theorem dX3_ask_111 : decode cX3_ask 111 = .ok (.aload_n 0, 1) := by decide +kernel
theorem dX3_ask_112 : decode cX3_ask 112 = .ok (.getfield 10, 3) := by decide +kernel
theorem dX3_ask_115 : decode cX3_ask 115 = .ok (.aload_n 0, 1) := by decide +kernel
theorem dX3_ask_116 : decode cX3_ask 116 = .ok (.getfield 35, 3) := by decide +kernel
theorem dX3_ask_119 : decode cX3_ask 119 = .ok (.iload 7, 2) := by decide +kernel
theorem dX3_ask_121 : decode cX3_ask 121 = .ok (.iaload, 1) := by decide +kernel
theorem dX3_ask_122 : decode cX3_ask 122 = .ok (.invokevirtual 69, 3) := by decide +kernel
theorem dX3_ask_125 : decode cX3_ask 125 = .ok (.iinc 7 1, 3) := by decide +kernel
theorem dX3_ask_128 : decode cX3_ask 128 = .ok (.goto (-24), 3) := by decide +kernel
theorem dX3_ask_131 : decode cX3_ask 131 = .ok (.aload_n 0, 1) := by decide +kernel
theorem dX3_ask_132 : decode cX3_ask 132 = .ok (.invokevirtual 63, 3) := by decide +kernel
theorem dX3_ask_135 : decode cX3_ask 135 = .ok (.aload_n 0, 1) := by decide +kernel
theorem dX3_ask_136 : decode cX3_ask 136 = .ok (.getfield 10, 3) := by decide +kernel
theorem dX3_ask_139 : decode cX3_ask 139 = .ok (.getfield 66, 3) := by decide +kernel
theorem dX3_ask_142 : decode cX3_ask 142 = .ok (.ireturn, 1) := by decide +kernel
theorem dX3_draw_0 : decode cX3_draw 0 = .ok (.iload_n 1, 1) := by decide +kernel
theorem dX3_draw_1 : decode cX3_draw 1 = .ok (.ifCond .lt 21, 3) := by decide +kernel
theorem dX3_draw_4 : decode cX3_draw 4 = .ok (.iload_n 1, 1) := by decide +kernel
theorem dX3_draw_5 : decode cX3_draw 5 = .ok (.sipush 300, 3) := by decide +kernel
theorem dX3_draw_8 : decode cX3_draw 8 = .ok (.if_icmp .gt 14, 3) := by decide +kernel
theorem dX3_draw_11 : decode cX3_draw 11 = .ok (.iload_n 2, 1) := by decide +kernel
theorem dX3_draw_12 : decode cX3_draw 12 = .ok (.iconst 1, 1) := by decide +kernel
theorem dX3_draw_13 : decode cX3_draw 13 = .ok (.if_icmp .lt 9, 3) := by decide +kernel
theorem dX3_draw_16 : decode cX3_draw 16 = .ok (.iload_n 2, 1) := by decide +kernel
theorem dX3_draw_17 : decode cX3_draw 17 = .ok (.bipush 16, 2) := by decide +kernel
theorem dX3_draw_19 : decode cX3_draw 19 = .ok (.if_icmp .le 5, 3) := by decide +kernel
theorem dX3_draw_22 : decode cX3_draw 22 = .ok (.iconst (-1), 1) := by decide +kernel
theorem dX3_draw_23 : decode cX3_draw 23 = .ok (.ireturn, 1) := by decide +kernel
theorem dX3_draw_24 : decode cX3_draw 24 = .ok (.aload_n 0, 1) := by decide +kernel
theorem dX3_draw_25 : decode cX3_draw 25 = .ok (.getfield 10, 3) := by decide +kernel
theorem dX3_draw_28 : decode cX3_draw 28 = .ok (.getfield 66, 3) := by decide +kernel
theorem dX3_draw_31 : decode cX3_draw 31 = .ok (.iload_n 1, 1) := by decide +kernel
theorem dX3_draw_32 : decode cX3_draw 32 = .ok (.iadd, 1) := by decide +kernel
theorem dX3_draw_33 : decode cX3_draw 33 = .ok (.sipush 300, 3) := by decide +kernel
theorem dX3_draw_36 : decode cX3_draw 36 = .ok (.if_icmp .le 6, 3) := by decide +kernel
theorem dX3_draw_39 : decode cX3_draw 39 = .ok (.bipush (-2), 2) := by decide +kernel
theorem dX3_draw_41 : decode cX3_draw 41 = .ok (.ireturn, 1) := by decide +kernel
theorem dX3_draw_42 : decode cX3_draw 42 = .ok (.iload_n 3, 1) := by decide +kernel
theorem dX3_draw_43 : decode cX3_draw 43 = .ok (.istore 4, 2) := by decide +kernel
theorem dX3_draw_45 : decode cX3_draw 45 = .ok (.iconst 0, 1) := by decide +kernel
theorem dX3_draw_46 : decode cX3_draw 46 = .ok (.istore 5, 2) := by decide +kernel
theorem dX3_draw_48 : decode cX3_draw 48 = .ok (.iload 5, 2) := by decide +kernel
theorem dX3_draw_50 : decode cX3_draw 50 = .ok (.iload_n 1, 1) := by decide +kernel
theorem dX3_draw_51 : decode cX3_draw 51 = .ok (.if_icmp .ge 34, 3) := by decide +kernel
theorem dX3_draw_54 : decode cX3_draw 54 = .ok (.ldc 73, 2) := by decide +kernel
theorem dX3_draw_56 : decode cX3_draw 56 = .ok (.iload 4, 2) := by decide +kernel
theorem dX3_draw_58 : decode cX3_draw 58 = .ok (.imul, 1) := by decide +kernel
theorem dX3_draw_59 : decode cX3_draw 59 = .ok (.sipush 12345, 3) := by decide +kernel
theorem dX3_draw_62 : decode cX3_draw 62 = .ok (.iadd, 1) := by decide +kernel
theorem dX3_draw_63 : decode cX3_draw 63 = .ok (.istore 4, 2) := by decide +kernel
theorem dX3_draw_65 : decode cX3_draw 65 = .ok (.aload_n 0, 1) := by decide +kernel
theorem dX3_draw_66 : decode cX3_draw 66 = .ok (.getfield 10, 3) := by decide +kernel
theorem dX3_draw_69 : decode cX3_draw 69 = .ok (.iload 4, 2) := by decide +kernel
theorem dX3_draw_71 : decode cX3_draw 71 = .ok (.bipush 16, 2) := by decide +kernel
theorem dX3_draw_73 : decode cX3_draw 73 = .ok (.iushr, 1) := by decide +kernel
theorem dX3_draw_74 : decode cX3_draw 74 = .ok (.iload_n 2, 1) := by decide +kernel
theorem dX3_draw_75 : decode cX3_draw 75 = .ok (.irem, 1) := by decide +kernel
theorem dX3_draw_76 : decode cX3_draw 76 = .ok (.invokevirtual 69, 3) := by decide +kernel
theorem dX3_draw_79 : decode cX3_draw 79 = .ok (.iinc 5 1, 3) := by decide +kernel
theorem dX3_draw_82 : decode cX3_draw 82 = .ok (.goto (-34), 3) := by decide +kernel
theorem dX3_draw_85 : decode cX3_draw 85 = .ok (.aload_n 0, 1) := by decide +kernel
theorem dX3_draw_86 : decode cX3_draw 86 = .ok (.invokevirtual 63, 3) := by decide +kernel
theorem dX3_draw_89 : decode cX3_draw 89 = .ok (.aload_n 0, 1) := by decide +kernel
theorem dX3_draw_90 : decode cX3_draw 90 = .ok (.getfield 10, 3) := by decide +kernel
theorem dX3_draw_93 : decode cX3_draw 93 = .ok (.getfield 66, 3) := by decide +kernel
theorem dX3_draw_96 : decode cX3_draw 96 = .ok (.ireturn, 1) := by decide +kernel
theorem dX3_change_0 : decode cX3_change 0 = .ok (.aload_n 0, 1) := by decide +kernel
theorem dX3_change_1 : decode cX3_change 1 = .ok (.getfield 10, 3) := by decide +kernel
theorem dX3_change_4 : decode cX3_change 4 = .ok (.iload_n 1, 1) := by decide +kernel
theorem dX3_change_5 : decode cX3_change 5 = .ok (.invokevirtual 74, 3) := by decide +kernel
theorem dX3_change_8 : decode cX3_change 8 = .ok (.ifCond .eq 10, 3) := by decide +kernel
theorem dX3_change_11 : decode cX3_change 11 = .ok (.iload_n 2, 1) := by decide +kernel
theorem dX3_change_12 : decode cX3_change 12 = .ok (.invokestatic 56, 3) := by decide +kernel
theorem dX3_change_15 : decode cX3_change 15 = .ok (.ifCond .ne 5, 3) := by decide +kernel
theorem dX3_change_18 : decode cX3_change 18 = .ok (.iconst (-1), 1) := by decide +kernel
theorem dX3_change_19 : decode cX3_change 19 = .ok (.ireturn, 1) := by decide +kernel
theorem dX3_change_20 : decode cX3_change 20 = .ok (.aload_n 0, 1) := by decide +kernel
theorem dX3_change_21 : decode cX3_change 21 = .ok (.getfield 10, 3) := by decide +kernel
theorem dX3_change_24 : decode cX3_change 24 = .ok (.getfield 77, 3) := by decide +kernel
theorem dX3_change_27 : decode cX3_change 27 = .ok (.iload_n 1, 1) := by decide +kernel
theorem dX3_change_28 : decode cX3_change 28 = .ok (.iload_n 2, 1) := by decide +kernel
theorem dX3_change_29 : decode cX3_change 29 = .ok (.iastore, 1) := by decide +kernel
theorem dX3_change_30 : decode cX3_change 30 = .ok (.aload_n 0, 1) := by decide +kernel
theorem dX3_change_31 : decode cX3_change 31 = .ok (.invokevirtual 63, 3) := by decide +kernel
theorem dX3_change_34 : decode cX3_change 34 = .ok (.iconst 1, 1) := by decide +kernel
theorem dX3_change_35 : decode cX3_change 35 = .ok (.ireturn, 1) := by decide +kernel
theorem dX3_cut_0 : decode cX3_cut 0 = .ok (.iload_n 1, 1) := by decide +kernel
theorem dX3_cut_1 : decode cX3_cut 1 = .ok (.ifCond .lt 14, 3) := by decide +kernel
theorem dX3_cut_4 : decode cX3_cut 4 = .ok (.iload_n 1, 1) := by decide +kernel
theorem dX3_cut_5 : decode cX3_cut 5 = .ok (.aload_n 0, 1) := by decide +kernel
theorem dX3_cut_6 : decode cX3_cut 6 = .ok (.getfield 10, 3) := by decide +kernel
theorem dX3_cut_9 : decode cX3_cut 9 = .ok (.getfield 66, 3) := by decide +kernel
theorem dX3_cut_12 : decode cX3_cut 12 = .ok (.if_icmp .le 5, 3) := by decide +kernel
theorem dX3_cut_15 : decode cX3_cut 15 = .ok (.iconst (-1), 1) := by decide +kernel
theorem dX3_cut_16 : decode cX3_cut 16 = .ok (.ireturn, 1) := by decide +kernel
theorem dX3_cut_17 : decode cX3_cut 17 = .ok (.aload_n 0, 1) := by decide +kernel
theorem dX3_cut_18 : decode cX3_cut 18 = .ok (.getfield 10, 3) := by decide +kernel
theorem dX3_cut_21 : decode cX3_cut 21 = .ok (.iload_n 1, 1) := by decide +kernel
theorem dX3_cut_22 : decode cX3_cut 22 = .ok (.putfield 66, 3) := by decide +kernel
theorem dX3_cut_25 : decode cX3_cut 25 = .ok (.aload_n 0, 1) := by decide +kernel
theorem dX3_cut_26 : decode cX3_cut 26 = .ok (.invokevirtual 63, 3) := by decide +kernel
theorem dX3_cut_29 : decode cX3_cut 29 = .ok (.iload_n 1, 1) := by decide +kernel
theorem dX3_cut_30 : decode cX3_cut 30 = .ok (.ireturn, 1) := by decide +kernel
theorem dX3_asked_0 : decode cX3_asked 0 = .ok (.aload_n 0, 1) := by decide +kernel
theorem dX3_asked_1 : decode cX3_asked 1 = .ok (.getfield 10, 3) := by decide +kernel
theorem dX3_asked_4 : decode cX3_asked 4 = .ok (.iload_n 1, 1) := by decide +kernel
theorem dX3_asked_5 : decode cX3_asked 5 = .ok (.invokevirtual 74, 3) := by decide +kernel
theorem dX3_asked_8 : decode cX3_asked 8 = .ok (.ifCond .eq 15, 3) := by decide +kernel
theorem dX3_asked_11 : decode cX3_asked 11 = .ok (.aload_n 0, 1) := by decide +kernel
theorem dX3_asked_12 : decode cX3_asked 12 = .ok (.getfield 10, 3) := by decide +kernel
theorem dX3_asked_15 : decode cX3_asked 15 = .ok (.getfield 77, 3) := by decide +kernel
theorem dX3_asked_18 : decode cX3_asked 18 = .ok (.iload_n 1, 1) := by decide +kernel
theorem dX3_asked_19 : decode cX3_asked 19 = .ok (.iaload, 1) := by decide +kernel
theorem dX3_asked_20 : decode cX3_asked 20 = .ok (.goto 4, 3) := by decide +kernel
theorem dX3_asked_23 : decode cX3_asked 23 = .ok (.iconst (-1), 1) := by decide +kernel
theorem dX3_asked_24 : decode cX3_asked 24 = .ok (.ireturn, 1) := by decide +kernel
theorem dX3_many_0 : decode cX3_many 0 = .ok (.iload_n 1, 1) := by decide +kernel
theorem dX3_many_1 : decode cX3_many 1 = .ok (.tableswitch 60 0 3 #[31, 39, 47, 52], 31) := by decide +kernel
theorem dX3_many_32 : decode cX3_many 32 = .ok (.aload_n 0, 1) := by decide +kernel
theorem dX3_many_33 : decode cX3_many 33 = .ok (.getfield 10, 3) := by decide +kernel
theorem dX3_many_36 : decode cX3_many 36 = .ok (.getfield 66, 3) := by decide +kernel
theorem dX3_many_39 : decode cX3_many 39 = .ok (.ireturn, 1) := by decide +kernel
theorem dX3_many_40 : decode cX3_many 40 = .ok (.aload_n 0, 1) := by decide +kernel
theorem dX3_many_41 : decode cX3_many 41 = .ok (.getfield 10, 3) := by decide +kernel
theorem dX3_many_44 : decode cX3_many 44 = .ok (.invokevirtual 80, 3) := by decide +kernel
theorem dX3_many_47 : decode cX3_many 47 = .ok (.ireturn, 1) := by decide +kernel
theorem dX3_many_48 : decode cX3_many 48 = .ok (.aload_n 0, 1) := by decide +kernel
theorem dX3_many_49 : decode cX3_many 49 = .ok (.getfield 48, 3) := by decide +kernel
theorem dX3_many_52 : decode cX3_many 52 = .ok (.ireturn, 1) := by decide +kernel
theorem dX3_many_53 : decode cX3_many 53 = .ok (.aload_n 0, 1) := by decide +kernel
theorem dX3_many_54 : decode cX3_many 54 = .ok (.getfield 10, 3) := by decide +kernel
theorem dX3_many_57 : decode cX3_many 57 = .ok (.invokevirtual 84, 3) := by decide +kernel
theorem dX3_many_60 : decode cX3_many 60 = .ok (.ireturn, 1) := by decide +kernel
theorem dX3_many_61 : decode cX3_many 61 = .ok (.iconst (-1), 1) := by decide +kernel
theorem dX3_many_62 : decode cX3_many 62 = .ok (.ireturn, 1) := by decide +kernel
theorem dX3_serve_0 : decode cX3_serve 0 = .ok (.iload_n 1, 1) := by decide +kernel
theorem dX3_serve_1 : decode cX3_serve 1 = .ok (.invokestatic 87, 3) := by decide +kernel
theorem dX3_serve_4 : decode cX3_serve 4 = .ok (.ifCond .eq 10, 3) := by decide +kernel
theorem dX3_serve_7 : decode cX3_serve 7 = .ok (.iload_n 2, 1) := by decide +kernel
theorem dX3_serve_8 : decode cX3_serve 8 = .ok (.invokestatic 90, 3) := by decide +kernel
theorem dX3_serve_11 : decode cX3_serve 11 = .ok (.ifCond .ne 5, 3) := by decide +kernel
theorem dX3_serve_14 : decode cX3_serve 14 = .ok (.iconst (-1), 1) := by decide +kernel
theorem dX3_serve_15 : decode cX3_serve 15 = .ok (.ireturn, 1) := by decide +kernel
theorem dX3_serve_16 : decode cX3_serve 16 = .ok (.aload_n 0, 1) := by decide +kernel
theorem dX3_serve_17 : decode cX3_serve 17 = .ok (.getfield 21, 3) := by decide +kernel
theorem dX3_serve_20 : decode cX3_serve 20 = .ok (.iload_n 1, 1) := by decide +kernel
theorem dX3_serve_21 : decode cX3_serve 21 = .ok (.iload_n 2, 1) := by decide +kernel
theorem dX3_serve_22 : decode cX3_serve 22 = .ok (.invokevirtual 93, 3) := by decide +kernel
theorem dX3_serve_25 : decode cX3_serve 25 = .ok (.aload_n 0, 1) := by decide +kernel
theorem dX3_serve_26 : decode cX3_serve 26 = .ok (.iconst 0, 1) := by decide +kernel
theorem dX3_serve_27 : decode cX3_serve 27 = .ok (.putfield 97, 3) := by decide +kernel
theorem dX3_serve_30 : decode cX3_serve 30 = .ok (.aload_n 0, 1) := by decide +kernel
theorem dX3_serve_31 : decode cX3_serve 31 = .ok (.iconst 0, 1) := by decide +kernel
theorem dX3_serve_32 : decode cX3_serve 32 = .ok (.putfield 100, 3) := by decide +kernel
theorem dX3_serve_35 : decode cX3_serve 35 = .ok (.iconst 0, 1) := by decide +kernel
theorem dX3_serve_36 : decode cX3_serve 36 = .ok (.istore_n 3, 1) := by decide +kernel
theorem dX3_serve_37 : decode cX3_serve 37 = .ok (.iload_n 3, 1) := by decide +kernel
theorem dX3_serve_38 : decode cX3_serve 38 = .ok (.aload_n 0, 1) := by decide +kernel
theorem dX3_serve_39 : decode cX3_serve 39 = .ok (.getfield 10, 3) := by decide +kernel
theorem dX3_serve_42 : decode cX3_serve 42 = .ok (.getfield 66, 3) := by decide +kernel
theorem dX3_serve_45 : decode cX3_serve 45 = .ok (.if_icmp .ge 80, 3) := by decide +kernel
theorem dX3_serve_48 : decode cX3_serve 48 = .ok (.aload_n 0, 1) := by decide +kernel
theorem dX3_serve_49 : decode cX3_serve 49 = .ok (.getfield 45, 3) := by decide +kernel
theorem dX3_serve_52 : decode cX3_serve 52 = .ok (.iload_n 3, 1) := by decide +kernel
theorem dX3_serve_53 : decode cX3_serve 53 = .ok (.aload_n 0, 1) := by decide +kernel
theorem dX3_serve_54 : decode cX3_serve 54 = .ok (.getfield 21, 3) := by decide +kernel
theorem dX3_serve_57 : decode cX3_serve 57 = .ok (.invokevirtual 103, 3) := by decide +kernel
theorem dX3_serve_60 : decode cX3_serve 60 = .ok (.iastore, 1) := by decide +kernel
theorem dX3_serve_61 : decode cX3_serve 61 = .ok (.aload_n 0, 1) := by decide +kernel
theorem dX3_serve_62 : decode cX3_serve 62 = .ok (.getfield 42, 3) := by decide +kernel
theorem dX3_serve_65 : decode cX3_serve 65 = .ok (.iload_n 3, 1) := by decide +kernel
theorem dX3_serve_66 : decode cX3_serve 66 = .ok (.aload_n 0, 1) := by decide +kernel
theorem dX3_serve_67 : decode cX3_serve 67 = .ok (.getfield 21, 3) := by decide +kernel
theorem dX3_serve_70 : decode cX3_serve 70 = .ok (.getfield 106, 3) := by decide +kernel
theorem dX3_serve_73 : decode cX3_serve 73 = .ok (.ifCond .eq 7, 3) := by decide +kernel
theorem dX3_serve_76 : decode cX3_serve 76 = .ok (.iconst 1, 1) := by decide +kernel
theorem dX3_serve_77 : decode cX3_serve 77 = .ok (.goto 4, 3) := by decide +kernel
theorem dX3_serve_80 : decode cX3_serve 80 = .ok (.iconst 0, 1) := by decide +kernel
theorem dX3_serve_81 : decode cX3_serve 81 = .ok (.iastore, 1) := by decide +kernel
theorem dX3_serve_82 : decode cX3_serve 82 = .ok (.aload_n 0, 1) := by decide +kernel
theorem dX3_serve_83 : decode cX3_serve 83 = .ok (.getfield 21, 3) := by decide +kernel
theorem dX3_serve_86 : decode cX3_serve 86 = .ok (.getfield 106, 3) := by decide +kernel
theorem dX3_serve_89 : decode cX3_serve 89 = .ok (.ifCond .ne 30, 3) := by decide +kernel
theorem dX3_serve_92 : decode cX3_serve 92 = .ok (.aload_n 0, 1) := by decide +kernel
theorem dX3_serve_93 : decode cX3_serve 93 = .ok (.dup, 1) := by decide +kernel
theorem dX3_serve_94 : decode cX3_serve 94 = .ok (.getfield 97, 3) := by decide +kernel
theorem dX3_serve_97 : decode cX3_serve 97 = .ok (.iconst 1, 1) := by decide +kernel
theorem dX3_serve_98 : decode cX3_serve 98 = .ok (.iadd, 1) := by decide +kernel
theorem dX3_serve_99 : decode cX3_serve 99 = .ok (.putfield 97, 3) := by decide +kernel
theorem dX3_serve_102 : decode cX3_serve 102 = .ok (.aload_n 0, 1) := by decide +kernel
theorem dX3_serve_103 : decode cX3_serve 103 = .ok (.dup, 1) := by decide +kernel
theorem dX3_serve_104 : decode cX3_serve 104 = .ok (.getfield 100, 3) := by decide +kernel
theorem dX3_serve_107 : decode cX3_serve 107 = .ok (.aload_n 0, 1) := by decide +kernel
theorem dX3_serve_108 : decode cX3_serve 108 = .ok (.getfield 10, 3) := by decide +kernel
theorem dX3_serve_111 : decode cX3_serve 111 = .ok (.iload_n 3, 1) := by decide +kernel
theorem dX3_serve_112 : decode cX3_serve 112 = .ok (.invokevirtual 109, 3) := by decide +kernel
theorem dX3_serve_115 : decode cX3_serve 115 = .ok (.iadd, 1) := by decide +kernel
theorem dX3_serve_116 : decode cX3_serve 116 = .ok (.putfield 100, 3) := by decide +kernel
theorem dX3_serve_119 : decode cX3_serve 119 = .ok (.iinc 3 1, 3) := by decide +kernel
theorem dX3_serve_122 : decode cX3_serve 122 = .ok (.goto (-85), 3) := by decide +kernel
theorem dX3_serve_125 : decode cX3_serve 125 = .ok (.aload_n 0, 1) := by decide +kernel
theorem dX3_serve_126 : decode cX3_serve 126 = .ok (.iconst 1, 1) := by decide +kernel
theorem dX3_serve_127 : decode cX3_serve 127 = .ok (.putfield 52, 3) := by decide +kernel
theorem dX3_serve_130 : decode cX3_serve 130 = .ok (.aload_n 0, 1) := by decide +kernel
theorem dX3_serve_131 : decode cX3_serve 131 = .ok (.getfield 97, 3) := by decide +kernel
theorem dX3_serve_134 : decode cX3_serve 134 = .ok (.ireturn, 1) := by decide +kernel
theorem dX3_paid_0 : decode cX3_paid 0 = .ok (.aload_n 0, 1) := by decide +kernel
theorem dX3_paid_1 : decode cX3_paid 1 = .ok (.getfield 52, 3) := by decide +kernel
theorem dX3_paid_4 : decode cX3_paid 4 = .ok (.ifCond .eq 10, 3) := by decide +kernel
theorem dX3_paid_7 : decode cX3_paid 7 = .ok (.aload_n 0, 1) := by decide +kernel
theorem dX3_paid_8 : decode cX3_paid 8 = .ok (.getfield 100, 3) := by decide +kernel
theorem dX3_paid_11 : decode cX3_paid 11 = .ok (.goto 5, 3) := by decide +kernel
theorem dX3_paid_14 : decode cX3_paid 14 = .ok (.bipush (-3), 2) := by decide +kernel
theorem dX3_paid_16 : decode cX3_paid 16 = .ok (.ireturn, 1) := by decide +kernel
theorem dX3_hit_0 : decode cX3_hit 0 = .ok (.aload_n 0, 1) := by decide +kernel
theorem dX3_hit_1 : decode cX3_hit 1 = .ok (.getfield 52, 3) := by decide +kernel
theorem dX3_hit_4 : decode cX3_hit 4 = .ok (.ifCond .ne 6, 3) := by decide +kernel
theorem dX3_hit_7 : decode cX3_hit 7 = .ok (.bipush (-3), 2) := by decide +kernel
theorem dX3_hit_9 : decode cX3_hit 9 = .ok (.ireturn, 1) := by decide +kernel
theorem dX3_hit_10 : decode cX3_hit 10 = .ok (.aload_n 0, 1) := by decide +kernel
theorem dX3_hit_11 : decode cX3_hit 11 = .ok (.getfield 10, 3) := by decide +kernel
theorem dX3_hit_14 : decode cX3_hit 14 = .ok (.iload_n 1, 1) := by decide +kernel
theorem dX3_hit_15 : decode cX3_hit 15 = .ok (.invokevirtual 74, 3) := by decide +kernel
theorem dX3_hit_18 : decode cX3_hit 18 = .ok (.ifCond .eq 12, 3) := by decide +kernel
theorem dX3_hit_21 : decode cX3_hit 21 = .ok (.aload_n 0, 1) := by decide +kernel
theorem dX3_hit_22 : decode cX3_hit 22 = .ok (.getfield 42, 3) := by decide +kernel
theorem dX3_hit_25 : decode cX3_hit 25 = .ok (.iload_n 1, 1) := by decide +kernel
theorem dX3_hit_26 : decode cX3_hit 26 = .ok (.iaload, 1) := by decide +kernel
theorem dX3_hit_27 : decode cX3_hit 27 = .ok (.goto 4, 3) := by decide +kernel
theorem dX3_hit_30 : decode cX3_hit 30 = .ok (.iconst (-1), 1) := by decide +kernel
theorem dX3_hit_31 : decode cX3_hit 31 = .ok (.ireturn, 1) := by decide +kernel
theorem dX3_gone_0 : decode cX3_gone 0 = .ok (.aload_n 0, 1) := by decide +kernel
theorem dX3_gone_1 : decode cX3_gone 1 = .ok (.getfield 52, 3) := by decide +kernel
theorem dX3_gone_4 : decode cX3_gone 4 = .ok (.ifCond .eq 23, 3) := by decide +kernel
theorem dX3_gone_7 : decode cX3_gone 7 = .ok (.aload_n 0, 1) := by decide +kernel
theorem dX3_gone_8 : decode cX3_gone 8 = .ok (.getfield 10, 3) := by decide +kernel
theorem dX3_gone_11 : decode cX3_gone 11 = .ok (.iload_n 1, 1) := by decide +kernel
theorem dX3_gone_12 : decode cX3_gone 12 = .ok (.invokevirtual 74, 3) := by decide +kernel
theorem dX3_gone_15 : decode cX3_gone 15 = .ok (.ifCond .eq 12, 3) := by decide +kernel
theorem dX3_gone_18 : decode cX3_gone 18 = .ok (.aload_n 0, 1) := by decide +kernel
theorem dX3_gone_19 : decode cX3_gone 19 = .ok (.getfield 45, 3) := by decide +kernel
theorem dX3_gone_22 : decode cX3_gone 22 = .ok (.iload_n 1, 1) := by decide +kernel
theorem dX3_gone_23 : decode cX3_gone 23 = .ok (.iaload, 1) := by decide +kernel
theorem dX3_gone_24 : decode cX3_gone 24 = .ok (.goto 4, 3) := by decide +kernel
theorem dX3_gone_27 : decode cX3_gone 27 = .ok (.iconst (-1), 1) := by decide +kernel
theorem dX3_gone_28 : decode cX3_gone 28 = .ok (.ireturn, 1) := by decide +kernel
theorem dX3_look_0 : decode cX3_look 0 = .ok (.aload_n 0, 1) := by decide +kernel
theorem dX3_look_1 : decode cX3_look 1 = .ok (.getfield 52, 3) := by decide +kernel
theorem dX3_look_4 : decode cX3_look 4 = .ok (.ifCond .ne 6, 3) := by decide +kernel
theorem dX3_look_7 : decode cX3_look 7 = .ok (.bipush (-3), 2) := by decide +kernel
theorem dX3_look_9 : decode cX3_look 9 = .ok (.ireturn, 1) := by decide +kernel
theorem dX3_look_10 : decode cX3_look 10 = .ok (.aload_n 0, 1) := by decide +kernel
theorem dX3_look_11 : decode cX3_look 11 = .ok (.getfield 10, 3) := by decide +kernel
theorem dX3_look_14 : decode cX3_look 14 = .ok (.iload_n 1, 1) := by decide +kernel
theorem dX3_look_15 : decode cX3_look 15 = .ok (.invokevirtual 74, 3) := by decide +kernel
theorem dX3_look_18 : decode cX3_look 18 = .ok (.ifCond .eq 19, 3) := by decide +kernel
theorem dX3_look_21 : decode cX3_look 21 = .ok (.iload_n 2, 1) := by decide +kernel
theorem dX3_look_22 : decode cX3_look 22 = .ok (.invokestatic 56, 3) := by decide +kernel
theorem dX3_look_25 : decode cX3_look 25 = .ok (.ifCond .eq 12, 3) := by decide +kernel
theorem dX3_look_28 : decode cX3_look 28 = .ok (.iload_n 3, 1) := by decide +kernel
theorem dX3_look_29 : decode cX3_look 29 = .ok (.ifCond .lt 8, 3) := by decide +kernel
theorem dX3_look_32 : decode cX3_look 32 = .ok (.iload_n 3, 1) := by decide +kernel
theorem dX3_look_33 : decode cX3_look 33 = .ok (.iconst 5, 1) := by decide +kernel
theorem dX3_look_34 : decode cX3_look 34 = .ok (.if_icmp .le 6, 3) := by decide +kernel
theorem dX3_look_37 : decode cX3_look 37 = .ok (.ldc 113, 2) := by decide +kernel
theorem dX3_look_39 : decode cX3_look 39 = .ok (.ireturn, 1) := by decide +kernel
theorem dX3_look_40 : decode cX3_look 40 = .ok (.aload_n 0, 1) := by decide +kernel
theorem dX3_look_41 : decode cX3_look 41 = .ok (.getfield 21, 3) := by decide +kernel
theorem dX3_look_44 : decode cX3_look 44 = .ok (.iload_n 3, 1) := by decide +kernel
theorem dX3_look_45 : decode cX3_look 45 = .ok (.invokevirtual 114, 3) := by decide +kernel
theorem dX3_look_48 : decode cX3_look 48 = .ok (.ifCond .ne 6, 3) := by decide +kernel
theorem dX3_look_51 : decode cX3_look 51 = .ok (.ldc 117, 2) := by decide +kernel
theorem dX3_look_53 : decode cX3_look 53 = .ok (.ireturn, 1) := by decide +kernel
theorem dX3_look_54 : decode cX3_look 54 = .ok (.aload_n 0, 1) := by decide +kernel
theorem dX3_look_55 : decode cX3_look 55 = .ok (.getfield 21, 3) := by decide +kernel
theorem dX3_look_58 : decode cX3_look 58 = .ok (.iload_n 1, 1) := by decide +kernel
theorem dX3_look_59 : decode cX3_look 59 = .ok (.invokevirtual 118, 3) := by decide +kernel
theorem dX3_look_62 : decode cX3_look 62 = .ok (.aload_n 0, 1) := by decide +kernel
theorem dX3_look_63 : decode cX3_look 63 = .ok (.getfield 21, 3) := by decide +kernel
theorem dX3_look_66 : decode cX3_look 66 = .ok (.iload_n 2, 1) := by decide +kernel
theorem dX3_look_67 : decode cX3_look 67 = .ok (.iload_n 3, 1) := by decide +kernel
theorem dX3_look_68 : decode cX3_look 68 = .ok (.invokevirtual 121, 3) := by decide +kernel
theorem dX3_look_71 : decode cX3_look 71 = .ok (.ireturn, 1) := by decide +kernel
theorem dX3_level_0 : decode cX3_level 0 = .ok (.aload_n 0, 1) := by decide +kernel
theorem dX3_level_1 : decode cX3_level 1 = .ok (.getfield 52, 3) := by decide +kernel
theorem dX3_level_4 : decode cX3_level 4 = .ok (.ifCond .ne 6, 3) := by decide +kernel
theorem dX3_level_7 : decode cX3_level 7 = .ok (.bipush (-3), 2) := by decide +kernel
theorem dX3_level_9 : decode cX3_level 9 = .ok (.ireturn, 1) := by decide +kernel
theorem dX3_level_10 : decode cX3_level 10 = .ok (.aload_n 0, 1) := by decide +kernel
theorem dX3_level_11 : decode cX3_level 11 = .ok (.getfield 10, 3) := by decide +kernel
theorem dX3_level_14 : decode cX3_level 14 = .ok (.iload_n 1, 1) := by decide +kernel
theorem dX3_level_15 : decode cX3_level 15 = .ok (.invokevirtual 74, 3) := by decide +kernel
theorem dX3_level_18 : decode cX3_level 18 = .ok (.ifCond .eq 12, 3) := by decide +kernel
theorem dX3_level_21 : decode cX3_level 21 = .ok (.iload_n 2, 1) := by decide +kernel
theorem dX3_level_22 : decode cX3_level 22 = .ok (.ifCond .lt 8, 3) := by decide +kernel
theorem dX3_level_25 : decode cX3_level 25 = .ok (.iload_n 2, 1) := by decide +kernel
theorem dX3_level_26 : decode cX3_level 26 = .ok (.iconst 4, 1) := by decide +kernel
theorem dX3_level_27 : decode cX3_level 27 = .ok (.if_icmp .le 6, 3) := by decide +kernel
theorem dX3_level_30 : decode cX3_level 30 = .ok (.ldc 113, 2) := by decide +kernel
theorem dX3_level_32 : decode cX3_level 32 = .ok (.ireturn, 1) := by decide +kernel
theorem dX3_level_33 : decode cX3_level 33 = .ok (.aload_n 0, 1) := by decide +kernel
theorem dX3_level_34 : decode cX3_level 34 = .ok (.getfield 21, 3) := by decide +kernel
theorem dX3_level_37 : decode cX3_level 37 = .ok (.iload_n 2, 1) := by decide +kernel
theorem dX3_level_38 : decode cX3_level 38 = .ok (.invokevirtual 125, 3) := by decide +kernel
theorem dX3_level_41 : decode cX3_level 41 = .ok (.ifCond .ne 6, 3) := by decide +kernel
theorem dX3_level_44 : decode cX3_level 44 = .ok (.ldc 117, 2) := by decide +kernel
theorem dX3_level_46 : decode cX3_level 46 = .ok (.ireturn, 1) := by decide +kernel
theorem dX3_level_47 : decode cX3_level 47 = .ok (.aload_n 0, 1) := by decide +kernel
theorem dX3_level_48 : decode cX3_level 48 = .ok (.getfield 21, 3) := by decide +kernel
theorem dX3_level_51 : decode cX3_level 51 = .ok (.iload_n 1, 1) := by decide +kernel
theorem dX3_level_52 : decode cX3_level 52 = .ok (.invokevirtual 118, 3) := by decide +kernel
theorem dX3_level_55 : decode cX3_level 55 = .ok (.aload_n 0, 1) := by decide +kernel
theorem dX3_level_56 : decode cX3_level 56 = .ok (.getfield 21, 3) := by decide +kernel
theorem dX3_level_59 : decode cX3_level 59 = .ok (.iload_n 2, 1) := by decide +kernel
theorem dX3_level_60 : decode cX3_level 60 = .ok (.invokevirtual 128, 3) := by decide +kernel
theorem dX3_level_63 : decode cX3_level 63 = .ok (.ireturn, 1) := by decide +kernel
theorem dX3_fewest_0 : decode cX3_fewest 0 = .ok (.iload_n 1, 1) := by decide +kernel
theorem dX3_fewest_1 : decode cX3_fewest 1 = .ok (.invokestatic 90, 3) := by decide +kernel
theorem dX3_fewest_4 : decode cX3_fewest 4 = .ok (.ifCond .ne 5, 3) := by decide +kernel
theorem dX3_fewest_7 : decode cX3_fewest 7 = .ok (.iconst (-1), 1) := by decide +kernel
theorem dX3_fewest_8 : decode cX3_fewest 8 = .ok (.ireturn, 1) := by decide +kernel
theorem dX3_fewest_9 : decode cX3_fewest 9 = .ok (.iconst 0, 1) := by decide +kernel
theorem dX3_fewest_10 : decode cX3_fewest 10 = .ok (.istore_n 2, 1) := by decide +kernel
theorem dX3_fewest_11 : decode cX3_fewest 11 = .ok (.aload_n 0, 1) := by decide +kernel
theorem dX3_fewest_12 : decode cX3_fewest 12 = .ok (.getfield 25, 3) := by decide +kernel
theorem dX3_fewest_15 : decode cX3_fewest 15 = .ok (.iconst 0, 1) := by decide +kernel
theorem dX3_fewest_16 : decode cX3_fewest 16 = .ok (.iload_n 1, 1) := by decide +kernel
theorem dX3_fewest_17 : decode cX3_fewest 17 = .ok (.invokevirtual 131, 3) := by decide +kernel
theorem dX3_fewest_20 : decode cX3_fewest 20 = .ok (.istore_n 3, 1) := by decide +kernel
theorem dX3_fewest_21 : decode cX3_fewest 21 = .ok (.iconst 1, 1) := by decide +kernel
theorem dX3_fewest_22 : decode cX3_fewest 22 = .ok (.istore 4, 2) := by decide +kernel
theorem dX3_fewest_24 : decode cX3_fewest 24 = .ok (.iload 4, 2) := by decide +kernel
theorem dX3_fewest_26 : decode cX3_fewest 26 = .ok (.bipush 8, 2) := by decide +kernel
theorem dX3_fewest_28 : decode cX3_fewest 28 = .ok (.if_icmp .ge 33, 3) := by decide +kernel
theorem dX3_fewest_31 : decode cX3_fewest 31 = .ok (.aload_n 0, 1) := by decide +kernel
theorem dX3_fewest_32 : decode cX3_fewest 32 = .ok (.getfield 25, 3) := by decide +kernel
theorem dX3_fewest_35 : decode cX3_fewest 35 = .ok (.iload 4, 2) := by decide +kernel
theorem dX3_fewest_37 : decode cX3_fewest 37 = .ok (.iload_n 1, 1) := by decide +kernel
theorem dX3_fewest_38 : decode cX3_fewest 38 = .ok (.invokevirtual 131, 3) := by decide +kernel
theorem dX3_fewest_41 : decode cX3_fewest 41 = .ok (.istore 5, 2) := by decide +kernel
theorem dX3_fewest_43 : decode cX3_fewest 43 = .ok (.iload 5, 2) := by decide +kernel
theorem dX3_fewest_45 : decode cX3_fewest 45 = .ok (.iload_n 3, 1) := by decide +kernel
theorem dX3_fewest_46 : decode cX3_fewest 46 = .ok (.if_icmp .ge 9, 3) := by decide +kernel
theorem dX3_fewest_49 : decode cX3_fewest 49 = .ok (.iload 4, 2) := by decide +kernel
theorem dX3_fewest_51 : decode cX3_fewest 51 = .ok (.istore_n 2, 1) := by decide +kernel
theorem dX3_fewest_52 : decode cX3_fewest 52 = .ok (.iload 5, 2) := by decide +kernel
theorem dX3_fewest_54 : decode cX3_fewest 54 = .ok (.istore_n 3, 1) := by decide +kernel
theorem dX3_fewest_55 : decode cX3_fewest 55 = .ok (.iinc 4 1, 3) := by decide +kernel
theorem dX3_fewest_58 : decode cX3_fewest 58 = .ok (.goto (-34), 3) := by decide +kernel
theorem dX3_fewest_61 : decode cX3_fewest 61 = .ok (.iload_n 2, 1) := by decide +kernel
theorem dX3_fewest_62 : decode cX3_fewest 62 = .ok (.ireturn, 1) := by decide +kernel
theorem dX3_share_0 : decode cX3_share 0 = .ok (.aload_n 0, 1) := by decide +kernel
theorem dX3_share_1 : decode cX3_share 1 = .ok (.getfield 52, 3) := by decide +kernel
theorem dX3_share_4 : decode cX3_share 4 = .ok (.ifCond .ne 6, 3) := by decide +kernel
theorem dX3_share_7 : decode cX3_share 7 = .ok (.bipush (-3), 2) := by decide +kernel
theorem dX3_share_9 : decode cX3_share 9 = .ok (.ireturn, 1) := by decide +kernel
theorem dX3_share_10 : decode cX3_share 10 = .ok (.aload_n 0, 1) := by decide +kernel
theorem dX3_share_11 : decode cX3_share 11 = .ok (.getfield 10, 3) := by decide +kernel
theorem dX3_share_14 : decode cX3_share 14 = .ok (.getfield 66, 3) := by decide +kernel
theorem dX3_share_17 : decode cX3_share 17 = .ok (.iconst 1, 1) := by decide +kernel
theorem dX3_share_18 : decode cX3_share 18 = .ok (.if_icmp .ge 5, 3) := by decide +kernel
theorem dX3_share_21 : decode cX3_share 21 = .ok (.iconst (-1), 1) := by decide +kernel
theorem dX3_share_22 : decode cX3_share 22 = .ok (.ireturn, 1) := by decide +kernel
theorem dX3_share_23 : decode cX3_share 23 = .ok (.aload_n 0, 1) := by decide +kernel
theorem dX3_share_24 : decode cX3_share 24 = .ok (.getfield 10, 3) := by decide +kernel
theorem dX3_share_27 : decode cX3_share 27 = .ok (.getfield 66, 3) := by decide +kernel
theorem dX3_share_30 : decode cX3_share 30 = .ok (.aload_n 0, 1) := by decide +kernel
theorem dX3_share_31 : decode cX3_share 31 = .ok (.getfield 97, 3) := by decide +kernel
theorem dX3_share_34 : decode cX3_share 34 = .ok (.isub, 1) := by decide +kernel
theorem dX3_share_35 : decode cX3_share 35 = .ok (.istore_n 1, 1) := by decide +kernel
theorem dX3_share_36 : decode cX3_share 36 = .ok (.iload_n 1, 1) := by decide +kernel
theorem dX3_share_37 : decode cX3_share 37 = .ok (.i2f, 1) := by decide +kernel
theorem dX3_share_38 : decode cX3_share 38 = .ok (.aload_n 0, 1) := by decide +kernel
theorem dX3_share_39 : decode cX3_share 39 = .ok (.getfield 10, 3) := by decide +kernel
theorem dX3_share_42 : decode cX3_share 42 = .ok (.getfield 66, 3) := by decide +kernel
theorem dX3_share_45 : decode cX3_share 45 = .ok (.i2f, 1) := by decide +kernel
theorem dX3_share_46 : decode cX3_share 46 = .ok (.fdiv, 1) := by decide +kernel
theorem dX3_share_47 : decode cX3_share 47 = .ok (.fstore_n 2, 1) := by decide +kernel
theorem dX3_share_48 : decode cX3_share 48 = .ok (.fload_n 2, 1) := by decide +kernel
theorem dX3_share_49 : decode cX3_share 49 = .ok (.ldc 134, 2) := by decide +kernel
theorem dX3_share_51 : decode cX3_share 51 = .ok (.fmul, 1) := by decide +kernel
theorem dX3_share_52 : decode cX3_share 52 = .ok (.f2i, 1) := by decide +kernel
theorem dX3_share_53 : decode cX3_share 53 = .ok (.ireturn, 1) := by decide +kernel
theorem dX3_least_0 : decode cX3_least 0 = .ok (.iload_n 1, 1) := by decide +kernel
theorem dX3_least_1 : decode cX3_least 1 = .ok (.invokestatic 90, 3) := by decide +kernel
theorem dX3_least_4 : decode cX3_least 4 = .ok (.ifCond .ne 5, 3) := by decide +kernel
theorem dX3_least_7 : decode cX3_least 7 = .ok (.iconst (-1), 1) := by decide +kernel
theorem dX3_least_8 : decode cX3_least 8 = .ok (.ireturn, 1) := by decide +kernel
theorem dX3_least_9 : decode cX3_least 9 = .ok (.aload_n 0, 1) := by decide +kernel
theorem dX3_least_10 : decode cX3_least 10 = .ok (.getfield 10, 3) := by decide +kernel
theorem dX3_least_13 : decode cX3_least 13 = .ok (.invokevirtual 80, 3) := by decide +kernel
theorem dX3_least_16 : decode cX3_least 16 = .ok (.bipush 10, 2) := by decide +kernel
theorem dX3_least_18 : decode cX3_least 18 = .ok (.if_icmp .le 6, 3) := by decide +kernel
theorem dX3_least_21 : decode cX3_least 21 = .ok (.bipush (-5), 2) := by decide +kernel
theorem dX3_least_23 : decode cX3_least 23 = .ok (.ireturn, 1) := by decide +kernel
theorem dX3_least_24 : decode cX3_least 24 = .ok (.aload_n 0, 1) := by decide +kernel
theorem dX3_least_25 : decode cX3_least 25 = .ok (.getfield 31, 3) := by decide +kernel
theorem dX3_least_28 : decode cX3_least 28 = .ok (.iload_n 1, 1) := by decide +kernel
theorem dX3_least_29 : decode cX3_least 29 = .ok (.invokevirtual 135, 3) := by decide +kernel
theorem dX3_least_32 : decode cX3_least 32 = .ok (.aload_n 0, 1) := by decide +kernel
theorem dX3_least_33 : decode cX3_least 33 = .ok (.getfield 31, 3) := by decide +kernel
theorem dX3_least_36 : decode cX3_least 36 = .ok (.getfield 138, 3) := by decide +kernel
theorem dX3_least_39 : decode cX3_least 39 = .ok (.ireturn, 1) := by decide +kernel
theorem dX3_goes_0 : decode cX3_goes 0 = .ok (.aload_n 0, 1) := by decide +kernel
theorem dX3_goes_1 : decode cX3_goes 1 = .ok (.getfield 10, 3) := by decide +kernel
theorem dX3_goes_4 : decode cX3_goes 4 = .ok (.iload_n 2, 1) := by decide +kernel
theorem dX3_goes_5 : decode cX3_goes 5 = .ok (.invokevirtual 74, 3) := by decide +kernel
theorem dX3_goes_8 : decode cX3_goes 8 = .ok (.ifCond .eq 22, 3) := by decide +kernel
theorem dX3_goes_11 : decode cX3_goes 11 = .ok (.iload_n 1, 1) := by decide +kernel
theorem dX3_goes_12 : decode cX3_goes 12 = .ok (.invokestatic 90, 3) := by decide +kernel
theorem dX3_goes_15 : decode cX3_goes 15 = .ok (.ifCond .eq 15, 3) := by decide +kernel
theorem dX3_goes_18 : decode cX3_goes 18 = .ok (.aload_n 0, 1) := by decide +kernel
theorem dX3_goes_19 : decode cX3_goes 19 = .ok (.getfield 10, 3) := by decide +kernel
theorem dX3_goes_22 : decode cX3_goes 22 = .ok (.invokevirtual 80, 3) := by decide +kernel
theorem dX3_goes_25 : decode cX3_goes 25 = .ok (.bipush 10, 2) := by decide +kernel
theorem dX3_goes_27 : decode cX3_goes 27 = .ok (.if_icmp .le 5, 3) := by decide +kernel
theorem dX3_goes_30 : decode cX3_goes 30 = .ok (.iconst (-1), 1) := by decide +kernel
theorem dX3_goes_31 : decode cX3_goes 31 = .ok (.ireturn, 1) := by decide +kernel
theorem dX3_goes_32 : decode cX3_goes 32 = .ok (.aload_n 0, 1) := by decide +kernel
theorem dX3_goes_33 : decode cX3_goes 33 = .ok (.getfield 31, 3) := by decide +kernel
theorem dX3_goes_36 : decode cX3_goes 36 = .ok (.iload_n 1, 1) := by decide +kernel
theorem dX3_goes_37 : decode cX3_goes 37 = .ok (.invokevirtual 135, 3) := by decide +kernel
theorem dX3_goes_40 : decode cX3_goes 40 = .ok (.aload_n 0, 1) := by decide +kernel
theorem dX3_goes_41 : decode cX3_goes 41 = .ok (.getfield 31, 3) := by decide +kernel
theorem dX3_goes_44 : decode cX3_goes 44 = .ok (.getfield 141, 3) := by decide +kernel
theorem dX3_goes_47 : decode cX3_goes 47 = .ok (.iload_n 2, 1) := by decide +kernel
theorem dX3_goes_48 : decode cX3_goes 48 = .ok (.iaload, 1) := by decide +kernel
theorem dX3_goes_49 : decode cX3_goes 49 = .ok (.ireturn, 1) := by decide +kernel
theorem dX3_phases_0 : decode cX3_phases 0 = .ok (.iload_n 1, 1) := by decide +kernel
theorem dX3_phases_1 : decode cX3_phases 1 = .ok (.invokestatic 90, 3) := by decide +kernel
theorem dX3_phases_4 : decode cX3_phases 4 = .ok (.ifCond .ne 5, 3) := by decide +kernel
theorem dX3_phases_7 : decode cX3_phases 7 = .ok (.iconst (-1), 1) := by decide +kernel
theorem dX3_phases_8 : decode cX3_phases 8 = .ok (.ireturn, 1) := by decide +kernel
theorem dX3_phases_9 : decode cX3_phases 9 = .ok (.aload_n 0, 1) := by decide +kernel
theorem dX3_phases_10 : decode cX3_phases 10 = .ok (.getfield 10, 3) := by decide +kernel
theorem dX3_phases_13 : decode cX3_phases 13 = .ok (.getfield 66, 3) := by decide +kernel
theorem dX3_phases_16 : decode cX3_phases 16 = .ok (.iconst 1, 1) := by decide +kernel
theorem dX3_phases_17 : decode cX3_phases 17 = .ok (.if_icmp .ge 7, 3) := by decide +kernel
theorem dX3_phases_20 : decode cX3_phases 20 = .ok (.iconst 0, 1) := by decide +kernel
theorem dX3_phases_21 : decode cX3_phases 21 = .ok (.goto 22, 3) := by decide +kernel
theorem dX3_phases_24 : decode cX3_phases 24 = .ok (.aload_n 0, 1) := by decide +kernel
theorem dX3_phases_25 : decode cX3_phases 25 = .ok (.getfield 10, 3) := by decide +kernel
theorem dX3_phases_28 : decode cX3_phases 28 = .ok (.iload_n 1, 1) := by decide +kernel
theorem dX3_phases_29 : decode cX3_phases 29 = .ok (.aload_n 0, 1) := by decide +kernel
theorem dX3_phases_30 : decode cX3_phases 30 = .ok (.getfield 10, 3) := by decide +kernel
theorem dX3_phases_33 : decode cX3_phases 33 = .ok (.getfield 66, 3) := by decide +kernel
theorem dX3_phases_36 : decode cX3_phases 36 = .ok (.iconst 1, 1) := by decide +kernel
theorem dX3_phases_37 : decode cX3_phases 37 = .ok (.isub, 1) := by decide +kernel
theorem dX3_phases_38 : decode cX3_phases 38 = .ok (.invokevirtual 144, 3) := by decide +kernel
theorem dX3_phases_41 : decode cX3_phases 41 = .ok (.iconst 1, 1) := by decide +kernel
theorem dX3_phases_42 : decode cX3_phases 42 = .ok (.iadd, 1) := by decide +kernel
theorem dX3_phases_43 : decode cX3_phases 43 = .ok (.ireturn, 1) := by decide +kernel
theorem dX3_phase_0 : decode cX3_phase 0 = .ok (.aload_n 0, 1) := by decide +kernel
theorem dX3_phase_1 : decode cX3_phase 1 = .ok (.getfield 10, 3) := by decide +kernel
theorem dX3_phase_4 : decode cX3_phase 4 = .ok (.iload_n 2, 1) := by decide +kernel
theorem dX3_phase_5 : decode cX3_phase 5 = .ok (.invokevirtual 74, 3) := by decide +kernel
theorem dX3_phase_8 : decode cX3_phase 8 = .ok (.ifCond .eq 22, 3) := by decide +kernel
theorem dX3_phase_11 : decode cX3_phase 11 = .ok (.iload_n 1, 1) := by decide +kernel
theorem dX3_phase_12 : decode cX3_phase 12 = .ok (.invokestatic 90, 3) := by decide +kernel
theorem dX3_phase_15 : decode cX3_phase 15 = .ok (.ifCond .eq 15, 3) := by decide +kernel
theorem dX3_phase_18 : decode cX3_phase 18 = .ok (.aload_n 0, 1) := by decide +kernel
theorem dX3_phase_19 : decode cX3_phase 19 = .ok (.getfield 10, 3) := by decide +kernel
theorem dX3_phase_22 : decode cX3_phase 22 = .ok (.iload_n 1, 1) := by decide +kernel
theorem dX3_phase_23 : decode cX3_phase 23 = .ok (.iload_n 2, 1) := by decide +kernel
theorem dX3_phase_24 : decode cX3_phase 24 = .ok (.invokevirtual 144, 3) := by decide +kernel
theorem dX3_phase_27 : decode cX3_phase 27 = .ok (.goto 4, 3) := by decide +kernel
theorem dX3_phase_30 : decode cX3_phase 30 = .ok (.iconst (-1), 1) := by decide +kernel
theorem dX3_phase_31 : decode cX3_phase 31 = .ok (.ireturn, 1) := by decide +kernel
theorem dX3_distance_0 : decode cX3_distance 0 = .ok (.aload_n 0, 1) := by decide +kernel
theorem dX3_distance_1 : decode cX3_distance 1 = .ok (.getfield 10, 3) := by decide +kernel
theorem dX3_distance_4 : decode cX3_distance 4 = .ok (.iload_n 1, 1) := by decide +kernel
theorem dX3_distance_5 : decode cX3_distance 5 = .ok (.invokevirtual 74, 3) := by decide +kernel
theorem dX3_distance_8 : decode cX3_distance 8 = .ok (.ifCond .eq 14, 3) := by decide +kernel
theorem dX3_distance_11 : decode cX3_distance 11 = .ok (.aload_n 0, 1) := by decide +kernel
theorem dX3_distance_12 : decode cX3_distance 12 = .ok (.getfield 10, 3) := by decide +kernel
theorem dX3_distance_15 : decode cX3_distance 15 = .ok (.iload_n 1, 1) := by decide +kernel
theorem dX3_distance_16 : decode cX3_distance 16 = .ok (.invokevirtual 147, 3) := by decide +kernel
theorem dX3_distance_19 : decode cX3_distance 19 = .ok (.goto 4, 3) := by decide +kernel
theorem dX3_distance_22 : decode cX3_distance 22 = .ok (.iconst (-1), 1) := by decide +kernel
theorem dX3_distance_23 : decode cX3_distance 23 = .ok (.ireturn, 1) := by decide +kernel
theorem dX3_curve_0 : decode cX3_curve 0 = .ok (.iload_n 1, 1) := by decide +kernel
theorem dX3_curve_1 : decode cX3_curve 1 = .ok (.ifCond .ge 5, 3) := by decide +kernel
theorem dX3_curve_4 : decode cX3_curve 4 = .ok (.iconst (-1), 1) := by decide +kernel
theorem dX3_curve_5 : decode cX3_curve 5 = .ok (.ireturn, 1) := by decide +kernel
theorem dX3_curve_6 : decode cX3_curve 6 = .ok (.iconst 0, 1) := by decide +kernel
theorem dX3_curve_7 : decode cX3_curve 7 = .ok (.istore_n 2, 1) := by decide +kernel
theorem dX3_curve_8 : decode cX3_curve 8 = .ok (.iconst 0, 1) := by decide +kernel
theorem dX3_curve_9 : decode cX3_curve 9 = .ok (.istore_n 3, 1) := by decide +kernel
theorem dX3_curve_10 : decode cX3_curve 10 = .ok (.iload_n 3, 1) := by decide +kernel
theorem dX3_curve_11 : decode cX3_curve 11 = .ok (.aload_n 0, 1) := by decide +kernel
theorem dX3_curve_12 : decode cX3_curve 12 = .ok (.getfield 10, 3) := by decide +kernel
theorem dX3_curve_15 : decode cX3_curve 15 = .ok (.getfield 66, 3) := by decide +kernel
theorem dX3_curve_18 : decode cX3_curve 18 = .ok (.if_icmp .ge 33, 3) := by decide +kernel
theorem dX3_curve_21 : decode cX3_curve 21 = .ok (.aload_n 0, 1) := by decide +kernel
theorem dX3_curve_22 : decode cX3_curve 22 = .ok (.getfield 10, 3) := by decide +kernel
theorem dX3_curve_25 : decode cX3_curve 25 = .ok (.iload_n 3, 1) := by decide +kernel
theorem dX3_curve_26 : decode cX3_curve 26 = .ok (.invokevirtual 147, 3) := by decide +kernel
theorem dX3_curve_29 : decode cX3_curve 29 = .ok (.istore 4, 2) := by decide +kernel
theorem dX3_curve_31 : decode cX3_curve 31 = .ok (.iload 4, 2) := by decide +kernel
theorem dX3_curve_33 : decode cX3_curve 33 = .ok (.ifCond .eq 9, 3) := by decide +kernel
theorem dX3_curve_36 : decode cX3_curve 36 = .ok (.iload 4, 2) := by decide +kernel
theorem dX3_curve_38 : decode cX3_curve 38 = .ok (.iload_n 1, 1) := by decide +kernel
theorem dX3_curve_39 : decode cX3_curve 39 = .ok (.if_icmp .le 6, 3) := by decide +kernel
theorem dX3_curve_42 : decode cX3_curve 42 = .ok (.iinc 2 1, 3) := by decide +kernel
theorem dX3_curve_45 : decode cX3_curve 45 = .ok (.iinc 3 1, 3) := by decide +kernel
theorem dX3_curve_48 : decode cX3_curve 48 = .ok (.goto (-38), 3) := by decide +kernel
theorem dX3_curve_51 : decode cX3_curve 51 = .ok (.iload_n 2, 1) := by decide +kernel
theorem dX3_curve_52 : decode cX3_curve 52 = .ok (.ireturn, 1) := by decide +kernel
theorem dX3_hard_0 : decode cX3_hard 0 = .ok (.iload_n 1, 1) := by decide +kernel
theorem dX3_hard_1 : decode cX3_hard 1 = .ok (.invokestatic 87, 3) := by decide +kernel
theorem dX3_hard_4 : decode cX3_hard 4 = .ok (.ifCond .eq 21, 3) := by decide +kernel
theorem dX3_hard_7 : decode cX3_hard 7 = .ok (.iload_n 2, 1) := by decide +kernel
theorem dX3_hard_8 : decode cX3_hard 8 = .ok (.invokestatic 90, 3) := by decide +kernel
theorem dX3_hard_11 : decode cX3_hard 11 = .ok (.ifCond .eq 14, 3) := by decide +kernel
theorem dX3_hard_14 : decode cX3_hard 14 = .ok (.iload_n 3, 1) := by decide +kernel
theorem dX3_hard_15 : decode cX3_hard 15 = .ok (.ifCond .lt 10, 3) := by decide +kernel
theorem dX3_hard_18 : decode cX3_hard 18 = .ok (.iload_n 3, 1) := by decide +kernel
theorem dX3_hard_19 : decode cX3_hard 19 = .ok (.sipush 300, 3) := by decide +kernel
theorem dX3_hard_22 : decode cX3_hard 22 = .ok (.if_icmp .le 5, 3) := by decide +kernel
theorem dX3_hard_25 : decode cX3_hard 25 = .ok (.iconst (-1), 1) := by decide +kernel
theorem dX3_hard_26 : decode cX3_hard 26 = .ok (.ireturn, 1) := by decide +kernel
theorem dX3_hard_27 : decode cX3_hard 27 = .ok (.iload_n 1, 1) := by decide +kernel
theorem dX3_hard_28 : decode cX3_hard 28 = .ok (.bipush 8, 2) := by decide +kernel
theorem dX3_hard_30 : decode cX3_hard 30 = .ok (.if_icmp .ne 6, 3) := by decide +kernel
theorem dX3_hard_33 : decode cX3_hard 33 = .ok (.bipush (-4), 2) := by decide +kernel
theorem dX3_hard_35 : decode cX3_hard 35 = .ok (.ireturn, 1) := by decide +kernel
theorem dX3_hard_36 : decode cX3_hard 36 = .ok (.aload_n 0, 1) := by decide +kernel
theorem dX3_hard_37 : decode cX3_hard 37 = .ok (.getfield 10, 3) := by decide +kernel
theorem dX3_hard_40 : decode cX3_hard 40 = .ok (.iconst 0, 1) := by decide +kernel
theorem dX3_hard_41 : decode cX3_hard 41 = .ok (.putfield 66, 3) := by decide +kernel
theorem dX3_hard_44 : decode cX3_hard 44 = .ok (.aload_n 0, 1) := by decide +kernel
theorem dX3_hard_45 : decode cX3_hard 45 = .ok (.getfield 25, 3) := by decide +kernel
theorem dX3_hard_48 : decode cX3_hard 48 = .ok (.iload_n 1, 1) := by decide +kernel
theorem dX3_hard_49 : decode cX3_hard 49 = .ok (.iload_n 2, 1) := by decide +kernel
theorem dX3_hard_50 : decode cX3_hard 50 = .ok (.invokevirtual 93, 3) := by decide +kernel
theorem dX3_hard_53 : decode cX3_hard 53 = .ok (.iconst 0, 1) := by decide +kernel
theorem dX3_hard_54 : decode cX3_hard 54 = .ok (.istore 4, 2) := by decide +kernel
theorem dX3_hard_56 : decode cX3_hard 56 = .ok (.iload 4, 2) := by decide +kernel
theorem dX3_hard_58 : decode cX3_hard 58 = .ok (.iload_n 3, 1) := by decide +kernel
theorem dX3_hard_59 : decode cX3_hard 59 = .ok (.if_icmp .ge 31, 3) := by decide +kernel
theorem dX3_hard_62 : decode cX3_hard 62 = .ok (.aload_n 0, 1) := by decide +kernel
theorem dX3_hard_63 : decode cX3_hard 63 = .ok (.getfield 10, 3) := by decide +kernel
theorem dX3_hard_66 : decode cX3_hard 66 = .ok (.aload_n 0, 1) := by decide +kernel
theorem dX3_hard_67 : decode cX3_hard 67 = .ok (.getfield 25, 3) := by decide +kernel
theorem dX3_hard_70 : decode cX3_hard 70 = .ok (.invokevirtual 150, 3) := by decide +kernel
theorem dX3_hard_73 : decode cX3_hard 73 = .ok (.invokevirtual 69, 3) := by decide +kernel
theorem dX3_hard_76 : decode cX3_hard 76 = .ok (.aload_n 0, 1) := by decide +kernel
theorem dX3_hard_77 : decode cX3_hard 77 = .ok (.getfield 25, 3) := by decide +kernel
theorem dX3_hard_80 : decode cX3_hard 80 = .ok (.invokevirtual 103, 3) := by decide +kernel
theorem dX3_hard_83 : decode cX3_hard 83 = .ok (.pop, 1) := by decide +kernel
theorem dX3_hard_84 : decode cX3_hard 84 = .ok (.iinc 4 1, 3) := by decide +kernel
theorem dX3_hard_87 : decode cX3_hard 87 = .ok (.goto (-31), 3) := by decide +kernel
theorem dX3_hard_90 : decode cX3_hard 90 = .ok (.aload_n 0, 1) := by decide +kernel
theorem dX3_hard_91 : decode cX3_hard 91 = .ok (.invokevirtual 63, 3) := by decide +kernel
theorem dX3_hard_94 : decode cX3_hard 94 = .ok (.iload_n 3, 1) := by decide +kernel
theorem dX3_hard_95 : decode cX3_hard 95 = .ok (.ireturn, 1) := by decide +kernel
theorem dX3_claim_0 : decode cX3_claim 0 = .ok (.iload_n 1, 1) := by decide +kernel
theorem dX3_claim_1 : decode cX3_claim 1 = .ok (.iconst (-1), 1) := by decide +kernel
theorem dX3_claim_2 : decode cX3_claim 2 = .ok (.if_icmp .eq 12, 3) := by decide +kernel
theorem dX3_claim_5 : decode cX3_claim 5 = .ok (.iload_n 1, 1) := by decide +kernel
theorem dX3_claim_6 : decode cX3_claim 6 = .ok (.invokestatic 56, 3) := by decide +kernel
theorem dX3_claim_9 : decode cX3_claim 9 = .ok (.ifCond .ne 5, 3) := by decide +kernel
theorem dX3_claim_12 : decode cX3_claim 12 = .ok (.iconst (-1), 1) := by decide +kernel
theorem dX3_claim_13 : decode cX3_claim 13 = .ok (.ireturn, 1) := by decide +kernel
theorem dX3_claim_14 : decode cX3_claim 14 = .ok (.aload_n 0, 1) := by decide +kernel
theorem dX3_claim_15 : decode cX3_claim 15 = .ok (.getfield 48, 3) := by decide +kernel
theorem dX3_claim_18 : decode cX3_claim 18 = .ok (.sipush 300, 3) := by decide +kernel
theorem dX3_claim_21 : decode cX3_claim 21 = .ok (.if_icmp .lt 6, 3) := by decide +kernel
theorem dX3_claim_24 : decode cX3_claim 24 = .ok (.bipush (-2), 2) := by decide +kernel
theorem dX3_claim_26 : decode cX3_claim 26 = .ok (.ireturn, 1) := by decide +kernel
theorem dX3_claim_27 : decode cX3_claim 27 = .ok (.aload_n 0, 1) := by decide +kernel
theorem dX3_claim_28 : decode cX3_claim 28 = .ok (.getfield 39, 3) := by decide +kernel
theorem dX3_claim_31 : decode cX3_claim 31 = .ok (.aload_n 0, 1) := by decide +kernel
theorem dX3_claim_32 : decode cX3_claim 32 = .ok (.getfield 48, 3) := by decide +kernel
theorem dX3_claim_35 : decode cX3_claim 35 = .ok (.iload_n 1, 1) := by decide +kernel
theorem dX3_claim_36 : decode cX3_claim 36 = .ok (.iastore, 1) := by decide +kernel
theorem dX3_claim_37 : decode cX3_claim 37 = .ok (.aload_n 0, 1) := by decide +kernel
theorem dX3_claim_38 : decode cX3_claim 38 = .ok (.dup, 1) := by decide +kernel
theorem dX3_claim_39 : decode cX3_claim 39 = .ok (.getfield 48, 3) := by decide +kernel
theorem dX3_claim_42 : decode cX3_claim 42 = .ok (.iconst 1, 1) := by decide +kernel
theorem dX3_claim_43 : decode cX3_claim 43 = .ok (.iadd, 1) := by decide +kernel
theorem dX3_claim_44 : decode cX3_claim 44 = .ok (.putfield 48, 3) := by decide +kernel
theorem dX3_claim_47 : decode cX3_claim 47 = .ok (.aload_n 0, 1) := by decide +kernel
theorem dX3_claim_48 : decode cX3_claim 48 = .ok (.getfield 48, 3) := by decide +kernel
theorem dX3_claim_51 : decode cX3_claim 51 = .ok (.ireturn, 1) := by decide +kernel
theorem dX3_copy_0 : decode cX3_copy 0 = .ok (.aload_n 0, 1) := by decide +kernel
theorem dX3_copy_1 : decode cX3_copy 1 = .ok (.getfield 52, 3) := by decide +kernel
theorem dX3_copy_4 : decode cX3_copy 4 = .ok (.ifCond .ne 6, 3) := by decide +kernel
theorem dX3_copy_7 : decode cX3_copy 7 = .ok (.bipush (-3), 2) := by decide +kernel
theorem dX3_copy_9 : decode cX3_copy 9 = .ok (.ireturn, 1) := by decide +kernel
theorem dX3_copy_10 : decode cX3_copy 10 = .ok (.aload_n 0, 1) := by decide +kernel
theorem dX3_copy_11 : decode cX3_copy 11 = .ok (.getfield 45, 3) := by decide +kernel
theorem dX3_copy_14 : decode cX3_copy 14 = .ok (.iconst 0, 1) := by decide +kernel
theorem dX3_copy_15 : decode cX3_copy 15 = .ok (.aload_n 0, 1) := by decide +kernel
theorem dX3_copy_16 : decode cX3_copy 16 = .ok (.getfield 39, 3) := by decide +kernel
theorem dX3_copy_19 : decode cX3_copy 19 = .ok (.iconst 0, 1) := by decide +kernel
theorem dX3_copy_20 : decode cX3_copy 20 = .ok (.aload_n 0, 1) := by decide +kernel
theorem dX3_copy_21 : decode cX3_copy 21 = .ok (.getfield 10, 3) := by decide +kernel
theorem dX3_copy_24 : decode cX3_copy 24 = .ok (.getfield 66, 3) := by decide +kernel
theorem dX3_copy_27 : decode cX3_copy 27 = .ok (.invokestatic 153, 3) := by decide +kernel
theorem dX3_copy_30 : decode cX3_copy 30 = .ok (.aload_n 0, 1) := by decide +kernel
theorem dX3_copy_31 : decode cX3_copy 31 = .ok (.aload_n 0, 1) := by decide +kernel
theorem dX3_copy_32 : decode cX3_copy 32 = .ok (.getfield 10, 3) := by decide +kernel
theorem dX3_copy_35 : decode cX3_copy 35 = .ok (.getfield 66, 3) := by decide +kernel
theorem dX3_copy_38 : decode cX3_copy 38 = .ok (.putfield 48, 3) := by decide +kernel
theorem dX3_copy_41 : decode cX3_copy 41 = .ok (.aload_n 0, 1) := by decide +kernel
theorem dX3_copy_42 : decode cX3_copy 42 = .ok (.getfield 48, 3) := by decide +kernel
theorem dX3_copy_45 : decode cX3_copy 45 = .ok (.ireturn, 1) := by decide +kernel
theorem dX3_unclaim_0 : decode cX3_unclaim 0 = .ok (.aload_n 0, 1) := by decide +kernel
theorem dX3_unclaim_1 : decode cX3_unclaim 1 = .ok (.getfield 48, 3) := by decide +kernel
theorem dX3_unclaim_4 : decode cX3_unclaim 4 = .ok (.istore_n 1, 1) := by decide +kernel
theorem dX3_unclaim_5 : decode cX3_unclaim 5 = .ok (.aload_n 0, 1) := by decide +kernel
theorem dX3_unclaim_6 : decode cX3_unclaim 6 = .ok (.iconst 0, 1) := by decide +kernel
theorem dX3_unclaim_7 : decode cX3_unclaim 7 = .ok (.putfield 48, 3) := by decide +kernel
theorem dX3_unclaim_10 : decode cX3_unclaim 10 = .ok (.iload_n 1, 1) := by decide +kernel
theorem dX3_unclaim_11 : decode cX3_unclaim 11 = .ok (.ireturn, 1) := by decide +kernel
theorem dX3_cost_0 : decode cX3_cost 0 = .ok (.iload_n 1, 1) := by decide +kernel
theorem dX3_cost_1 : decode cX3_cost 1 = .ok (.invokestatic 90, 3) := by decide +kernel
theorem dX3_cost_4 : decode cX3_cost 4 = .ok (.ifCond .ne 5, 3) := by decide +kernel
theorem dX3_cost_7 : decode cX3_cost 7 = .ok (.iconst (-1), 1) := by decide +kernel
theorem dX3_cost_8 : decode cX3_cost 8 = .ok (.ireturn, 1) := by decide +kernel
theorem dX3_cost_9 : decode cX3_cost 9 = .ok (.iconst 0, 1) := by decide +kernel
theorem dX3_cost_10 : decode cX3_cost 10 = .ok (.istore_n 2, 1) := by decide +kernel
theorem dX3_cost_11 : decode cX3_cost 11 = .ok (.iconst 0, 1) := by decide +kernel
theorem dX3_cost_12 : decode cX3_cost 12 = .ok (.istore_n 3, 1) := by decide +kernel
theorem dX3_cost_13 : decode cX3_cost 13 = .ok (.iconst 0, 1) := by decide +kernel
theorem dX3_cost_14 : decode cX3_cost 14 = .ok (.istore 4, 2) := by decide +kernel
theorem dX3_cost_16 : decode cX3_cost 16 = .ok (.iload 4, 2) := by decide +kernel
theorem dX3_cost_18 : decode cX3_cost 18 = .ok (.aload_n 0, 1) := by decide +kernel
theorem dX3_cost_19 : decode cX3_cost 19 = .ok (.getfield 10, 3) := by decide +kernel
theorem dX3_cost_22 : decode cX3_cost 22 = .ok (.getfield 66, 3) := by decide +kernel
theorem dX3_cost_25 : decode cX3_cost 25 = .ok (.if_icmp .ge 104, 3) := by decide +kernel
theorem dX3_cost_28 : decode cX3_cost 28 = .ok (.iconst 1, 1) := by decide +kernel
theorem dX3_cost_29 : decode cX3_cost 29 = .ok (.aload_n 0, 1) := by decide +kernel
theorem dX3_cost_30 : decode cX3_cost 30 = .ok (.getfield 10, 3) := by decide +kernel
theorem dX3_cost_33 : decode cX3_cost 33 = .ok (.getfield 77, 3) := by decide +kernel
theorem dX3_cost_36 : decode cX3_cost 36 = .ok (.iload 4, 2) := by decide +kernel
theorem dX3_cost_38 : decode cX3_cost 38 = .ok (.iaload, 1) := by decide +kernel
theorem dX3_cost_39 : decode cX3_cost 39 = .ok (.ishl, 1) := by decide +kernel
theorem dX3_cost_40 : decode cX3_cost 40 = .ok (.istore 5, 2) := by decide +kernel
theorem dX3_cost_42 : decode cX3_cost 42 = .ok (.iload 4, 2) := by decide +kernel
theorem dX3_cost_44 : decode cX3_cost 44 = .ok (.aload_n 0, 1) := by decide +kernel
theorem dX3_cost_45 : decode cX3_cost 45 = .ok (.getfield 48, 3) := by decide +kernel
theorem dX3_cost_48 : decode cX3_cost 48 = .ok (.if_icmp .ge 20, 3) := by decide +kernel
theorem dX3_cost_51 : decode cX3_cost 51 = .ok (.aload_n 0, 1) := by decide +kernel
theorem dX3_cost_52 : decode cX3_cost 52 = .ok (.getfield 39, 3) := by decide +kernel
theorem dX3_cost_55 : decode cX3_cost 55 = .ok (.iload 4, 2) := by decide +kernel
theorem dX3_cost_57 : decode cX3_cost 57 = .ok (.iaload, 1) := by decide +kernel
theorem dX3_cost_58 : decode cX3_cost 58 = .ok (.iload_n 2, 1) := by decide +kernel
theorem dX3_cost_59 : decode cX3_cost 59 = .ok (.iload 5, 2) := by decide +kernel
theorem dX3_cost_61 : decode cX3_cost 61 = .ok (.iload_n 1, 1) := by decide +kernel
theorem dX3_cost_62 : decode cX3_cost 62 = .ok (.invokestatic 159, 3) := by decide +kernel
theorem dX3_cost_65 : decode cX3_cost 65 = .ok (.ifCond .ne 9, 3) := by decide +kernel
theorem dX3_cost_68 : decode cX3_cost 68 = .ok (.bipush (-2), 2) := by decide +kernel
theorem dX3_cost_70 : decode cX3_cost 70 = .ok (.iload 4, 2) := by decide +kernel
theorem dX3_cost_72 : decode cX3_cost 72 = .ok (.isub, 1) := by decide +kernel
theorem dX3_cost_73 : decode cX3_cost 73 = .ok (.ireturn, 1) := by decide +kernel
theorem dX3_cost_74 : decode cX3_cost 74 = .ok (.iload_n 2, 1) := by decide +kernel
theorem dX3_cost_75 : decode cX3_cost 75 = .ok (.iload 5, 2) := by decide +kernel
theorem dX3_cost_77 : decode cX3_cost 77 = .ok (.iand, 1) := by decide +kernel
theorem dX3_cost_78 : decode cX3_cost 78 = .ok (.ifCond .ne 15, 3) := by decide +kernel
theorem dX3_cost_81 : decode cX3_cost 81 = .ok (.iload_n 3, 1) := by decide +kernel
theorem dX3_cost_82 : decode cX3_cost 82 = .ok (.aload_n 0, 1) := by decide +kernel
theorem dX3_cost_83 : decode cX3_cost 83 = .ok (.getfield 10, 3) := by decide +kernel
theorem dX3_cost_86 : decode cX3_cost 86 = .ok (.iload 4, 2) := by decide +kernel
theorem dX3_cost_88 : decode cX3_cost 88 = .ok (.invokevirtual 109, 3) := by decide +kernel
theorem dX3_cost_91 : decode cX3_cost 91 = .ok (.iadd, 1) := by decide +kernel
theorem dX3_cost_92 : decode cX3_cost 92 = .ok (.istore_n 3, 1) := by decide +kernel
theorem dX3_cost_93 : decode cX3_cost 93 = .ok (.aload_n 0, 1) := by decide +kernel
theorem dX3_cost_94 : decode cX3_cost 94 = .ok (.getfield 39, 3) := by decide +kernel
theorem dX3_cost_97 : decode cX3_cost 97 = .ok (.iload 4, 2) := by decide +kernel
theorem dX3_cost_99 : decode cX3_cost 99 = .ok (.iaload, 1) := by decide +kernel
theorem dX3_cost_100 : decode cX3_cost 100 = .ok (.iconst (-1), 1) := by decide +kernel
theorem dX3_cost_101 : decode cX3_cost 101 = .ok (.if_icmp .eq 17, 3) := by decide +kernel
theorem dX3_cost_104 : decode cX3_cost 104 = .ok (.iload_n 2, 1) := by decide +kernel
theorem dX3_cost_105 : decode cX3_cost 105 = .ok (.iconst 1, 1) := by decide +kernel
theorem dX3_cost_106 : decode cX3_cost 106 = .ok (.aload_n 0, 1) := by decide +kernel
theorem dX3_cost_107 : decode cX3_cost 107 = .ok (.getfield 39, 3) := by decide +kernel
theorem dX3_cost_110 : decode cX3_cost 110 = .ok (.iload 4, 2) := by decide +kernel
theorem dX3_cost_112 : decode cX3_cost 112 = .ok (.iaload, 1) := by decide +kernel
theorem dX3_cost_113 : decode cX3_cost 113 = .ok (.ishl, 1) := by decide +kernel
theorem dX3_cost_114 : decode cX3_cost 114 = .ok (.iconst (-1), 1) := by decide +kernel
theorem dX3_cost_115 : decode cX3_cost 115 = .ok (.ixor, 1) := by decide +kernel
theorem dX3_cost_116 : decode cX3_cost 116 = .ok (.iand, 1) := by decide +kernel
theorem dX3_cost_117 : decode cX3_cost 117 = .ok (.istore_n 2, 1) := by decide +kernel
theorem dX3_cost_118 : decode cX3_cost 118 = .ok (.iload_n 2, 1) := by decide +kernel
theorem dX3_cost_119 : decode cX3_cost 119 = .ok (.iload 5, 2) := by decide +kernel
theorem dX3_cost_121 : decode cX3_cost 121 = .ok (.ior, 1) := by decide +kernel
theorem dX3_cost_122 : decode cX3_cost 122 = .ok (.istore_n 2, 1) := by decide +kernel
theorem dX3_cost_123 : decode cX3_cost 123 = .ok (.iinc 4 1, 3) := by decide +kernel
theorem dX3_cost_126 : decode cX3_cost 126 = .ok (.goto (-110), 3) := by decide +kernel
theorem dX3_cost_129 : decode cX3_cost 129 = .ok (.aload_n 0, 1) := by decide +kernel
theorem dX3_cost_130 : decode cX3_cost 130 = .ok (.getfield 48, 3) := by decide +kernel
theorem dX3_cost_133 : decode cX3_cost 133 = .ok (.aload_n 0, 1) := by decide +kernel
theorem dX3_cost_134 : decode cX3_cost 134 = .ok (.getfield 10, 3) := by decide +kernel
theorem dX3_cost_137 : decode cX3_cost 137 = .ok (.getfield 66, 3) := by decide +kernel
theorem dX3_cost_140 : decode cX3_cost 140 = .ok (.if_icmp .le 16, 3) := by decide +kernel
theorem dX3_cost_143 : decode cX3_cost 143 = .ok (.bipush (-2), 2) := by decide +kernel
theorem dX3_cost_145 : decode cX3_cost 145 = .ok (.aload_n 0, 1) := by decide +kernel
theorem dX3_cost_146 : decode cX3_cost 146 = .ok (.getfield 10, 3) := by decide +kernel
theorem dX3_cost_149 : decode cX3_cost 149 = .ok (.getfield 66, 3) := by decide +kernel
theorem dX3_cost_152 : decode cX3_cost 152 = .ok (.isub, 1) := by decide +kernel
theorem dX3_cost_153 : decode cX3_cost 153 = .ok (.goto 4, 3) := by decide +kernel
theorem dX3_cost_156 : decode cX3_cost 156 = .ok (.iload_n 3, 1) := by decide +kernel
theorem dX3_cost_157 : decode cX3_cost 157 = .ok (.ireturn, 1) := by decide +kernel
theorem dX3_check_0 : decode cX3_check 0 = .ok (.iload_n 1, 1) := by decide +kernel
theorem dX3_check_1 : decode cX3_check 1 = .ok (.invokestatic 87, 3) := by decide +kernel
theorem dX3_check_4 : decode cX3_check 4 = .ok (.ifCond .eq 10, 3) := by decide +kernel
theorem dX3_check_7 : decode cX3_check 7 = .ok (.iload_n 2, 1) := by decide +kernel
theorem dX3_check_8 : decode cX3_check 8 = .ok (.invokestatic 90, 3) := by decide +kernel
theorem dX3_check_11 : decode cX3_check 11 = .ok (.ifCond .ne 6, 3) := by decide +kernel
theorem dX3_check_14 : decode cX3_check 14 = .ok (.bipush (-2), 2) := by decide +kernel
theorem dX3_check_16 : decode cX3_check 16 = .ok (.ireturn, 1) := by decide +kernel
theorem dX3_check_17 : decode cX3_check 17 = .ok (.aload_n 0, 1) := by decide +kernel
theorem dX3_check_18 : decode cX3_check 18 = .ok (.getfield 25, 3) := by decide +kernel
theorem dX3_check_21 : decode cX3_check 21 = .ok (.iload_n 1, 1) := by decide +kernel
theorem dX3_check_22 : decode cX3_check 22 = .ok (.iload_n 2, 1) := by decide +kernel
theorem dX3_check_23 : decode cX3_check 23 = .ok (.invokevirtual 93, 3) := by decide +kernel
theorem dX3_check_26 : decode cX3_check 26 = .ok (.iconst 0, 1) := by decide +kernel
theorem dX3_check_27 : decode cX3_check 27 = .ok (.istore_n 3, 1) := by decide +kernel
theorem dX3_check_28 : decode cX3_check 28 = .ok (.iload_n 3, 1) := by decide +kernel
theorem dX3_check_29 : decode cX3_check 29 = .ok (.aload_n 0, 1) := by decide +kernel
theorem dX3_check_30 : decode cX3_check 30 = .ok (.getfield 10, 3) := by decide +kernel
theorem dX3_check_33 : decode cX3_check 33 = .ok (.getfield 66, 3) := by decide +kernel
theorem dX3_check_36 : decode cX3_check 36 = .ok (.if_icmp .ge 35, 3) := by decide +kernel
theorem dX3_check_39 : decode cX3_check 39 = .ok (.iload_n 3, 1) := by decide +kernel
theorem dX3_check_40 : decode cX3_check 40 = .ok (.aload_n 0, 1) := by decide +kernel
theorem dX3_check_41 : decode cX3_check 41 = .ok (.getfield 48, 3) := by decide +kernel
theorem dX3_check_44 : decode cX3_check 44 = .ok (.if_icmp .ge 19, 3) := by decide +kernel
theorem dX3_check_47 : decode cX3_check 47 = .ok (.aload_n 0, 1) := by decide +kernel
theorem dX3_check_48 : decode cX3_check 48 = .ok (.getfield 39, 3) := by decide +kernel
theorem dX3_check_51 : decode cX3_check 51 = .ok (.iload_n 3, 1) := by decide +kernel
theorem dX3_check_52 : decode cX3_check 52 = .ok (.iaload, 1) := by decide +kernel
theorem dX3_check_53 : decode cX3_check 53 = .ok (.aload_n 0, 1) := by decide +kernel
theorem dX3_check_54 : decode cX3_check 54 = .ok (.getfield 25, 3) := by decide +kernel
theorem dX3_check_57 : decode cX3_check 57 = .ok (.invokevirtual 103, 3) := by decide +kernel
theorem dX3_check_60 : decode cX3_check 60 = .ok (.if_icmp .eq 5, 3) := by decide +kernel
theorem dX3_check_63 : decode cX3_check 63 = .ok (.iload_n 3, 1) := by decide +kernel
theorem dX3_check_64 : decode cX3_check 64 = .ok (.ireturn, 1) := by decide +kernel
theorem dX3_check_65 : decode cX3_check 65 = .ok (.iinc 3 1, 3) := by decide +kernel
theorem dX3_check_68 : decode cX3_check 68 = .ok (.goto (-40), 3) := by decide +kernel
theorem dX3_check_71 : decode cX3_check 71 = .ok (.aload_n 0, 1) := by decide +kernel
theorem dX3_check_72 : decode cX3_check 72 = .ok (.getfield 48, 3) := by decide +kernel
theorem dX3_check_75 : decode cX3_check 75 = .ok (.aload_n 0, 1) := by decide +kernel
theorem dX3_check_76 : decode cX3_check 76 = .ok (.getfield 10, 3) := by decide +kernel
theorem dX3_check_79 : decode cX3_check 79 = .ok (.getfield 66, 3) := by decide +kernel
theorem dX3_check_82 : decode cX3_check 82 = .ok (.if_icmp .le 13, 3) := by decide +kernel
theorem dX3_check_85 : decode cX3_check 85 = .ok (.aload_n 0, 1) := by decide +kernel
theorem dX3_check_86 : decode cX3_check 86 = .ok (.getfield 10, 3) := by decide +kernel
theorem dX3_check_89 : decode cX3_check 89 = .ok (.getfield 66, 3) := by decide +kernel
theorem dX3_check_92 : decode cX3_check 92 = .ok (.goto 4, 3) := by decide +kernel
theorem dX3_check_95 : decode cX3_check 95 = .ok (.iconst (-1), 1) := by decide +kernel
theorem dX3_check_96 : decode cX3_check 96 = .ok (.ireturn, 1) := by decide +kernel
theorem dX3_forget_0 : decode cX3_forget 0 = .ok (.aload_n 0, 1) := by decide +kernel
theorem dX3_forget_1 : decode cX3_forget 1 = .ok (.iconst 0, 1) := by decide +kernel
theorem dX3_forget_2 : decode cX3_forget 2 = .ok (.putfield 52, 3) := by decide +kernel
theorem dX3_forget_5 : decode cX3_forget 5 = .ok (.aload_n 0, 1) := by decide +kernel
theorem dX3_forget_6 : decode cX3_forget 6 = .ok (.getfield 31, 3) := by decide +kernel
theorem dX3_forget_9 : decode cX3_forget 9 = .ok (.iconst 0, 1) := by decide +kernel
theorem dX3_forget_10 : decode cX3_forget 10 = .ok (.putfield 163, 3) := by decide +kernel
theorem dX3_forget_13 : decode cX3_forget 13 = .ok (.return_, 1) := by decide +kernel
theorem dX3_isThing_0 : decode cX3_isThing 0 = .ok (.iload_n 0, 1) := by decide +kernel
theorem dX3_isThing_1 : decode cX3_isThing 1 = .ok (.ifCond .lt 13, 3) := by decide +kernel
theorem dX3_isThing_4 : decode cX3_isThing 4 = .ok (.iload_n 0, 1) := by decide +kernel
theorem dX3_isThing_5 : decode cX3_isThing 5 = .ok (.bipush 16, 2) := by decide +kernel
theorem dX3_isThing_7 : decode cX3_isThing 7 = .ok (.if_icmp .ge 7, 3) := by decide +kernel
theorem dX3_isThing_10 : decode cX3_isThing 10 = .ok (.iconst 1, 1) := by decide +kernel
theorem dX3_isThing_11 : decode cX3_isThing 11 = .ok (.goto 4, 3) := by decide +kernel
theorem dX3_isThing_14 : decode cX3_isThing 14 = .ok (.iconst 0, 1) := by decide +kernel
theorem dX3_isThing_15 : decode cX3_isThing 15 = .ok (.ireturn, 1) := by decide +kernel
theorem dX3_isWay_0 : decode cX3_isWay 0 = .ok (.iload_n 0, 1) := by decide +kernel
theorem dX3_isWay_1 : decode cX3_isWay 1 = .ok (.ifCond .lt 13, 3) := by decide +kernel
theorem dX3_isWay_4 : decode cX3_isWay 4 = .ok (.iload_n 0, 1) := by decide +kernel
theorem dX3_isWay_5 : decode cX3_isWay 5 = .ok (.bipush 8, 2) := by decide +kernel
theorem dX3_isWay_7 : decode cX3_isWay 7 = .ok (.if_icmp .gt 7, 3) := by decide +kernel
theorem dX3_isWay_10 : decode cX3_isWay 10 = .ok (.iconst 1, 1) := by decide +kernel
theorem dX3_isWay_11 : decode cX3_isWay 11 = .ok (.goto 4, 3) := by decide +kernel
theorem dX3_isWay_14 : decode cX3_isWay 14 = .ok (.iconst 0, 1) := by decide +kernel
theorem dX3_isWay_15 : decode cX3_isWay 15 = .ok (.ireturn, 1) := by decide +kernel
theorem dX3_isPlaces_0 : decode cX3_isPlaces 0 = .ok (.iload_n 0, 1) := by decide +kernel
theorem dX3_isPlaces_1 : decode cX3_isPlaces 1 = .ok (.iconst 1, 1) := by decide +kernel
theorem dX3_isPlaces_2 : decode cX3_isPlaces 2 = .ok (.if_icmp .lt 13, 3) := by decide +kernel
theorem dX3_isPlaces_5 : decode cX3_isPlaces 5 = .ok (.iload_n 0, 1) := by decide +kernel
theorem dX3_isPlaces_6 : decode cX3_isPlaces 6 = .ok (.bipush 8, 2) := by decide +kernel
theorem dX3_isPlaces_8 : decode cX3_isPlaces 8 = .ok (.if_icmp .gt 7, 3) := by decide +kernel
theorem dX3_isPlaces_11 : decode cX3_isPlaces 11 = .ok (.iconst 1, 1) := by decide +kernel
theorem dX3_isPlaces_12 : decode cX3_isPlaces 12 = .ok (.goto 4, 3) := by decide +kernel
theorem dX3_isPlaces_15 : decode cX3_isPlaces 15 = .ok (.iconst 0, 1) := by decide +kernel
theorem dX3_isPlaces_16 : decode cX3_isPlaces 16 = .ok (.ireturn, 1) := by decide +kernel
theorem dX3_canGo_0 : decode cX3_canGo 0 = .ok (.iload_n 1, 1) := by decide +kernel
theorem dX3_canGo_1 : decode cX3_canGo 1 = .ok (.iload_n 2, 1) := by decide +kernel
theorem dX3_canGo_2 : decode cX3_canGo 2 = .ok (.iand, 1) := by decide +kernel
theorem dX3_canGo_3 : decode cX3_canGo 3 = .ok (.ifCond .ne 15, 3) := by decide +kernel
theorem dX3_canGo_6 : decode cX3_canGo 6 = .ok (.iload_n 1, 1) := by decide +kernel
theorem dX3_canGo_7 : decode cX3_canGo 7 = .ok (.invokestatic 166, 3) := by decide +kernel
theorem dX3_canGo_10 : decode cX3_canGo 10 = .ok (.iload_n 3, 1) := by decide +kernel
theorem dX3_canGo_11 : decode cX3_canGo 11 = .ok (.if_icmp .lt 7, 3) := by decide +kernel
theorem dX3_canGo_14 : decode cX3_canGo 14 = .ok (.iconst 1, 1) := by decide +kernel
theorem dX3_canGo_15 : decode cX3_canGo 15 = .ok (.goto 4, 3) := by decide +kernel
theorem dX3_canGo_18 : decode cX3_canGo 18 = .ok (.iconst 0, 1) := by decide +kernel
theorem dX3_canGo_19 : decode cX3_canGo 19 = .ok (.istore 4, 2) := by decide +kernel
theorem dX3_canGo_21 : decode cX3_canGo 21 = .ok (.iload 4, 2) := by decide +kernel
theorem dX3_canGo_23 : decode cX3_canGo 23 = .ok (.ifCond .ne 14, 3) := by decide +kernel
theorem dX3_canGo_26 : decode cX3_canGo 26 = .ok (.iload_n 0, 1) := by decide +kernel
theorem dX3_canGo_27 : decode cX3_canGo 27 = .ok (.iconst (-1), 1) := by decide +kernel
theorem dX3_canGo_28 : decode cX3_canGo 28 = .ok (.if_icmp .ne 7, 3) := by decide +kernel
theorem dX3_canGo_31 : decode cX3_canGo 31 = .ok (.iconst 1, 1) := by decide +kernel
theorem dX3_canGo_32 : decode cX3_canGo 32 = .ok (.goto 4, 3) := by decide +kernel
theorem dX3_canGo_35 : decode cX3_canGo 35 = .ok (.iconst 0, 1) := by decide +kernel
theorem dX3_canGo_36 : decode cX3_canGo 36 = .ok (.ireturn, 1) := by decide +kernel
theorem dX3_canGo_37 : decode cX3_canGo 37 = .ok (.iload_n 0, 1) := by decide +kernel
theorem dX3_canGo_38 : decode cX3_canGo 38 = .ok (.invokestatic 56, 3) := by decide +kernel
theorem dX3_canGo_41 : decode cX3_canGo 41 = .ok (.ifCond .eq 15, 3) := by decide +kernel
theorem dX3_canGo_44 : decode cX3_canGo 44 = .ok (.iload_n 1, 1) := by decide +kernel
theorem dX3_canGo_45 : decode cX3_canGo 45 = .ok (.iconst 1, 1) := by decide +kernel
theorem dX3_canGo_46 : decode cX3_canGo 46 = .ok (.iload_n 0, 1) := by decide +kernel
theorem dX3_canGo_47 : decode cX3_canGo 47 = .ok (.ishl, 1) := by decide +kernel
theorem dX3_canGo_48 : decode cX3_canGo 48 = .ok (.iand, 1) := by decide +kernel
theorem dX3_canGo_49 : decode cX3_canGo 49 = .ok (.ifCond .eq 7, 3) := by decide +kernel
theorem dX3_canGo_52 : decode cX3_canGo 52 = .ok (.iconst 1, 1) := by decide +kernel
theorem dX3_canGo_53 : decode cX3_canGo 53 = .ok (.goto 4, 3) := by decide +kernel
theorem dX3_canGo_56 : decode cX3_canGo 56 = .ok (.iconst 0, 1) := by decide +kernel
theorem dX3_canGo_57 : decode cX3_canGo 57 = .ok (.ireturn, 1) := by decide +kernel
