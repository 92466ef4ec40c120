theorem dX4_serve_78 : decode cX4_serve 78 = .ok (.istore_n 3, 1) := by decide +kernel
theorem dX4_serve_79 : decode cX4_serve 79 = .ok (.iinc 4 1, 3) := by decide +kernel
theorem dX4_serve_82 : decode cX4_serve 82 = .ok (.goto (-49), 3) := by decide +kernel
theorem dX4_serve_85 : decode cX4_serve 85 = .ok (.aload_n 0, 1) := by decide +kernel
theorem dX4_serve_86 : decode cX4_serve 86 = .ok (.iconst 1, 1) := by decide +kernel
theorem dX4_serve_87 : decode cX4_serve 87 = .ok (.putfield 81, 3) := by decide +kernel
theorem dX4_serve_90 : decode cX4_serve 90 = .ok (.aload_n 0, 1) := by decide +kernel
theorem dX4_serve_91 : decode cX4_serve 91 = .ok (.iload_n 1, 1) := by decide +kernel
theorem dX4_serve_92 : decode cX4_serve 92 = .ok (.putfield 190, 3) := by decide +kernel
theorem dX4_serve_95 : decode cX4_serve 95 = .ok (.aload_n 0, 1) := by decide +kernel
theorem dX4_serve_96 : decode cX4_serve 96 = .ok (.iload_n 2, 1) := by decide +kernel
theorem dX4_serve_97 : decode cX4_serve 97 = .ok (.putfield 193, 3) := by decide +kernel
theorem dX4_serve_100 : decode cX4_serve 100 = .ok (.iload_n 3, 1) := by decide +kernel
theorem dX4_serve_101 : decode cX4_serve 101 = .ok (.ireturn, 1) := by decide +kernel
theorem dX4_paid_0 : decode cX4_paid 0 = .ok (.aload_n 0, 1) := by decide +kernel
theorem dX4_paid_1 : decode cX4_paid 1 = .ok (.getfield 81, 3) := by decide +kernel
theorem dX4_paid_4 : decode cX4_paid 4 = .ok (.ifCond .ne 6, 3) := by decide +kernel
theorem dX4_paid_7 : decode cX4_paid 7 = .ok (.bipush (-3), 2) := by decide +kernel
theorem dX4_paid_9 : decode cX4_paid 9 = .ok (.ireturn, 1) := by decide +kernel
theorem dX4_paid_10 : decode cX4_paid 10 = .ok (.iconst 0, 1) := by decide +kernel
theorem dX4_paid_11 : decode cX4_paid 11 = .ok (.istore_n 1, 1) := by decide +kernel
theorem dX4_paid_12 : decode cX4_paid 12 = .ok (.iconst 0, 1) := by decide +kernel
theorem dX4_paid_13 : decode cX4_paid 13 = .ok (.istore_n 2, 1) := by decide +kernel
theorem dX4_paid_14 : decode cX4_paid 14 = .ok (.iload_n 2, 1) := by decide +kernel
theorem dX4_paid_15 : decode cX4_paid 15 = .ok (.aload_n 0, 1) := by decide +kernel
theorem dX4_paid_16 : decode cX4_paid 16 = .ok (.getfield 73, 3) := by decide +kernel
theorem dX4_paid_19 : decode cX4_paid 19 = .ok (.if_icmp .ge 37, 3) := by decide +kernel
theorem dX4_paid_22 : decode cX4_paid 22 = .ok (.iload_n 1, 1) := by decide +kernel
theorem dX4_paid_23 : decode cX4_paid 23 = .ok (.aload_n 0, 1) := by decide +kernel
theorem dX4_paid_24 : decode cX4_paid 24 = .ok (.getfield 16, 3) := by decide +kernel
theorem dX4_paid_27 : decode cX4_paid 27 = .ok (.iload_n 2, 1) := by decide +kernel
theorem dX4_paid_28 : decode cX4_paid 28 = .ok (.iaload, 1) := by decide +kernel
theorem dX4_paid_29 : decode cX4_paid 29 = .ok (.iconst 1, 1) := by decide +kernel
theorem dX4_paid_30 : decode cX4_paid 30 = .ok (.if_icmp .ne 7, 3) := by decide +kernel
theorem dX4_paid_33 : decode cX4_paid 33 = .ok (.iconst 0, 1) := by decide +kernel
theorem dX4_paid_34 : decode cX4_paid 34 = .ok (.goto 14, 3) := by decide +kernel
theorem dX4_paid_37 : decode cX4_paid 37 = .ok (.aload_n 0, 1) := by decide +kernel
theorem dX4_paid_38 : decode cX4_paid 38 = .ok (.getfield 7, 3) := by decide +kernel
theorem dX4_paid_41 : decode cX4_paid 41 = .ok (.aload_n 0, 1) := by decide +kernel
theorem dX4_paid_42 : decode cX4_paid 42 = .ok (.getfield 13, 3) := by decide +kernel
theorem dX4_paid_45 : decode cX4_paid 45 = .ok (.iload_n 2, 1) := by decide +kernel
theorem dX4_paid_46 : decode cX4_paid 46 = .ok (.iaload, 1) := by decide +kernel
theorem dX4_paid_47 : decode cX4_paid 47 = .ok (.iaload, 1) := by decide +kernel
theorem dX4_paid_48 : decode cX4_paid 48 = .ok (.iadd, 1) := by decide +kernel
theorem dX4_paid_49 : decode cX4_paid 49 = .ok (.istore_n 1, 1) := by decide +kernel
theorem dX4_paid_50 : decode cX4_paid 50 = .ok (.iinc 2 1, 3) := by decide +kernel
theorem dX4_paid_53 : decode cX4_paid 53 = .ok (.goto (-39), 3) := by decide +kernel
theorem dX4_paid_56 : decode cX4_paid 56 = .ok (.iload_n 1, 1) := by decide +kernel
theorem dX4_paid_57 : decode cX4_paid 57 = .ok (.ireturn, 1) := by decide +kernel
theorem dX4_hit__0 : decode cX4_hit_ 0 = .ok (.aload_n 0, 1) := by decide +kernel
theorem dX4_hit__1 : decode cX4_hit_ 1 = .ok (.getfield 81, 3) := by decide +kernel
theorem dX4_hit__4 : decode cX4_hit_ 4 = .ok (.ifCond .ne 8, 3) := by decide +kernel
theorem dX4_hit__7 : decode cX4_hit_ 7 = .ok (.bipush (-3), 2) := by decide +kernel
theorem dX4_hit__9 : decode cX4_hit_ 9 = .ok (.goto 21, 3) := by decide +kernel
theorem dX4_hit__12 : decode cX4_hit_ 12 = .ok (.aload_n 0, 1) := by decide +kernel
theorem dX4_hit__13 : decode cX4_hit_ 13 = .ok (.iload_n 1, 1) := by decide +kernel
theorem dX4_hit__14 : decode cX4_hit_ 14 = .ok (.invokevirtual 90, 3) := by decide +kernel
theorem dX4_hit__17 : decode cX4_hit_ 17 = .ok (.ifCond .eq 12, 3) := by decide +kernel
theorem dX4_hit__20 : decode cX4_hit_ 20 = .ok (.aload_n 0, 1) := by decide +kernel
theorem dX4_hit__21 : decode cX4_hit_ 21 = .ok (.getfield 16, 3) := by decide +kernel
theorem dX4_hit__24 : decode cX4_hit_ 24 = .ok (.iload_n 1, 1) := by decide +kernel
theorem dX4_hit__25 : decode cX4_hit_ 25 = .ok (.iaload, 1) := by decide +kernel
theorem dX4_hit__26 : decode cX4_hit_ 26 = .ok (.goto 4, 3) := by decide +kernel
theorem dX4_hit__29 : decode cX4_hit_ 29 = .ok (.iconst (-1), 1) := by decide +kernel
theorem dX4_hit__30 : decode cX4_hit_ 30 = .ok (.ireturn, 1) := by decide +kernel
theorem dX4_gone_0 : decode cX4_gone 0 = .ok (.aload_n 0, 1) := by decide +kernel
theorem dX4_gone_1 : decode cX4_gone 1 = .ok (.getfield 81, 3) := by decide +kernel
theorem dX4_gone_4 : decode cX4_gone 4 = .ok (.ifCond .eq 20, 3) := by decide +kernel
theorem dX4_gone_7 : decode cX4_gone 7 = .ok (.aload_n 0, 1) := by decide +kernel
theorem dX4_gone_8 : decode cX4_gone 8 = .ok (.iload_n 1, 1) := by decide +kernel
theorem dX4_gone_9 : decode cX4_gone 9 = .ok (.invokevirtual 90, 3) := by decide +kernel
theorem dX4_gone_12 : decode cX4_gone 12 = .ok (.ifCond .eq 12, 3) := by decide +kernel
theorem dX4_gone_15 : decode cX4_gone 15 = .ok (.aload_n 0, 1) := by decide +kernel
theorem dX4_gone_16 : decode cX4_gone 16 = .ok (.getfield 19, 3) := by decide +kernel
theorem dX4_gone_19 : decode cX4_gone 19 = .ok (.iload_n 1, 1) := by decide +kernel
theorem dX4_gone_20 : decode cX4_gone 20 = .ok (.iaload, 1) := by decide +kernel
theorem dX4_gone_21 : decode cX4_gone 21 = .ok (.goto 4, 3) := by decide +kernel
theorem dX4_gone_24 : decode cX4_gone 24 = .ok (.iconst (-1), 1) := by decide +kernel
theorem dX4_gone_25 : decode cX4_gone 25 = .ok (.ireturn, 1) := by decide +kernel
theorem dX4_isOfParts_0 : decode cX4_isOfParts 0 = .ok (.aload_n 0, 1) := by decide +kernel
theorem dX4_isOfParts_1 : decode cX4_isOfParts 1 = .ok (.getfield 190, 3) := by decide +kernel
theorem dX4_isOfParts_4 : decode cX4_isOfParts 4 = .ok (.iconst 5, 1) := by decide +kernel
theorem dX4_isOfParts_5 : decode cX4_isOfParts 5 = .ok (.if_icmp .eq 12, 3) := by decide +kernel
theorem dX4_isOfParts_8 : decode cX4_isOfParts 8 = .ok (.aload_n 0, 1) := by decide +kernel
theorem dX4_isOfParts_9 : decode cX4_isOfParts 9 = .ok (.getfield 190, 3) := by decide +kernel
theorem dX4_isOfParts_12 : decode cX4_isOfParts 12 = .ok (.bipush 6, 2) := by decide +kernel
theorem dX4_isOfParts_14 : decode cX4_isOfParts 14 = .ok (.if_icmp .ne 7, 3) := by decide +kernel
theorem dX4_isOfParts_17 : decode cX4_isOfParts 17 = .ok (.iconst 1, 1) := by decide +kernel
theorem dX4_isOfParts_18 : decode cX4_isOfParts 18 = .ok (.goto 4, 3) := by decide +kernel
theorem dX4_isOfParts_21 : decode cX4_isOfParts 21 = .ok (.iconst 0, 1) := by decide +kernel
theorem dX4_isOfParts_22 : decode cX4_isOfParts 22 = .ok (.ireturn, 1) := by decide +kernel
theorem dX4_isOfWay_0 : decode cX4_isOfWay 0 = .ok (.iload_n 1, 1) := by decide +kernel
theorem dX4_isOfWay_1 : decode cX4_isOfWay 1 = .ok (.tableswitch 87 2 5 #[31, 53, 67, 72], 31) := by decide +kernel
theorem dX4_isOfWay_32 : decode cX4_isOfWay 32 = .ok (.aload_n 0, 1) := by decide +kernel
theorem dX4_isOfWay_33 : decode cX4_isOfWay 33 = .ok (.getfield 190, 3) := by decide +kernel
theorem dX4_isOfWay_36 : decode cX4_isOfWay 36 = .ok (.iconst 2, 1) := by decide +kernel
theorem dX4_isOfWay_37 : decode cX4_isOfWay 37 = .ok (.if_icmp .eq 11, 3) := by decide +kernel
theorem dX4_isOfWay_40 : decode cX4_isOfWay 40 = .ok (.aload_n 0, 1) := by decide +kernel
theorem dX4_isOfWay_41 : decode cX4_isOfWay 41 = .ok (.getfield 190, 3) := by decide +kernel
theorem dX4_isOfWay_44 : decode cX4_isOfWay 44 = .ok (.iconst 3, 1) := by decide +kernel
theorem dX4_isOfWay_45 : decode cX4_isOfWay 45 = .ok (.if_icmp .ne 7, 3) := by decide +kernel
theorem dX4_isOfWay_48 : decode cX4_isOfWay 48 = .ok (.iconst 1, 1) := by decide +kernel
theorem dX4_isOfWay_49 : decode cX4_isOfWay 49 = .ok (.goto 4, 3) := by decide +kernel
theorem dX4_isOfWay_52 : decode cX4_isOfWay 52 = .ok (.iconst 0, 1) := by decide +kernel
theorem dX4_isOfWay_53 : decode cX4_isOfWay 53 = .ok (.ireturn, 1) := by decide +kernel
theorem dX4_isOfWay_54 : decode cX4_isOfWay 54 = .ok (.aload_n 0, 1) := by decide +kernel
theorem dX4_isOfWay_55 : decode cX4_isOfWay 55 = .ok (.getfield 190, 3) := by decide +kernel
theorem dX4_isOfWay_58 : decode cX4_isOfWay 58 = .ok (.iconst 3, 1) := by decide +kernel
theorem dX4_isOfWay_59 : decode cX4_isOfWay 59 = .ok (.if_icmp .ne 7, 3) := by decide +kernel
theorem dX4_isOfWay_62 : decode cX4_isOfWay 62 = .ok (.iconst 1, 1) := by decide +kernel
theorem dX4_isOfWay_63 : decode cX4_isOfWay 63 = .ok (.goto 4, 3) := by decide +kernel
theorem dX4_isOfWay_66 : decode cX4_isOfWay 66 = .ok (.iconst 0, 1) := by decide +kernel
theorem dX4_isOfWay_67 : decode cX4_isOfWay 67 = .ok (.ireturn, 1) := by decide +kernel
theorem dX4_isOfWay_68 : decode cX4_isOfWay 68 = .ok (.aload_n 0, 1) := by decide +kernel
theorem dX4_isOfWay_69 : decode cX4_isOfWay 69 = .ok (.invokevirtual 196, 3) := by decide +kernel
theorem dX4_isOfWay_72 : decode cX4_isOfWay 72 = .ok (.ireturn, 1) := by decide +kernel
theorem dX4_isOfWay_73 : decode cX4_isOfWay 73 = .ok (.aload_n 0, 1) := by decide +kernel
theorem dX4_isOfWay_74 : decode cX4_isOfWay 74 = .ok (.getfield 190, 3) := by decide +kernel
theorem dX4_isOfWay_77 : decode cX4_isOfWay 77 = .ok (.bipush 7, 2) := by decide +kernel
theorem dX4_isOfWay_79 : decode cX4_isOfWay 79 = .ok (.if_icmp .ne 7, 3) := by decide +kernel
theorem dX4_isOfWay_82 : decode cX4_isOfWay 82 = .ok (.iconst 1, 1) := by decide +kernel
theorem dX4_isOfWay_83 : decode cX4_isOfWay 83 = .ok (.goto 4, 3) := by decide +kernel
theorem dX4_isOfWay_86 : decode cX4_isOfWay 86 = .ok (.iconst 0, 1) := by decide +kernel
theorem dX4_isOfWay_87 : decode cX4_isOfWay 87 = .ok (.ireturn, 1) := by decide +kernel
theorem dX4_isOfWay_88 : decode cX4_isOfWay 88 = .ok (.iconst 1, 1) := by decide +kernel
theorem dX4_isOfWay_89 : decode cX4_isOfWay 89 = .ok (.ireturn, 1) := by decide +kernel
theorem dX4_look_0 : decode cX4_look 0 = .ok (.aload_n 0, 1) := by decide +kernel
theorem dX4_look_1 : decode cX4_look 1 = .ok (.getfield 81, 3) := by decide +kernel
theorem dX4_look_4 : decode cX4_look 4 = .ok (.ifCond .ne 6, 3) := by decide +kernel
theorem dX4_look_7 : decode cX4_look 7 = .ok (.bipush (-3), 2) := by decide +kernel
theorem dX4_look_9 : decode cX4_look 9 = .ok (.ireturn, 1) := by decide +kernel
theorem dX4_look_10 : decode cX4_look 10 = .ok (.aload_n 0, 1) := by decide +kernel
theorem dX4_look_11 : decode cX4_look 11 = .ok (.iload_n 1, 1) := by decide +kernel
theorem dX4_look_12 : decode cX4_look 12 = .ok (.invokevirtual 90, 3) := by decide +kernel
theorem dX4_look_15 : decode cX4_look 15 = .ok (.ifCond .eq 19, 3) := by decide +kernel
theorem dX4_look_18 : decode cX4_look 18 = .ok (.iload_n 2, 1) := by decide +kernel
theorem dX4_look_19 : decode cX4_look 19 = .ok (.invokestatic 77, 3) := by decide +kernel
theorem dX4_look_22 : decode cX4_look 22 = .ok (.ifCond .eq 12, 3) := by decide +kernel
theorem dX4_look_25 : decode cX4_look 25 = .ok (.iload_n 3, 1) := by decide +kernel
theorem dX4_look_26 : decode cX4_look 26 = .ok (.iconst 0, 1) := by decide +kernel
theorem dX4_look_27 : decode cX4_look 27 = .ok (.iconst 5, 1) := by decide +kernel
theorem dX4_look_28 : decode cX4_look 28 = .ok (.invokestatic 69, 3) := by decide +kernel
theorem dX4_look_31 : decode cX4_look 31 = .ok (.ifCond .ne 6, 3) := by decide +kernel
theorem dX4_look_34 : decode cX4_look 34 = .ok (.ldc 202, 2) := by decide +kernel
theorem dX4_look_36 : decode cX4_look 36 = .ok (.ireturn, 1) := by decide +kernel
theorem dX4_look_37 : decode cX4_look 37 = .ok (.aload_n 0, 1) := by decide +kernel
theorem dX4_look_38 : decode cX4_look 38 = .ok (.iload_n 3, 1) := by decide +kernel
theorem dX4_look_39 : decode cX4_look 39 = .ok (.invokevirtual 203, 3) := by decide +kernel
theorem dX4_look_42 : decode cX4_look 42 = .ok (.ifCond .ne 6, 3) := by decide +kernel
theorem dX4_look_45 : decode cX4_look 45 = .ok (.ldc 206, 2) := by decide +kernel
theorem dX4_look_47 : decode cX4_look 47 = .ok (.ireturn, 1) := by decide +kernel
theorem dX4_look_48 : decode cX4_look 48 = .ok (.aload_n 0, 1) := by decide +kernel
theorem dX4_look_49 : decode cX4_look 49 = .ok (.aload_n 0, 1) := by decide +kernel
theorem dX4_look_50 : decode cX4_look 50 = .ok (.getfield 190, 3) := by decide +kernel
theorem dX4_look_53 : decode cX4_look 53 = .ok (.aload_n 0, 1) := by decide +kernel
theorem dX4_look_54 : decode cX4_look 54 = .ok (.getfield 193, 3) := by decide +kernel
theorem dX4_look_57 : decode cX4_look 57 = .ok (.iload_n 1, 1) := by decide +kernel
theorem dX4_look_58 : decode cX4_look 58 = .ok (.invokevirtual 207, 3) := by decide +kernel
theorem dX4_look_61 : decode cX4_look 61 = .ok (.iload_n 3, 1) := by decide +kernel
theorem dX4_look_62 : decode cX4_look 62 = .ok (.tableswitch 85 0 4 #[34, 49, 56, 71, 78], 34) := by decide +kernel
theorem dX4_look_96 : decode cX4_look 96 = .ok (.aload_n 0, 1) := by decide +kernel
theorem dX4_look_97 : decode cX4_look 97 = .ok (.getfield 28, 3) := by decide +kernel
theorem dX4_look_100 : decode cX4_look 100 = .ok (.iload_n 2, 1) := by decide +kernel
theorem dX4_look_101 : decode cX4_look 101 = .ok (.baload, 1) := by decide +kernel
theorem dX4_look_102 : decode cX4_look 102 = .ok (.ifCond .eq 7, 3) := by decide +kernel
theorem dX4_look_105 : decode cX4_look 105 = .ok (.iconst 1, 1) := by decide +kernel
theorem dX4_look_106 : decode cX4_look 106 = .ok (.goto 4, 3) := by decide +kernel
theorem dX4_look_109 : decode cX4_look 109 = .ok (.iconst 0, 1) := by decide +kernel
theorem dX4_look_110 : decode cX4_look 110 = .ok (.ireturn, 1) := by decide +kernel
theorem dX4_look_111 : decode cX4_look 111 = .ok (.aload_n 0, 1) := by decide +kernel
theorem dX4_look_112 : decode cX4_look 112 = .ok (.getfield 38, 3) := by decide +kernel
theorem dX4_look_115 : decode cX4_look 115 = .ok (.iload_n 2, 1) := by decide +kernel
theorem dX4_look_116 : decode cX4_look 116 = .ok (.iaload, 1) := by decide +kernel
theorem dX4_look_117 : decode cX4_look 117 = .ok (.ireturn, 1) := by decide +kernel
theorem dX4_look_118 : decode cX4_look 118 = .ok (.aload_n 0, 1) := by decide +kernel
theorem dX4_look_119 : decode cX4_look 119 = .ok (.getfield 41, 3) := by decide +kernel
theorem dX4_look_122 : decode cX4_look 122 = .ok (.iload_n 2, 1) := by decide +kernel
theorem dX4_look_123 : decode cX4_look 123 = .ok (.baload, 1) := by decide +kernel
theorem dX4_look_124 : decode cX4_look 124 = .ok (.ifCond .eq 7, 3) := by decide +kernel
theorem dX4_look_127 : decode cX4_look 127 = .ok (.iconst 1, 1) := by decide +kernel
theorem dX4_look_128 : decode cX4_look 128 = .ok (.goto 4, 3) := by decide +kernel
theorem dX4_look_131 : decode cX4_look 131 = .ok (.iconst 0, 1) := by decide +kernel
theorem dX4_look_132 : decode cX4_look 132 = .ok (.ireturn, 1) := by decide +kernel
theorem dX4_look_133 : decode cX4_look 133 = .ok (.aload_n 0, 1) := by decide +kernel
theorem dX4_look_134 : decode cX4_look 134 = .ok (.getfield 44, 3) := by decide +kernel
theorem dX4_look_137 : decode cX4_look 137 = .ok (.iload_n 2, 1) := by decide +kernel
theorem dX4_look_138 : decode cX4_look 138 = .ok (.iaload, 1) := by decide +kernel
theorem dX4_look_139 : decode cX4_look 139 = .ok (.ireturn, 1) := by decide +kernel
theorem dX4_look_140 : decode cX4_look 140 = .ok (.aload_n 0, 1) := by decide +kernel
theorem dX4_look_141 : decode cX4_look 141 = .ok (.getfield 47, 3) := by decide +kernel
theorem dX4_look_144 : decode cX4_look 144 = .ok (.iload_n 2, 1) := by decide +kernel
theorem dX4_look_145 : decode cX4_look 145 = .ok (.iaload, 1) := by decide +kernel
theorem dX4_look_146 : decode cX4_look 146 = .ok (.ireturn, 1) := by decide +kernel
theorem dX4_look_147 : decode cX4_look 147 = .ok (.aload_n 0, 1) := by decide +kernel
theorem dX4_look_148 : decode cX4_look 148 = .ok (.getfield 53, 3) := by decide +kernel
theorem dX4_look_151 : decode cX4_look 151 = .ok (.iload_n 2, 1) := by decide +kernel
theorem dX4_look_152 : decode cX4_look 152 = .ok (.iaload, 1) := by decide +kernel
theorem dX4_look_153 : decode cX4_look 153 = .ok (.ireturn, 1) := by decide +kernel
theorem dX4_level_0 : decode cX4_level 0 = .ok (.aload_n 0, 1) := by decide +kernel
theorem dX4_level_1 : decode cX4_level 1 = .ok (.getfield 81, 3) := by decide +kernel
theorem dX4_level_4 : decode cX4_level 4 = .ok (.ifCond .ne 6, 3) := by decide +kernel
theorem dX4_level_7 : decode cX4_level 7 = .ok (.bipush (-3), 2) := by decide +kernel
theorem dX4_level_9 : decode cX4_level 9 = .ok (.ireturn, 1) := by decide +kernel
theorem dX4_level_10 : decode cX4_level 10 = .ok (.aload_n 0, 1) := by decide +kernel
theorem dX4_level_11 : decode cX4_level 11 = .ok (.iload_n 1, 1) := by decide +kernel
theorem dX4_level_12 : decode cX4_level 12 = .ok (.invokevirtual 90, 3) := by decide +kernel
theorem dX4_level_15 : decode cX4_level 15 = .ok (.ifCond .eq 12, 3) := by decide +kernel
theorem dX4_level_18 : decode cX4_level 18 = .ok (.iload_n 2, 1) := by decide +kernel
theorem dX4_level_19 : decode cX4_level 19 = .ok (.iconst 0, 1) := by decide +kernel
theorem dX4_level_20 : decode cX4_level 20 = .ok (.iconst 4, 1) := by decide +kernel
theorem dX4_level_21 : decode cX4_level 21 = .ok (.invokestatic 69, 3) := by decide +kernel
theorem dX4_level_24 : decode cX4_level 24 = .ok (.ifCond .ne 6, 3) := by decide +kernel
theorem dX4_level_27 : decode cX4_level 27 = .ok (.ldc 202, 2) := by decide +kernel
theorem dX4_level_29 : decode cX4_level 29 = .ok (.ireturn, 1) := by decide +kernel
theorem dX4_level_30 : decode cX4_level 30 = .ok (.iload_n 2, 1) := by decide +kernel
theorem dX4_level_31 : decode cX4_level 31 = .ok (.iconst 1, 1) := by decide +kernel
theorem dX4_level_32 : decode cX4_level 32 = .ok (.if_icmp .ne 7, 3) := by decide +kernel
theorem dX4_level_35 : decode cX4_level 35 = .ok (.iconst 2, 1) := by decide +kernel
theorem dX4_level_36 : decode cX4_level 36 = .ok (.goto 24, 3) := by decide +kernel
theorem dX4_level_39 : decode cX4_level 39 = .ok (.iload_n 2, 1) := by decide +kernel
theorem dX4_level_40 : decode cX4_level 40 = .ok (.iconst 2, 1) := by decide +kernel
theorem dX4_level_41 : decode cX4_level 41 = .ok (.if_icmp .ne 7, 3) := by decide +kernel
theorem dX4_level_44 : decode cX4_level 44 = .ok (.iconst 3, 1) := by decide +kernel
theorem dX4_level_45 : decode cX4_level 45 = .ok (.goto 15, 3) := by decide +kernel
theorem dX4_level_48 : decode cX4_level 48 = .ok (.iload_n 2, 1) := by decide +kernel
theorem dX4_level_49 : decode cX4_level 49 = .ok (.iconst 3, 1) := by decide +kernel
theorem dX4_level_50 : decode cX4_level 50 = .ok (.if_icmp .ne 8, 3) := by decide +kernel
theorem dX4_level_53 : decode cX4_level 53 = .ok (.bipush 6, 2) := by decide +kernel
theorem dX4_level_55 : decode cX4_level 55 = .ok (.goto 5, 3) := by decide +kernel
theorem dX4_level_58 : decode cX4_level 58 = .ok (.bipush 7, 2) := by decide +kernel
theorem dX4_level_60 : decode cX4_level 60 = .ok (.istore_n 3, 1) := by decide +kernel
theorem dX4_level_61 : decode cX4_level 61 = .ok (.iload_n 2, 1) := by decide +kernel
theorem dX4_level_62 : decode cX4_level 62 = .ok (.ifCond .le 14, 3) := by decide +kernel
theorem dX4_level_65 : decode cX4_level 65 = .ok (.aload_n 0, 1) := by decide +kernel
theorem dX4_level_66 : decode cX4_level 66 = .ok (.getfield 190, 3) := by decide +kernel
theorem dX4_level_69 : decode cX4_level 69 = .ok (.iload_n 3, 1) := by decide +kernel
theorem dX4_level_70 : decode cX4_level 70 = .ok (.if_icmp .eq 6, 3) := by decide +kernel
theorem dX4_level_73 : decode cX4_level 73 = .ok (.ldc 206, 2) := by decide +kernel
theorem dX4_level_75 : decode cX4_level 75 = .ok (.ireturn, 1) := by decide +kernel
theorem dX4_level_76 : decode cX4_level 76 = .ok (.aload_n 0, 1) := by decide +kernel
theorem dX4_level_77 : decode cX4_level 77 = .ok (.aload_n 0, 1) := by decide +kernel
theorem dX4_level_78 : decode cX4_level 78 = .ok (.getfield 190, 3) := by decide +kernel
theorem dX4_level_81 : decode cX4_level 81 = .ok (.aload_n 0, 1) := by decide +kernel
theorem dX4_level_82 : decode cX4_level 82 = .ok (.getfield 193, 3) := by decide +kernel
theorem dX4_level_85 : decode cX4_level 85 = .ok (.iload_n 1, 1) := by decide +kernel
theorem dX4_level_86 : decode cX4_level 86 = .ok (.invokevirtual 207, 3) := by decide +kernel
theorem dX4_level_89 : decode cX4_level 89 = .ok (.iload_n 2, 1) := by decide +kernel
theorem dX4_level_90 : decode cX4_level 90 = .ok (.ifCond .ne 10, 3) := by decide +kernel
theorem dX4_level_93 : decode cX4_level 93 = .ok (.aload_n 0, 1) := by decide +kernel
theorem dX4_level_94 : decode cX4_level 94 = .ok (.getfield 109, 3) := by decide +kernel
theorem dX4_level_97 : decode cX4_level 97 = .ok (.goto 43, 3) := by decide +kernel
theorem dX4_level_100 : decode cX4_level 100 = .ok (.iload_n 2, 1) := by decide +kernel
theorem dX4_level_101 : decode cX4_level 101 = .ok (.iconst 1, 1) := by decide +kernel
theorem dX4_level_102 : decode cX4_level 102 = .ok (.if_icmp .ne 10, 3) := by decide +kernel
theorem dX4_level_105 : decode cX4_level 105 = .ok (.aload_n 0, 1) := by decide +kernel
theorem dX4_level_106 : decode cX4_level 106 = .ok (.getfield 112, 3) := by decide +kernel
theorem dX4_level_109 : decode cX4_level 109 = .ok (.goto 31, 3) := by decide +kernel
theorem dX4_level_112 : decode cX4_level 112 = .ok (.iload_n 2, 1) := by decide +kernel
theorem dX4_level_113 : decode cX4_level 113 = .ok (.iconst 2, 1) := by decide +kernel
theorem dX4_level_114 : decode cX4_level 114 = .ok (.if_icmp .ne 10, 3) := by decide +kernel
theorem dX4_level_117 : decode cX4_level 117 = .ok (.aload_n 0, 1) := by decide +kernel
theorem dX4_level_118 : decode cX4_level 118 = .ok (.getfield 115, 3) := by decide +kernel
theorem dX4_level_121 : decode cX4_level 121 = .ok (.goto 19, 3) := by decide +kernel
theorem dX4_level_124 : decode cX4_level 124 = .ok (.iload_n 2, 1) := by decide +kernel
theorem dX4_level_125 : decode cX4_level 125 = .ok (.iconst 3, 1) := by decide +kernel
theorem dX4_level_126 : decode cX4_level 126 = .ok (.if_icmp .ne 10, 3) := by decide +kernel
theorem dX4_level_129 : decode cX4_level 129 = .ok (.aload_n 0, 1) := by decide +kernel
theorem dX4_level_130 : decode cX4_level 130 = .ok (.getfield 118, 3) := by decide +kernel
theorem dX4_level_133 : decode cX4_level 133 = .ok (.goto 7, 3) := by decide +kernel
theorem dX4_level_136 : decode cX4_level 136 = .ok (.aload_n 0, 1) := by decide +kernel
theorem dX4_level_137 : decode cX4_level 137 = .ok (.getfield 121, 3) := by decide +kernel
theorem dX4_level_140 : decode cX4_level 140 = .ok (.ireturn, 1) := by decide +kernel
theorem dX4_fewest_0 : decode cX4_fewest 0 = .ok (.iload_n 1, 1) := by decide +kernel
theorem dX4_fewest_1 : decode cX4_fewest 1 = .ok (.iconst 1, 1) := by decide +kernel
theorem dX4_fewest_2 : decode cX4_fewest 2 = .ok (.bipush 8, 2) := by decide +kernel
theorem dX4_fewest_4 : decode cX4_fewest 4 = .ok (.invokestatic 69, 3) := by decide +kernel
theorem dX4_fewest_7 : decode cX4_fewest 7 = .ok (.ifCond .ne 5, 3) := by decide +kernel
theorem dX4_fewest_10 : decode cX4_fewest 10 = .ok (.iconst (-1), 1) := by decide +kernel
theorem dX4_fewest_11 : decode cX4_fewest 11 = .ok (.ireturn, 1) := by decide +kernel
theorem dX4_fewest_12 : decode cX4_fewest 12 = .ok (.iconst 0, 1) := by decide +kernel
theorem dX4_fewest_13 : decode cX4_fewest 13 = .ok (.istore_n 2, 1) := by decide +kernel
theorem dX4_fewest_14 : decode cX4_fewest 14 = .ok (.aload_n 0, 1) := by decide +kernel
theorem dX4_fewest_15 : decode cX4_fewest 15 = .ok (.iconst 0, 1) := by decide +kernel
theorem dX4_fewest_16 : decode cX4_fewest 16 = .ok (.iload_n 1, 1) := by decide +kernel
theorem dX4_fewest_17 : decode cX4_fewest 17 = .ok (.invokevirtual 210, 3) := by decide +kernel
theorem dX4_fewest_20 : decode cX4_fewest 20 = .ok (.istore_n 3, 1) := by decide +kernel
theorem dX4_fewest_21 : decode cX4_fewest 21 = .ok (.iconst 1, 1) := by decide +kernel
theorem dX4_fewest_22 : decode cX4_fewest 22 = .ok (.istore 4, 2) := by decide +kernel
theorem dX4_fewest_24 : decode cX4_fewest 24 = .ok (.iload 4, 2) := by decide +kernel
theorem dX4_fewest_26 : decode cX4_fewest 26 = .ok (.bipush 8, 2) := by decide +kernel
theorem dX4_fewest_28 : decode cX4_fewest 28 = .ok (.if_icmp .ge 44, 3) := by decide +kernel
theorem dX4_fewest_31 : decode cX4_fewest 31 = .ok (.aload_n 0, 1) := by decide +kernel
theorem dX4_fewest_32 : decode cX4_fewest 32 = .ok (.iload 4, 2) := by decide +kernel
theorem dX4_fewest_34 : decode cX4_fewest 34 = .ok (.iload_n 1, 1) := by decide +kernel
theorem dX4_fewest_35 : decode cX4_fewest 35 = .ok (.invokevirtual 210, 3) := by decide +kernel
theorem dX4_fewest_38 : decode cX4_fewest 38 = .ok (.istore 5, 2) := by decide +kernel
theorem dX4_fewest_40 : decode cX4_fewest 40 = .ok (.iload 5, 2) := by decide +kernel
theorem dX4_fewest_42 : decode cX4_fewest 42 = .ok (.iload_n 3, 1) := by decide +kernel
theorem dX4_fewest_43 : decode cX4_fewest 43 = .ok (.if_icmp .ge 8, 3) := by decide +kernel
theorem dX4_fewest_46 : decode cX4_fewest 46 = .ok (.iload 4, 2) := by decide +kernel
theorem dX4_fewest_48 : decode cX4_fewest 48 = .ok (.goto 4, 3) := by decide +kernel
theorem dX4_fewest_51 : decode cX4_fewest 51 = .ok (.iload_n 2, 1) := by decide +kernel
theorem dX4_fewest_52 : decode cX4_fewest 52 = .ok (.istore_n 2, 1) := by decide +kernel
theorem dX4_fewest_53 : decode cX4_fewest 53 = .ok (.iload 5, 2) := by decide +kernel
theorem dX4_fewest_55 : decode cX4_fewest 55 = .ok (.iload_n 3, 1) := by decide +kernel
theorem dX4_fewest_56 : decode cX4_fewest 56 = .ok (.if_icmp .ge 8, 3) := by decide +kernel
theorem dX4_fewest_59 : decode cX4_fewest 59 = .ok (.iload 5, 2) := by decide +kernel
theorem dX4_fewest_61 : decode cX4_fewest 61 = .ok (.goto 4, 3) := by decide +kernel
theorem dX4_fewest_64 : decode cX4_fewest 64 = .ok (.iload_n 3, 1) := by decide +kernel
theorem dX4_fewest_65 : decode cX4_fewest 65 = .ok (.istore_n 3, 1) := by decide +kernel
theorem dX4_fewest_66 : decode cX4_fewest 66 = .ok (.iinc 4 1, 3) := by decide +kernel
theorem dX4_fewest_69 : decode cX4_fewest 69 = .ok (.goto (-45), 3) := by decide +kernel
theorem dX4_fewest_72 : decode cX4_fewest 72 = .ok (.iload_n 2, 1) := by decide +kernel
theorem dX4_fewest_73 : decode cX4_fewest 73 = .ok (.ireturn, 1) := by decide +kernel
theorem dX4_share_0 : decode cX4_share 0 = .ok (.aload_n 0, 1) := by decide +kernel
theorem dX4_share_1 : decode cX4_share 1 = .ok (.getfield 81, 3) := by decide +kernel
theorem dX4_share_4 : decode cX4_share 4 = .ok (.ifCond .ne 6, 3) := by decide +kernel
theorem dX4_share_7 : decode cX4_share 7 = .ok (.bipush (-3), 2) := by decide +kernel
theorem dX4_share_9 : decode cX4_share 9 = .ok (.ireturn, 1) := by decide +kernel
theorem dX4_share_10 : decode cX4_share 10 = .ok (.aload_n 0, 1) := by decide +kernel
theorem dX4_share_11 : decode cX4_share 11 = .ok (.getfield 73, 3) := by decide +kernel
theorem dX4_share_14 : decode cX4_share 14 = .ok (.ifCond .ne 5, 3) := by decide +kernel
theorem dX4_share_17 : decode cX4_share 17 = .ok (.iconst (-1), 1) := by decide +kernel
theorem dX4_share_18 : decode cX4_share 18 = .ok (.ireturn, 1) := by decide +kernel
theorem dX4_share_19 : decode cX4_share 19 = .ok (.iconst 0, 1) := by decide +kernel
theorem dX4_share_20 : decode cX4_share 20 = .ok (.istore_n 1, 1) := by decide +kernel
theorem dX4_share_21 : decode cX4_share 21 = .ok (.iconst 0, 1) := by decide +kernel
theorem dX4_share_22 : decode cX4_share 22 = .ok (.istore_n 2, 1) := by decide +kernel
theorem dX4_share_23 : decode cX4_share 23 = .ok (.iload_n 2, 1) := by decide +kernel
theorem dX4_share_24 : decode cX4_share 24 = .ok (.aload_n 0, 1) := by decide +kernel
theorem dX4_share_25 : decode cX4_share 25 = .ok (.getfield 73, 3) := by decide +kernel
theorem dX4_share_28 : decode cX4_share 28 = .ok (.if_icmp .ge 18, 3) := by decide +kernel
theorem dX4_share_31 : decode cX4_share 31 = .ok (.iload_n 1, 1) := by decide +kernel
theorem dX4_share_32 : decode cX4_share 32 = .ok (.aload_n 0, 1) := by decide +kernel
theorem dX4_share_33 : decode cX4_share 33 = .ok (.getfield 16, 3) := by decide +kernel
theorem dX4_share_36 : decode cX4_share 36 = .ok (.iload_n 2, 1) := by decide +kernel
theorem dX4_share_37 : decode cX4_share 37 = .ok (.iaload, 1) := by decide +kernel
theorem dX4_share_38 : decode cX4_share 38 = .ok (.iadd, 1) := by decide +kernel
theorem dX4_share_39 : decode cX4_share 39 = .ok (.istore_n 1, 1) := by decide +kernel
theorem dX4_share_40 : decode cX4_share 40 = .ok (.iinc 2 1, 3) := by decide +kernel
theorem dX4_share_43 : decode cX4_share 43 = .ok (.goto (-20), 3) := by decide +kernel
theorem dX4_share_46 : decode cX4_share 46 = .ok (.iload_n 1, 1) := by decide +kernel
theorem dX4_share_47 : decode cX4_share 47 = .ok (.i2f, 1) := by decide +kernel
theorem dX4_share_48 : decode cX4_share 48 = .ok (.aload_n 0, 1) := by decide +kernel
theorem dX4_share_49 : decode cX4_share 49 = .ok (.getfield 73, 3) := by decide +kernel
theorem dX4_share_52 : decode cX4_share 52 = .ok (.i2f, 1) := by decide +kernel
theorem dX4_share_53 : decode cX4_share 53 = .ok (.fdiv, 1) := by decide +kernel
theorem dX4_share_54 : decode cX4_share 54 = .ok (.ldc 213, 2) := by decide +kernel
theorem dX4_share_56 : decode cX4_share 56 = .ok (.fmul, 1) := by decide +kernel
theorem dX4_share_57 : decode cX4_share 57 = .ok (.f2i, 1) := by decide +kernel
theorem dX4_share_58 : decode cX4_share 58 = .ok (.ireturn, 1) := by decide +kernel
theorem dX4_sizeOf_0 : decode cX4_sizeOf 0 = .ok (.iconst 0, 1) := by decide +kernel
theorem dX4_sizeOf_1 : decode cX4_sizeOf 1 = .ok (.istore_n 2, 1) := by decide +kernel
theorem dX4_sizeOf_2 : decode cX4_sizeOf 2 = .ok (.iconst 0, 1) := by decide +kernel
theorem dX4_sizeOf_3 : decode cX4_sizeOf 3 = .ok (.istore_n 3, 1) := by decide +kernel
theorem dX4_sizeOf_4 : decode cX4_sizeOf 4 = .ok (.iload_n 3, 1) := by decide +kernel
theorem dX4_sizeOf_5 : decode cX4_sizeOf 5 = .ok (.bipush 10, 2) := by decide +kernel
theorem dX4_sizeOf_7 : decode cX4_sizeOf 7 = .ok (.if_icmp .ge 17, 3) := by decide +kernel
theorem dX4_sizeOf_10 : decode cX4_sizeOf 10 = .ok (.iload_n 2, 1) := by decide +kernel
theorem dX4_sizeOf_11 : decode cX4_sizeOf 11 = .ok (.iload_n 1, 1) := by decide +kernel
theorem dX4_sizeOf_12 : decode cX4_sizeOf 12 = .ok (.iload_n 3, 1) := by decide +kernel
theorem dX4_sizeOf_13 : decode cX4_sizeOf 13 = .ok (.ishr, 1) := by decide +kernel
theorem dX4_sizeOf_14 : decode cX4_sizeOf 14 = .ok (.iconst 1, 1) := by decide +kernel
theorem dX4_sizeOf_15 : decode cX4_sizeOf 15 = .ok (.iand, 1) := by decide +kernel
theorem dX4_sizeOf_16 : decode cX4_sizeOf 16 = .ok (.iadd, 1) := by decide +kernel
theorem dX4_sizeOf_17 : decode cX4_sizeOf 17 = .ok (.istore_n 2, 1) := by decide +kernel
theorem dX4_sizeOf_18 : decode cX4_sizeOf 18 = .ok (.iinc 3 1, 3) := by decide +kernel
theorem dX4_sizeOf_21 : decode cX4_sizeOf 21 = .ok (.goto (-17), 3) := by decide +kernel
theorem dX4_sizeOf_24 : decode cX4_sizeOf 24 = .ok (.iload_n 2, 1) := by decide +kernel
theorem dX4_sizeOf_25 : decode cX4_sizeOf 25 = .ok (.ireturn, 1) := by decide +kernel
theorem dX4_behind_0 : decode cX4_behind 0 = .ok (.iload_n 3, 1) := by decide +kernel
theorem dX4_behind_1 : decode cX4_behind 1 = .ok (.ifCond .ge 7, 3) := by decide +kernel
theorem dX4_behind_4 : decode cX4_behind 4 = .ok (.iload_n 2, 1) := by decide +kernel
theorem dX4_behind_5 : decode cX4_behind 5 = .ok (.goto 10, 3) := by decide +kernel
theorem dX4_behind_8 : decode cX4_behind 8 = .ok (.iload_n 2, 1) := by decide +kernel
theorem dX4_behind_9 : decode cX4_behind 9 = .ok (.iconst 1, 1) := by decide +kernel
theorem dX4_behind_10 : decode cX4_behind 10 = .ok (.iload_n 3, 1) := by decide +kernel
theorem dX4_behind_11 : decode cX4_behind 11 = .ok (.ishl, 1) := by decide +kernel
theorem dX4_behind_12 : decode cX4_behind 12 = .ok (.iconst (-1), 1) := by decide +kernel
theorem dX4_behind_13 : decode cX4_behind 13 = .ok (.ixor, 1) := by decide +kernel
theorem dX4_behind_14 : decode cX4_behind 14 = .ok (.iand, 1) := by decide +kernel
theorem dX4_behind_15 : decode cX4_behind 15 = .ok (.istore 5, 2) := by decide +kernel
theorem dX4_behind_17 : decode cX4_behind 17 = .ok (.aload_n 0, 1) := by decide +kernel
theorem dX4_behind_18 : decode cX4_behind 18 = .ok (.getfield 7, 3) := by decide +kernel
theorem dX4_behind_21 : decode cX4_behind 21 = .ok (.aload_n 0, 1) := by decide +kernel
theorem dX4_behind_22 : decode cX4_behind 22 = .ok (.getfield 13, 3) := by decide +kernel
theorem dX4_behind_25 : decode cX4_behind 25 = .ok (.iload_n 1, 1) := by decide +kernel
theorem dX4_behind_26 : decode cX4_behind 26 = .ok (.iaload, 1) := by decide +kernel
theorem dX4_behind_27 : decode cX4_behind 27 = .ok (.iaload, 1) := by decide +kernel
theorem dX4_behind_28 : decode cX4_behind 28 = .ok (.aload_n 0, 1) := by decide +kernel
theorem dX4_behind_29 : decode cX4_behind 29 = .ok (.getfield 60, 3) := by decide +kernel
theorem dX4_behind_32 : decode cX4_behind 32 = .ok (.sipush 1024, 3) := by decide +kernel
theorem dX4_behind_35 : decode cX4_behind 35 = .ok (.iload_n 1, 1) := by decide +kernel
theorem dX4_behind_36 : decode cX4_behind 36 = .ok (.iconst 1, 1) := by decide +kernel
theorem dX4_behind_37 : decode cX4_behind 37 = .ok (.iadd, 1) := by decide +kernel
theorem dX4_behind_38 : decode cX4_behind 38 = .ok (.imul, 1) := by decide +kernel
theorem dX4_behind_39 : decode cX4_behind 39 = .ok (.iload 5, 2) := by decide +kernel
theorem dX4_behind_41 : decode cX4_behind 41 = .ok (.iconst 1, 1) := by decide +kernel
theorem dX4_behind_42 : decode cX4_behind 42 = .ok (.iload 4, 2) := by decide +kernel
theorem dX4_behind_44 : decode cX4_behind 44 = .ok (.ishl, 1) := by decide +kernel
theorem dX4_behind_45 : decode cX4_behind 45 = .ok (.ior, 1) := by decide +kernel
theorem dX4_behind_46 : decode cX4_behind 46 = .ok (.iadd, 1) := by decide +kernel
theorem dX4_behind_47 : decode cX4_behind 47 = .ok (.iaload, 1) := by decide +kernel
theorem dX4_behind_48 : decode cX4_behind 48 = .ok (.iadd, 1) := by decide +kernel
theorem dX4_behind_49 : decode cX4_behind 49 = .ok (.ireturn, 1) := by decide +kernel
theorem dX4_leastFor_0 : decode cX4_leastFor 0 = .ok (.aload_n 0, 1) := by decide +kernel
theorem dX4_leastFor_1 : decode cX4_leastFor 1 = .ok (.getfield 56, 3) := by decide +kernel
theorem dX4_leastFor_4 : decode cX4_leastFor 4 = .ok (.aload_n 0, 1) := by decide +kernel
theorem dX4_leastFor_5 : decode cX4_leastFor 5 = .ok (.getfield 13, 3) := by decide +kernel
theorem dX4_leastFor_8 : decode cX4_leastFor 8 = .ok (.iload_n 1, 1) := by decide +kernel
theorem dX4_leastFor_9 : decode cX4_leastFor 9 = .ok (.iaload, 1) := by decide +kernel
theorem dX4_leastFor_10 : decode cX4_leastFor 10 = .ok (.iaload, 1) := by decide +kernel
theorem dX4_leastFor_11 : decode cX4_leastFor 11 = .ok (.istore 4, 2) := by decide +kernel
theorem dX4_leastFor_13 : decode cX4_leastFor 13 = .ok (.iload_n 2, 1) := by decide +kernel
theorem dX4_leastFor_14 : decode cX4_leastFor 14 = .ok (.iload 4, 2) := by decide +kernel
theorem dX4_leastFor_16 : decode cX4_leastFor 16 = .ok (.ishr, 1) := by decide +kernel
theorem dX4_leastFor_17 : decode cX4_leastFor 17 = .ok (.iconst 1, 1) := by decide +kernel
theorem dX4_leastFor_18 : decode cX4_leastFor 18 = .ok (.iand, 1) := by decide +kernel
theorem dX4_leastFor_19 : decode cX4_leastFor 19 = .ok (.iconst 1, 1) := by decide +kernel
theorem dX4_leastFor_20 : decode cX4_leastFor 20 = .ok (.if_icmp .ne 18, 3) := by decide +kernel
theorem dX4_leastFor_23 : decode cX4_leastFor 23 = .ok (.aload_n 0, 1) := by decide +kernel
theorem dX4_leastFor_24 : decode cX4_leastFor 24 = .ok (.getfield 60, 3) := by decide +kernel
theorem dX4_leastFor_27 : decode cX4_leastFor 27 = .ok (.sipush 1024, 3) := by decide +kernel
theorem dX4_leastFor_30 : decode cX4_leastFor 30 = .ok (.iload_n 1, 1) := by decide +kernel
theorem dX4_leastFor_31 : decode cX4_leastFor 31 = .ok (.iconst 1, 1) := by decide +kernel
theorem dX4_leastFor_32 : decode cX4_leastFor 32 = .ok (.iadd, 1) := by decide +kernel
theorem dX4_leastFor_33 : decode cX4_leastFor 33 = .ok (.imul, 1) := by decide +kernel
theorem dX4_leastFor_34 : decode cX4_leastFor 34 = .ok (.iload_n 2, 1) := by decide +kernel
theorem dX4_leastFor_35 : decode cX4_leastFor 35 = .ok (.iadd, 1) := by decide +kernel
theorem dX4_leastFor_36 : decode cX4_leastFor 36 = .ok (.iaload, 1) := by decide +kernel
theorem dX4_leastFor_37 : decode cX4_leastFor 37 = .ok (.ireturn, 1) := by decide +kernel
theorem dX4_leastFor_38 : decode cX4_leastFor 38 = .ok (.aload_n 0, 1) := by decide +kernel
theorem dX4_leastFor_39 : decode cX4_leastFor 39 = .ok (.iload_n 2, 1) := by decide +kernel
theorem dX4_leastFor_40 : decode cX4_leastFor 40 = .ok (.invokevirtual 214, 3) := by decide +kernel
theorem dX4_leastFor_43 : decode cX4_leastFor 43 = .ok (.iload_n 3, 1) := by decide +kernel
theorem dX4_leastFor_44 : decode cX4_leastFor 44 = .ok (.if_icmp .ge 13, 3) := by decide +kernel
theorem dX4_leastFor_47 : decode cX4_leastFor 47 = .ok (.aload_n 0, 1) := by decide +kernel
theorem dX4_leastFor_48 : decode cX4_leastFor 48 = .ok (.iload_n 1, 1) := by decide +kernel
theorem dX4_leastFor_49 : decode cX4_leastFor 49 = .ok (.iload_n 2, 1) := by decide +kernel
theorem dX4_leastFor_50 : decode cX4_leastFor 50 = .ok (.iconst (-1), 1) := by decide +kernel
theorem dX4_leastFor_51 : decode cX4_leastFor 51 = .ok (.iload 4, 2) := by decide +kernel
theorem dX4_leastFor_53 : decode cX4_leastFor 53 = .ok (.invokevirtual 217, 3) := by decide +kernel
theorem dX4_leastFor_56 : decode cX4_leastFor 56 = .ok (.ireturn, 1) := by decide +kernel
theorem dX4_leastFor_57 : decode cX4_leastFor 57 = .ok (.ldc 221, 2) := by decide +kernel
theorem dX4_leastFor_59 : decode cX4_leastFor 59 = .ok (.istore 5, 2) := by decide +kernel
theorem dX4_leastFor_61 : decode cX4_leastFor 61 = .ok (.iconst 0, 1) := by decide +kernel
theorem dX4_leastFor_62 : decode cX4_leastFor 62 = .ok (.istore 6, 2) := by decide +kernel
theorem dX4_leastFor_64 : decode cX4_leastFor 64 = .ok (.iload 6, 2) := by decide +kernel
theorem dX4_leastFor_66 : decode cX4_leastFor 66 = .ok (.bipush 10, 2) := by decide +kernel
theorem dX4_leastFor_68 : decode cX4_leastFor 68 = .ok (.if_icmp .ge 47, 3) := by decide +kernel
theorem dX4_leastFor_71 : decode cX4_leastFor 71 = .ok (.iload_n 2, 1) := by decide +kernel
theorem dX4_leastFor_72 : decode cX4_leastFor 72 = .ok (.iload 6, 2) := by decide +kernel
theorem dX4_leastFor_74 : decode cX4_leastFor 74 = .ok (.ishr, 1) := by decide +kernel
theorem dX4_leastFor_75 : decode cX4_leastFor 75 = .ok (.iconst 1, 1) := by decide +kernel
theorem dX4_leastFor_76 : decode cX4_leastFor 76 = .ok (.iand, 1) := by decide +kernel
theorem dX4_leastFor_77 : decode cX4_leastFor 77 = .ok (.iconst 1, 1) := by decide +kernel
theorem dX4_leastFor_78 : decode cX4_leastFor 78 = .ok (.if_icmp .ne 31, 3) := by decide +kernel
theorem dX4_leastFor_81 : decode cX4_leastFor 81 = .ok (.aload_n 0, 1) := by decide +kernel
theorem dX4_leastFor_82 : decode cX4_leastFor 82 = .ok (.iload_n 1, 1) := by decide +kernel
theorem dX4_leastFor_83 : decode cX4_leastFor 83 = .ok (.iload_n 2, 1) := by decide +kernel
theorem dX4_leastFor_84 : decode cX4_leastFor 84 = .ok (.iload 6, 2) := by decide +kernel
theorem dX4_leastFor_86 : decode cX4_leastFor 86 = .ok (.iload 4, 2) := by decide +kernel
theorem dX4_leastFor_88 : decode cX4_leastFor 88 = .ok (.invokevirtual 217, 3) := by decide +kernel
theorem dX4_leastFor_91 : decode cX4_leastFor 91 = .ok (.istore 7, 2) := by decide +kernel
theorem dX4_leastFor_93 : decode cX4_leastFor 93 = .ok (.iload 7, 2) := by decide +kernel
theorem dX4_leastFor_95 : decode cX4_leastFor 95 = .ok (.iload 5, 2) := by decide +kernel
theorem dX4_leastFor_97 : decode cX4_leastFor 97 = .ok (.if_icmp .ge 8, 3) := by decide +kernel
theorem dX4_leastFor_100 : decode cX4_leastFor 100 = .ok (.iload 7, 2) := by decide +kernel
theorem dX4_leastFor_102 : decode cX4_leastFor 102 = .ok (.goto 5, 3) := by decide +kernel
theorem dX4_leastFor_105 : decode cX4_leastFor 105 = .ok (.iload 5, 2) := by decide +kernel
theorem dX4_leastFor_107 : decode cX4_leastFor 107 = .ok (.istore 5, 2) := by decide +kernel
theorem dX4_leastFor_109 : decode cX4_leastFor 109 = .ok (.iinc 6 1, 3) := by decide +kernel
theorem dX4_leastFor_112 : decode cX4_leastFor 112 = .ok (.goto (-48), 3) := by decide +kernel
theorem dX4_leastFor_115 : decode cX4_leastFor 115 = .ok (.iload 5, 2) := by decide +kernel
theorem dX4_leastFor_117 : decode cX4_leastFor 117 = .ok (.ireturn, 1) := by decide +kernel
theorem dX4_findLeast_0 : decode cX4_findLeast 0 = .ok (.iconst 0, 1) := by decide +kernel
theorem dX4_findLeast_1 : decode cX4_findLeast 1 = .ok (.istore_n 2, 1) := by decide +kernel
theorem dX4_findLeast_2 : decode cX4_findLeast 2 = .ok (.iconst 0, 1) := by decide +kernel
theorem dX4_findLeast_3 : decode cX4_findLeast 3 = .ok (.istore_n 3, 1) := by decide +kernel
theorem dX4_findLeast_4 : decode cX4_findLeast 4 = .ok (.iload_n 3, 1) := by decide +kernel
theorem dX4_findLeast_5 : decode cX4_findLeast 5 = .ok (.bipush 16, 2) := by decide +kernel
theorem dX4_findLeast_7 : decode cX4_findLeast 7 = .ok (.if_icmp .ge 82, 3) := by decide +kernel
theorem dX4_findLeast_10 : decode cX4_findLeast 10 = .ok (.aload_n 0, 1) := by decide +kernel
theorem dX4_findLeast_11 : decode cX4_findLeast 11 = .ok (.getfield 56, 3) := by decide +kernel
theorem dX4_findLeast_14 : decode cX4_findLeast 14 = .ok (.iload_n 3, 1) := by decide +kernel
theorem dX4_findLeast_15 : decode cX4_findLeast 15 = .ok (.iconst (-1), 1) := by decide +kernel
theorem dX4_findLeast_16 : decode cX4_findLeast 16 = .ok (.iastore, 1) := by decide +kernel
theorem dX4_findLeast_17 : decode cX4_findLeast 17 = .ok (.iconst 0, 1) := by decide +kernel
theorem dX4_findLeast_18 : decode cX4_findLeast 18 = .ok (.istore 4, 2) := by decide +kernel
theorem dX4_findLeast_20 : decode cX4_findLeast 20 = .ok (.iload 4, 2) := by decide +kernel
theorem dX4_findLeast_22 : decode cX4_findLeast 22 = .ok (.aload_n 0, 1) := by decide +kernel
theorem dX4_findLeast_23 : decode cX4_findLeast 23 = .ok (.getfield 73, 3) := by decide +kernel
theorem dX4_findLeast_26 : decode cX4_findLeast 26 = .ok (.if_icmp .ge 40, 3) := by decide +kernel
theorem dX4_findLeast_29 : decode cX4_findLeast 29 = .ok (.aload_n 0, 1) := by decide +kernel
theorem dX4_findLeast_30 : decode cX4_findLeast 30 = .ok (.getfield 56, 3) := by decide +kernel
theorem dX4_findLeast_33 : decode cX4_findLeast 33 = .ok (.iload_n 3, 1) := by decide +kernel
theorem dX4_findLeast_34 : decode cX4_findLeast 34 = .ok (.iaload, 1) := by decide +kernel
theorem dX4_findLeast_35 : decode cX4_findLeast 35 = .ok (.ifCond .ge 31, 3) := by decide +kernel
theorem dX4_findLeast_38 : decode cX4_findLeast 38 = .ok (.aload_n 0, 1) := by decide +kernel
theorem dX4_findLeast_39 : decode cX4_findLeast 39 = .ok (.getfield 56, 3) := by decide +kernel
theorem dX4_findLeast_42 : decode cX4_findLeast 42 = .ok (.iload_n 3, 1) := by decide +kernel
theorem dX4_findLeast_43 : decode cX4_findLeast 43 = .ok (.aload_n 0, 1) := by decide +kernel
theorem dX4_findLeast_44 : decode cX4_findLeast 44 = .ok (.getfield 13, 3) := by decide +kernel
theorem dX4_findLeast_47 : decode cX4_findLeast 47 = .ok (.iload 4, 2) := by decide +kernel
theorem dX4_findLeast_49 : decode cX4_findLeast 49 = .ok (.iaload, 1) := by decide +kernel
theorem dX4_findLeast_50 : decode cX4_findLeast 50 = .ok (.iload_n 3, 1) := by decide +kernel
theorem dX4_findLeast_51 : decode cX4_findLeast 51 = .ok (.if_icmp .ne 7, 3) := by decide +kernel
theorem dX4_findLeast_54 : decode cX4_findLeast 54 = .ok (.iload_n 2, 1) := by decide +kernel
theorem dX4_findLeast_55 : decode cX4_findLeast 55 = .ok (.goto 4, 3) := by decide +kernel
theorem dX4_findLeast_58 : decode cX4_findLeast 58 = .ok (.iconst (-1), 1) := by decide +kernel
theorem dX4_findLeast_59 : decode cX4_findLeast 59 = .ok (.iastore, 1) := by decide +kernel
theorem dX4_findLeast_60 : decode cX4_findLeast 60 = .ok (.iinc 4 1, 3) := by decide +kernel
theorem dX4_findLeast_63 : decode cX4_findLeast 63 = .ok (.goto (-43), 3) := by decide +kernel
theorem dX4_findLeast_66 : decode cX4_findLeast 66 = .ok (.iload_n 2, 1) := by decide +kernel
theorem dX4_findLeast_67 : decode cX4_findLeast 67 = .ok (.aload_n 0, 1) := by decide +kernel
theorem dX4_findLeast_68 : decode cX4_findLeast 68 = .ok (.getfield 56, 3) := by decide +kernel
theorem dX4_findLeast_71 : decode cX4_findLeast 71 = .ok (.iload_n 3, 1) := by decide +kernel
theorem dX4_findLeast_72 : decode cX4_findLeast 72 = .ok (.iaload, 1) := by decide +kernel
theorem dX4_findLeast_73 : decode cX4_findLeast 73 = .ok (.ifCond .lt 7, 3) := by decide +kernel
theorem dX4_findLeast_76 : decode cX4_findLeast 76 = .ok (.iconst 1, 1) := by decide +kernel
theorem dX4_findLeast_77 : decode cX4_findLeast 77 = .ok (.goto 4, 3) := by decide +kernel
theorem dX4_findLeast_80 : decode cX4_findLeast 80 = .ok (.iconst 0, 1) := by decide +kernel
theorem dX4_findLeast_81 : decode cX4_findLeast 81 = .ok (.iadd, 1) := by decide +kernel
theorem dX4_findLeast_82 : decode cX4_findLeast 82 = .ok (.istore_n 2, 1) := by decide +kernel
theorem dX4_findLeast_83 : decode cX4_findLeast 83 = .ok (.iinc 3 1, 3) := by decide +kernel
theorem dX4_findLeast_86 : decode cX4_findLeast 86 = .ok (.goto (-82), 3) := by decide +kernel
theorem dX4_findLeast_89 : decode cX4_findLeast 89 = .ok (.iload_n 2, 1) := by decide +kernel
theorem dX4_findLeast_90 : decode cX4_findLeast 90 = .ok (.bipush 10, 2) := by decide +kernel
theorem dX4_findLeast_92 : decode cX4_findLeast 92 = .ok (.if_icmp .le 5, 3) := by decide +kernel
theorem dX4_findLeast_95 : decode cX4_findLeast 95 = .ok (.iconst 0, 1) := by decide +kernel
theorem dX4_findLeast_96 : decode cX4_findLeast 96 = .ok (.ireturn, 1) := by decide +kernel
theorem dX4_findLeast_97 : decode cX4_findLeast 97 = .ok (.aload_n 0, 1) := by decide +kernel
theorem dX4_findLeast_98 : decode cX4_findLeast 98 = .ok (.iconst 1, 1) := by decide +kernel
theorem dX4_findLeast_99 : decode cX4_findLeast 99 = .ok (.iload_n 2, 1) := by decide +kernel
theorem dX4_findLeast_100 : decode cX4_findLeast 100 = .ok (.ishl, 1) := by decide +kernel
theorem dX4_findLeast_101 : decode cX4_findLeast 101 = .ok (.putfield 222, 3) := by decide +kernel
theorem dX4_findLeast_104 : decode cX4_findLeast 104 = .ok (.aload_n 0, 1) := by decide +kernel
theorem dX4_findLeast_105 : decode cX4_findLeast 105 = .ok (.getfield 73, 3) := by decide +kernel
theorem dX4_findLeast_108 : decode cX4_findLeast 108 = .ok (.istore_n 3, 1) := by decide +kernel
theorem dX4_findLeast_109 : decode cX4_findLeast 109 = .ok (.iload_n 3, 1) := by decide +kernel
theorem dX4_findLeast_110 : decode cX4_findLeast 110 = .ok (.ifCond .lt 70, 3) := by decide +kernel
theorem dX4_findLeast_113 : decode cX4_findLeast 113 = .ok (.iconst 0, 1) := by decide +kernel
theorem dX4_findLeast_114 : decode cX4_findLeast 114 = .ok (.istore 4, 2) := by decide +kernel
theorem dX4_findLeast_116 : decode cX4_findLeast 116 = .ok (.iload 4, 2) := by decide +kernel
theorem dX4_findLeast_118 : decode cX4_findLeast 118 = .ok (.aload_n 0, 1) := by decide +kernel
theorem dX4_findLeast_119 : decode cX4_findLeast 119 = .ok (.getfield 222, 3) := by decide +kernel
theorem dX4_findLeast_122 : decode cX4_findLeast 122 = .ok (.if_icmp .ge 52, 3) := by decide +kernel
theorem dX4_findLeast_125 : decode cX4_findLeast 125 = .ok (.aload_n 0, 1) := by decide +kernel
theorem dX4_findLeast_126 : decode cX4_findLeast 126 = .ok (.getfield 60, 3) := by decide +kernel
theorem dX4_findLeast_129 : decode cX4_findLeast 129 = .ok (.sipush 1024, 3) := by decide +kernel
theorem dX4_findLeast_132 : decode cX4_findLeast 132 = .ok (.iload_n 3, 1) := by decide +kernel
theorem dX4_findLeast_133 : decode cX4_findLeast 133 = .ok (.imul, 1) := by decide +kernel
theorem dX4_findLeast_134 : decode cX4_findLeast 134 = .ok (.iload 4, 2) := by decide +kernel
theorem dX4_findLeast_136 : decode cX4_findLeast 136 = .ok (.iadd, 1) := by decide +kernel
theorem dX4_findLeast_137 : decode cX4_findLeast 137 = .ok (.iload_n 3, 1) := by decide +kernel
theorem dX4_findLeast_138 : decode cX4_findLeast 138 = .ok (.aload_n 0, 1) := by decide +kernel
theorem dX4_findLeast_139 : decode cX4_findLeast 139 = .ok (.getfield 73, 3) := by decide +kernel
theorem dX4_findLeast_142 : decode cX4_findLeast 142 = .ok (.if_icmp .eq 13, 3) := by decide +kernel
theorem dX4_findLeast_145 : decode cX4_findLeast 145 = .ok (.aload_n 0, 1) := by decide +kernel
theorem dX4_findLeast_146 : decode cX4_findLeast 146 = .ok (.iload 4, 2) := by decide +kernel
theorem dX4_findLeast_148 : decode cX4_findLeast 148 = .ok (.invokevirtual 214, 3) := by decide +kernel
theorem dX4_findLeast_151 : decode cX4_findLeast 151 = .ok (.iload_n 1, 1) := by decide +kernel
theorem dX4_findLeast_152 : decode cX4_findLeast 152 = .ok (.if_icmp .le 7, 3) := by decide +kernel
theorem dX4_findLeast_155 : decode cX4_findLeast 155 = .ok (.iconst 0, 1) := by decide +kernel
theorem dX4_findLeast_156 : decode cX4_findLeast 156 = .ok (.goto 11, 3) := by decide +kernel
theorem dX4_findLeast_159 : decode cX4_findLeast 159 = .ok (.aload_n 0, 1) := by decide +kernel
theorem dX4_findLeast_160 : decode cX4_findLeast 160 = .ok (.iload_n 3, 1) := by decide +kernel
theorem dX4_findLeast_161 : decode cX4_findLeast 161 = .ok (.iload 4, 2) := by decide +kernel
theorem dX4_findLeast_163 : decode cX4_findLeast 163 = .ok (.iload_n 1, 1) := by decide +kernel
theorem dX4_findLeast_164 : decode cX4_findLeast 164 = .ok (.invokevirtual 225, 3) := by decide +kernel
theorem dX4_findLeast_167 : decode cX4_findLeast 167 = .ok (.iastore, 1) := by decide +kernel
theorem dX4_findLeast_168 : decode cX4_findLeast 168 = .ok (.iinc 4 1, 3) := by decide +kernel
theorem dX4_findLeast_171 : decode cX4_findLeast 171 = .ok (.goto (-55), 3) := by decide +kernel
theorem dX4_findLeast_174 : decode cX4_findLeast 174 = .ok (.iinc 3 (-1), 3) := by decide +kernel
theorem dX4_findLeast_177 : decode cX4_findLeast 177 = .ok (.goto (-68), 3) := by decide +kernel
theorem dX4_findLeast_180 : decode cX4_findLeast 180 = .ok (.iconst 1, 1) := by decide +kernel
theorem dX4_findLeast_181 : decode cX4_findLeast 181 = .ok (.ireturn, 1) := by decide +kernel
theorem dX4_least__0 : decode cX4_least_ 0 = .ok (.iload_n 1, 1) := by decide +kernel
theorem dX4_least__1 : decode cX4_least_ 1 = .ok (.iconst 1, 1) := by decide +kernel
theorem dX4_least__2 : decode cX4_least_ 2 = .ok (.bipush 8, 2) := by decide +kernel
theorem dX4_least__4 : decode cX4_least_ 4 = .ok (.invokestatic 69, 3) := by decide +kernel
theorem dX4_least__7 : decode cX4_least_ 7 = .ok (.ifCond .ne 5, 3) := by decide +kernel
theorem dX4_least__10 : decode cX4_least_ 10 = .ok (.iconst (-1), 1) := by decide +kernel
theorem dX4_least__11 : decode cX4_least_ 11 = .ok (.ireturn, 1) := by decide +kernel
theorem dX4_least__12 : decode cX4_least_ 12 = .ok (.aload_n 0, 1) := by decide +kernel
theorem dX4_least__13 : decode cX4_least_ 13 = .ok (.iload_n 1, 1) := by decide +kernel
theorem dX4_least__14 : decode cX4_least_ 14 = .ok (.invokevirtual 229, 3) := by decide +kernel
theorem dX4_least__17 : decode cX4_least_ 17 = .ok (.ifCond .eq 12, 3) := by decide +kernel
theorem dX4_least__20 : decode cX4_least_ 20 = .ok (.aload_n 0, 1) := by decide +kernel
theorem dX4_least__21 : decode cX4_least_ 21 = .ok (.getfield 60, 3) := by decide +kernel
theorem dX4_least__24 : decode cX4_least_ 24 = .ok (.iconst 0, 1) := by decide +kernel
theorem dX4_least__25 : decode cX4_least_ 25 = .ok (.iaload, 1) := by decide +kernel
theorem dX4_least__26 : decode cX4_least_ 26 = .ok (.goto 5, 3) := by decide +kernel
theorem dX4_least__29 : decode cX4_least_ 29 = .ok (.bipush (-5), 2) := by decide +kernel
theorem dX4_least__31 : decode cX4_least_ 31 = .ok (.ireturn, 1) := by decide +kernel
theorem dX4_thingAt_0 : decode cX4_thingAt 0 = .ok (.iconst (-1), 1) := by decide +kernel
theorem dX4_thingAt_1 : decode cX4_thingAt 1 = .ok (.istore_n 2, 1) := by decide +kernel
theorem dX4_thingAt_2 : decode cX4_thingAt 2 = .ok (.iconst 0, 1) := by decide +kernel
theorem dX4_thingAt_3 : decode cX4_thingAt 3 = .ok (.istore_n 3, 1) := by decide +kernel
theorem dX4_thingAt_4 : decode cX4_thingAt 4 = .ok (.iload_n 3, 1) := by decide +kernel
theorem dX4_thingAt_5 : decode cX4_thingAt 5 = .ok (.bipush 16, 2) := by decide +kernel
theorem dX4_thingAt_7 : decode cX4_thingAt 7 = .ok (.if_icmp .ge 25, 3) := by decide +kernel
theorem dX4_thingAt_10 : decode cX4_thingAt 10 = .ok (.aload_n 0, 1) := by decide +kernel
theorem dX4_thingAt_11 : decode cX4_thingAt 11 = .ok (.getfield 56, 3) := by decide +kernel
theorem dX4_thingAt_14 : decode cX4_thingAt 14 = .ok (.iload_n 3, 1) := by decide +kernel
theorem dX4_thingAt_15 : decode cX4_thingAt 15 = .ok (.iaload, 1) := by decide +kernel
theorem dX4_thingAt_16 : decode cX4_thingAt 16 = .ok (.iload_n 1, 1) := by decide +kernel
theorem dX4_thingAt_17 : decode cX4_thingAt 17 = .ok (.if_icmp .ne 7, 3) := by decide +kernel
theorem dX4_thingAt_20 : decode cX4_thingAt 20 = .ok (.iload_n 3, 1) := by decide +kernel
theorem dX4_thingAt_21 : decode cX4_thingAt 21 = .ok (.goto 4, 3) := by decide +kernel
theorem dX4_thingAt_24 : decode cX4_thingAt 24 = .ok (.iload_n 2, 1) := by decide +kernel
theorem dX4_thingAt_25 : decode cX4_thingAt 25 = .ok (.istore_n 2, 1) := by decide +kernel
theorem dX4_thingAt_26 : decode cX4_thingAt 26 = .ok (.iinc 3 1, 3) := by decide +kernel
theorem dX4_thingAt_29 : decode cX4_thingAt 29 = .ok (.goto (-25), 3) := by decide +kernel
theorem dX4_thingAt_32 : decode cX4_thingAt 32 = .ok (.iload_n 2, 1) := by decide +kernel
theorem dX4_thingAt_33 : decode cX4_thingAt 33 = .ok (.ireturn, 1) := by decide +kernel
theorem dX4_goes_0 : decode cX4_goes 0 = .ok (.iload_n 1, 1) := by decide +kernel
theorem dX4_goes_1 : decode cX4_goes 1 = .ok (.iconst 1, 1) := by decide +kernel
theorem dX4_goes_2 : decode cX4_goes 2 = .ok (.bipush 8, 2) := by decide +kernel
theorem dX4_goes_4 : decode cX4_goes 4 = .ok (.invokestatic 69, 3) := by decide +kernel
theorem dX4_goes_7 : decode cX4_goes 7 = .ok (.ifCond .eq 19, 3) := by decide +kernel
theorem dX4_goes_10 : decode cX4_goes 10 = .ok (.aload_n 0, 1) := by decide +kernel
theorem dX4_goes_11 : decode cX4_goes 11 = .ok (.iload_n 2, 1) := by decide +kernel
theorem dX4_goes_12 : decode cX4_goes 12 = .ok (.invokevirtual 90, 3) := by decide +kernel
theorem dX4_goes_15 : decode cX4_goes 15 = .ok (.ifCond .eq 11, 3) := by decide +kernel
theorem dX4_goes_18 : decode cX4_goes 18 = .ok (.aload_n 0, 1) := by decide +kernel
theorem dX4_goes_19 : decode cX4_goes 19 = .ok (.iload_n 1, 1) := by decide +kernel
theorem dX4_goes_20 : decode cX4_goes 20 = .ok (.invokevirtual 229, 3) := by decide +kernel
theorem dX4_goes_23 : decode cX4_goes 23 = .ok (.ifCond .ne 5, 3) := by decide +kernel
theorem dX4_goes_26 : decode cX4_goes 26 = .ok (.iconst (-1), 1) := by decide +kernel
theorem dX4_goes_27 : decode cX4_goes 27 = .ok (.ireturn, 1) := by decide +kernel
theorem dX4_goes_28 : decode cX4_goes 28 = .ok (.iconst 0, 1) := by decide +kernel
theorem dX4_goes_29 : decode cX4_goes 29 = .ok (.istore_n 3, 1) := by decide +kernel
theorem dX4_goes_30 : decode cX4_goes 30 = .ok (.iconst (-1), 1) := by decide +kernel
theorem dX4_goes_31 : decode cX4_goes 31 = .ok (.istore 4, 2) := by decide +kernel
theorem dX4_goes_33 : decode cX4_goes 33 = .ok (.iconst 0, 1) := by decide +kernel
theorem dX4_goes_34 : decode cX4_goes 34 = .ok (.istore 5, 2) := by decide +kernel
theorem dX4_goes_36 : decode cX4_goes 36 = .ok (.iload 5, 2) := by decide +kernel
theorem dX4_goes_38 : decode cX4_goes 38 = .ok (.iload_n 2, 1) := by decide +kernel
theorem dX4_goes_39 : decode cX4_goes 39 = .ok (.if_icmp .gt 128, 3) := by decide +kernel
theorem dX4_goes_42 : decode cX4_goes 42 = .ok (.aload_n 0, 1) := by decide +kernel
theorem dX4_goes_43 : decode cX4_goes 43 = .ok (.getfield 56, 3) := by decide +kernel
theorem dX4_goes_46 : decode cX4_goes 46 = .ok (.aload_n 0, 1) := by decide +kernel
theorem dX4_goes_47 : decode cX4_goes 47 = .ok (.getfield 13, 3) := by decide +kernel
theorem dX4_goes_50 : decode cX4_goes 50 = .ok (.iload 5, 2) := by decide +kernel
theorem dX4_goes_52 : decode cX4_goes 52 = .ok (.iaload, 1) := by decide +kernel
theorem dX4_goes_53 : decode cX4_goes 53 = .ok (.iaload, 1) := by decide +kernel
theorem dX4_goes_54 : decode cX4_goes 54 = .ok (.istore 6, 2) := by decide +kernel
theorem dX4_goes_56 : decode cX4_goes 56 = .ok (.iconst (-1), 1) := by decide +kernel
theorem dX4_goes_57 : decode cX4_goes 57 = .ok (.istore 4, 2) := by decide +kernel
theorem dX4_goes_59 : decode cX4_goes 59 = .ok (.iload_n 3, 1) := by decide +kernel
theorem dX4_goes_60 : decode cX4_goes 60 = .ok (.iload 6, 2) := by decide +kernel
theorem dX4_goes_62 : decode cX4_goes 62 = .ok (.ishr, 1) := by decide +kernel
theorem dX4_goes_63 : decode cX4_goes 63 = .ok (.iconst 1, 1) := by decide +kernel
theorem dX4_goes_64 : decode cX4_goes 64 = .ok (.iand, 1) := by decide +kernel
theorem dX4_goes_65 : decode cX4_goes 65 = .ok (.ifCond .ne 96, 3) := by decide +kernel
theorem dX4_goes_68 : decode cX4_goes 68 = .ok (.bipush 9, 2) := by decide +kernel
theorem dX4_goes_70 : decode cX4_goes 70 = .ok (.istore 7, 2) := by decide +kernel
theorem dX4_goes_72 : decode cX4_goes 72 = .ok (.iload 7, 2) := by decide +kernel
theorem dX4_goes_74 : decode cX4_goes 74 = .ok (.ifCond .lt 64, 3) := by decide +kernel
theorem dX4_goes_77 : decode cX4_goes 77 = .ok (.aload_n 0, 1) := by decide +kernel
theorem dX4_goes_78 : decode cX4_goes 78 = .ok (.iload_n 3, 1) := by decide +kernel
theorem dX4_goes_79 : decode cX4_goes 79 = .ok (.invokevirtual 214, 3) := by decide +kernel
theorem dX4_goes_82 : decode cX4_goes 82 = .ok (.iload_n 1, 1) := by decide +kernel
theorem dX4_goes_83 : decode cX4_goes 83 = .ok (.if_icmp .ne 55, 3) := by decide +kernel
theorem dX4_goes_86 : decode cX4_goes 86 = .ok (.iload_n 3, 1) := by decide +kernel
theorem dX4_goes_87 : decode cX4_goes 87 = .ok (.iload 7, 2) := by decide +kernel
theorem dX4_goes_89 : decode cX4_goes 89 = .ok (.ishr, 1) := by decide +kernel
theorem dX4_goes_90 : decode cX4_goes 90 = .ok (.iconst 1, 1) := by decide +kernel
theorem dX4_goes_91 : decode cX4_goes 91 = .ok (.iand, 1) := by decide +kernel
theorem dX4_goes_92 : decode cX4_goes 92 = .ok (.iconst 1, 1) := by decide +kernel
theorem dX4_goes_93 : decode cX4_goes 93 = .ok (.if_icmp .ne 35, 3) := by decide +kernel
theorem dX4_goes_96 : decode cX4_goes 96 = .ok (.aload_n 0, 1) := by decide +kernel
theorem dX4_goes_97 : decode cX4_goes 97 = .ok (.iload 5, 2) := by decide +kernel
theorem dX4_goes_99 : decode cX4_goes 99 = .ok (.iload_n 3, 1) := by decide +kernel
theorem dX4_goes_100 : decode cX4_goes 100 = .ok (.iload 7, 2) := by decide +kernel
theorem dX4_goes_102 : decode cX4_goes 102 = .ok (.iload 6, 2) := by decide +kernel
theorem dX4_goes_104 : decode cX4_goes 104 = .ok (.invokevirtual 217, 3) := by decide +kernel
theorem dX4_goes_107 : decode cX4_goes 107 = .ok (.aload_n 0, 1) := by decide +kernel
theorem dX4_goes_108 : decode cX4_goes 108 = .ok (.getfield 60, 3) := by decide +kernel
theorem dX4_goes_111 : decode cX4_goes 111 = .ok (.sipush 1024, 3) := by decide +kernel
theorem dX4_goes_114 : decode cX4_goes 114 = .ok (.iload 5, 2) := by decide +kernel
theorem dX4_goes_116 : decode cX4_goes 116 = .ok (.imul, 1) := by decide +kernel
theorem dX4_goes_117 : decode cX4_goes 117 = .ok (.iload_n 3, 1) := by decide +kernel
theorem dX4_goes_118 : decode cX4_goes 118 = .ok (.iadd, 1) := by decide +kernel
theorem dX4_goes_119 : decode cX4_goes 119 = .ok (.iaload, 1) := by decide +kernel
theorem dX4_goes_120 : decode cX4_goes 120 = .ok (.if_icmp .ne 8, 3) := by decide +kernel
theorem dX4_goes_123 : decode cX4_goes 123 = .ok (.iload 7, 2) := by decide +kernel
theorem dX4_goes_125 : decode cX4_goes 125 = .ok (.goto 5, 3) := by decide +kernel
theorem dX4_goes_128 : decode cX4_goes 128 = .ok (.iload 4, 2) := by decide +kernel
theorem dX4_goes_130 : decode cX4_goes 130 = .ok (.istore 4, 2) := by decide +kernel
theorem dX4_goes_132 : decode cX4_goes 132 = .ok (.iinc 7 (-1), 3) := by decide +kernel
theorem dX4_goes_135 : decode cX4_goes 135 = .ok (.goto (-63), 3) := by decide +kernel
theorem dX4_goes_138 : decode cX4_goes 138 = .ok (.iload 4, 2) := by decide +kernel
theorem dX4_goes_140 : decode cX4_goes 140 = .ok (.ifCond .ge 7, 3) := by decide +kernel
theorem dX4_goes_143 : decode cX4_goes 143 = .ok (.iload_n 3, 1) := by decide +kernel
theorem dX4_goes_144 : decode cX4_goes 144 = .ok (.goto 11, 3) := by decide +kernel
theorem dX4_goes_147 : decode cX4_goes 147 = .ok (.iload_n 3, 1) := by decide +kernel
theorem dX4_goes_148 : decode cX4_goes 148 = .ok (.iconst 1, 1) := by decide +kernel
theorem dX4_goes_149 : decode cX4_goes 149 = .ok (.iload 4, 2) := by decide +kernel
theorem dX4_goes_151 : decode cX4_goes 151 = .ok (.ishl, 1) := by decide +kernel
theorem dX4_goes_152 : decode cX4_goes 152 = .ok (.iconst (-1), 1) := by decide +kernel
theorem dX4_goes_153 : decode cX4_goes 153 = .ok (.ixor, 1) := by decide +kernel
theorem dX4_goes_154 : decode cX4_goes 154 = .ok (.iand, 1) := by decide +kernel
theorem dX4_goes_155 : decode cX4_goes 155 = .ok (.iconst 1, 1) := by decide +kernel
theorem dX4_goes_156 : decode cX4_goes 156 = .ok (.iload 6, 2) := by decide +kernel
theorem dX4_goes_158 : decode cX4_goes 158 = .ok (.ishl, 1) := by decide +kernel
theorem dX4_goes_159 : decode cX4_goes 159 = .ok (.ior, 1) := by decide +kernel
theorem dX4_goes_160 : decode cX4_goes 160 = .ok (.istore_n 3, 1) := by decide +kernel
theorem dX4_goes_161 : decode cX4_goes 161 = .ok (.iinc 5 1, 3) := by decide +kernel
theorem dX4_goes_164 : decode cX4_goes 164 = .ok (.goto (-128), 3) := by decide +kernel
theorem dX4_goes_167 : decode cX4_goes 167 = .ok (.iload 4, 2) := by decide +kernel
theorem dX4_goes_169 : decode cX4_goes 169 = .ok (.ifCond .ge 7, 3) := by decide +kernel
theorem dX4_goes_172 : decode cX4_goes 172 = .ok (.iconst (-1), 1) := by decide +kernel
theorem dX4_goes_173 : decode cX4_goes 173 = .ok (.goto 9, 3) := by decide +kernel
theorem dX4_goes_176 : decode cX4_goes 176 = .ok (.aload_n 0, 1) := by decide +kernel
theorem dX4_goes_177 : decode cX4_goes 177 = .ok (.iload 4, 2) := by decide +kernel
theorem dX4_goes_179 : decode cX4_goes 179 = .ok (.invokevirtual 232, 3) := by decide +kernel
theorem dX4_goes_182 : decode cX4_goes 182 = .ok (.ireturn, 1) := by decide +kernel
theorem dX4_phaseOf_0 : decode cX4_phaseOf 0 = .ok (.iconst (-1), 1) := by decide +kernel
theorem dX4_phaseOf_1 : decode cX4_phaseOf 1 = .ok (.istore_n 3, 1) := by decide +kernel
theorem dX4_phaseOf_2 : decode cX4_phaseOf 2 = .ok (.iload_n 1, 1) := by decide +kernel
theorem dX4_phaseOf_3 : decode cX4_phaseOf 3 = .ok (.istore 4, 2) := by decide +kernel
theorem dX4_phaseOf_5 : decode cX4_phaseOf 5 = .ok (.iconst 0, 1) := by decide +kernel
theorem dX4_phaseOf_6 : decode cX4_phaseOf 6 = .ok (.istore 5, 2) := by decide +kernel
theorem dX4_phaseOf_8 : decode cX4_phaseOf 8 = .ok (.iload 5, 2) := by decide +kernel
theorem dX4_phaseOf_10 : decode cX4_phaseOf 10 = .ok (.iload_n 2, 1) := by decide +kernel
theorem dX4_phaseOf_11 : decode cX4_phaseOf 11 = .ok (.if_icmp .gt 102, 3) := by decide +kernel
theorem dX4_phaseOf_14 : decode cX4_phaseOf 14 = .ok (.iload_n 3, 1) := by decide +kernel
theorem dX4_phaseOf_15 : decode cX4_phaseOf 15 = .ok (.ifCond .lt 24, 3) := by decide +kernel
theorem dX4_phaseOf_18 : decode cX4_phaseOf 18 = .ok (.aload_n 0, 1) := by decide +kernel
theorem dX4_phaseOf_19 : decode cX4_phaseOf 19 = .ok (.getfield 63, 3) := by decide +kernel
theorem dX4_phaseOf_22 : decode cX4_phaseOf 22 = .ok (.aload_n 0, 1) := by decide +kernel
theorem dX4_phaseOf_23 : decode cX4_phaseOf 23 = .ok (.getfield 13, 3) := by decide +kernel
theorem dX4_phaseOf_26 : decode cX4_phaseOf 26 = .ok (.iload 5, 2) := by decide +kernel
theorem dX4_phaseOf_28 : decode cX4_phaseOf 28 = .ok (.iaload, 1) := by decide +kernel
theorem dX4_phaseOf_29 : decode cX4_phaseOf 29 = .ok (.baload, 1) := by decide +kernel
theorem dX4_phaseOf_30 : decode cX4_phaseOf 30 = .ok (.ifCond .ne 39, 3) := by decide +kernel
theorem dX4_phaseOf_33 : decode cX4_phaseOf 33 = .ok (.iload 4, 2) := by decide +kernel
theorem dX4_phaseOf_35 : decode cX4_phaseOf 35 = .ok (.iload_n 1, 1) := by decide +kernel
theorem dX4_phaseOf_36 : decode cX4_phaseOf 36 = .ok (.if_icmp .ne 33, 3) := by decide +kernel
theorem dX4_phaseOf_39 : decode cX4_phaseOf 39 = .ok (.iinc 3 1, 3) := by decide +kernel
theorem dX4_phaseOf_42 : decode cX4_phaseOf 42 = .ok (.iconst 0, 1) := by decide +kernel
theorem dX4_phaseOf_43 : decode cX4_phaseOf 43 = .ok (.istore 4, 2) := by decide +kernel
theorem dX4_phaseOf_45 : decode cX4_phaseOf 45 = .ok (.iconst 0, 1) := by decide +kernel
theorem dX4_phaseOf_46 : decode cX4_phaseOf 46 = .ok (.istore 6, 2) := by decide +kernel
theorem dX4_phaseOf_48 : decode cX4_phaseOf 48 = .ok (.iload 6, 2) := by decide +kernel
theorem dX4_phaseOf_50 : decode cX4_phaseOf 50 = .ok (.bipush 16, 2) := by decide +kernel
theorem dX4_phaseOf_52 : decode cX4_phaseOf 52 = .ok (.if_icmp .ge 17, 3) := by decide +kernel
theorem dX4_phaseOf_55 : decode cX4_phaseOf 55 = .ok (.aload_n 0, 1) := by decide +kernel
theorem dX4_phaseOf_56 : decode cX4_phaseOf 56 = .ok (.getfield 63, 3) := by decide +kernel
theorem dX4_phaseOf_59 : decode cX4_phaseOf 59 = .ok (.iload 6, 2) := by decide +kernel
theorem dX4_phaseOf_61 : decode cX4_phaseOf 61 = .ok (.iconst 0, 1) := by decide +kernel
theorem dX4_phaseOf_62 : decode cX4_phaseOf 62 = .ok (.bastore, 1) := by decide +kernel
theorem dX4_phaseOf_63 : decode cX4_phaseOf 63 = .ok (.iinc 6 1, 3) := by decide +kernel
theorem dX4_phaseOf_66 : decode cX4_phaseOf 66 = .ok (.goto (-18), 3) := by decide +kernel
theorem dX4_phaseOf_69 : decode cX4_phaseOf 69 = .ok (.iload 4, 2) := by decide +kernel
theorem dX4_phaseOf_71 : decode cX4_phaseOf 71 = .ok (.aload_n 0, 1) := by decide +kernel
theorem dX4_phaseOf_72 : decode cX4_phaseOf 72 = .ok (.getfield 63, 3) := by decide +kernel
theorem dX4_phaseOf_75 : decode cX4_phaseOf 75 = .ok (.aload_n 0, 1) := by decide +kernel
theorem dX4_phaseOf_76 : decode cX4_phaseOf 76 = .ok (.getfield 13, 3) := by decide +kernel
theorem dX4_phaseOf_79 : decode cX4_phaseOf 79 = .ok (.iload 5, 2) := by decide +kernel
theorem dX4_phaseOf_81 : decode cX4_phaseOf 81 = .ok (.iaload, 1) := by decide +kernel
theorem dX4_phaseOf_82 : decode cX4_phaseOf 82 = .ok (.baload, 1) := by decide +kernel
theorem dX4_phaseOf_83 : decode cX4_phaseOf 83 = .ok (.ifCond .eq 7, 3) := by decide +kernel
theorem dX4_phaseOf_86 : decode cX4_phaseOf 86 = .ok (.iconst 0, 1) := by decide +kernel
theorem dX4_phaseOf_87 : decode cX4_phaseOf 87 = .ok (.goto 4, 3) := by decide +kernel
theorem dX4_phaseOf_90 : decode cX4_phaseOf 90 = .ok (.iconst 1, 1) := by decide +kernel
theorem dX4_phaseOf_91 : decode cX4_phaseOf 91 = .ok (.iadd, 1) := by decide +kernel
theorem dX4_phaseOf_92 : decode cX4_phaseOf 92 = .ok (.istore 4, 2) := by decide +kernel
theorem dX4_phaseOf_94 : decode cX4_phaseOf 94 = .ok (.aload_n 0, 1) := by decide +kernel
theorem dX4_phaseOf_95 : decode cX4_phaseOf 95 = .ok (.getfield 63, 3) := by decide +kernel
theorem dX4_phaseOf_98 : decode cX4_phaseOf 98 = .ok (.aload_n 0, 1) := by decide +kernel
theorem dX4_phaseOf_99 : decode cX4_phaseOf 99 = .ok (.getfield 13, 3) := by decide +kernel
theorem dX4_phaseOf_102 : decode cX4_phaseOf 102 = .ok (.iload 5, 2) := by decide +kernel
theorem dX4_phaseOf_104 : decode cX4_phaseOf 104 = .ok (.iaload, 1) := by decide +kernel
theorem dX4_phaseOf_105 : decode cX4_phaseOf 105 = .ok (.iconst 1, 1) := by decide +kernel
theorem dX4_phaseOf_106 : decode cX4_phaseOf 106 = .ok (.bastore, 1) := by decide +kernel
theorem dX4_phaseOf_107 : decode cX4_phaseOf 107 = .ok (.iinc 5 1, 3) := by decide +kernel
theorem dX4_phaseOf_110 : decode cX4_phaseOf 110 = .ok (.goto (-102), 3) := by decide +kernel
theorem dX4_phaseOf_113 : decode cX4_phaseOf 113 = .ok (.iload_n 3, 1) := by decide +kernel
theorem dX4_phaseOf_114 : decode cX4_phaseOf 114 = .ok (.ireturn, 1) := by decide +kernel
theorem dX4_phases_0 : decode cX4_phases 0 = .ok (.iload_n 1, 1) := by decide +kernel
theorem dX4_phases_1 : decode cX4_phases 1 = .ok (.iconst 1, 1) := by decide +kernel
theorem dX4_phases_2 : decode cX4_phases 2 = .ok (.bipush 8, 2) := by decide +kernel
theorem dX4_phases_4 : decode cX4_phases 4 = .ok (.invokestatic 69, 3) := by decide +kernel
theorem dX4_phases_7 : decode cX4_phases 7 = .ok (.ifCond .eq 19, 3) := by decide +kernel
theorem dX4_phases_10 : decode cX4_phases 10 = .ok (.aload_n 0, 1) := by decide +kernel
theorem dX4_phases_11 : decode cX4_phases 11 = .ok (.iload_n 1, 1) := by decide +kernel
theorem dX4_phases_12 : decode cX4_phases 12 = .ok (.aload_n 0, 1) := by decide +kernel
theorem dX4_phases_13 : decode cX4_phases 13 = .ok (.getfield 73, 3) := by decide +kernel
theorem dX4_phases_16 : decode cX4_phases 16 = .ok (.iconst 1, 1) := by decide +kernel
theorem dX4_phases_17 : decode cX4_phases 17 = .ok (.isub, 1) := by decide +kernel
theorem dX4_phases_18 : decode cX4_phases 18 = .ok (.invokevirtual 235, 3) := by decide +kernel
theorem dX4_phases_21 : decode cX4_phases 21 = .ok (.iconst 1, 1) := by decide +kernel
theorem dX4_phases_22 : decode cX4_phases 22 = .ok (.iadd, 1) := by decide +kernel
theorem dX4_phases_23 : decode cX4_phases 23 = .ok (.goto 4, 3) := by decide +kernel
theorem dX4_phases_26 : decode cX4_phases 26 = .ok (.iconst (-1), 1) := by decide +kernel
theorem dX4_phases_27 : decode cX4_phases 27 = .ok (.ireturn, 1) := by decide +kernel
theorem dX4_phase_0 : decode cX4_phase 0 = .ok (.iload_n 1, 1) := by decide +kernel
theorem dX4_phase_1 : decode cX4_phase 1 = .ok (.iconst 1, 1) := by decide +kernel
theorem dX4_phase_2 : decode cX4_phase 2 = .ok (.bipush 8, 2) := by decide +kernel
theorem dX4_phase_4 : decode cX4_phase 4 = .ok (.invokestatic 69, 3) := by decide +kernel
theorem dX4_phase_7 : decode cX4_phase 7 = .ok (.ifCond .eq 20, 3) := by decide +kernel
theorem dX4_phase_10 : decode cX4_phase 10 = .ok (.aload_n 0, 1) := by decide +kernel
theorem dX4_phase_11 : decode cX4_phase 11 = .ok (.iload_n 2, 1) := by decide +kernel
theorem dX4_phase_12 : decode cX4_phase 12 = .ok (.invokevirtual 90, 3) := by decide +kernel
theorem dX4_phase_15 : decode cX4_phase 15 = .ok (.ifCond .eq 12, 3) := by decide +kernel
theorem dX4_phase_18 : decode cX4_phase 18 = .ok (.aload_n 0, 1) := by decide +kernel
theorem dX4_phase_19 : decode cX4_phase 19 = .ok (.iload_n 1, 1) := by decide +kernel
theorem dX4_phase_20 : decode cX4_phase 20 = .ok (.iload_n 2, 1) := by decide +kernel
theorem dX4_phase_21 : decode cX4_phase 21 = .ok (.invokevirtual 235, 3) := by decide +kernel
theorem dX4_phase_24 : decode cX4_phase 24 = .ok (.goto 4, 3) := by decide +kernel
theorem dX4_phase_27 : decode cX4_phase 27 = .ok (.iconst (-1), 1) := by decide +kernel
theorem dX4_phase_28 : decode cX4_phase 28 = .ok (.ireturn, 1) := by decide +kernel
theorem dX4_distanceOf_0 : decode cX4_distanceOf 0 = .ok (.iload_n 1, 1) := by decide +kernel
theorem dX4_distanceOf_1 : decode cX4_distanceOf 1 = .ok (.iconst 1, 1) := by decide +kernel
theorem dX4_distanceOf_2 : decode cX4_distanceOf 2 = .ok (.isub, 1) := by decide +kernel
theorem dX4_distanceOf_3 : decode cX4_distanceOf 3 = .ok (.istore_n 2, 1) := by decide +kernel
theorem dX4_distanceOf_4 : decode cX4_distanceOf 4 = .ok (.iload_n 2, 1) := by decide +kernel
theorem dX4_distanceOf_5 : decode cX4_distanceOf 5 = .ok (.ifCond .lt 24, 3) := by decide +kernel
theorem dX4_distanceOf_8 : decode cX4_distanceOf 8 = .ok (.aload_n 0, 1) := by decide +kernel
theorem dX4_distanceOf_9 : decode cX4_distanceOf 9 = .ok (.getfield 13, 3) := by decide +kernel
theorem dX4_distanceOf_12 : decode cX4_distanceOf 12 = .ok (.iload_n 2, 1) := by decide +kernel
theorem dX4_distanceOf_13 : decode cX4_distanceOf 13 = .ok (.iaload, 1) := by decide +kernel
theorem dX4_distanceOf_14 : decode cX4_distanceOf 14 = .ok (.aload_n 0, 1) := by decide +kernel
theorem dX4_distanceOf_15 : decode cX4_distanceOf 15 = .ok (.getfield 13, 3) := by decide +kernel
theorem dX4_distanceOf_18 : decode cX4_distanceOf 18 = .ok (.iload_n 1, 1) := by decide +kernel
theorem dX4_distanceOf_19 : decode cX4_distanceOf 19 = .ok (.iaload, 1) := by decide +kernel
theorem dX4_distanceOf_20 : decode cX4_distanceOf 20 = .ok (.if_icmp .eq 9, 3) := by decide +kernel
theorem dX4_distanceOf_23 : decode cX4_distanceOf 23 = .ok (.iinc 2 (-1), 3) := by decide +kernel
theorem dX4_distanceOf_26 : decode cX4_distanceOf 26 = .ok (.goto (-22), 3) := by decide +kernel
theorem dX4_distanceOf_29 : decode cX4_distanceOf 29 = .ok (.iload_n 2, 1) := by decide +kernel
theorem dX4_distanceOf_30 : decode cX4_distanceOf 30 = .ok (.ifCond .ge 5, 3) := by decide +kernel
theorem dX4_distanceOf_33 : decode cX4_distanceOf 33 = .ok (.iconst 0, 1) := by decide +kernel
theorem dX4_distanceOf_34 : decode cX4_distanceOf 34 = .ok (.ireturn, 1) := by decide +kernel
theorem dX4_distanceOf_35 : decode cX4_distanceOf 35 = .ok (.iconst 0, 1) := by decide +kernel
theorem dX4_distanceOf_36 : decode cX4_distanceOf 36 = .ok (.istore_n 3, 1) := by decide +kernel
theorem dX4_distanceOf_37 : decode cX4_distanceOf 37 = .ok (.iload_n 2, 1) := by decide +kernel
theorem dX4_distanceOf_38 : decode cX4_distanceOf 38 = .ok (.iconst 1, 1) := by decide +kernel
theorem dX4_distanceOf_39 : decode cX4_distanceOf 39 = .ok (.iadd, 1) := by decide +kernel
theorem dX4_distanceOf_40 : decode cX4_distanceOf 40 = .ok (.istore 4, 2) := by decide +kernel
theorem dX4_distanceOf_42 : decode cX4_distanceOf 42 = .ok (.iload 4, 2) := by decide +kernel
theorem dX4_distanceOf_44 : decode cX4_distanceOf 44 = .ok (.iload_n 1, 1) := by decide +kernel
theorem dX4_distanceOf_45 : decode cX4_distanceOf 45 = .ok (.if_icmp .gt 72, 3) := by decide +kernel
theorem dX4_distanceOf_48 : decode cX4_distanceOf 48 = .ok (.iconst 1, 1) := by decide +kernel
theorem dX4_distanceOf_49 : decode cX4_distanceOf 49 = .ok (.istore 5, 2) := by decide +kernel
theorem dX4_distanceOf_51 : decode cX4_distanceOf 51 = .ok (.iload_n 2, 1) := by decide +kernel
theorem dX4_distanceOf_52 : decode cX4_distanceOf 52 = .ok (.iconst 1, 1) := by decide +kernel
theorem dX4_distanceOf_53 : decode cX4_distanceOf 53 = .ok (.iadd, 1) := by decide +kernel
theorem dX4_distanceOf_54 : decode cX4_distanceOf 54 = .ok (.istore 6, 2) := by decide +kernel
theorem dX4_distanceOf_56 : decode cX4_distanceOf 56 = .ok (.iload 6, 2) := by decide +kernel
theorem dX4_distanceOf_58 : decode cX4_distanceOf 58 = .ok (.iload 4, 2) := by decide +kernel
theorem dX4_distanceOf_60 : decode cX4_distanceOf 60 = .ok (.if_icmp .ge 38, 3) := by decide +kernel
theorem dX4_distanceOf_63 : decode cX4_distanceOf 63 = .ok (.iload 5, 2) := by decide +kernel
theorem dX4_distanceOf_65 : decode cX4_distanceOf 65 = .ok (.ifCond .eq 24, 3) := by decide +kernel
theorem dX4_distanceOf_68 : decode cX4_distanceOf 68 = .ok (.aload_n 0, 1) := by decide +kernel
theorem dX4_distanceOf_69 : decode cX4_distanceOf 69 = .ok (.getfield 13, 3) := by decide +kernel
theorem dX4_distanceOf_72 : decode cX4_distanceOf 72 = .ok (.iload 6, 2) := by decide +kernel
theorem dX4_distanceOf_74 : decode cX4_distanceOf 74 = .ok (.iaload, 1) := by decide +kernel
theorem dX4_distanceOf_75 : decode cX4_distanceOf 75 = .ok (.aload_n 0, 1) := by decide +kernel
theorem dX4_distanceOf_76 : decode cX4_distanceOf 76 = .ok (.getfield 13, 3) := by decide +kernel
theorem dX4_distanceOf_79 : decode cX4_distanceOf 79 = .ok (.iload 4, 2) := by decide +kernel
theorem dX4_distanceOf_81 : decode cX4_distanceOf 81 = .ok (.iaload, 1) := by decide +kernel
theorem dX4_distanceOf_82 : decode cX4_distanceOf 82 = .ok (.if_icmp .eq 7, 3) := by decide +kernel
theorem dX4_distanceOf_85 : decode cX4_distanceOf 85 = .ok (.iconst 1, 1) := by decide +kernel
theorem dX4_distanceOf_86 : decode cX4_distanceOf 86 = .ok (.goto 4, 3) := by decide +kernel
theorem dX4_distanceOf_89 : decode cX4_distanceOf 89 = .ok (.iconst 0, 1) := by decide +kernel
theorem dX4_distanceOf_90 : decode cX4_distanceOf 90 = .ok (.istore 5, 2) := by decide +kernel
theorem dX4_distanceOf_92 : decode cX4_distanceOf 92 = .ok (.iinc 6 1, 3) := by decide +kernel
theorem dX4_distanceOf_95 : decode cX4_distanceOf 95 = .ok (.goto (-39), 3) := by decide +kernel
theorem dX4_distanceOf_98 : decode cX4_distanceOf 98 = .ok (.iload_n 3, 1) := by decide +kernel
theorem dX4_distanceOf_99 : decode cX4_distanceOf 99 = .ok (.iload 5, 2) := by decide +kernel
theorem dX4_distanceOf_101 : decode cX4_distanceOf 101 = .ok (.ifCond .eq 7, 3) := by decide +kernel
theorem dX4_distanceOf_104 : decode cX4_distanceOf 104 = .ok (.iconst 1, 1) := by decide +kernel
theorem dX4_distanceOf_105 : decode cX4_distanceOf 105 = .ok (.goto 4, 3) := by decide +kernel
theorem dX4_distanceOf_108 : decode cX4_distanceOf 108 = .ok (.iconst 0, 1) := by decide +kernel
theorem dX4_distanceOf_109 : decode cX4_distanceOf 109 = .ok (.iadd, 1) := by decide +kernel
theorem dX4_distanceOf_110 : decode cX4_distanceOf 110 = .ok (.istore_n 3, 1) := by decide +kernel
theorem dX4_distanceOf_111 : decode cX4_distanceOf 111 = .ok (.iinc 4 1, 3) := by decide +kernel
theorem dX4_distanceOf_114 : decode cX4_distanceOf 114 = .ok (.goto (-72), 3) := by decide +kernel
theorem dX4_distanceOf_117 : decode cX4_distanceOf 117 = .ok (.iload_n 3, 1) := by decide +kernel
theorem dX4_distanceOf_118 : decode cX4_distanceOf 118 = .ok (.ireturn, 1) := by decide +kernel
theorem dX4_distance_0 : decode cX4_distance 0 = .ok (.aload_n 0, 1) := by decide +kernel
theorem dX4_distance_1 : decode cX4_distance 1 = .ok (.iload_n 1, 1) := by decide +kernel
theorem dX4_distance_2 : decode cX4_distance 2 = .ok (.invokevirtual 90, 3) := by decide +kernel
theorem dX4_distance_5 : decode cX4_distance 5 = .ok (.ifCond .eq 11, 3) := by decide +kernel
theorem dX4_distance_8 : decode cX4_distance 8 = .ok (.aload_n 0, 1) := by decide +kernel
theorem dX4_distance_9 : decode cX4_distance 9 = .ok (.iload_n 1, 1) := by decide +kernel
theorem dX4_distance_10 : decode cX4_distance 10 = .ok (.invokevirtual 238, 3) := by decide +kernel
theorem dX4_distance_13 : decode cX4_distance 13 = .ok (.goto 4, 3) := by decide +kernel
theorem dX4_distance_16 : decode cX4_distance 16 = .ok (.iconst (-1), 1) := by decide +kernel
theorem dX4_distance_17 : decode cX4_distance 17 = .ok (.ireturn, 1) := by decide +kernel
theorem dX4_curve_0 : decode cX4_curve 0 = .ok (.iload_n 1, 1) := by decide +kernel
theorem dX4_curve_1 : decode cX4_curve 1 = .ok (.ifCond .ge 5, 3) := by decide +kernel
theorem dX4_curve_4 : decode cX4_curve 4 = .ok (.iconst (-1), 1) := by decide +kernel
theorem dX4_curve_5 : decode cX4_curve 5 = .ok (.ireturn, 1) := by decide +kernel
theorem dX4_curve_6 : decode cX4_curve 6 = .ok (.iconst 0, 1) := by decide +kernel
theorem dX4_curve_7 : decode cX4_curve 7 = .ok (.istore_n 2, 1) := by decide +kernel
theorem dX4_curve_8 : decode cX4_curve 8 = .ok (.iconst 0, 1) := by decide +kernel
theorem dX4_curve_9 : decode cX4_curve 9 = .ok (.istore_n 3, 1) := by decide +kernel
theorem dX4_curve_10 : decode cX4_curve 10 = .ok (.iload_n 3, 1) := by decide +kernel
theorem dX4_curve_11 : decode cX4_curve 11 = .ok (.aload_n 0, 1) := by decide +kernel
theorem dX4_curve_12 : decode cX4_curve 12 = .ok (.getfield 73, 3) := by decide +kernel
theorem dX4_curve_15 : decode cX4_curve 15 = .ok (.if_icmp .ge 35, 3) := by decide +kernel
theorem dX4_curve_18 : decode cX4_curve 18 = .ok (.aload_n 0, 1) := by decide +kernel
theorem dX4_curve_19 : decode cX4_curve 19 = .ok (.iload_n 3, 1) := by decide +kernel
theorem dX4_curve_20 : decode cX4_curve 20 = .ok (.invokevirtual 238, 3) := by decide +kernel
theorem dX4_curve_23 : decode cX4_curve 23 = .ok (.istore 4, 2) := by decide +kernel
theorem dX4_curve_25 : decode cX4_curve 25 = .ok (.iload_n 2, 1) := by decide +kernel
theorem dX4_curve_26 : decode cX4_curve 26 = .ok (.iload 4, 2) := by decide +kernel
theorem dX4_curve_28 : decode cX4_curve 28 = .ok (.ifCond .eq 9, 3) := by decide +kernel
theorem dX4_curve_31 : decode cX4_curve 31 = .ok (.iload 4, 2) := by decide +kernel
theorem dX4_curve_33 : decode cX4_curve 33 = .ok (.iload_n 1, 1) := by decide +kernel
theorem dX4_curve_34 : decode cX4_curve 34 = .ok (.if_icmp .le 7, 3) := by decide +kernel
theorem dX4_curve_37 : decode cX4_curve 37 = .ok (.iconst 1, 1) := by decide +kernel
theorem dX4_curve_38 : decode cX4_curve 38 = .ok (.goto 4, 3) := by decide +kernel
theorem dX4_curve_41 : decode cX4_curve 41 = .ok (.iconst 0, 1) := by decide +kernel
theorem dX4_curve_42 : decode cX4_curve 42 = .ok (.iadd, 1) := by decide +kernel
theorem dX4_curve_43 : decode cX4_curve 43 = .ok (.istore_n 2, 1) := by decide +kernel
theorem dX4_curve_44 : decode cX4_curve 44 = .ok (.iinc 3 1, 3) := by decide +kernel
theorem dX4_curve_47 : decode cX4_curve 47 = .ok (.goto (-37), 3) := by decide +kernel
theorem dX4_curve_50 : decode cX4_curve 50 = .ok (.iload_n 2, 1) := by decide +kernel
theorem dX4_curve_51 : decode cX4_curve 51 = .ok (.ireturn, 1) := by decide +kernel
theorem dX4_hard_0 : decode cX4_hard 0 = .ok (.iload_n 1, 1) := by decide +kernel
theorem dX4_hard_1 : decode cX4_hard 1 = .ok (.iconst 0, 1) := by decide +kernel
theorem dX4_hard_2 : decode cX4_hard 2 = .ok (.bipush 8, 2) := by decide +kernel
theorem dX4_hard_4 : decode cX4_hard 4 = .ok (.invokestatic 69, 3) := by decide +kernel
theorem dX4_hard_7 : decode cX4_hard 7 = .ok (.ifCond .eq 24, 3) := by decide +kernel
theorem dX4_hard_10 : decode cX4_hard 10 = .ok (.iload_n 2, 1) := by decide +kernel
theorem dX4_hard_11 : decode cX4_hard 11 = .ok (.iconst 1, 1) := by decide +kernel
theorem dX4_hard_12 : decode cX4_hard 12 = .ok (.bipush 8, 2) := by decide +kernel
theorem dX4_hard_14 : decode cX4_hard 14 = .ok (.invokestatic 69, 3) := by decide +kernel
theorem dX4_hard_17 : decode cX4_hard 17 = .ok (.ifCond .eq 14, 3) := by decide +kernel
theorem dX4_hard_20 : decode cX4_hard 20 = .ok (.iload_n 3, 1) := by decide +kernel
theorem dX4_hard_21 : decode cX4_hard 21 = .ok (.iconst 0, 1) := by decide +kernel
theorem dX4_hard_22 : decode cX4_hard 22 = .ok (.sipush 300, 3) := by decide +kernel
theorem dX4_hard_25 : decode cX4_hard 25 = .ok (.invokestatic 69, 3) := by decide +kernel
theorem dX4_hard_28 : decode cX4_hard 28 = .ok (.ifCond .ne 5, 3) := by decide +kernel
theorem dX4_hard_31 : decode cX4_hard 31 = .ok (.iconst (-1), 1) := by decide +kernel
theorem dX4_hard_32 : decode cX4_hard 32 = .ok (.ireturn, 1) := by decide +kernel
theorem dX4_hard_33 : decode cX4_hard 33 = .ok (.iload_n 1, 1) := by decide +kernel
theorem dX4_hard_34 : decode cX4_hard 34 = .ok (.bipush 8, 2) := by decide +kernel
theorem dX4_hard_36 : decode cX4_hard 36 = .ok (.if_icmp .ne 6, 3) := by decide +kernel
theorem dX4_hard_39 : decode cX4_hard 39 = .ok (.bipush (-4), 2) := by decide +kernel
theorem dX4_hard_41 : decode cX4_hard 41 = .ok (.ireturn, 1) := by decide +kernel
theorem dX4_hard_42 : decode cX4_hard 42 = .ok (.aload_n 0, 1) := by decide +kernel
theorem dX4_hard_43 : decode cX4_hard 43 = .ok (.iconst 0, 1) := by decide +kernel
theorem dX4_hard_44 : decode cX4_hard 44 = .ok (.putfield 73, 3) := by decide +kernel
theorem dX4_hard_47 : decode cX4_hard 47 = .ok (.aload_n 0, 1) := by decide +kernel
theorem dX4_hard_48 : decode cX4_hard 48 = .ok (.iconst 0, 1) := by decide +kernel
theorem dX4_hard_49 : decode cX4_hard 49 = .ok (.putfield 81, 3) := by decide +kernel
theorem dX4_hard_52 : decode cX4_hard 52 = .ok (.aload_n 0, 1) := by decide +kernel
theorem dX4_hard_53 : decode cX4_hard 53 = .ok (.iload_n 1, 1) := by decide +kernel
theorem dX4_hard_54 : decode cX4_hard 54 = .ok (.iload_n 2, 1) := by decide +kernel
theorem dX4_hard_55 : decode cX4_hard 55 = .ok (.invokevirtual 184, 3) := by decide +kernel
theorem dX4_hard_58 : decode cX4_hard 58 = .ok (.iconst 0, 1) := by decide +kernel
theorem dX4_hard_59 : decode cX4_hard 59 = .ok (.istore 4, 2) := by decide +kernel
theorem dX4_hard_61 : decode cX4_hard 61 = .ok (.iload 4, 2) := by decide +kernel
theorem dX4_hard_63 : decode cX4_hard 63 = .ok (.iload_n 3, 1) := by decide +kernel
theorem dX4_hard_64 : decode cX4_hard 64 = .ok (.if_icmp .ge 40, 3) := by decide +kernel
theorem dX4_hard_67 : decode cX4_hard 67 = .ok (.iconst 0, 1) := by decide +kernel
theorem dX4_hard_68 : decode cX4_hard 68 = .ok (.istore 5, 2) := by decide +kernel
theorem dX4_hard_70 : decode cX4_hard 70 = .ok (.aload_n 0, 1) := by decide +kernel
theorem dX4_hard_71 : decode cX4_hard 71 = .ok (.getfield 28, 3) := by decide +kernel
theorem dX4_hard_74 : decode cX4_hard 74 = .ok (.iload 5, 2) := by decide +kernel
theorem dX4_hard_76 : decode cX4_hard 76 = .ok (.baload, 1) := by decide +kernel
theorem dX4_hard_77 : decode cX4_hard 77 = .ok (.ifCond .eq 9, 3) := by decide +kernel
theorem dX4_hard_80 : decode cX4_hard 80 = .ok (.iinc 5 1, 3) := by decide +kernel
theorem dX4_hard_83 : decode cX4_hard 83 = .ok (.goto (-13), 3) := by decide +kernel
theorem dX4_hard_86 : decode cX4_hard 86 = .ok (.aload_n 0, 1) := by decide +kernel
theorem dX4_hard_87 : decode cX4_hard 87 = .ok (.iload 5, 2) := by decide +kernel
theorem dX4_hard_89 : decode cX4_hard 89 = .ok (.invokevirtual 85, 3) := by decide +kernel
theorem dX4_hard_92 : decode cX4_hard 92 = .ok (.aload_n 0, 1) := by decide +kernel
theorem dX4_hard_93 : decode cX4_hard 93 = .ok (.iload 4, 2) := by decide +kernel
theorem dX4_hard_95 : decode cX4_hard 95 = .ok (.invokevirtual 187, 3) := by decide +kernel
theorem dX4_hard_98 : decode cX4_hard 98 = .ok (.iinc 4 1, 3) := by decide +kernel
theorem dX4_hard_101 : decode cX4_hard 101 = .ok (.goto (-40), 3) := by decide +kernel
theorem dX4_hard_104 : decode cX4_hard 104 = .ok (.iload_n 3, 1) := by decide +kernel
theorem dX4_hard_105 : decode cX4_hard 105 = .ok (.ireturn, 1) := by decide +kernel
theorem dX4_claim_0 : decode cX4_claim 0 = .ok (.iload_n 1, 1) := by decide +kernel
theorem dX4_claim_1 : decode cX4_claim 1 = .ok (.iconst (-1), 1) := by decide +kernel
theorem dX4_claim_2 : decode cX4_claim 2 = .ok (.bipush 15, 2) := by decide +kernel
theorem dX4_claim_4 : decode cX4_claim 4 = .ok (.invokestatic 69, 3) := by decide +kernel
theorem dX4_claim_7 : decode cX4_claim 7 = .ok (.ifCond .ne 5, 3) := by decide +kernel
theorem dX4_claim_10 : decode cX4_claim 10 = .ok (.iconst (-1), 1) := by decide +kernel
theorem dX4_claim_11 : decode cX4_claim 11 = .ok (.ireturn, 1) := by decide +kernel
theorem dX4_claim_12 : decode cX4_claim 12 = .ok (.aload_n 0, 1) := by decide +kernel
theorem dX4_claim_13 : decode cX4_claim 13 = .ok (.getfield 97, 3) := by decide +kernel
theorem dX4_claim_16 : decode cX4_claim 16 = .ok (.sipush 300, 3) := by decide +kernel
theorem dX4_claim_19 : decode cX4_claim 19 = .ok (.if_icmp .ne 6, 3) := by decide +kernel
theorem dX4_claim_22 : decode cX4_claim 22 = .ok (.bipush (-2), 2) := by decide +kernel
theorem dX4_claim_24 : decode cX4_claim 24 = .ok (.ireturn, 1) := by decide +kernel
theorem dX4_claim_25 : decode cX4_claim 25 = .ok (.aload_n 0, 1) := by decide +kernel
theorem dX4_claim_26 : decode cX4_claim 26 = .ok (.getfield 22, 3) := by decide +kernel
theorem dX4_claim_29 : decode cX4_claim 29 = .ok (.aload_n 0, 1) := by decide +kernel
theorem dX4_claim_30 : decode cX4_claim 30 = .ok (.getfield 97, 3) := by decide +kernel
theorem dX4_claim_33 : decode cX4_claim 33 = .ok (.iload_n 1, 1) := by decide +kernel
theorem dX4_claim_34 : decode cX4_claim 34 = .ok (.iastore, 1) := by decide +kernel
theorem dX4_claim_35 : decode cX4_claim 35 = .ok (.aload_n 0, 1) := by decide +kernel
theorem dX4_claim_36 : decode cX4_claim 36 = .ok (.dup, 1) := by decide +kernel
theorem dX4_claim_37 : decode cX4_claim 37 = .ok (.getfield 97, 3) := by decide +kernel
theorem dX4_claim_40 : decode cX4_claim 40 = .ok (.iconst 1, 1) := by decide +kernel
theorem dX4_claim_41 : decode cX4_claim 41 = .ok (.iadd, 1) := by decide +kernel
theorem dX4_claim_42 : decode cX4_claim 42 = .ok (.putfield 97, 3) := by decide +kernel
theorem dX4_claim_45 : decode cX4_claim 45 = .ok (.aload_n 0, 1) := by decide +kernel
theorem dX4_claim_46 : decode cX4_claim 46 = .ok (.getfield 97, 3) := by decide +kernel
theorem dX4_claim_49 : decode cX4_claim 49 = .ok (.ireturn, 1) := by decide +kernel
theorem dX4_copy_0 : decode cX4_copy 0 = .ok (.aload_n 0, 1) := by decide +kernel
theorem dX4_copy_1 : decode cX4_copy 1 = .ok (.getfield 81, 3) := by decide +kernel
theorem dX4_copy_4 : decode cX4_copy 4 = .ok (.ifCond .ne 6, 3) := by decide +kernel
theorem dX4_copy_7 : decode cX4_copy 7 = .ok (.bipush (-3), 2) := by decide +kernel
theorem dX4_copy_9 : decode cX4_copy 9 = .ok (.ireturn, 1) := by decide +kernel
theorem dX4_copy_10 : decode cX4_copy 10 = .ok (.aload_n 0, 1) := by decide +kernel
theorem dX4_copy_11 : decode cX4_copy 11 = .ok (.aload_n 0, 1) := by decide +kernel
theorem dX4_copy_12 : decode cX4_copy 12 = .ok (.getfield 73, 3) := by decide +kernel
theorem dX4_copy_15 : decode cX4_copy 15 = .ok (.putfield 97, 3) := by decide +kernel
theorem dX4_copy_18 : decode cX4_copy 18 = .ok (.iconst 0, 1) := by decide +kernel
theorem dX4_copy_19 : decode cX4_copy 19 = .ok (.istore_n 1, 1) := by decide +kernel
theorem dX4_copy_20 : decode cX4_copy 20 = .ok (.iload_n 1, 1) := by decide +kernel
theorem dX4_copy_21 : decode cX4_copy 21 = .ok (.aload_n 0, 1) := by decide +kernel
theorem dX4_copy_22 : decode cX4_copy 22 = .ok (.getfield 73, 3) := by decide +kernel
theorem dX4_copy_25 : decode cX4_copy 25 = .ok (.if_icmp .ge 21, 3) := by decide +kernel
theorem dX4_copy_28 : decode cX4_copy 28 = .ok (.aload_n 0, 1) := by decide +kernel
theorem dX4_copy_29 : decode cX4_copy 29 = .ok (.getfield 22, 3) := by decide +kernel
theorem dX4_copy_32 : decode cX4_copy 32 = .ok (.iload_n 1, 1) := by decide +kernel
theorem dX4_copy_33 : decode cX4_copy 33 = .ok (.aload_n 0, 1) := by decide +kernel
theorem dX4_copy_34 : decode cX4_copy 34 = .ok (.getfield 19, 3) := by decide +kernel
theorem dX4_copy_37 : decode cX4_copy 37 = .ok (.iload_n 1, 1) := by decide +kernel
theorem dX4_copy_38 : decode cX4_copy 38 = .ok (.iaload, 1) := by decide +kernel
theorem dX4_copy_39 : decode cX4_copy 39 = .ok (.iastore, 1) := by decide +kernel
theorem dX4_copy_40 : decode cX4_copy 40 = .ok (.iinc 1 1, 3) := by decide +kernel
theorem dX4_copy_43 : decode cX4_copy 43 = .ok (.goto (-23), 3) := by decide +kernel
theorem dX4_copy_46 : decode cX4_copy 46 = .ok (.aload_n 0, 1) := by decide +kernel
theorem dX4_copy_47 : decode cX4_copy 47 = .ok (.getfield 97, 3) := by decide +kernel
theorem dX4_copy_50 : decode cX4_copy 50 = .ok (.ireturn, 1) := by decide +kernel
theorem dX4_unclaim_0 : decode cX4_unclaim 0 = .ok (.aload_n 0, 1) := by decide +kernel
theorem dX4_unclaim_1 : decode cX4_unclaim 1 = .ok (.getfield 97, 3) := by decide +kernel
theorem dX4_unclaim_4 : decode cX4_unclaim 4 = .ok (.istore_n 1, 1) := by decide +kernel
theorem dX4_unclaim_5 : decode cX4_unclaim 5 = .ok (.aload_n 0, 1) := by decide +kernel
theorem dX4_unclaim_6 : decode cX4_unclaim 6 = .ok (.iconst 0, 1) := by decide +kernel
theorem dX4_unclaim_7 : decode cX4_unclaim 7 = .ok (.putfield 97, 3) := by decide +kernel
theorem dX4_unclaim_10 : decode cX4_unclaim 10 = .ok (.iload_n 1, 1) := by decide +kernel
theorem dX4_unclaim_11 : decode cX4_unclaim 11 = .ok (.ireturn, 1) := by decide +kernel
theorem dX4_cost_0 : decode cX4_cost 0 = .ok (.iload_n 1, 1) := by decide +kernel
theorem dX4_cost_1 : decode cX4_cost 1 = .ok (.iconst 1, 1) := by decide +kernel
theorem dX4_cost_2 : decode cX4_cost 2 = .ok (.bipush 8, 2) := by decide +kernel
theorem dX4_cost_4 : decode cX4_cost 4 = .ok (.invokestatic 69, 3) := by decide +kernel
theorem dX4_cost_7 : decode cX4_cost 7 = .ok (.ifCond .ne 5, 3) := by decide +kernel
theorem dX4_cost_10 : decode cX4_cost 10 = .ok (.iconst (-1), 1) := by decide +kernel
theorem dX4_cost_11 : decode cX4_cost 11 = .ok (.ireturn, 1) := by decide +kernel
theorem dX4_cost_12 : decode cX4_cost 12 = .ok (.iconst 0, 1) := by decide +kernel
theorem dX4_cost_13 : decode cX4_cost 13 = .ok (.istore_n 2, 1) := by decide +kernel
theorem dX4_cost_14 : decode cX4_cost 14 = .ok (.iload_n 2, 1) := by decide +kernel
theorem dX4_cost_15 : decode cX4_cost 15 = .ok (.bipush 16, 2) := by decide +kernel
theorem dX4_cost_17 : decode cX4_cost 17 = .ok (.if_icmp .ge 16, 3) := by decide +kernel
theorem dX4_cost_20 : decode cX4_cost 20 = .ok (.aload_n 0, 1) := by decide +kernel
theorem dX4_cost_21 : decode cX4_cost 21 = .ok (.getfield 66, 3) := by decide +kernel
theorem dX4_cost_24 : decode cX4_cost 24 = .ok (.iload_n 2, 1) := by decide +kernel
theorem dX4_cost_25 : decode cX4_cost 25 = .ok (.iconst 0, 1) := by decide +kernel
theorem dX4_cost_26 : decode cX4_cost 26 = .ok (.bastore, 1) := by decide +kernel
theorem dX4_cost_27 : decode cX4_cost 27 = .ok (.iinc 2 1, 3) := by decide +kernel
theorem dX4_cost_30 : decode cX4_cost 30 = .ok (.goto (-16), 3) := by decide +kernel
theorem dX4_cost_33 : decode cX4_cost 33 = .ok (.iconst 0, 1) := by decide +kernel
theorem dX4_cost_34 : decode cX4_cost 34 = .ok (.istore_n 2, 1) := by decide +kernel
theorem dX4_cost_35 : decode cX4_cost 35 = .ok (.iconst 0, 1) := by decide +kernel
theorem dX4_cost_36 : decode cX4_cost 36 = .ok (.istore_n 3, 1) := by decide +kernel
theorem dX4_cost_37 : decode cX4_cost 37 = .ok (.iconst 0, 1) := by decide +kernel
theorem dX4_cost_38 : decode cX4_cost 38 = .ok (.istore 4, 2) := by decide +kernel
theorem dX4_cost_40 : decode cX4_cost 40 = .ok (.iload 4, 2) := by decide +kernel
theorem dX4_cost_42 : decode cX4_cost 42 = .ok (.aload_n 0, 1) := by decide +kernel
theorem dX4_cost_43 : decode cX4_cost 43 = .ok (.getfield 73, 3) := by decide +kernel
theorem dX4_cost_46 : decode cX4_cost 46 = .ok (.if_icmp .ge 167, 3) := by decide +kernel
theorem dX4_cost_49 : decode cX4_cost 49 = .ok (.iload 4, 2) := by decide +kernel
theorem dX4_cost_51 : decode cX4_cost 51 = .ok (.aload_n 0, 1) := by decide +kernel
theorem dX4_cost_52 : decode cX4_cost 52 = .ok (.getfield 97, 3) := by decide +kernel
theorem dX4_cost_55 : decode cX4_cost 55 = .ok (.if_icmp .ge 13, 3) := by decide +kernel
theorem dX4_cost_58 : decode cX4_cost 58 = .ok (.aload_n 0, 1) := by decide +kernel
theorem dX4_cost_59 : decode cX4_cost 59 = .ok (.getfield 22, 3) := by decide +kernel
theorem dX4_cost_62 : decode cX4_cost 62 = .ok (.iload 4, 2) := by decide +kernel
theorem dX4_cost_64 : decode cX4_cost 64 = .ok (.iaload, 1) := by decide +kernel
theorem dX4_cost_65 : decode cX4_cost 65 = .ok (.goto 5, 3) := by decide +kernel
theorem dX4_cost_68 : decode cX4_cost 68 = .ok (.bipush (-2), 2) := by decide +kernel
theorem dX4_cost_70 : decode cX4_cost 70 = .ok (.istore 5, 2) := by decide +kernel
theorem dX4_cost_72 : decode cX4_cost 72 = .ok (.aload_n 0, 1) := by decide +kernel
theorem dX4_cost_73 : decode cX4_cost 73 = .ok (.getfield 66, 3) := by decide +kernel
theorem dX4_cost_76 : decode cX4_cost 76 = .ok (.aload_n 0, 1) := by decide +kernel
theorem dX4_cost_77 : decode cX4_cost 77 = .ok (.getfield 13, 3) := by decide +kernel
theorem dX4_cost_80 : decode cX4_cost 80 = .ok (.iload 4, 2) := by decide +kernel
theorem dX4_cost_82 : decode cX4_cost 82 = .ok (.iaload, 1) := by decide +kernel
theorem dX4_cost_83 : decode cX4_cost 83 = .ok (.baload, 1) := by decide +kernel
theorem dX4_cost_84 : decode cX4_cost 84 = .ok (.istore 6, 2) := by decide +kernel
theorem dX4_cost_86 : decode cX4_cost 86 = .ok (.iload 6, 2) := by decide +kernel
theorem dX4_cost_88 : decode cX4_cost 88 = .ok (.ifCond .ne 12, 3) := by decide +kernel
theorem dX4_cost_91 : decode cX4_cost 91 = .ok (.iload_n 2, 1) := by decide +kernel
theorem dX4_cost_92 : decode cX4_cost 92 = .ok (.iload_n 1, 1) := by decide +kernel
theorem dX4_cost_93 : decode cX4_cost 93 = .ok (.if_icmp .ne 7, 3) := by decide +kernel
theorem dX4_cost_96 : decode cX4_cost 96 = .ok (.iconst 1, 1) := by decide +kernel
theorem dX4_cost_97 : decode cX4_cost 97 = .ok (.goto 4, 3) := by decide +kernel
theorem dX4_cost_100 : decode cX4_cost 100 = .ok (.iconst 0, 1) := by decide +kernel
theorem dX4_cost_101 : decode cX4_cost 101 = .ok (.istore 7, 2) := by decide +kernel
theorem dX4_cost_103 : decode cX4_cost 103 = .ok (.iload 7, 2) := by decide +kernel
theorem dX4_cost_105 : decode cX4_cost 105 = .ok (.ifCond .eq 26, 3) := by decide +kernel
theorem dX4_cost_108 : decode cX4_cost 108 = .ok (.iload 5, 2) := by decide +kernel
theorem dX4_cost_110 : decode cX4_cost 110 = .ok (.ifCond .lt 17, 3) := by decide +kernel
theorem dX4_cost_113 : decode cX4_cost 113 = .ok (.aload_n 0, 1) := by decide +kernel
theorem dX4_cost_114 : decode cX4_cost 114 = .ok (.getfield 66, 3) := by decide +kernel
theorem dX4_cost_117 : decode cX4_cost 117 = .ok (.iload 5, 2) := by decide +kernel
theorem dX4_cost_119 : decode cX4_cost 119 = .ok (.baload, 1) := by decide +kernel
theorem dX4_cost_120 : decode cX4_cost 120 = .ok (.ifCond .eq 7, 3) := by decide +kernel
theorem dX4_cost_123 : decode cX4_cost 123 = .ok (.iconst 1, 1) := by decide +kernel
theorem dX4_cost_124 : decode cX4_cost 124 = .ok (.goto 18, 3) := by decide +kernel
theorem dX4_cost_127 : decode cX4_cost 127 = .ok (.iconst 0, 1) := by decide +kernel
theorem dX4_cost_128 : decode cX4_cost 128 = .ok (.goto 14, 3) := by decide +kernel
theorem dX4_cost_131 : decode cX4_cost 131 = .ok (.iload 5, 2) := by decide +kernel
theorem dX4_cost_133 : decode cX4_cost 133 = .ok (.iconst (-1), 1) := by decide +kernel
theorem dX4_cost_134 : decode cX4_cost 134 = .ok (.if_icmp .ne 7, 3) := by decide +kernel
theorem dX4_cost_137 : decode cX4_cost 137 = .ok (.iconst 1, 1) := by decide +kernel
theorem dX4_cost_138 : decode cX4_cost 138 = .ok (.goto 4, 3) := by decide +kernel
theorem dX4_cost_141 : decode cX4_cost 141 = .ok (.iconst 0, 1) := by decide +kernel
theorem dX4_cost_142 : decode cX4_cost 142 = .ok (.istore 8, 2) := by decide +kernel
theorem dX4_cost_144 : decode cX4_cost 144 = .ok (.iload 8, 2) := by decide +kernel
theorem dX4_cost_146 : decode cX4_cost 146 = .ok (.ifCond .ne 9, 3) := by decide +kernel
theorem dX4_cost_149 : decode cX4_cost 149 = .ok (.bipush (-2), 2) := by decide +kernel
theorem dX4_cost_151 : decode cX4_cost 151 = .ok (.iload 4, 2) := by decide +kernel
theorem dX4_cost_153 : decode cX4_cost 153 = .ok (.isub, 1) := by decide +kernel
theorem dX4_cost_154 : decode cX4_cost 154 = .ok (.ireturn, 1) := by decide +kernel
theorem dX4_cost_155 : decode cX4_cost 155 = .ok (.iload 7, 2) := by decide +kernel
theorem dX4_cost_157 : decode cX4_cost 157 = .ok (.ifCond .eq 14, 3) := by decide +kernel
theorem dX4_cost_160 : decode cX4_cost 160 = .ok (.aload_n 0, 1) := by decide +kernel
theorem dX4_cost_161 : decode cX4_cost 161 = .ok (.getfield 66, 3) := by decide +kernel
theorem dX4_cost_164 : decode cX4_cost 164 = .ok (.iload 5, 2) := by decide +kernel
theorem dX4_cost_166 : decode cX4_cost 166 = .ok (.iconst 0, 1) := by decide +kernel
theorem dX4_cost_167 : decode cX4_cost 167 = .ok (.bastore, 1) := by decide +kernel
theorem dX4_cost_168 : decode cX4_cost 168 = .ok (.iinc 2 (-1), 3) := by decide +kernel
theorem dX4_cost_171 : decode cX4_cost 171 = .ok (.iload 6, 2) := by decide +kernel
theorem dX4_cost_173 : decode cX4_cost 173 = .ok (.ifCond .ne 34, 3) := by decide +kernel
theorem dX4_cost_176 : decode cX4_cost 176 = .ok (.aload_n 0, 1) := by decide +kernel
theorem dX4_cost_177 : decode cX4_cost 177 = .ok (.getfield 66, 3) := by decide +kernel
theorem dX4_cost_180 : decode cX4_cost 180 = .ok (.aload_n 0, 1) := by decide +kernel
theorem dX4_cost_181 : decode cX4_cost 181 = .ok (.getfield 13, 3) := by decide +kernel
theorem dX4_cost_184 : decode cX4_cost 184 = .ok (.iload 4, 2) := by decide +kernel
theorem dX4_cost_186 : decode cX4_cost 186 = .ok (.iaload, 1) := by decide +kernel
theorem dX4_cost_187 : decode cX4_cost 187 = .ok (.iconst 1, 1) := by decide +kernel
theorem dX4_cost_188 : decode cX4_cost 188 = .ok (.bastore, 1) := by decide +kernel
theorem dX4_cost_189 : decode cX4_cost 189 = .ok (.iinc 2 1, 3) := by decide +kernel
theorem dX4_cost_192 : decode cX4_cost 192 = .ok (.iload_n 3, 1) := by decide +kernel
theorem dX4_cost_193 : decode cX4_cost 193 = .ok (.aload_n 0, 1) := by decide +kernel
theorem dX4_cost_194 : decode cX4_cost 194 = .ok (.getfield 7, 3) := by decide +kernel
theorem dX4_cost_197 : decode cX4_cost 197 = .ok (.aload_n 0, 1) := by decide +kernel
theorem dX4_cost_198 : decode cX4_cost 198 = .ok (.getfield 13, 3) := by decide +kernel
theorem dX4_cost_201 : decode cX4_cost 201 = .ok (.iload 4, 2) := by decide +kernel
theorem dX4_cost_203 : decode cX4_cost 203 = .ok (.iaload, 1) := by decide +kernel
theorem dX4_cost_204 : decode cX4_cost 204 = .ok (.iaload, 1) := by decide +kernel
theorem dX4_cost_205 : decode cX4_cost 205 = .ok (.iadd, 1) := by decide +kernel
theorem dX4_cost_206 : decode cX4_cost 206 = .ok (.istore_n 3, 1) := by decide +kernel
theorem dX4_cost_207 : decode cX4_cost 207 = .ok (.iinc 4 1, 3) := by decide +kernel
theorem dX4_cost_210 : decode cX4_cost 210 = .ok (.goto (-170), 3) := by decide +kernel
theorem dX4_cost_213 : decode cX4_cost 213 = .ok (.aload_n 0, 1) := by decide +kernel
theorem dX4_cost_214 : decode cX4_cost 214 = .ok (.getfield 97, 3) := by decide +kernel
theorem dX4_cost_217 : decode cX4_cost 217 = .ok (.aload_n 0, 1) := by decide +kernel
theorem dX4_cost_218 : decode cX4_cost 218 = .ok (.getfield 73, 3) := by decide +kernel
theorem dX4_cost_221 : decode cX4_cost 221 = .ok (.if_icmp .le 13, 3) := by decide +kernel
theorem dX4_cost_224 : decode cX4_cost 224 = .ok (.bipush (-2), 2) := by decide +kernel
theorem dX4_cost_226 : decode cX4_cost 226 = .ok (.aload_n 0, 1) := by decide +kernel
theorem dX4_cost_227 : decode cX4_cost 227 = .ok (.getfield 73, 3) := by decide +kernel
theorem dX4_cost_230 : decode cX4_cost 230 = .ok (.isub, 1) := by decide +kernel
theorem dX4_cost_231 : decode cX4_cost 231 = .ok (.goto 4, 3) := by decide +kernel
theorem dX4_cost_234 : decode cX4_cost 234 = .ok (.iload_n 3, 1) := by decide +kernel
theorem dX4_cost_235 : decode cX4_cost 235 = .ok (.ireturn, 1) := by decide +kernel
theorem dX4_check_0 : decode cX4_check 0 = .ok (.iload_n 1, 1) := by decide +kernel
theorem dX4_check_1 : decode cX4_check 1 = .ok (.iconst 0, 1) := by decide +kernel
theorem dX4_check_2 : decode cX4_check 2 = .ok (.bipush 8, 2) := by decide +kernel
theorem dX4_check_4 : decode cX4_check 4 = .ok (.invokestatic 69, 3) := by decide +kernel
theorem dX4_check_7 : decode cX4_check 7 = .ok (.ifCond .eq 13, 3) := by decide +kernel
theorem dX4_check_10 : decode cX4_check 10 = .ok (.iload_n 2, 1) := by decide +kernel
theorem dX4_check_11 : decode cX4_check 11 = .ok (.iconst 1, 1) := by decide +kernel
theorem dX4_check_12 : decode cX4_check 12 = .ok (.bipush 8, 2) := by decide +kernel
theorem dX4_check_14 : decode cX4_check 14 = .ok (.invokestatic 69, 3) := by decide +kernel
theorem dX4_check_17 : decode cX4_check 17 = .ok (.ifCond .ne 6, 3) := by decide +kernel
theorem dX4_check_20 : decode cX4_check 20 = .ok (.bipush (-2), 2) := by decide +kernel
theorem dX4_check_22 : decode cX4_check 22 = .ok (.ireturn, 1) := by decide +kernel
theorem dX4_check_23 : decode cX4_check 23 = .ok (.aload_n 0, 1) := by decide +kernel
theorem dX4_check_24 : decode cX4_check 24 = .ok (.iload_n 1, 1) := by decide +kernel
theorem dX4_check_25 : decode cX4_check 25 = .ok (.iload_n 2, 1) := by decide +kernel
theorem dX4_check_26 : decode cX4_check 26 = .ok (.invokevirtual 184, 3) := by decide +kernel
theorem dX4_check_29 : decode cX4_check 29 = .ok (.iconst 0, 1) := by decide +kernel
theorem dX4_check_30 : decode cX4_check 30 = .ok (.istore_n 3, 1) := by decide +kernel
theorem dX4_check_31 : decode cX4_check 31 = .ok (.iload_n 3, 1) := by decide +kernel
theorem dX4_check_32 : decode cX4_check 32 = .ok (.aload_n 0, 1) := by decide +kernel
theorem dX4_check_33 : decode cX4_check 33 = .ok (.getfield 73, 3) := by decide +kernel
theorem dX4_check_36 : decode cX4_check 36 = .ok (.if_icmp .ge 37, 3) := by decide +kernel
theorem dX4_check_39 : decode cX4_check 39 = .ok (.aload_n 0, 1) := by decide +kernel
theorem dX4_check_40 : decode cX4_check 40 = .ok (.iload_n 3, 1) := by decide +kernel
theorem dX4_check_41 : decode cX4_check 41 = .ok (.invokevirtual 187, 3) := by decide +kernel
theorem dX4_check_44 : decode cX4_check 44 = .ok (.iload_n 3, 1) := by decide +kernel
theorem dX4_check_45 : decode cX4_check 45 = .ok (.aload_n 0, 1) := by decide +kernel
theorem dX4_check_46 : decode cX4_check 46 = .ok (.getfield 97, 3) := by decide +kernel
theorem dX4_check_49 : decode cX4_check 49 = .ok (.if_icmp .ge 16, 3) := by decide +kernel
theorem dX4_check_52 : decode cX4_check 52 = .ok (.aload_n 0, 1) := by decide +kernel
theorem dX4_check_53 : decode cX4_check 53 = .ok (.getfield 22, 3) := by decide +kernel
theorem dX4_check_56 : decode cX4_check 56 = .ok (.iload_n 3, 1) := by decide +kernel
theorem dX4_check_57 : decode cX4_check 57 = .ok (.iaload, 1) := by decide +kernel
theorem dX4_check_58 : decode cX4_check 58 = .ok (.aload_n 0, 1) := by decide +kernel
theorem dX4_check_59 : decode cX4_check 59 = .ok (.getfield 168, 3) := by decide +kernel
theorem dX4_check_62 : decode cX4_check 62 = .ok (.if_icmp .eq 5, 3) := by decide +kernel
theorem dX4_check_65 : decode cX4_check 65 = .ok (.iload_n 3, 1) := by decide +kernel
theorem dX4_check_66 : decode cX4_check 66 = .ok (.ireturn, 1) := by decide +kernel
theorem dX4_check_67 : decode cX4_check 67 = .ok (.iinc 3 1, 3) := by decide +kernel
theorem dX4_check_70 : decode cX4_check 70 = .ok (.goto (-39), 3) := by decide +kernel
theorem dX4_check_73 : decode cX4_check 73 = .ok (.aload_n 0, 1) := by decide +kernel
theorem dX4_check_74 : decode cX4_check 74 = .ok (.getfield 97, 3) := by decide +kernel
theorem dX4_check_77 : decode cX4_check 77 = .ok (.aload_n 0, 1) := by decide +kernel
theorem dX4_check_78 : decode cX4_check 78 = .ok (.getfield 73, 3) := by decide +kernel
theorem dX4_check_81 : decode cX4_check 81 = .ok (.if_icmp .le 10, 3) := by decide +kernel
theorem dX4_check_84 : decode cX4_check 84 = .ok (.aload_n 0, 1) := by decide +kernel
theorem dX4_check_85 : decode cX4_check 85 = .ok (.getfield 73, 3) := by decide +kernel
theorem dX4_check_88 : decode cX4_check 88 = .ok (.goto 4, 3) := by decide +kernel
theorem dX4_check_91 : decode cX4_check 91 = .ok (.iconst (-1), 1) := by decide +kernel
theorem dX4_check_92 : decode cX4_check 92 = .ok (.ireturn, 1) := by decide +kernel
