theorem dX1_init_0 : decode cX1_init 0 = .ok (.aload_n 0, 1) := by decide +kernel
theorem dX1_init_1 : decode cX1_init 1 = .ok (.invokespecial 3, 3) := by decide +kernel
theorem dX1_init_4 : decode cX1_init 4 = .ok (.aload_n 0, 1) := by decide +kernel
theorem dX1_init_5 : decode cX1_init 5 = .ok (.sipush 300, 3) := by decide +kernel
theorem dX1_init_8 : decode cX1_init 8 = .ok (.newarray .int, 2) := by decide +kernel
theorem dX1_init_10 : decode cX1_init 10 = .ok (.putfield 9, 3) := by decide +kernel
theorem dX1_init_13 : decode cX1_init 13 = .ok (.aload_n 0, 1) := by decide +kernel
theorem dX1_init_14 : decode cX1_init 14 = .ok (.bipush 16, 2) := by decide +kernel
theorem dX1_init_16 : decode cX1_init 16 = .ok (.newarray .int, 2) := by decide +kernel
theorem dX1_init_18 : decode cX1_init 18 = .ok (.putfield 15, 3) := by decide +kernel
theorem dX1_init_21 : decode cX1_init 21 = .ok (.aload_n 0, 1) := by decide +kernel
theorem dX1_init_22 : decode cX1_init 22 = .ok (.sipush 300, 3) := by decide +kernel
theorem dX1_init_25 : decode cX1_init 25 = .ok (.newarray .int, 2) := by decide +kernel
theorem dX1_init_27 : decode cX1_init 27 = .ok (.putfield 18, 3) := by decide +kernel
theorem dX1_init_30 : decode cX1_init 30 = .ok (.aload_n 0, 1) := by decide +kernel
theorem dX1_init_31 : decode cX1_init 31 = .ok (.bipush 16, 2) := by decide +kernel
theorem dX1_init_33 : decode cX1_init 33 = .ok (.newarray .int, 2) := by decide +kernel
theorem dX1_init_35 : decode cX1_init 35 = .ok (.putfield 21, 3) := by decide +kernel
theorem dX1_init_38 : decode cX1_init 38 = .ok (.aload_n 0, 1) := by decide +kernel
theorem dX1_init_39 : decode cX1_init 39 = .ok (.getfield 15, 3) := by decide +kernel
theorem dX1_init_42 : decode cX1_init 42 = .ok (.iconst 1, 1) := by decide +kernel
theorem dX1_init_43 : decode cX1_init 43 = .ok (.invokestatic 24, 3) := by decide +kernel
theorem dX1_init_46 : decode cX1_init 46 = .ok (.return_, 1) := by decide +kernel
theorem dX1_has_0 : decode cX1_has 0 = .ok (.iload_n 1, 1) := by decide +kernel
theorem dX1_has_1 : decode cX1_has 1 = .ok (.ifCond .lt 15, 3) := by decide +kernel
theorem dX1_has_4 : decode cX1_has 4 = .ok (.iload_n 1, 1) := by decide +kernel
theorem dX1_has_5 : decode cX1_has 5 = .ok (.aload_n 0, 1) := by decide +kernel
theorem dX1_has_6 : decode cX1_has 6 = .ok (.getfield 30, 3) := by decide +kernel
theorem dX1_has_9 : decode cX1_has 9 = .ok (.if_icmp .ge 7, 3) := by decide +kernel
theorem dX1_has_12 : decode cX1_has 12 = .ok (.iconst 1, 1) := by decide +kernel
theorem dX1_has_13 : decode cX1_has 13 = .ok (.goto 4, 3) := by decide +kernel
theorem dX1_has_16 : decode cX1_has 16 = .ok (.iconst 0, 1) := by decide +kernel
theorem dX1_has_17 : decode cX1_has 17 = .ok (.ireturn, 1) := by decide +kernel
theorem dX1_append_0 : decode cX1_append 0 = .ok (.aload_n 0, 1) := by decide +kernel
theorem dX1_append_1 : decode cX1_append 1 = .ok (.getfield 30, 3) := by decide +kernel
theorem dX1_append_4 : decode cX1_append 4 = .ok (.sipush 300, 3) := by decide +kernel
theorem dX1_append_7 : decode cX1_append 7 = .ok (.if_icmp .ge 23, 3) := by decide +kernel
theorem dX1_append_10 : decode cX1_append 10 = .ok (.aload_n 0, 1) := by decide +kernel
theorem dX1_append_11 : decode cX1_append 11 = .ok (.getfield 9, 3) := by decide +kernel
theorem dX1_append_14 : decode cX1_append 14 = .ok (.aload_n 0, 1) := by decide +kernel
theorem dX1_append_15 : decode cX1_append 15 = .ok (.getfield 30, 3) := by decide +kernel
theorem dX1_append_18 : decode cX1_append 18 = .ok (.iload_n 1, 1) := by decide +kernel
theorem dX1_append_19 : decode cX1_append 19 = .ok (.iastore, 1) := by decide +kernel
theorem dX1_append_20 : decode cX1_append 20 = .ok (.aload_n 0, 1) := by decide +kernel
theorem dX1_append_21 : decode cX1_append 21 = .ok (.dup, 1) := by decide +kernel
theorem dX1_append_22 : decode cX1_append 22 = .ok (.getfield 30, 3) := by decide +kernel
theorem dX1_append_25 : decode cX1_append 25 = .ok (.iconst 1, 1) := by decide +kernel
theorem dX1_append_26 : decode cX1_append 26 = .ok (.iadd, 1) := by decide +kernel
theorem dX1_append_27 : decode cX1_append 27 = .ok (.putfield 30, 3) := by decide +kernel
theorem dX1_append_30 : decode cX1_append 30 = .ok (.return_, 1) := by decide +kernel
theorem dX1_priceAt_0 : decode cX1_priceAt 0 = .ok (.aload_n 0, 1) := by decide +kernel
theorem dX1_priceAt_1 : decode cX1_priceAt 1 = .ok (.getfield 15, 3) := by decide +kernel
theorem dX1_priceAt_4 : decode cX1_priceAt 4 = .ok (.aload_n 0, 1) := by decide +kernel
theorem dX1_priceAt_5 : decode cX1_priceAt 5 = .ok (.getfield 9, 3) := by decide +kernel
theorem dX1_priceAt_8 : decode cX1_priceAt 8 = .ok (.iload_n 1, 1) := by decide +kernel
theorem dX1_priceAt_9 : decode cX1_priceAt 9 = .ok (.iaload, 1) := by decide +kernel
theorem dX1_priceAt_10 : decode cX1_priceAt 10 = .ok (.iaload, 1) := by decide +kernel
theorem dX1_priceAt_11 : decode cX1_priceAt 11 = .ok (.ireturn, 1) := by decide +kernel
theorem dX1_priceOfAll_0 : decode cX1_priceOfAll 0 = .ok (.iconst 0, 1) := by decide +kernel
theorem dX1_priceOfAll_1 : decode cX1_priceOfAll 1 = .ok (.istore_n 1, 1) := by decide +kernel
theorem dX1_priceOfAll_2 : decode cX1_priceOfAll 2 = .ok (.iconst 0, 1) := by decide +kernel
theorem dX1_priceOfAll_3 : decode cX1_priceOfAll 3 = .ok (.istore_n 2, 1) := by decide +kernel
theorem dX1_priceOfAll_4 : decode cX1_priceOfAll 4 = .ok (.iload_n 2, 1) := by decide +kernel
theorem dX1_priceOfAll_5 : decode cX1_priceOfAll 5 = .ok (.aload_n 0, 1) := by decide +kernel
theorem dX1_priceOfAll_6 : decode cX1_priceOfAll 6 = .ok (.getfield 30, 3) := by decide +kernel
theorem dX1_priceOfAll_9 : decode cX1_priceOfAll 9 = .ok (.if_icmp .ge 17, 3) := by decide +kernel
theorem dX1_priceOfAll_12 : decode cX1_priceOfAll 12 = .ok (.iload_n 1, 1) := by decide +kernel
theorem dX1_priceOfAll_13 : decode cX1_priceOfAll 13 = .ok (.aload_n 0, 1) := by decide +kernel
theorem dX1_priceOfAll_14 : decode cX1_priceOfAll 14 = .ok (.iload_n 2, 1) := by decide +kernel
theorem dX1_priceOfAll_15 : decode cX1_priceOfAll 15 = .ok (.invokevirtual 34, 3) := by decide +kernel
theorem dX1_priceOfAll_18 : decode cX1_priceOfAll 18 = .ok (.iadd, 1) := by decide +kernel
theorem dX1_priceOfAll_19 : decode cX1_priceOfAll 19 = .ok (.istore_n 1, 1) := by decide +kernel
theorem dX1_priceOfAll_20 : decode cX1_priceOfAll 20 = .ok (.iinc 2 1, 3) := by decide +kernel
theorem dX1_priceOfAll_23 : decode cX1_priceOfAll 23 = .ok (.goto (-19), 3) := by decide +kernel
theorem dX1_priceOfAll_26 : decode cX1_priceOfAll 26 = .ok (.iload_n 1, 1) := by decide +kernel
theorem dX1_priceOfAll_27 : decode cX1_priceOfAll 27 = .ok (.ireturn, 1) := by decide +kernel
theorem dX1_bits_0 : decode cX1_bits 0 = .ok (.iconst 0, 1) := by decide +kernel
theorem dX1_bits_1 : decode cX1_bits 1 = .ok (.istore_n 1, 1) := by decide +kernel
theorem dX1_bits_2 : decode cX1_bits 2 = .ok (.iconst 0, 1) := by decide +kernel
theorem dX1_bits_3 : decode cX1_bits 3 = .ok (.istore_n 2, 1) := by decide +kernel
theorem dX1_bits_4 : decode cX1_bits 4 = .ok (.iload_n 2, 1) := by decide +kernel
theorem dX1_bits_5 : decode cX1_bits 5 = .ok (.aload_n 0, 1) := by decide +kernel
theorem dX1_bits_6 : decode cX1_bits 6 = .ok (.getfield 30, 3) := by decide +kernel
theorem dX1_bits_9 : decode cX1_bits 9 = .ok (.if_icmp .ge 20, 3) := by decide +kernel
theorem dX1_bits_12 : decode cX1_bits 12 = .ok (.iload_n 1, 1) := by decide +kernel
theorem dX1_bits_13 : decode cX1_bits 13 = .ok (.iconst 1, 1) := by decide +kernel
theorem dX1_bits_14 : decode cX1_bits 14 = .ok (.aload_n 0, 1) := by decide +kernel
theorem dX1_bits_15 : decode cX1_bits 15 = .ok (.getfield 9, 3) := by decide +kernel
theorem dX1_bits_18 : decode cX1_bits 18 = .ok (.iload_n 2, 1) := by decide +kernel
theorem dX1_bits_19 : decode cX1_bits 19 = .ok (.iaload, 1) := by decide +kernel
theorem dX1_bits_20 : decode cX1_bits 20 = .ok (.ishl, 1) := by decide +kernel
theorem dX1_bits_21 : decode cX1_bits 21 = .ok (.ior, 1) := by decide +kernel
theorem dX1_bits_22 : decode cX1_bits 22 = .ok (.istore_n 1, 1) := by decide +kernel
theorem dX1_bits_23 : decode cX1_bits 23 = .ok (.iinc 2 1, 3) := by decide +kernel
theorem dX1_bits_26 : decode cX1_bits 26 = .ok (.goto (-22), 3) := by decide +kernel
theorem dX1_bits_29 : decode cX1_bits 29 = .ok (.iload_n 1, 1) := by decide +kernel
theorem dX1_bits_30 : decode cX1_bits 30 = .ok (.ireturn, 1) := by decide +kernel
theorem dX1_unlike_0 : decode cX1_unlike 0 = .ok (.aload_n 0, 1) := by decide +kernel
theorem dX1_unlike_1 : decode cX1_unlike 1 = .ok (.invokevirtual 38, 3) := by decide +kernel
theorem dX1_unlike_4 : decode cX1_unlike 4 = .ok (.invokestatic 42, 3) := by decide +kernel
theorem dX1_unlike_7 : decode cX1_unlike 7 = .ok (.ireturn, 1) := by decide +kernel
theorem dX1_phaseAt_0 : decode cX1_phaseAt 0 = .ok (.iconst 0, 1) := by decide +kernel
theorem dX1_phaseAt_1 : decode cX1_phaseAt 1 = .ok (.istore_n 3, 1) := by decide +kernel
theorem dX1_phaseAt_2 : decode cX1_phaseAt 2 = .ok (.iconst 0, 1) := by decide +kernel
theorem dX1_phaseAt_3 : decode cX1_phaseAt 3 = .ok (.istore 4, 2) := by decide +kernel
theorem dX1_phaseAt_5 : decode cX1_phaseAt 5 = .ok (.iconst 0, 1) := by decide +kernel
theorem dX1_phaseAt_6 : decode cX1_phaseAt 6 = .ok (.istore 5, 2) := by decide +kernel
theorem dX1_phaseAt_8 : decode cX1_phaseAt 8 = .ok (.iload 5, 2) := by decide +kernel
theorem dX1_phaseAt_10 : decode cX1_phaseAt 10 = .ok (.iload_n 2, 1) := by decide +kernel
theorem dX1_phaseAt_11 : decode cX1_phaseAt 11 = .ok (.if_icmp .gt 45, 3) := by decide +kernel
theorem dX1_phaseAt_14 : decode cX1_phaseAt 14 = .ok (.iconst 1, 1) := by decide +kernel
theorem dX1_phaseAt_15 : decode cX1_phaseAt 15 = .ok (.aload_n 0, 1) := by decide +kernel
theorem dX1_phaseAt_16 : decode cX1_phaseAt 16 = .ok (.getfield 9, 3) := by decide +kernel
theorem dX1_phaseAt_19 : decode cX1_phaseAt 19 = .ok (.iload 5, 2) := by decide +kernel
theorem dX1_phaseAt_21 : decode cX1_phaseAt 21 = .ok (.iaload, 1) := by decide +kernel
theorem dX1_phaseAt_22 : decode cX1_phaseAt 22 = .ok (.ishl, 1) := by decide +kernel
theorem dX1_phaseAt_23 : decode cX1_phaseAt 23 = .ok (.istore 6, 2) := by decide +kernel
theorem dX1_phaseAt_25 : decode cX1_phaseAt 25 = .ok (.iload 4, 2) := by decide +kernel
theorem dX1_phaseAt_27 : decode cX1_phaseAt 27 = .ok (.iload 6, 2) := by decide +kernel
theorem dX1_phaseAt_29 : decode cX1_phaseAt 29 = .ok (.ior, 1) := by decide +kernel
theorem dX1_phaseAt_30 : decode cX1_phaseAt 30 = .ok (.invokestatic 42, 3) := by decide +kernel
theorem dX1_phaseAt_33 : decode cX1_phaseAt 33 = .ok (.iload_n 1, 1) := by decide +kernel
theorem dX1_phaseAt_34 : decode cX1_phaseAt 34 = .ok (.if_icmp .le 9, 3) := by decide +kernel
theorem dX1_phaseAt_37 : decode cX1_phaseAt 37 = .ok (.iinc 3 1, 3) := by decide +kernel
theorem dX1_phaseAt_40 : decode cX1_phaseAt 40 = .ok (.iconst 0, 1) := by decide +kernel
theorem dX1_phaseAt_41 : decode cX1_phaseAt 41 = .ok (.istore 4, 2) := by decide +kernel
theorem dX1_phaseAt_43 : decode cX1_phaseAt 43 = .ok (.iload 4, 2) := by decide +kernel
theorem dX1_phaseAt_45 : decode cX1_phaseAt 45 = .ok (.iload 6, 2) := by decide +kernel
theorem dX1_phaseAt_47 : decode cX1_phaseAt 47 = .ok (.ior, 1) := by decide +kernel
theorem dX1_phaseAt_48 : decode cX1_phaseAt 48 = .ok (.istore 4, 2) := by decide +kernel
theorem dX1_phaseAt_50 : decode cX1_phaseAt 50 = .ok (.iinc 5 1, 3) := by decide +kernel
theorem dX1_phaseAt_53 : decode cX1_phaseAt 53 = .ok (.goto (-45), 3) := by decide +kernel
theorem dX1_phaseAt_56 : decode cX1_phaseAt 56 = .ok (.iload_n 3, 1) := by decide +kernel
theorem dX1_phaseAt_57 : decode cX1_phaseAt 57 = .ok (.ireturn, 1) := by decide +kernel
theorem dX1_distanceAt_0 : decode cX1_distanceAt 0 = .ok (.iconst 1, 1) := by decide +kernel
theorem dX1_distanceAt_1 : decode cX1_distanceAt 1 = .ok (.aload_n 0, 1) := by decide +kernel
theorem dX1_distanceAt_2 : decode cX1_distanceAt 2 = .ok (.getfield 9, 3) := by decide +kernel
theorem dX1_distanceAt_5 : decode cX1_distanceAt 5 = .ok (.iload_n 1, 1) := by decide +kernel
theorem dX1_distanceAt_6 : decode cX1_distanceAt 6 = .ok (.iaload, 1) := by decide +kernel
theorem dX1_distanceAt_7 : decode cX1_distanceAt 7 = .ok (.ishl, 1) := by decide +kernel
theorem dX1_distanceAt_8 : decode cX1_distanceAt 8 = .ok (.istore_n 2, 1) := by decide +kernel
theorem dX1_distanceAt_9 : decode cX1_distanceAt 9 = .ok (.iload_n 1, 1) := by decide +kernel
theorem dX1_distanceAt_10 : decode cX1_distanceAt 10 = .ok (.iconst 1, 1) := by decide +kernel
theorem dX1_distanceAt_11 : decode cX1_distanceAt 11 = .ok (.isub, 1) := by decide +kernel
theorem dX1_distanceAt_12 : decode cX1_distanceAt 12 = .ok (.istore_n 3, 1) := by decide +kernel
theorem dX1_distanceAt_13 : decode cX1_distanceAt 13 = .ok (.iload_n 3, 1) := by decide +kernel
theorem dX1_distanceAt_14 : decode cX1_distanceAt 14 = .ok (.ifCond .lt 40, 3) := by decide +kernel
theorem dX1_distanceAt_17 : decode cX1_distanceAt 17 = .ok (.aload_n 0, 1) := by decide +kernel
theorem dX1_distanceAt_18 : decode cX1_distanceAt 18 = .ok (.getfield 9, 3) := by decide +kernel
theorem dX1_distanceAt_21 : decode cX1_distanceAt 21 = .ok (.iload_n 3, 1) := by decide +kernel
theorem dX1_distanceAt_22 : decode cX1_distanceAt 22 = .ok (.iaload, 1) := by decide +kernel
theorem dX1_distanceAt_23 : decode cX1_distanceAt 23 = .ok (.aload_n 0, 1) := by decide +kernel
theorem dX1_distanceAt_24 : decode cX1_distanceAt 24 = .ok (.getfield 9, 3) := by decide +kernel
theorem dX1_distanceAt_27 : decode cX1_distanceAt 27 = .ok (.iload_n 1, 1) := by decide +kernel
theorem dX1_distanceAt_28 : decode cX1_distanceAt 28 = .ok (.iaload, 1) := by decide +kernel
theorem dX1_distanceAt_29 : decode cX1_distanceAt 29 = .ok (.if_icmp .ne 8, 3) := by decide +kernel
theorem dX1_distanceAt_32 : decode cX1_distanceAt 32 = .ok (.iload_n 2, 1) := by decide +kernel
theorem dX1_distanceAt_33 : decode cX1_distanceAt 33 = .ok (.invokestatic 42, 3) := by decide +kernel
theorem dX1_distanceAt_36 : decode cX1_distanceAt 36 = .ok (.ireturn, 1) := by decide +kernel
theorem dX1_distanceAt_37 : decode cX1_distanceAt 37 = .ok (.iload_n 2, 1) := by decide +kernel
theorem dX1_distanceAt_38 : decode cX1_distanceAt 38 = .ok (.iconst 1, 1) := by decide +kernel
theorem dX1_distanceAt_39 : decode cX1_distanceAt 39 = .ok (.aload_n 0, 1) := by decide +kernel
theorem dX1_distanceAt_40 : decode cX1_distanceAt 40 = .ok (.getfield 9, 3) := by decide +kernel
theorem dX1_distanceAt_43 : decode cX1_distanceAt 43 = .ok (.iload_n 3, 1) := by decide +kernel
theorem dX1_distanceAt_44 : decode cX1_distanceAt 44 = .ok (.iaload, 1) := by decide +kernel
theorem dX1_distanceAt_45 : decode cX1_distanceAt 45 = .ok (.ishl, 1) := by decide +kernel
theorem dX1_distanceAt_46 : decode cX1_distanceAt 46 = .ok (.ior, 1) := by decide +kernel
theorem dX1_distanceAt_47 : decode cX1_distanceAt 47 = .ok (.istore_n 2, 1) := by decide +kernel
theorem dX1_distanceAt_48 : decode cX1_distanceAt 48 = .ok (.iinc 3 (-1), 3) := by decide +kernel
theorem dX1_distanceAt_51 : decode cX1_distanceAt 51 = .ok (.goto (-38), 3) := by decide +kernel
theorem dX1_distanceAt_54 : decode cX1_distanceAt 54 = .ok (.iconst 0, 1) := by decide +kernel
theorem dX1_distanceAt_55 : decode cX1_distanceAt 55 = .ok (.ireturn, 1) := by decide +kernel
theorem dX1_findNext_0 : decode cX1_findNext 0 = .ok (.aload_n 0, 1) := by decide +kernel
theorem dX1_findNext_1 : decode cX1_findNext 1 = .ok (.getfield 21, 3) := by decide +kernel
theorem dX1_findNext_4 : decode cX1_findNext 4 = .ok (.sipush 300, 3) := by decide +kernel
theorem dX1_findNext_7 : decode cX1_findNext 7 = .ok (.invokestatic 24, 3) := by decide +kernel
theorem dX1_findNext_10 : decode cX1_findNext 10 = .ok (.aload_n 0, 1) := by decide +kernel
theorem dX1_findNext_11 : decode cX1_findNext 11 = .ok (.getfield 30, 3) := by decide +kernel
theorem dX1_findNext_14 : decode cX1_findNext 14 = .ok (.iconst 1, 1) := by decide +kernel
theorem dX1_findNext_15 : decode cX1_findNext 15 = .ok (.isub, 1) := by decide +kernel
theorem dX1_findNext_16 : decode cX1_findNext 16 = .ok (.istore_n 1, 1) := by decide +kernel
theorem dX1_findNext_17 : decode cX1_findNext 17 = .ok (.iload_n 1, 1) := by decide +kernel
theorem dX1_findNext_18 : decode cX1_findNext 18 = .ok (.ifCond .lt 38, 3) := by decide +kernel
theorem dX1_findNext_21 : decode cX1_findNext 21 = .ok (.aload_n 0, 1) := by decide +kernel
theorem dX1_findNext_22 : decode cX1_findNext 22 = .ok (.getfield 18, 3) := by decide +kernel
theorem dX1_findNext_25 : decode cX1_findNext 25 = .ok (.iload_n 1, 1) := by decide +kernel
theorem dX1_findNext_26 : decode cX1_findNext 26 = .ok (.aload_n 0, 1) := by decide +kernel
theorem dX1_findNext_27 : decode cX1_findNext 27 = .ok (.getfield 21, 3) := by decide +kernel
theorem dX1_findNext_30 : decode cX1_findNext 30 = .ok (.aload_n 0, 1) := by decide +kernel
theorem dX1_findNext_31 : decode cX1_findNext 31 = .ok (.getfield 9, 3) := by decide +kernel
theorem dX1_findNext_34 : decode cX1_findNext 34 = .ok (.iload_n 1, 1) := by decide +kernel
theorem dX1_findNext_35 : decode cX1_findNext 35 = .ok (.iaload, 1) := by decide +kernel
theorem dX1_findNext_36 : decode cX1_findNext 36 = .ok (.iaload, 1) := by decide +kernel
theorem dX1_findNext_37 : decode cX1_findNext 37 = .ok (.iastore, 1) := by decide +kernel
theorem dX1_findNext_38 : decode cX1_findNext 38 = .ok (.aload_n 0, 1) := by decide +kernel
theorem dX1_findNext_39 : decode cX1_findNext 39 = .ok (.getfield 21, 3) := by decide +kernel
theorem dX1_findNext_42 : decode cX1_findNext 42 = .ok (.aload_n 0, 1) := by decide +kernel
theorem dX1_findNext_43 : decode cX1_findNext 43 = .ok (.getfield 9, 3) := by decide +kernel
theorem dX1_findNext_46 : decode cX1_findNext 46 = .ok (.iload_n 1, 1) := by decide +kernel
theorem dX1_findNext_47 : decode cX1_findNext 47 = .ok (.iaload, 1) := by decide +kernel
theorem dX1_findNext_48 : decode cX1_findNext 48 = .ok (.iload_n 1, 1) := by decide +kernel
theorem dX1_findNext_49 : decode cX1_findNext 49 = .ok (.iastore, 1) := by decide +kernel
theorem dX1_findNext_50 : decode cX1_findNext 50 = .ok (.iinc 1 (-1), 3) := by decide +kernel
theorem dX1_findNext_53 : decode cX1_findNext 53 = .ok (.goto (-36), 3) := by decide +kernel
theorem dX1_findNext_56 : decode cX1_findNext 56 = .ok (.return_, 1) := by decide +kernel
