theorem dX0_start_0 : decode cX0_start 0 = .ok (.aload_n 0, 1) := by decide +kernel
theorem dX0_start_1 : decode cX0_start 1 = .ok (.aload_n 1, 1) := by decide +kernel
theorem dX0_start_2 : decode cX0_start 2 = .ok (.putfield 38, 3) := by decide +kernel
theorem dX0_start_5 : decode cX0_start 5 = .ok (.aload_n 0, 1) := by decide +kernel
theorem dX0_start_6 : decode cX0_start 6 = .ok (.aload_n 1, 1) := by decide +kernel
theorem dX0_start_7 : decode cX0_start 7 = .ok (.getfield 42, 3) := by decide +kernel
theorem dX0_start_10 : decode cX0_start 10 = .ok (.putfield 48, 3) := by decide +kernel
theorem dX0_start_13 : decode cX0_start 13 = .ok (.aload_n 0, 1) := by decide +kernel
theorem dX0_start_14 : decode cX0_start 14 = .ok (.iload_n 2, 1) := by decide +kernel
theorem dX0_start_15 : decode cX0_start 15 = .ok (.putfield 22, 3) := by decide +kernel
theorem dX0_start_18 : decode cX0_start 18 = .ok (.aload_n 0, 1) := by decide +kernel
theorem dX0_start_19 : decode cX0_start 19 = .ok (.aload_n 0, 1) := by decide +kernel
theorem dX0_start_20 : decode cX0_start 20 = .ok (.getfield 48, 3) := by decide +kernel
theorem dX0_start_23 : decode cX0_start 23 = .ok (.getfield 49, 3) := by decide +kernel
theorem dX0_start_26 : decode cX0_start 26 = .ok (.putfield 9, 3) := by decide +kernel
theorem dX0_start_29 : decode cX0_start 29 = .ok (.aload_n 0, 1) := by decide +kernel
theorem dX0_start_30 : decode cX0_start 30 = .ok (.iconst 0, 1) := by decide +kernel
theorem dX0_start_31 : decode cX0_start 31 = .ok (.putfield 15, 3) := by decide +kernel
theorem dX0_start_34 : decode cX0_start 34 = .ok (.aload_n 0, 1) := by decide +kernel
theorem dX0_start_35 : decode cX0_start 35 = .ok (.iconst (-1), 1) := by decide +kernel
theorem dX0_start_36 : decode cX0_start 36 = .ok (.putfield 19, 3) := by decide +kernel
theorem dX0_start_39 : decode cX0_start 39 = .ok (.return_, 1) := by decide +kernel
theorem dX9_wantAt_0 : decode cX9_wantAt 0 = .ok (.aload_n 0, 1) := by decide +kernel
theorem dX9_wantAt_1 : decode cX9_wantAt 1 = .ok (.getfield 40, 3) := by decide +kernel
theorem dX9_wantAt_4 : decode cX9_wantAt 4 = .ok (.iload_n 1, 1) := by decide +kernel
theorem dX9_wantAt_5 : decode cX9_wantAt 5 = .ok (.iconst 5, 1) := by decide +kernel
theorem dX9_wantAt_6 : decode cX9_wantAt 6 = .ok (.imul, 1) := by decide +kernel
theorem dX9_wantAt_7 : decode cX9_wantAt 7 = .ok (.iload_n 2, 1) := by decide +kernel
theorem dX9_wantAt_8 : decode cX9_wantAt 8 = .ok (.iadd, 1) := by decide +kernel
theorem dX9_wantAt_9 : decode cX9_wantAt 9 = .ok (.iaload, 1) := by decide +kernel
theorem dX9_wantAt_10 : decode cX9_wantAt 10 = .ok (.ireturn, 1) := by decide +kernel
theorem dX7_sortsAt_0 : decode cX7_sortsAt 0 = .ok (.iconst 0, 1) := by decide +kernel
theorem dX7_sortsAt_1 : decode cX7_sortsAt 1 = .ok (.istore_n 3, 1) := by decide +kernel
theorem dX7_sortsAt_2 : decode cX7_sortsAt 2 = .ok (.iconst 0, 1) := by decide +kernel
theorem dX7_sortsAt_3 : decode cX7_sortsAt 3 = .ok (.istore 4, 2) := by decide +kernel
theorem dX7_sortsAt_5 : decode cX7_sortsAt 5 = .ok (.iload 4, 2) := by decide +kernel
theorem dX7_sortsAt_7 : decode cX7_sortsAt 7 = .ok (.aload_n 0, 1) := by decide +kernel
theorem dX7_sortsAt_8 : decode cX7_sortsAt 8 = .ok (.getfield 40, 3) := by decide +kernel
theorem dX7_sortsAt_11 : decode cX7_sortsAt 11 = .ok (.getfield 73, 3) := by decide +kernel
theorem dX7_sortsAt_14 : decode cX7_sortsAt 14 = .ok (.iconst 1, 1) := by decide +kernel
theorem dX7_sortsAt_15 : decode cX7_sortsAt 15 = .ok (.iaload, 1) := by decide +kernel
theorem dX7_sortsAt_16 : decode cX7_sortsAt 16 = .ok (.if_icmp .ge 31, 3) := by decide +kernel
theorem dX7_sortsAt_19 : decode cX7_sortsAt 19 = .ok (.aload_n 0, 1) := by decide +kernel
theorem dX7_sortsAt_20 : decode cX7_sortsAt 20 = .ok (.getfield 28, 3) := by decide +kernel
theorem dX7_sortsAt_23 : decode cX7_sortsAt 23 = .ok (.iload_n 1, 1) := by decide +kernel
theorem dX7_sortsAt_24 : decode cX7_sortsAt 24 = .ok (.iconst 5, 1) := by decide +kernel
theorem dX7_sortsAt_25 : decode cX7_sortsAt 25 = .ok (.imul, 1) := by decide +kernel
theorem dX7_sortsAt_26 : decode cX7_sortsAt 26 = .ok (.iload 4, 2) := by decide +kernel
theorem dX7_sortsAt_28 : decode cX7_sortsAt 28 = .ok (.iadd, 1) := by decide +kernel
theorem dX7_sortsAt_29 : decode cX7_sortsAt 29 = .ok (.iaload, 1) := by decide +kernel
theorem dX7_sortsAt_30 : decode cX7_sortsAt 30 = .ok (.iload_n 2, 1) := by decide +kernel
theorem dX7_sortsAt_31 : decode cX7_sortsAt 31 = .ok (.if_icmp .ne 10, 3) := by decide +kernel
theorem dX7_sortsAt_34 : decode cX7_sortsAt 34 = .ok (.iload_n 3, 1) := by decide +kernel
theorem dX7_sortsAt_35 : decode cX7_sortsAt 35 = .ok (.iconst 1, 1) := by decide +kernel
theorem dX7_sortsAt_36 : decode cX7_sortsAt 36 = .ok (.iload 4, 2) := by decide +kernel
theorem dX7_sortsAt_38 : decode cX7_sortsAt 38 = .ok (.ishl, 1) := by decide +kernel
theorem dX7_sortsAt_39 : decode cX7_sortsAt 39 = .ok (.ior, 1) := by decide +kernel
theorem dX7_sortsAt_40 : decode cX7_sortsAt 40 = .ok (.istore_n 3, 1) := by decide +kernel
theorem dX7_sortsAt_41 : decode cX7_sortsAt 41 = .ok (.iinc 4 1, 3) := by decide +kernel
theorem dX7_sortsAt_44 : decode cX7_sortsAt 44 = .ok (.goto (-39), 3) := by decide +kernel
theorem dX7_sortsAt_47 : decode cX7_sortsAt 47 = .ok (.iload_n 3, 1) := by decide +kernel
theorem dX7_sortsAt_48 : decode cX7_sortsAt 48 = .ok (.ireturn, 1) := by decide +kernel
theorem dX7_lacks_0 : decode cX7_lacks 0 = .ok (.aload_n 0, 1) := by decide +kernel
theorem dX7_lacks_1 : decode cX7_lacks 1 = .ok (.getfield 40, 3) := by decide +kernel
theorem dX7_lacks_4 : decode cX7_lacks 4 = .ok (.getfield 85, 3) := by decide +kernel
theorem dX7_lacks_7 : decode cX7_lacks 7 = .ok (.iload_n 2, 1) := by decide +kernel
theorem dX7_lacks_8 : decode cX7_lacks 8 = .ok (.iaload, 1) := by decide +kernel
theorem dX7_lacks_9 : decode cX7_lacks 9 = .ok (.aload_n 0, 1) := by decide +kernel
theorem dX7_lacks_10 : decode cX7_lacks 10 = .ok (.iload_n 1, 1) := by decide +kernel
theorem dX7_lacks_11 : decode cX7_lacks 11 = .ok (.iconst 1, 1) := by decide +kernel
theorem dX7_lacks_12 : decode cX7_lacks 12 = .ok (.iload_n 3, 1) := by decide +kernel
theorem dX7_lacks_13 : decode cX7_lacks 13 = .ok (.isub, 1) := by decide +kernel
theorem dX7_lacks_14 : decode cX7_lacks 14 = .ok (.invokevirtual 76, 3) := by decide +kernel
theorem dX7_lacks_17 : decode cX7_lacks 17 = .ok (.iand, 1) := by decide +kernel
theorem dX7_lacks_18 : decode cX7_lacks 18 = .ok (.ireturn, 1) := by decide +kernel
theorem dX2_isTold_0 : decode cX2_isTold 0 = .ok (.aload_n 0, 1) := by decide +kernel
theorem dX2_isTold_1 : decode cX2_isTold 1 = .ok (.getfield 17, 3) := by decide +kernel
theorem dX2_isTold_4 : decode cX2_isTold 4 = .ok (.iload_n 1, 1) := by decide +kernel
theorem dX2_isTold_5 : decode cX2_isTold 5 = .ok (.iaload, 1) := by decide +kernel
theorem dX2_isTold_6 : decode cX2_isTold 6 = .ok (.aload_n 0, 1) := by decide +kernel
theorem dX2_isTold_7 : decode cX2_isTold 7 = .ok (.getfield 20, 3) := by decide +kernel
theorem dX2_isTold_10 : decode cX2_isTold 10 = .ok (.iload_n 1, 1) := by decide +kernel
theorem dX2_isTold_11 : decode cX2_isTold 11 = .ok (.iaload, 1) := by decide +kernel
theorem dX2_isTold_12 : decode cX2_isTold 12 = .ok (.if_icmp .ge 7, 3) := by decide +kernel
theorem dX2_isTold_15 : decode cX2_isTold 15 = .ok (.iconst 1, 1) := by decide +kernel
theorem dX2_isTold_16 : decode cX2_isTold 16 = .ok (.goto 4, 3) := by decide +kernel
theorem dX2_isTold_19 : decode cX2_isTold 19 = .ok (.iconst 0, 1) := by decide +kernel
theorem dX2_isTold_20 : decode cX2_isTold 20 = .ok (.ireturn, 1) := by decide +kernel
theorem dX0_nameBoat_0 : decode cX0_nameBoat 0 = .ok (.aload_n 0, 1) := by decide +kernel
theorem dX0_nameBoat_1 : decode cX0_nameBoat 1 = .ok (.getfield 34, 3) := by decide +kernel
theorem dX0_nameBoat_4 : decode cX0_nameBoat 4 = .ok (.iconst 3, 1) := by decide +kernel
theorem dX0_nameBoat_5 : decode cX0_nameBoat 5 = .ok (.aload_n 0, 1) := by decide +kernel
theorem dX0_nameBoat_6 : decode cX0_nameBoat 6 = .ok (.getfield 29, 3) := by decide +kernel
theorem dX0_nameBoat_9 : decode cX0_nameBoat 9 = .ok (.i2l, 1) := by decide +kernel
theorem dX0_nameBoat_10 : decode cX0_nameBoat 10 = .ok (.lastore, 1) := by decide +kernel
theorem dX0_nameBoat_11 : decode cX0_nameBoat 11 = .ok (.aload_n 0, 1) := by decide +kernel
theorem dX0_nameBoat_12 : decode cX0_nameBoat 12 = .ok (.getfield 34, 3) := by decide +kernel
theorem dX0_nameBoat_15 : decode cX0_nameBoat 15 = .ok (.bipush 6, 2) := by decide +kernel
theorem dX0_nameBoat_17 : decode cX0_nameBoat 17 = .ok (.aload_n 0, 1) := by decide +kernel
theorem dX0_nameBoat_18 : decode cX0_nameBoat 18 = .ok (.getfield 38, 3) := by decide +kernel
theorem dX0_nameBoat_21 : decode cX0_nameBoat 21 = .ok (.getfield 70, 3) := by decide +kernel
theorem dX0_nameBoat_24 : decode cX0_nameBoat 24 = .ok (.i2l, 1) := by decide +kernel
theorem dX0_nameBoat_25 : decode cX0_nameBoat 25 = .ok (.lastore, 1) := by decide +kernel
theorem dX0_nameBoat_26 : decode cX0_nameBoat 26 = .ok (.return_, 1) := by decide +kernel
theorem dJ6_bitCount_0f7a4_0 : decode cJ6_bitCount_0f7a4 0 = .ok (.iload_n 0, 1) := by decide +kernel
theorem dJ6_bitCount_0f7a4_1 : decode cJ6_bitCount_0f7a4 1 = .ok (.iload_n 0, 1) := by decide +kernel
theorem dJ6_bitCount_0f7a4_2 : decode cJ6_bitCount_0f7a4 2 = .ok (.iconst 1, 1) := by decide +kernel
theorem dJ6_bitCount_0f7a4_3 : decode cJ6_bitCount_0f7a4 3 = .ok (.iushr, 1) := by decide +kernel
theorem dJ6_bitCount_0f7a4_4 : decode cJ6_bitCount_0f7a4 4 = .ok (.ldc_w 265, 3) := by decide +kernel
theorem dJ6_bitCount_0f7a4_7 : decode cJ6_bitCount_0f7a4 7 = .ok (.iand, 1) := by decide +kernel
theorem dJ6_bitCount_0f7a4_8 : decode cJ6_bitCount_0f7a4 8 = .ok (.isub, 1) := by decide +kernel
theorem dJ6_bitCount_0f7a4_9 : decode cJ6_bitCount_0f7a4 9 = .ok (.istore_n 0, 1) := by decide +kernel
theorem dJ6_bitCount_0f7a4_10 : decode cJ6_bitCount_0f7a4 10 = .ok (.iload_n 0, 1) := by decide +kernel
theorem dJ6_bitCount_0f7a4_11 : decode cJ6_bitCount_0f7a4 11 = .ok (.ldc_w 266, 3) := by decide +kernel
theorem dJ6_bitCount_0f7a4_14 : decode cJ6_bitCount_0f7a4 14 = .ok (.iand, 1) := by decide +kernel
theorem dJ6_bitCount_0f7a4_15 : decode cJ6_bitCount_0f7a4 15 = .ok (.iload_n 0, 1) := by decide +kernel
theorem dJ6_bitCount_0f7a4_16 : decode cJ6_bitCount_0f7a4 16 = .ok (.iconst 2, 1) := by decide +kernel
theorem dJ6_bitCount_0f7a4_17 : decode cJ6_bitCount_0f7a4 17 = .ok (.iushr, 1) := by decide +kernel
theorem dJ6_bitCount_0f7a4_18 : decode cJ6_bitCount_0f7a4 18 = .ok (.ldc_w 266, 3) := by decide +kernel
theorem dJ6_bitCount_0f7a4_21 : decode cJ6_bitCount_0f7a4 21 = .ok (.iand, 1) := by decide +kernel
theorem dJ6_bitCount_0f7a4_22 : decode cJ6_bitCount_0f7a4 22 = .ok (.iadd, 1) := by decide +kernel
theorem dJ6_bitCount_0f7a4_23 : decode cJ6_bitCount_0f7a4 23 = .ok (.istore_n 0, 1) := by decide +kernel
theorem dJ6_bitCount_0f7a4_24 : decode cJ6_bitCount_0f7a4 24 = .ok (.iload_n 0, 1) := by decide +kernel
theorem dJ6_bitCount_0f7a4_25 : decode cJ6_bitCount_0f7a4 25 = .ok (.iload_n 0, 1) := by decide +kernel
theorem dJ6_bitCount_0f7a4_26 : decode cJ6_bitCount_0f7a4 26 = .ok (.iconst 4, 1) := by decide +kernel
theorem dJ6_bitCount_0f7a4_27 : decode cJ6_bitCount_0f7a4 27 = .ok (.iushr, 1) := by decide +kernel
theorem dJ6_bitCount_0f7a4_28 : decode cJ6_bitCount_0f7a4 28 = .ok (.iadd, 1) := by decide +kernel
theorem dJ6_bitCount_0f7a4_29 : decode cJ6_bitCount_0f7a4 29 = .ok (.ldc_w 267, 3) := by decide +kernel
theorem dJ6_bitCount_0f7a4_32 : decode cJ6_bitCount_0f7a4 32 = .ok (.iand, 1) := by decide +kernel
theorem dJ6_bitCount_0f7a4_33 : decode cJ6_bitCount_0f7a4 33 = .ok (.istore_n 0, 1) := by decide +kernel
theorem dJ6_bitCount_0f7a4_34 : decode cJ6_bitCount_0f7a4 34 = .ok (.iload_n 0, 1) := by decide +kernel
theorem dJ6_bitCount_0f7a4_35 : decode cJ6_bitCount_0f7a4 35 = .ok (.iload_n 0, 1) := by decide +kernel
theorem dJ6_bitCount_0f7a4_36 : decode cJ6_bitCount_0f7a4 36 = .ok (.bipush 8, 2) := by decide +kernel
theorem dJ6_bitCount_0f7a4_38 : decode cJ6_bitCount_0f7a4 38 = .ok (.iushr, 1) := by decide +kernel
theorem dJ6_bitCount_0f7a4_39 : decode cJ6_bitCount_0f7a4 39 = .ok (.iadd, 1) := by decide +kernel
theorem dJ6_bitCount_0f7a4_40 : decode cJ6_bitCount_0f7a4 40 = .ok (.istore_n 0, 1) := by decide +kernel
theorem dJ6_bitCount_0f7a4_41 : decode cJ6_bitCount_0f7a4 41 = .ok (.iload_n 0, 1) := by decide +kernel
theorem dJ6_bitCount_0f7a4_42 : decode cJ6_bitCount_0f7a4 42 = .ok (.iload_n 0, 1) := by decide +kernel
theorem dJ6_bitCount_0f7a4_43 : decode cJ6_bitCount_0f7a4 43 = .ok (.bipush 16, 2) := by decide +kernel
theorem dJ6_bitCount_0f7a4_45 : decode cJ6_bitCount_0f7a4 45 = .ok (.iushr, 1) := by decide +kernel
theorem dJ6_bitCount_0f7a4_46 : decode cJ6_bitCount_0f7a4 46 = .ok (.iadd, 1) := by decide +kernel
theorem dJ6_bitCount_0f7a4_47 : decode cJ6_bitCount_0f7a4 47 = .ok (.istore_n 0, 1) := by decide +kernel
theorem dJ6_bitCount_0f7a4_48 : decode cJ6_bitCount_0f7a4 48 = .ok (.iload_n 0, 1) := by decide +kernel
theorem dJ6_bitCount_0f7a4_49 : decode cJ6_bitCount_0f7a4 49 = .ok (.bipush 63, 2) := by decide +kernel
theorem dJ6_bitCount_0f7a4_51 : decode cJ6_bitCount_0f7a4 51 = .ok (.iand, 1) := by decide +kernel
theorem dJ6_bitCount_0f7a4_52 : decode cJ6_bitCount_0f7a4 52 = .ok (.ireturn, 1) := by decide +kernel
theorem dX7_away_0 : decode cX7_away 0 = .ok (.aload_n 0, 1) := by decide +kernel
theorem dX7_away_1 : decode cX7_away 1 = .ok (.iload_n 1, 1) := by decide +kernel
theorem dX7_away_2 : decode cX7_away 2 = .ok (.iconst 1, 1) := by decide +kernel
theorem dX7_away_3 : decode cX7_away 3 = .ok (.invokevirtual 76, 3) := by decide +kernel
theorem dX7_away_6 : decode cX7_away 6 = .ok (.invokestatic 79, 3) := by decide +kernel
theorem dX7_away_9 : decode cX7_away 9 = .ok (.ireturn, 1) := by decide +kernel
theorem dX0_nameMan_0 : decode cX0_nameMan 0 = .ok (.aload_n 0, 1) := by decide +kernel
theorem dX0_nameMan_1 : decode cX0_nameMan 1 = .ok (.invokevirtual 188, 3) := by decide +kernel
theorem dX0_nameMan_4 : decode cX0_nameMan 4 = .ok (.aload_n 0, 1) := by decide +kernel
theorem dX0_nameMan_5 : decode cX0_nameMan 5 = .ok (.getfield 34, 3) := by decide +kernel
theorem dX0_nameMan_8 : decode cX0_nameMan 8 = .ok (.iconst 2, 1) := by decide +kernel
theorem dX0_nameMan_9 : decode cX0_nameMan 9 = .ok (.aload_n 0, 1) := by decide +kernel
theorem dX0_nameMan_10 : decode cX0_nameMan 10 = .ok (.getfield 38, 3) := by decide +kernel
theorem dX0_nameMan_13 : decode cX0_nameMan 13 = .ok (.getfield 100, 3) := by decide +kernel
theorem dX0_nameMan_16 : decode cX0_nameMan 16 = .ok (.iload_n 1, 1) := by decide +kernel
theorem dX0_nameMan_17 : decode cX0_nameMan 17 = .ok (.iaload, 1) := by decide +kernel
theorem dX0_nameMan_18 : decode cX0_nameMan 18 = .ok (.i2l, 1) := by decide +kernel
theorem dX0_nameMan_19 : decode cX0_nameMan 19 = .ok (.lastore, 1) := by decide +kernel
theorem dX0_nameMan_20 : decode cX0_nameMan 20 = .ok (.aload_n 0, 1) := by decide +kernel
theorem dX0_nameMan_21 : decode cX0_nameMan 21 = .ok (.getfield 34, 3) := by decide +kernel
theorem dX0_nameMan_24 : decode cX0_nameMan 24 = .ok (.iconst 4, 1) := by decide +kernel
theorem dX0_nameMan_25 : decode cX0_nameMan 25 = .ok (.aload_n 0, 1) := by decide +kernel
theorem dX0_nameMan_26 : decode cX0_nameMan 26 = .ok (.getfield 38, 3) := by decide +kernel
theorem dX0_nameMan_29 : decode cX0_nameMan 29 = .ok (.iload_n 1, 1) := by decide +kernel
theorem dX0_nameMan_30 : decode cX0_nameMan 30 = .ok (.invokevirtual 195, 3) := by decide +kernel
theorem dX0_nameMan_33 : decode cX0_nameMan 33 = .ok (.i2l, 1) := by decide +kernel
theorem dX0_nameMan_34 : decode cX0_nameMan 34 = .ok (.lastore, 1) := by decide +kernel
theorem dX0_nameMan_35 : decode cX0_nameMan 35 = .ok (.return_, 1) := by decide +kernel
theorem dX2_product_0 : decode cX2_product 0 = .ok (.lload_n 0, 1) := by decide +kernel
theorem dX2_product_1 : decode cX2_product 1 = .ok (.lconst 0, 1) := by decide +kernel
theorem dX2_product_2 : decode cX2_product 2 = .ok (.lcmp, 1) := by decide +kernel
theorem dX2_product_3 : decode cX2_product 3 = .ok (.ifCond .ge 8, 3) := by decide +kernel
theorem dX2_product_6 : decode cX2_product 6 = .ok (.lload_n 0, 1) := by decide +kernel
theorem dX2_product_7 : decode cX2_product 7 = .ok (.lneg, 1) := by decide +kernel
theorem dX2_product_8 : decode cX2_product 8 = .ok (.goto 4, 3) := by decide +kernel
theorem dX2_product_11 : decode cX2_product 11 = .ok (.lload_n 0, 1) := by decide +kernel
theorem dX2_product_12 : decode cX2_product 12 = .ok (.lstore 4, 2) := by decide +kernel
theorem dX2_product_14 : decode cX2_product 14 = .ok (.lload_n 2, 1) := by decide +kernel
theorem dX2_product_15 : decode cX2_product 15 = .ok (.lconst 0, 1) := by decide +kernel
theorem dX2_product_16 : decode cX2_product 16 = .ok (.lcmp, 1) := by decide +kernel
theorem dX2_product_17 : decode cX2_product 17 = .ok (.ifCond .ge 8, 3) := by decide +kernel
theorem dX2_product_20 : decode cX2_product 20 = .ok (.lload_n 2, 1) := by decide +kernel
theorem dX2_product_21 : decode cX2_product 21 = .ok (.lneg, 1) := by decide +kernel
theorem dX2_product_22 : decode cX2_product 22 = .ok (.goto 4, 3) := by decide +kernel
theorem dX2_product_25 : decode cX2_product 25 = .ok (.lload_n 2, 1) := by decide +kernel
theorem dX2_product_26 : decode cX2_product 26 = .ok (.lstore 6, 2) := by decide +kernel
theorem dX2_product_28 : decode cX2_product 28 = .ok (.lload 4, 2) := by decide +kernel
theorem dX2_product_30 : decode cX2_product 30 = .ok (.lconst 0, 1) := by decide +kernel
theorem dX2_product_31 : decode cX2_product 31 = .ok (.lcmp, 1) := by decide +kernel
theorem dX2_product_32 : decode cX2_product 32 = .ok (.ifCond .eq 21, 3) := by decide +kernel
theorem dX2_product_35 : decode cX2_product 35 = .ok (.lload 6, 2) := by decide +kernel
theorem dX2_product_37 : decode cX2_product 37 = .ok (.ldc2_w 37, 3) := by decide +kernel
theorem dX2_product_40 : decode cX2_product 40 = .ok (.lload 4, 2) := by decide +kernel
theorem dX2_product_42 : decode cX2_product 42 = .ok (.ldiv, 1) := by decide +kernel
theorem dX2_product_43 : decode cX2_product 43 = .ok (.lcmp, 1) := by decide +kernel
theorem dX2_product_44 : decode cX2_product 44 = .ok (.ifCond .le 9, 3) := by decide +kernel
theorem dX2_product_47 : decode cX2_product 47 = .ok (.ldc2_w 35, 3) := by decide +kernel
theorem dX2_product_50 : decode cX2_product 50 = .ok (.goto 6, 3) := by decide +kernel
theorem dX2_product_53 : decode cX2_product 53 = .ok (.lload_n 0, 1) := by decide +kernel
theorem dX2_product_54 : decode cX2_product 54 = .ok (.lload_n 2, 1) := by decide +kernel
theorem dX2_product_55 : decode cX2_product 55 = .ok (.lmul, 1) := by decide +kernel
theorem dX2_product_56 : decode cX2_product 56 = .ok (.lreturn, 1) := by decide +kernel
theorem dX2_isSo_0 : decode cX2_isSo 0 = .ok (.iload_n 0, 1) := by decide +kernel
theorem dX2_isSo_1 : decode cX2_isSo 1 = .ok (.tableswitch 95 4 8 #[35, 47, 59, 71, 83], 35) := by decide +kernel
theorem dX2_isSo_36 : decode cX2_isSo 36 = .ok (.lload_n 1, 1) := by decide +kernel
theorem dX2_isSo_37 : decode cX2_isSo 37 = .ok (.lload_n 3, 1) := by decide +kernel
theorem dX2_isSo_38 : decode cX2_isSo 38 = .ok (.lcmp, 1) := by decide +kernel
theorem dX2_isSo_39 : decode cX2_isSo 39 = .ok (.ifCond .ge 7, 3) := by decide +kernel
theorem dX2_isSo_42 : decode cX2_isSo 42 = .ok (.iconst 1, 1) := by decide +kernel
theorem dX2_isSo_43 : decode cX2_isSo 43 = .ok (.goto 4, 3) := by decide +kernel
theorem dX2_isSo_46 : decode cX2_isSo 46 = .ok (.iconst 0, 1) := by decide +kernel
theorem dX2_isSo_47 : decode cX2_isSo 47 = .ok (.ireturn, 1) := by decide +kernel
theorem dX2_isSo_48 : decode cX2_isSo 48 = .ok (.lload_n 1, 1) := by decide +kernel
theorem dX2_isSo_49 : decode cX2_isSo 49 = .ok (.lload_n 3, 1) := by decide +kernel
theorem dX2_isSo_50 : decode cX2_isSo 50 = .ok (.lcmp, 1) := by decide +kernel
theorem dX2_isSo_51 : decode cX2_isSo 51 = .ok (.ifCond .gt 7, 3) := by decide +kernel
theorem dX2_isSo_54 : decode cX2_isSo 54 = .ok (.iconst 1, 1) := by decide +kernel
theorem dX2_isSo_55 : decode cX2_isSo 55 = .ok (.goto 4, 3) := by decide +kernel
theorem dX2_isSo_58 : decode cX2_isSo 58 = .ok (.iconst 0, 1) := by decide +kernel
theorem dX2_isSo_59 : decode cX2_isSo 59 = .ok (.ireturn, 1) := by decide +kernel
theorem dX2_isSo_60 : decode cX2_isSo 60 = .ok (.lload_n 1, 1) := by decide +kernel
theorem dX2_isSo_61 : decode cX2_isSo 61 = .ok (.lload_n 3, 1) := by decide +kernel
theorem dX2_isSo_62 : decode cX2_isSo 62 = .ok (.lcmp, 1) := by decide +kernel
theorem dX2_isSo_63 : decode cX2_isSo 63 = .ok (.ifCond .ne 7, 3) := by decide +kernel
theorem dX2_isSo_66 : decode cX2_isSo 66 = .ok (.iconst 1, 1) := by decide +kernel
theorem dX2_isSo_67 : decode cX2_isSo 67 = .ok (.goto 4, 3) := by decide +kernel
theorem dX2_isSo_70 : decode cX2_isSo 70 = .ok (.iconst 0, 1) := by decide +kernel
theorem dX2_isSo_71 : decode cX2_isSo 71 = .ok (.ireturn, 1) := by decide +kernel
theorem dX2_isSo_72 : decode cX2_isSo 72 = .ok (.lload_n 1, 1) := by decide +kernel
theorem dX2_isSo_73 : decode cX2_isSo 73 = .ok (.lload_n 3, 1) := by decide +kernel
theorem dX2_isSo_74 : decode cX2_isSo 74 = .ok (.lcmp, 1) := by decide +kernel
theorem dX2_isSo_75 : decode cX2_isSo 75 = .ok (.ifCond .eq 7, 3) := by decide +kernel
theorem dX2_isSo_78 : decode cX2_isSo 78 = .ok (.iconst 1, 1) := by decide +kernel
theorem dX2_isSo_79 : decode cX2_isSo 79 = .ok (.goto 4, 3) := by decide +kernel
theorem dX2_isSo_82 : decode cX2_isSo 82 = .ok (.iconst 0, 1) := by decide +kernel
theorem dX2_isSo_83 : decode cX2_isSo 83 = .ok (.ireturn, 1) := by decide +kernel
theorem dX2_isSo_84 : decode cX2_isSo 84 = .ok (.lload_n 1, 1) := by decide +kernel
theorem dX2_isSo_85 : decode cX2_isSo 85 = .ok (.lload_n 3, 1) := by decide +kernel
theorem dX2_isSo_86 : decode cX2_isSo 86 = .ok (.lcmp, 1) := by decide +kernel
theorem dX2_isSo_87 : decode cX2_isSo 87 = .ok (.ifCond .lt 7, 3) := by decide +kernel
theorem dX2_isSo_90 : decode cX2_isSo 90 = .ok (.iconst 1, 1) := by decide +kernel
theorem dX2_isSo_91 : decode cX2_isSo 91 = .ok (.goto 4, 3) := by decide +kernel
theorem dX2_isSo_94 : decode cX2_isSo 94 = .ok (.iconst 0, 1) := by decide +kernel
theorem dX2_isSo_95 : decode cX2_isSo 95 = .ok (.ireturn, 1) := by decide +kernel
theorem dX2_isSo_96 : decode cX2_isSo 96 = .ok (.lload_n 1, 1) := by decide +kernel
theorem dX2_isSo_97 : decode cX2_isSo 97 = .ok (.lload_n 3, 1) := by decide +kernel
theorem dX2_isSo_98 : decode cX2_isSo 98 = .ok (.lcmp, 1) := by decide +kernel
theorem dX2_isSo_99 : decode cX2_isSo 99 = .ok (.ifCond .le 7, 3) := by decide +kernel
theorem dX2_isSo_102 : decode cX2_isSo 102 = .ok (.iconst 1, 1) := by decide +kernel
theorem dX2_isSo_103 : decode cX2_isSo 103 = .ok (.goto 4, 3) := by decide +kernel
theorem dX2_isSo_106 : decode cX2_isSo 106 = .ok (.iconst 0, 1) := by decide +kernel
theorem dX2_isSo_107 : decode cX2_isSo 107 = .ok (.ireturn, 1) := by decide +kernel
theorem dX2_worked_0 : decode cX2_worked 0 = .ok (.iload_n 0, 1) := by decide +kernel
theorem dX2_worked_1 : decode cX2_worked 1 = .ok (.tableswitch 129 0 11 #[63, 67, 71, 77, 129, 129, 129, 129, 129, 129, 93, 111], 63) := by decide +kernel
theorem dX2_worked_64 : decode cX2_worked 64 = .ok (.lload_n 1, 1) := by decide +kernel
theorem dX2_worked_65 : decode cX2_worked 65 = .ok (.lload_n 3, 1) := by decide +kernel
theorem dX2_worked_66 : decode cX2_worked 66 = .ok (.ladd, 1) := by decide +kernel
theorem dX2_worked_67 : decode cX2_worked 67 = .ok (.lreturn, 1) := by decide +kernel
theorem dX2_worked_68 : decode cX2_worked 68 = .ok (.lload_n 1, 1) := by decide +kernel
theorem dX2_worked_69 : decode cX2_worked 69 = .ok (.lload_n 3, 1) := by decide +kernel
theorem dX2_worked_70 : decode cX2_worked 70 = .ok (.lsub, 1) := by decide +kernel
theorem dX2_worked_71 : decode cX2_worked 71 = .ok (.lreturn, 1) := by decide +kernel
theorem dX2_worked_72 : decode cX2_worked 72 = .ok (.lload_n 1, 1) := by decide +kernel
theorem dX2_worked_73 : decode cX2_worked 73 = .ok (.lload_n 3, 1) := by decide +kernel
theorem dX2_worked_74 : decode cX2_worked 74 = .ok (.invokestatic 41, 3) := by decide +kernel
theorem dX2_worked_77 : decode cX2_worked 77 = .ok (.lreturn, 1) := by decide +kernel
theorem dX2_worked_78 : decode cX2_worked 78 = .ok (.lload_n 3, 1) := by decide +kernel
theorem dX2_worked_79 : decode cX2_worked 79 = .ok (.lconst 0, 1) := by decide +kernel
theorem dX2_worked_80 : decode cX2_worked 80 = .ok (.lcmp, 1) := by decide +kernel
theorem dX2_worked_81 : decode cX2_worked 81 = .ok (.ifCond .ne 9, 3) := by decide +kernel
theorem dX2_worked_84 : decode cX2_worked 84 = .ok (.ldc2_w 35, 3) := by decide +kernel
theorem dX2_worked_87 : decode cX2_worked 87 = .ok (.goto 6, 3) := by decide +kernel
theorem dX2_worked_90 : decode cX2_worked 90 = .ok (.lload_n 1, 1) := by decide +kernel
theorem dX2_worked_91 : decode cX2_worked 91 = .ok (.lload_n 3, 1) := by decide +kernel
theorem dX2_worked_92 : decode cX2_worked 92 = .ok (.ldiv, 1) := by decide +kernel
theorem dX2_worked_93 : decode cX2_worked 93 = .ok (.lreturn, 1) := by decide +kernel
theorem dX2_worked_94 : decode cX2_worked 94 = .ok (.lload_n 1, 1) := by decide +kernel
theorem dX2_worked_95 : decode cX2_worked 95 = .ok (.lconst 0, 1) := by decide +kernel
theorem dX2_worked_96 : decode cX2_worked 96 = .ok (.lcmp, 1) := by decide +kernel
theorem dX2_worked_97 : decode cX2_worked 97 = .ok (.ifCond .eq 13, 3) := by decide +kernel
theorem dX2_worked_100 : decode cX2_worked 100 = .ok (.lload_n 3, 1) := by decide +kernel
theorem dX2_worked_101 : decode cX2_worked 101 = .ok (.lconst 0, 1) := by decide +kernel
theorem dX2_worked_102 : decode cX2_worked 102 = .ok (.lcmp, 1) := by decide +kernel
theorem dX2_worked_103 : decode cX2_worked 103 = .ok (.ifCond .eq 7, 3) := by decide +kernel
theorem dX2_worked_106 : decode cX2_worked 106 = .ok (.lconst 1, 1) := by decide +kernel
theorem dX2_worked_107 : decode cX2_worked 107 = .ok (.goto 4, 3) := by decide +kernel
theorem dX2_worked_110 : decode cX2_worked 110 = .ok (.lconst 0, 1) := by decide +kernel
theorem dX2_worked_111 : decode cX2_worked 111 = .ok (.lreturn, 1) := by decide +kernel
theorem dX2_worked_112 : decode cX2_worked 112 = .ok (.lload_n 1, 1) := by decide +kernel
theorem dX2_worked_113 : decode cX2_worked 113 = .ok (.lconst 0, 1) := by decide +kernel
theorem dX2_worked_114 : decode cX2_worked 114 = .ok (.lcmp, 1) := by decide +kernel
theorem dX2_worked_115 : decode cX2_worked 115 = .ok (.ifCond .ne 9, 3) := by decide +kernel
theorem dX2_worked_118 : decode cX2_worked 118 = .ok (.lload_n 3, 1) := by decide +kernel
theorem dX2_worked_119 : decode cX2_worked 119 = .ok (.lconst 0, 1) := by decide +kernel
theorem dX2_worked_120 : decode cX2_worked 120 = .ok (.lcmp, 1) := by decide +kernel
theorem dX2_worked_121 : decode cX2_worked 121 = .ok (.ifCond .eq 7, 3) := by decide +kernel
theorem dX2_worked_124 : decode cX2_worked 124 = .ok (.lconst 1, 1) := by decide +kernel
theorem dX2_worked_125 : decode cX2_worked 125 = .ok (.goto 4, 3) := by decide +kernel
theorem dX2_worked_128 : decode cX2_worked 128 = .ok (.lconst 0, 1) := by decide +kernel
theorem dX2_worked_129 : decode cX2_worked 129 = .ok (.lreturn, 1) := by decide +kernel
theorem dX2_worked_130 : decode cX2_worked 130 = .ok (.iload_n 0, 1) := by decide +kernel
theorem dX2_worked_131 : decode cX2_worked 131 = .ok (.lload_n 1, 1) := by decide +kernel
theorem dX2_worked_132 : decode cX2_worked 132 = .ok (.lload_n 3, 1) := by decide +kernel
theorem dX2_worked_133 : decode cX2_worked 133 = .ok (.invokestatic 45, 3) := by decide +kernel
theorem dX2_worked_136 : decode cX2_worked 136 = .ok (.ifCond .eq 7, 3) := by decide +kernel
theorem dX2_worked_139 : decode cX2_worked 139 = .ok (.lconst 1, 1) := by decide +kernel
theorem dX2_worked_140 : decode cX2_worked 140 = .ok (.goto 4, 3) := by decide +kernel
theorem dX2_worked_143 : decode cX2_worked 143 = .ok (.lconst 0, 1) := by decide +kernel
theorem dX2_worked_144 : decode cX2_worked 144 = .ok (.lreturn, 1) := by decide +kernel
theorem dX2_value_0 : decode cX2_value 0 = .ok (.iconst 0, 1) := by decide +kernel
theorem dX2_value_1 : decode cX2_value 1 = .ok (.istore_n 3, 1) := by decide +kernel
theorem dX2_value_2 : decode cX2_value 2 = .ok (.aload_n 0, 1) := by decide +kernel
theorem dX2_value_3 : decode cX2_value 3 = .ok (.getfield 17, 3) := by decide +kernel
theorem dX2_value_6 : decode cX2_value 6 = .ok (.iload_n 1, 1) := by decide +kernel
theorem dX2_value_7 : decode cX2_value 7 = .ok (.iaload, 1) := by decide +kernel
theorem dX2_value_8 : decode cX2_value 8 = .ok (.istore 4, 2) := by decide +kernel
theorem dX2_value_10 : decode cX2_value 10 = .ok (.iload 4, 2) := by decide +kernel
theorem dX2_value_12 : decode cX2_value 12 = .ok (.aload_n 0, 1) := by decide +kernel
theorem dX2_value_13 : decode cX2_value 13 = .ok (.getfield 20, 3) := by decide +kernel
theorem dX2_value_16 : decode cX2_value 16 = .ok (.iload_n 1, 1) := by decide +kernel
theorem dX2_value_17 : decode cX2_value 17 = .ok (.iaload, 1) := by decide +kernel
theorem dX2_value_18 : decode cX2_value 18 = .ok (.if_icmp .ge 167, 3) := by decide +kernel
theorem dX2_value_21 : decode cX2_value 21 = .ok (.aload_n 0, 1) := by decide +kernel
theorem dX2_value_22 : decode cX2_value 22 = .ok (.getfield 13, 3) := by decide +kernel
theorem dX2_value_25 : decode cX2_value 25 = .ok (.iload 4, 2) := by decide +kernel
theorem dX2_value_27 : decode cX2_value 27 = .ok (.iaload, 1) := by decide +kernel
theorem dX2_value_28 : decode cX2_value 28 = .ok (.istore 5, 2) := by decide +kernel
theorem dX2_value_30 : decode cX2_value 30 = .ok (.iload 5, 2) := by decide +kernel
theorem dX2_value_32 : decode cX2_value 32 = .ok (.sipush 10007, 3) := by decide +kernel
theorem dX2_value_35 : decode cX2_value 35 = .ok (.if_icmp .ge 30, 3) := by decide +kernel
theorem dX2_value_38 : decode cX2_value 38 = .ok (.iload 5, 2) := by decide +kernel
theorem dX2_value_40 : decode cX2_value 40 = .ok (.sipush 10000, 3) := by decide +kernel
theorem dX2_value_43 : decode cX2_value 43 = .ok (.if_icmp .ge 9, 3) := by decide +kernel
theorem dX2_value_46 : decode cX2_value 46 = .ok (.iload 5, 2) := by decide +kernel
theorem dX2_value_48 : decode cX2_value 48 = .ok (.i2l, 1) := by decide +kernel
theorem dX2_value_49 : decode cX2_value 49 = .ok (.goto 11, 3) := by decide +kernel
theorem dX2_value_52 : decode cX2_value 52 = .ok (.aload_n 2, 1) := by decide +kernel
theorem dX2_value_53 : decode cX2_value 53 = .ok (.iload 5, 2) := by decide +kernel
theorem dX2_value_55 : decode cX2_value 55 = .ok (.sipush 10000, 3) := by decide +kernel
theorem dX2_value_58 : decode cX2_value 58 = .ok (.isub, 1) := by decide +kernel
theorem dX2_value_59 : decode cX2_value 59 = .ok (.laload, 1) := by decide +kernel
theorem dX2_value_60 : decode cX2_value 60 = .ok (.lstore 6, 2) := by decide +kernel
theorem dX2_value_62 : decode cX2_value 62 = .ok (.goto 84, 3) := by decide +kernel
theorem dX2_value_65 : decode cX2_value 65 = .ok (.iload 5, 2) := by decide +kernel
theorem dX2_value_67 : decode cX2_value 67 = .ok (.sipush 10019, 3) := by decide +kernel
theorem dX2_value_70 : decode cX2_value 70 = .ok (.if_icmp .ne 34, 3) := by decide +kernel
theorem dX2_value_73 : decode cX2_value 73 = .ok (.iload_n 3, 1) := by decide +kernel
theorem dX2_value_74 : decode cX2_value 74 = .ok (.iconst 1, 1) := by decide +kernel
theorem dX2_value_75 : decode cX2_value 75 = .ok (.if_icmp .lt 29, 3) := by decide +kernel
theorem dX2_value_78 : decode cX2_value 78 = .ok (.aload_n 0, 1) := by decide +kernel
theorem dX2_value_79 : decode cX2_value 79 = .ok (.getfield 27, 3) := by decide +kernel
theorem dX2_value_82 : decode cX2_value 82 = .ok (.iload_n 3, 1) := by decide +kernel
theorem dX2_value_83 : decode cX2_value 83 = .ok (.iconst 1, 1) := by decide +kernel
theorem dX2_value_84 : decode cX2_value 84 = .ok (.isub, 1) := by decide +kernel
theorem dX2_value_85 : decode cX2_value 85 = .ok (.laload, 1) := by decide +kernel
theorem dX2_value_86 : decode cX2_value 86 = .ok (.lconst 0, 1) := by decide +kernel
theorem dX2_value_87 : decode cX2_value 87 = .ok (.lcmp, 1) := by decide +kernel
theorem dX2_value_88 : decode cX2_value 88 = .ok (.ifCond .ne 7, 3) := by decide +kernel
theorem dX2_value_91 : decode cX2_value 91 = .ok (.lconst 1, 1) := by decide +kernel
theorem dX2_value_92 : decode cX2_value 92 = .ok (.goto 4, 3) := by decide +kernel
theorem dX2_value_95 : decode cX2_value 95 = .ok (.lconst 0, 1) := by decide +kernel
theorem dX2_value_96 : decode cX2_value 96 = .ok (.lstore 6, 2) := by decide +kernel
theorem dX2_value_98 : decode cX2_value 98 = .ok (.iinc 3 (-1), 3) := by decide +kernel
theorem dX2_value_101 : decode cX2_value 101 = .ok (.goto 45, 3) := by decide +kernel
theorem dX2_value_104 : decode cX2_value 104 = .ok (.iload_n 3, 1) := by decide +kernel
theorem dX2_value_105 : decode cX2_value 105 = .ok (.iconst 2, 1) := by decide +kernel
theorem dX2_value_106 : decode cX2_value 106 = .ok (.if_icmp .lt 36, 3) := by decide +kernel
theorem dX2_value_109 : decode cX2_value 109 = .ok (.iload 5, 2) := by decide +kernel
theorem dX2_value_111 : decode cX2_value 111 = .ok (.sipush 10007, 3) := by decide +kernel
theorem dX2_value_114 : decode cX2_value 114 = .ok (.isub, 1) := by decide +kernel
theorem dX2_value_115 : decode cX2_value 115 = .ok (.aload_n 0, 1) := by decide +kernel
theorem dX2_value_116 : decode cX2_value 116 = .ok (.getfield 27, 3) := by decide +kernel
theorem dX2_value_119 : decode cX2_value 119 = .ok (.iload_n 3, 1) := by decide +kernel
theorem dX2_value_120 : decode cX2_value 120 = .ok (.iconst 2, 1) := by decide +kernel
theorem dX2_value_121 : decode cX2_value 121 = .ok (.isub, 1) := by decide +kernel
theorem dX2_value_122 : decode cX2_value 122 = .ok (.laload, 1) := by decide +kernel
theorem dX2_value_123 : decode cX2_value 123 = .ok (.aload_n 0, 1) := by decide +kernel
theorem dX2_value_124 : decode cX2_value 124 = .ok (.getfield 27, 3) := by decide +kernel
theorem dX2_value_127 : decode cX2_value 127 = .ok (.iload_n 3, 1) := by decide +kernel
theorem dX2_value_128 : decode cX2_value 128 = .ok (.iconst 1, 1) := by decide +kernel
theorem dX2_value_129 : decode cX2_value 129 = .ok (.isub, 1) := by decide +kernel
theorem dX2_value_130 : decode cX2_value 130 = .ok (.laload, 1) := by decide +kernel
theorem dX2_value_131 : decode cX2_value 131 = .ok (.invokestatic 31, 3) := by decide +kernel
theorem dX2_value_134 : decode cX2_value 134 = .ok (.lstore 6, 2) := by decide +kernel
theorem dX2_value_136 : decode cX2_value 136 = .ok (.iinc 3 (-2), 3) := by decide +kernel
theorem dX2_value_139 : decode cX2_value 139 = .ok (.goto 7, 3) := by decide +kernel
theorem dX2_value_142 : decode cX2_value 142 = .ok (.ldc2_w 35, 3) := by decide +kernel
theorem dX2_value_145 : decode cX2_value 145 = .ok (.lreturn, 1) := by decide +kernel
theorem dX2_value_146 : decode cX2_value 146 = .ok (.lload 6, 2) := by decide +kernel
theorem dX2_value_148 : decode cX2_value 148 = .ok (.ldc2_w 37, 3) := by decide +kernel
theorem dX2_value_151 : decode cX2_value 151 = .ok (.lcmp, 1) := by decide +kernel
theorem dX2_value_152 : decode cX2_value 152 = .ok (.ifCond .gt 12, 3) := by decide +kernel
theorem dX2_value_155 : decode cX2_value 155 = .ok (.lload 6, 2) := by decide +kernel
theorem dX2_value_157 : decode cX2_value 157 = .ok (.ldc2_w 39, 3) := by decide +kernel
theorem dX2_value_160 : decode cX2_value 160 = .ok (.lcmp, 1) := by decide +kernel
theorem dX2_value_161 : decode cX2_value 161 = .ok (.ifCond .ge 7, 3) := by decide +kernel
theorem dX2_value_164 : decode cX2_value 164 = .ok (.ldc2_w 35, 3) := by decide +kernel
theorem dX2_value_167 : decode cX2_value 167 = .ok (.lreturn, 1) := by decide +kernel
theorem dX2_value_168 : decode cX2_value 168 = .ok (.aload_n 0, 1) := by decide +kernel
theorem dX2_value_169 : decode cX2_value 169 = .ok (.getfield 27, 3) := by decide +kernel
theorem dX2_value_172 : decode cX2_value 172 = .ok (.iload_n 3, 1) := by decide +kernel
theorem dX2_value_173 : decode cX2_value 173 = .ok (.lload 6, 2) := by decide +kernel
theorem dX2_value_175 : decode cX2_value 175 = .ok (.lastore, 1) := by decide +kernel
theorem dX2_value_176 : decode cX2_value 176 = .ok (.iinc 3 1, 3) := by decide +kernel
theorem dX2_value_179 : decode cX2_value 179 = .ok (.iinc 4 1, 3) := by decide +kernel
theorem dX2_value_182 : decode cX2_value 182 = .ok (.goto (-172), 3) := by decide +kernel
theorem dX2_value_185 : decode cX2_value 185 = .ok (.iload_n 3, 1) := by decide +kernel
theorem dX2_value_186 : decode cX2_value 186 = .ok (.iconst 1, 1) := by decide +kernel
theorem dX2_value_187 : decode cX2_value 187 = .ok (.if_icmp .ne 12, 3) := by decide +kernel
theorem dX2_value_190 : decode cX2_value 190 = .ok (.aload_n 0, 1) := by decide +kernel
theorem dX2_value_191 : decode cX2_value 191 = .ok (.getfield 27, 3) := by decide +kernel
theorem dX2_value_194 : decode cX2_value 194 = .ok (.iconst 0, 1) := by decide +kernel
theorem dX2_value_195 : decode cX2_value 195 = .ok (.laload, 1) := by decide +kernel
theorem dX2_value_196 : decode cX2_value 196 = .ok (.goto 6, 3) := by decide +kernel
theorem dX2_value_199 : decode cX2_value 199 = .ok (.ldc2_w 35, 3) := by decide +kernel
theorem dX2_value_202 : decode cX2_value 202 = .ok (.lreturn, 1) := by decide +kernel
theorem dX0_gainLaw_0 : decode cX0_gainLaw 0 = .ok (.aload_n 0, 1) := by decide +kernel
theorem dX0_gainLaw_1 : decode cX0_gainLaw 1 = .ok (.getfield 48, 3) := by decide +kernel
theorem dX0_gainLaw_4 : decode cX0_gainLaw 4 = .ok (.getfield 169, 3) := by decide +kernel
theorem dX0_gainLaw_7 : decode cX0_gainLaw 7 = .ok (.iconst 1, 1) := by decide +kernel
theorem dX0_gainLaw_8 : decode cX0_gainLaw 8 = .ok (.invokevirtual 173, 3) := by decide +kernel
theorem dX0_gainLaw_11 : decode cX0_gainLaw 11 = .ok (.ifCond .ne 7, 3) := by decide +kernel
theorem dX0_gainLaw_14 : decode cX0_gainLaw 14 = .ok (.ldc2_w 176, 3) := by decide +kernel
theorem dX0_gainLaw_17 : decode cX0_gainLaw 17 = .ok (.lreturn, 1) := by decide +kernel
theorem dX0_gainLaw_18 : decode cX0_gainLaw 18 = .ok (.aload_n 0, 1) := by decide +kernel
theorem dX0_gainLaw_19 : decode cX0_gainLaw 19 = .ok (.getfield 34, 3) := by decide +kernel
theorem dX0_gainLaw_22 : decode cX0_gainLaw 22 = .ok (.iconst 0, 1) := by decide +kernel
theorem dX0_gainLaw_23 : decode cX0_gainLaw 23 = .ok (.lconst 0, 1) := by decide +kernel
theorem dX0_gainLaw_24 : decode cX0_gainLaw 24 = .ok (.lastore, 1) := by decide +kernel
theorem dX0_gainLaw_25 : decode cX0_gainLaw 25 = .ok (.aload_n 0, 1) := by decide +kernel
theorem dX0_gainLaw_26 : decode cX0_gainLaw 26 = .ok (.getfield 34, 3) := by decide +kernel
theorem dX0_gainLaw_29 : decode cX0_gainLaw 29 = .ok (.iconst 1, 1) := by decide +kernel
theorem dX0_gainLaw_30 : decode cX0_gainLaw 30 = .ok (.lconst 0, 1) := by decide +kernel
theorem dX0_gainLaw_31 : decode cX0_gainLaw 31 = .ok (.lastore, 1) := by decide +kernel
theorem dX0_gainLaw_32 : decode cX0_gainLaw 32 = .ok (.aload_n 0, 1) := by decide +kernel
theorem dX0_gainLaw_33 : decode cX0_gainLaw 33 = .ok (.iload_n 1, 1) := by decide +kernel
theorem dX0_gainLaw_34 : decode cX0_gainLaw 34 = .ok (.invokevirtual 181, 3) := by decide +kernel
theorem dX0_gainLaw_37 : decode cX0_gainLaw 37 = .ok (.aload_n 0, 1) := by decide +kernel
theorem dX0_gainLaw_38 : decode cX0_gainLaw 38 = .ok (.getfield 34, 3) := by decide +kernel
theorem dX0_gainLaw_41 : decode cX0_gainLaw 41 = .ok (.iconst 5, 1) := by decide +kernel
theorem dX0_gainLaw_42 : decode cX0_gainLaw 42 = .ok (.aload_n 0, 1) := by decide +kernel
theorem dX0_gainLaw_43 : decode cX0_gainLaw 43 = .ok (.getfield 48, 3) := by decide +kernel
theorem dX0_gainLaw_46 : decode cX0_gainLaw 46 = .ok (.iload_n 2, 1) := by decide +kernel
theorem dX0_gainLaw_47 : decode cX0_gainLaw 47 = .ok (.iconst 4, 1) := by decide +kernel
theorem dX0_gainLaw_48 : decode cX0_gainLaw 48 = .ok (.invokevirtual 76, 3) := by decide +kernel
theorem dX0_gainLaw_51 : decode cX0_gainLaw 51 = .ok (.i2l, 1) := by decide +kernel
theorem dX0_gainLaw_52 : decode cX0_gainLaw 52 = .ok (.lastore, 1) := by decide +kernel
theorem dX0_gainLaw_53 : decode cX0_gainLaw 53 = .ok (.aload_n 0, 1) := by decide +kernel
theorem dX0_gainLaw_54 : decode cX0_gainLaw 54 = .ok (.getfield 48, 3) := by decide +kernel
theorem dX0_gainLaw_57 : decode cX0_gainLaw 57 = .ok (.getfield 169, 3) := by decide +kernel
theorem dX0_gainLaw_60 : decode cX0_gainLaw 60 = .ok (.iconst 1, 1) := by decide +kernel
theorem dX0_gainLaw_61 : decode cX0_gainLaw 61 = .ok (.aload_n 0, 1) := by decide +kernel
theorem dX0_gainLaw_62 : decode cX0_gainLaw 62 = .ok (.getfield 34, 3) := by decide +kernel
theorem dX0_gainLaw_65 : decode cX0_gainLaw 65 = .ok (.invokevirtual 184, 3) := by decide +kernel
theorem dX0_gainLaw_68 : decode cX0_gainLaw 68 = .ok (.lreturn, 1) := by decide +kernel
theorem dX0_within_0 : decode cX0_within 0 = .ok (.lload_n 0, 1) := by decide +kernel
theorem dX0_within_1 : decode cX0_within 1 = .ok (.ldc2_w 176, 3) := by decide +kernel
theorem dX0_within_4 : decode cX0_within 4 = .ok (.lcmp, 1) := by decide +kernel
theorem dX0_within_5 : decode cX0_within 5 = .ok (.ifCond .ne 5, 3) := by decide +kernel
theorem dX0_within_8 : decode cX0_within 8 = .ok (.iload_n 2, 1) := by decide +kernel
theorem dX0_within_9 : decode cX0_within 9 = .ok (.ireturn, 1) := by decide +kernel
theorem dX0_within_10 : decode cX0_within 10 = .ok (.lconst 0, 1) := by decide +kernel
theorem dX0_within_11 : decode cX0_within 11 = .ok (.ldc2_w 198, 3) := by decide +kernel
theorem dX0_within_14 : decode cX0_within 14 = .ok (.lload_n 0, 1) := by decide +kernel
theorem dX0_within_15 : decode cX0_within 15 = .ok (.invokestatic 200, 3) := by decide +kernel
theorem dX0_within_18 : decode cX0_within 18 = .ok (.invokestatic 203, 3) := by decide +kernel
theorem dX0_within_21 : decode cX0_within 21 = .ok (.l2i, 1) := by decide +kernel
theorem dX0_within_22 : decode cX0_within 22 = .ok (.ireturn, 1) := by decide +kernel
theorem dX0_settle_0 : decode cX0_settle 0 = .ok (.aload_n 0, 1) := by decide +kernel
theorem dX0_settle_1 : decode cX0_settle 1 = .ok (.getfield 48, 3) := by decide +kernel
theorem dX0_settle_4 : decode cX0_settle 4 = .ok (.iload_n 1, 1) := by decide +kernel
theorem dX0_settle_5 : decode cX0_settle 5 = .ok (.iconst 0, 1) := by decide +kernel
theorem dX0_settle_6 : decode cX0_settle 6 = .ok (.invokevirtual 76, 3) := by decide +kernel
theorem dX0_settle_9 : decode cX0_settle 9 = .ok (.istore_n 2, 1) := by decide +kernel
theorem dX0_settle_10 : decode cX0_settle 10 = .ok (.aload_n 0, 1) := by decide +kernel
theorem dX0_settle_11 : decode cX0_settle 11 = .ok (.getfield 38, 3) := by decide +kernel
theorem dX0_settle_14 : decode cX0_settle 14 = .ok (.iload_n 2, 1) := by decide +kernel
theorem dX0_settle_15 : decode cX0_settle 15 = .ok (.aload_n 0, 1) := by decide +kernel
theorem dX0_settle_16 : decode cX0_settle 16 = .ok (.getfield 48, 3) := by decide +kernel
theorem dX0_settle_19 : decode cX0_settle 19 = .ok (.iload_n 1, 1) := by decide +kernel
theorem dX0_settle_20 : decode cX0_settle 20 = .ok (.iconst 1, 1) := by decide +kernel
theorem dX0_settle_21 : decode cX0_settle 21 = .ok (.invokevirtual 76, 3) := by decide +kernel
theorem dX0_settle_24 : decode cX0_settle 24 = .ok (.aload_n 0, 1) := by decide +kernel
theorem dX0_settle_25 : decode cX0_settle 25 = .ok (.getfield 48, 3) := by decide +kernel
theorem dX0_settle_28 : decode cX0_settle 28 = .ok (.iload_n 1, 1) := by decide +kernel
theorem dX0_settle_29 : decode cX0_settle 29 = .ok (.iconst 2, 1) := by decide +kernel
theorem dX0_settle_30 : decode cX0_settle 30 = .ok (.invokevirtual 76, 3) := by decide +kernel
theorem dX0_settle_33 : decode cX0_settle 33 = .ok (.invokevirtual 84, 3) := by decide +kernel
theorem dX0_settle_36 : decode cX0_settle 36 = .ok (.ifCond .eq 14, 3) := by decide +kernel
theorem dX0_settle_39 : decode cX0_settle 39 = .ok (.aload_n 0, 1) := by decide +kernel
theorem dX0_settle_40 : decode cX0_settle 40 = .ok (.getfield 38, 3) := by decide +kernel
theorem dX0_settle_43 : decode cX0_settle 43 = .ok (.getfield 88, 3) := by decide +kernel
theorem dX0_settle_46 : decode cX0_settle 46 = .ok (.iload_n 1, 1) := by decide +kernel
theorem dX0_settle_47 : decode cX0_settle 47 = .ok (.iconst 2, 1) := by decide +kernel
theorem dX0_settle_48 : decode cX0_settle 48 = .ok (.iastore, 1) := by decide +kernel
theorem dX0_settle_49 : decode cX0_settle 49 = .ok (.return_, 1) := by decide +kernel
theorem dX0_settle_50 : decode cX0_settle 50 = .ok (.aload_n 0, 1) := by decide +kernel
theorem dX0_settle_51 : decode cX0_settle 51 = .ok (.getfield 38, 3) := by decide +kernel
theorem dX0_settle_54 : decode cX0_settle 54 = .ok (.getfield 88, 3) := by decide +kernel
theorem dX0_settle_57 : decode cX0_settle 57 = .ok (.iload_n 1, 1) := by decide +kernel
theorem dX0_settle_58 : decode cX0_settle 58 = .ok (.iconst 1, 1) := by decide +kernel
theorem dX0_settle_59 : decode cX0_settle 59 = .ok (.iastore, 1) := by decide +kernel
theorem dX0_settle_60 : decode cX0_settle 60 = .ok (.aload_n 0, 1) := by decide +kernel
theorem dX0_settle_61 : decode cX0_settle 61 = .ok (.iload_n 2, 1) := by decide +kernel
theorem dX0_settle_62 : decode cX0_settle 62 = .ok (.iload_n 1, 1) := by decide +kernel
theorem dX0_settle_63 : decode cX0_settle 63 = .ok (.invokevirtual 92, 3) := by decide +kernel
theorem dX0_settle_66 : decode cX0_settle 66 = .ok (.aload_n 0, 1) := by decide +kernel
theorem dX0_settle_67 : decode cX0_settle 67 = .ok (.getfield 48, 3) := by decide +kernel
theorem dX0_settle_70 : decode cX0_settle 70 = .ok (.iload_n 1, 1) := by decide +kernel
theorem dX0_settle_71 : decode cX0_settle 71 = .ok (.iconst 4, 1) := by decide +kernel
theorem dX0_settle_72 : decode cX0_settle 72 = .ok (.invokevirtual 76, 3) := by decide +kernel
theorem dX0_settle_75 : decode cX0_settle 75 = .ok (.invokestatic 96, 3) := by decide +kernel
theorem dX0_settle_78 : decode cX0_settle 78 = .ok (.istore_n 3, 1) := by decide +kernel
theorem dX0_settle_79 : decode cX0_settle 79 = .ok (.aload_n 0, 1) := by decide +kernel
theorem dX0_settle_80 : decode cX0_settle 80 = .ok (.getfield 38, 3) := by decide +kernel
theorem dX0_settle_83 : decode cX0_settle 83 = .ok (.getfield 100, 3) := by decide +kernel
theorem dX0_settle_86 : decode cX0_settle 86 = .ok (.iload_n 2, 1) := by decide +kernel
theorem dX0_settle_87 : decode cX0_settle 87 = .ok (.ldc 103, 2) := by decide +kernel
theorem dX0_settle_89 : decode cX0_settle 89 = .ok (.aload_n 0, 1) := by decide +kernel
theorem dX0_settle_90 : decode cX0_settle 90 = .ok (.getfield 38, 3) := by decide +kernel
theorem dX0_settle_93 : decode cX0_settle 93 = .ok (.getfield 100, 3) := by decide +kernel
theorem dX0_settle_96 : decode cX0_settle 96 = .ok (.iload_n 2, 1) := by decide +kernel
theorem dX0_settle_97 : decode cX0_settle 97 = .ok (.iaload, 1) := by decide +kernel
theorem dX0_settle_98 : decode cX0_settle 98 = .ok (.iload_n 3, 1) := by decide +kernel
theorem dX0_settle_99 : decode cX0_settle 99 = .ok (.iadd, 1) := by decide +kernel
theorem dX0_settle_100 : decode cX0_settle 100 = .ok (.invokestatic 104, 3) := by decide +kernel
theorem dX0_settle_103 : decode cX0_settle 103 = .ok (.iastore, 1) := by decide +kernel
theorem dX0_settle_104 : decode cX0_settle 104 = .ok (.return_, 1) := by decide +kernel
theorem dX0_settleWants_0 : decode cX0_settleWants 0 = .ok (.iconst 0, 1) := by decide +kernel
theorem dX0_settleWants_1 : decode cX0_settleWants 1 = .ok (.istore_n 1, 1) := by decide +kernel
theorem dX0_settleWants_2 : decode cX0_settleWants 2 = .ok (.iload_n 1, 1) := by decide +kernel
theorem dX0_settleWants_3 : decode cX0_settleWants 3 = .ok (.aload_n 0, 1) := by decide +kernel
theorem dX0_settleWants_4 : decode cX0_settleWants 4 = .ok (.getfield 48, 3) := by decide +kernel
theorem dX0_settleWants_7 : decode cX0_settleWants 7 = .ok (.getfield 73, 3) := by decide +kernel
theorem dX0_settleWants_10 : decode cX0_settleWants 10 = .ok (.if_icmp .ge 33, 3) := by decide +kernel
theorem dX0_settleWants_13 : decode cX0_settleWants 13 = .ok (.aload_n 0, 1) := by decide +kernel
theorem dX0_settleWants_14 : decode cX0_settleWants 14 = .ok (.getfield 48, 3) := by decide +kernel
theorem dX0_settleWants_17 : decode cX0_settleWants 17 = .ok (.iload_n 1, 1) := by decide +kernel
theorem dX0_settleWants_18 : decode cX0_settleWants 18 = .ok (.iconst 3, 1) := by decide +kernel
theorem dX0_settleWants_19 : decode cX0_settleWants 19 = .ok (.invokevirtual 76, 3) := by decide +kernel
theorem dX0_settleWants_22 : decode cX0_settleWants 22 = .ok (.aload_n 0, 1) := by decide +kernel
theorem dX0_settleWants_23 : decode cX0_settleWants 23 = .ok (.getfield 38, 3) := by decide +kernel
theorem dX0_settleWants_26 : decode cX0_settleWants 26 = .ok (.getfield 70, 3) := by decide +kernel
theorem dX0_settleWants_29 : decode cX0_settleWants 29 = .ok (.if_icmp .ne 8, 3) := by decide +kernel
theorem dX0_settleWants_32 : decode cX0_settleWants 32 = .ok (.aload_n 0, 1) := by decide +kernel
theorem dX0_settleWants_33 : decode cX0_settleWants 33 = .ok (.iload_n 1, 1) := by decide +kernel
theorem dX0_settleWants_34 : decode cX0_settleWants 34 = .ok (.invokevirtual 80, 3) := by decide +kernel
theorem dX0_settleWants_37 : decode cX0_settleWants 37 = .ok (.iinc 1 1, 3) := by decide +kernel
theorem dX0_settleWants_40 : decode cX0_settleWants 40 = .ok (.goto (-38), 3) := by decide +kernel
theorem dX0_settleWants_43 : decode cX0_settleWants 43 = .ok (.return_, 1) := by decide +kernel
theorem dX7_sendingAt_0 : decode cX7_sendingAt 0 = .ok (.aload_n 0, 1) := by decide +kernel
theorem dX7_sendingAt_1 : decode cX7_sendingAt 1 = .ok (.getfield 34, 3) := by decide +kernel
theorem dX7_sendingAt_4 : decode cX7_sendingAt 4 = .ok (.iload_n 1, 1) := by decide +kernel
theorem dX7_sendingAt_5 : decode cX7_sendingAt 5 = .ok (.iconst 4, 1) := by decide +kernel
theorem dX7_sendingAt_6 : decode cX7_sendingAt 6 = .ok (.imul, 1) := by decide +kernel
theorem dX7_sendingAt_7 : decode cX7_sendingAt 7 = .ok (.iload_n 2, 1) := by decide +kernel
theorem dX7_sendingAt_8 : decode cX7_sendingAt 8 = .ok (.iadd, 1) := by decide +kernel
theorem dX7_sendingAt_9 : decode cX7_sendingAt 9 = .ok (.iaload, 1) := by decide +kernel
theorem dX7_sendingAt_10 : decode cX7_sendingAt 10 = .ok (.ireturn, 1) := by decide +kernel
theorem dX7_isDue_0 : decode cX7_isDue 0 = .ok (.aload_n 0, 1) := by decide +kernel
theorem dX7_isDue_1 : decode cX7_isDue 1 = .ok (.iload_n 1, 1) := by decide +kernel
theorem dX7_isDue_2 : decode cX7_isDue 2 = .ok (.iconst 3, 1) := by decide +kernel
theorem dX7_isDue_3 : decode cX7_isDue 3 = .ok (.invokevirtual 65, 3) := by decide +kernel
theorem dX7_isDue_6 : decode cX7_isDue 6 = .ok (.ifCond .ne 20, 3) := by decide +kernel
theorem dX7_isDue_9 : decode cX7_isDue 9 = .ok (.aload_n 0, 1) := by decide +kernel
theorem dX7_isDue_10 : decode cX7_isDue 10 = .ok (.iload_n 1, 1) := by decide +kernel
theorem dX7_isDue_11 : decode cX7_isDue 11 = .ok (.iconst 2, 1) := by decide +kernel
theorem dX7_isDue_12 : decode cX7_isDue 12 = .ok (.invokevirtual 65, 3) := by decide +kernel
theorem dX7_isDue_15 : decode cX7_isDue 15 = .ok (.aload_n 0, 1) := by decide +kernel
theorem dX7_isDue_16 : decode cX7_isDue 16 = .ok (.getfield 9, 3) := by decide +kernel
theorem dX7_isDue_19 : decode cX7_isDue 19 = .ok (.if_icmp .gt 7, 3) := by decide +kernel
theorem dX7_isDue_22 : decode cX7_isDue 22 = .ok (.iconst 1, 1) := by decide +kernel
theorem dX7_isDue_23 : decode cX7_isDue 23 = .ok (.goto 4, 3) := by decide +kernel
theorem dX7_isDue_26 : decode cX7_isDue 26 = .ok (.iconst 0, 1) := by decide +kernel
theorem dX7_isDue_27 : decode cX7_isDue 27 = .ok (.ireturn, 1) := by decide +kernel
theorem dX0_nameSort_0 : decode cX0_nameSort 0 = .ok (.aload_n 0, 1) := by decide +kernel
theorem dX0_nameSort_1 : decode cX0_nameSort 1 = .ok (.getfield 34, 3) := by decide +kernel
theorem dX0_nameSort_4 : decode cX0_nameSort 4 = .ok (.iconst 0, 1) := by decide +kernel
theorem dX0_nameSort_5 : decode cX0_nameSort 5 = .ok (.aload_n 0, 1) := by decide +kernel
theorem dX0_nameSort_6 : decode cX0_nameSort 6 = .ok (.getfield 48, 3) := by decide +kernel
theorem dX0_nameSort_9 : decode cX0_nameSort 9 = .ok (.getfield 119, 3) := by decide +kernel
theorem dX0_nameSort_12 : decode cX0_nameSort 12 = .ok (.iload_n 1, 1) := by decide +kernel
theorem dX0_nameSort_13 : decode cX0_nameSort 13 = .ok (.iaload, 1) := by decide +kernel
theorem dX0_nameSort_14 : decode cX0_nameSort 14 = .ok (.i2l, 1) := by decide +kernel
theorem dX0_nameSort_15 : decode cX0_nameSort 15 = .ok (.lastore, 1) := by decide +kernel
theorem dX0_nameSort_16 : decode cX0_nameSort 16 = .ok (.aload_n 0, 1) := by decide +kernel
theorem dX0_nameSort_17 : decode cX0_nameSort 17 = .ok (.getfield 34, 3) := by decide +kernel
theorem dX0_nameSort_20 : decode cX0_nameSort 20 = .ok (.iconst 1, 1) := by decide +kernel
theorem dX0_nameSort_21 : decode cX0_nameSort 21 = .ok (.aload_n 0, 1) := by decide +kernel
theorem dX0_nameSort_22 : decode cX0_nameSort 22 = .ok (.getfield 48, 3) := by decide +kernel
theorem dX0_nameSort_25 : decode cX0_nameSort 25 = .ok (.getfield 136, 3) := by decide +kernel
theorem dX0_nameSort_28 : decode cX0_nameSort 28 = .ok (.iload_n 1, 1) := by decide +kernel
theorem dX0_nameSort_29 : decode cX0_nameSort 29 = .ok (.iaload, 1) := by decide +kernel
theorem dX0_nameSort_30 : decode cX0_nameSort 30 = .ok (.i2l, 1) := by decide +kernel
theorem dX0_nameSort_31 : decode cX0_nameSort 31 = .ok (.lastore, 1) := by decide +kernel
theorem dX0_nameSort_32 : decode cX0_nameSort 32 = .ok (.return_, 1) := by decide +kernel
theorem dX0_fareLaw_0 : decode cX0_fareLaw 0 = .ok (.aload_n 0, 1) := by decide +kernel
theorem dX0_fareLaw_1 : decode cX0_fareLaw 1 = .ok (.getfield 48, 3) := by decide +kernel
theorem dX0_fareLaw_4 : decode cX0_fareLaw 4 = .ok (.getfield 169, 3) := by decide +kernel
theorem dX0_fareLaw_7 : decode cX0_fareLaw 7 = .ok (.iconst 0, 1) := by decide +kernel
theorem dX0_fareLaw_8 : decode cX0_fareLaw 8 = .ok (.invokevirtual 173, 3) := by decide +kernel
theorem dX0_fareLaw_11 : decode cX0_fareLaw 11 = .ok (.ifCond .ne 7, 3) := by decide +kernel
theorem dX0_fareLaw_14 : decode cX0_fareLaw 14 = .ok (.ldc2_w 176, 3) := by decide +kernel
theorem dX0_fareLaw_17 : decode cX0_fareLaw 17 = .ok (.lreturn, 1) := by decide +kernel
theorem dX0_fareLaw_18 : decode cX0_fareLaw 18 = .ok (.aload_n 0, 1) := by decide +kernel
theorem dX0_fareLaw_19 : decode cX0_fareLaw 19 = .ok (.iload_n 2, 1) := by decide +kernel
theorem dX0_fareLaw_20 : decode cX0_fareLaw 20 = .ok (.invokevirtual 178, 3) := by decide +kernel
theorem dX0_fareLaw_23 : decode cX0_fareLaw 23 = .ok (.aload_n 0, 1) := by decide +kernel
theorem dX0_fareLaw_24 : decode cX0_fareLaw 24 = .ok (.iload_n 1, 1) := by decide +kernel
theorem dX0_fareLaw_25 : decode cX0_fareLaw 25 = .ok (.invokevirtual 181, 3) := by decide +kernel
theorem dX0_fareLaw_28 : decode cX0_fareLaw 28 = .ok (.aload_n 0, 1) := by decide +kernel
theorem dX0_fareLaw_29 : decode cX0_fareLaw 29 = .ok (.getfield 34, 3) := by decide +kernel
theorem dX0_fareLaw_32 : decode cX0_fareLaw 32 = .ok (.iconst 5, 1) := by decide +kernel
theorem dX0_fareLaw_33 : decode cX0_fareLaw 33 = .ok (.lconst 0, 1) := by decide +kernel
theorem dX0_fareLaw_34 : decode cX0_fareLaw 34 = .ok (.lastore, 1) := by decide +kernel
theorem dX0_fareLaw_35 : decode cX0_fareLaw 35 = .ok (.aload_n 0, 1) := by decide +kernel
theorem dX0_fareLaw_36 : decode cX0_fareLaw 36 = .ok (.getfield 48, 3) := by decide +kernel
theorem dX0_fareLaw_39 : decode cX0_fareLaw 39 = .ok (.getfield 169, 3) := by decide +kernel
theorem dX0_fareLaw_42 : decode cX0_fareLaw 42 = .ok (.iconst 0, 1) := by decide +kernel
theorem dX0_fareLaw_43 : decode cX0_fareLaw 43 = .ok (.aload_n 0, 1) := by decide +kernel
theorem dX0_fareLaw_44 : decode cX0_fareLaw 44 = .ok (.getfield 34, 3) := by decide +kernel
theorem dX0_fareLaw_47 : decode cX0_fareLaw 47 = .ok (.invokevirtual 184, 3) := by decide +kernel
theorem dX0_fareLaw_50 : decode cX0_fareLaw 50 = .ok (.lreturn, 1) := by decide +kernel
theorem dX0_boards_0 : decode cX0_boards 0 = .ok (.iload_n 1, 1) := by decide +kernel
theorem dX0_boards_1 : decode cX0_boards 1 = .ok (.iconst 5, 1) := by decide +kernel
theorem dX0_boards_2 : decode cX0_boards 2 = .ok (.imul, 1) := by decide +kernel
theorem dX0_boards_3 : decode cX0_boards 3 = .ok (.iload_n 2, 1) := by decide +kernel
theorem dX0_boards_4 : decode cX0_boards 4 = .ok (.iadd, 1) := by decide +kernel
theorem dX0_boards_5 : decode cX0_boards 5 = .ok (.istore_n 3, 1) := by decide +kernel
theorem dX0_boards_6 : decode cX0_boards 6 = .ok (.aload_n 0, 1) := by decide +kernel
theorem dX0_boards_7 : decode cX0_boards 7 = .ok (.getfield 38, 3) := by decide +kernel
theorem dX0_boards_10 : decode cX0_boards 10 = .ok (.getfield 130, 3) := by decide +kernel
theorem dX0_boards_13 : decode cX0_boards 13 = .ok (.iload_n 3, 1) := by decide +kernel
theorem dX0_boards_14 : decode cX0_boards 14 = .ok (.iaload, 1) := by decide +kernel
theorem dX0_boards_15 : decode cX0_boards 15 = .ok (.aload_n 0, 1) := by decide +kernel
theorem dX0_boards_16 : decode cX0_boards 16 = .ok (.getfield 38, 3) := by decide +kernel
theorem dX0_boards_19 : decode cX0_boards 19 = .ok (.getfield 70, 3) := by decide +kernel
theorem dX0_boards_22 : decode cX0_boards 22 = .ok (.iconst 1, 1) := by decide +kernel
theorem dX0_boards_23 : decode cX0_boards 23 = .ok (.iand, 1) := by decide +kernel
theorem dX0_boards_24 : decode cX0_boards 24 = .ok (.if_icmp .ne 12, 3) := by decide +kernel
theorem dX0_boards_27 : decode cX0_boards 27 = .ok (.aload_n 0, 1) := by decide +kernel
theorem dX0_boards_28 : decode cX0_boards 28 = .ok (.getfield 25, 3) := by decide +kernel
theorem dX0_boards_31 : decode cX0_boards 31 = .ok (.iload_n 3, 1) := by decide +kernel
theorem dX0_boards_32 : decode cX0_boards 32 = .ok (.baload, 1) := by decide +kernel
theorem dX0_boards_33 : decode cX0_boards 33 = .ok (.ifCond .eq 5, 3) := by decide +kernel
theorem dX0_boards_36 : decode cX0_boards 36 = .ok (.iconst 0, 1) := by decide +kernel
theorem dX0_boards_37 : decode cX0_boards 37 = .ok (.ireturn, 1) := by decide +kernel
theorem dX0_boards_38 : decode cX0_boards 38 = .ok (.aload_n 0, 1) := by decide +kernel
theorem dX0_boards_39 : decode cX0_boards 39 = .ok (.getfield 15, 3) := by decide +kernel
theorem dX0_boards_42 : decode cX0_boards 42 = .ok (.ifCond .eq 7, 3) := by decide +kernel
theorem dX0_boards_45 : decode cX0_boards 45 = .ok (.iconst 0, 1) := by decide +kernel
theorem dX0_boards_46 : decode cX0_boards 46 = .ok (.goto 21, 3) := by decide +kernel
theorem dX0_boards_49 : decode cX0_boards 49 = .ok (.aload_n 0, 1) := by decide +kernel
theorem dX0_boards_50 : decode cX0_boards 50 = .ok (.iload_n 1, 1) := by decide +kernel
theorem dX0_boards_51 : decode cX0_boards 51 = .ok (.iload_n 2, 1) := by decide +kernel
theorem dX0_boards_52 : decode cX0_boards 52 = .ok (.invokevirtual 133, 3) := by decide +kernel
theorem dX0_boards_55 : decode cX0_boards 55 = .ok (.aload_n 0, 1) := by decide +kernel
theorem dX0_boards_56 : decode cX0_boards 56 = .ok (.getfield 48, 3) := by decide +kernel
theorem dX0_boards_59 : decode cX0_boards 59 = .ok (.getfield 136, 3) := by decide +kernel
theorem dX0_boards_62 : decode cX0_boards 62 = .ok (.iload_n 2, 1) := by decide +kernel
theorem dX0_boards_63 : decode cX0_boards 63 = .ok (.iaload, 1) := by decide +kernel
theorem dX0_boards_64 : decode cX0_boards 64 = .ok (.invokestatic 96, 3) := by decide +kernel
theorem dX0_boards_67 : decode cX0_boards 67 = .ok (.istore 4, 2) := by decide +kernel
theorem dX0_boards_69 : decode cX0_boards 69 = .ok (.aload_n 0, 1) := by decide +kernel
theorem dX0_boards_70 : decode cX0_boards 70 = .ok (.getfield 38, 3) := by decide +kernel
theorem dX0_boards_73 : decode cX0_boards 73 = .ok (.getfield 100, 3) := by decide +kernel
theorem dX0_boards_76 : decode cX0_boards 76 = .ok (.iload_n 1, 1) := by decide +kernel
theorem dX0_boards_77 : decode cX0_boards 77 = .ok (.iaload, 1) := by decide +kernel
theorem dX0_boards_78 : decode cX0_boards 78 = .ok (.iload 4, 2) := by decide +kernel
theorem dX0_boards_80 : decode cX0_boards 80 = .ok (.if_icmp .ge 5, 3) := by decide +kernel
theorem dX0_boards_83 : decode cX0_boards 83 = .ok (.iconst 0, 1) := by decide +kernel
theorem dX0_boards_84 : decode cX0_boards 84 = .ok (.ireturn, 1) := by decide +kernel
theorem dX0_boards_85 : decode cX0_boards 85 = .ok (.aload_n 0, 1) := by decide +kernel
theorem dX0_boards_86 : decode cX0_boards 86 = .ok (.getfield 38, 3) := by decide +kernel
theorem dX0_boards_89 : decode cX0_boards 89 = .ok (.getfield 100, 3) := by decide +kernel
theorem dX0_boards_92 : decode cX0_boards 92 = .ok (.iload_n 1, 1) := by decide +kernel
theorem dX0_boards_93 : decode cX0_boards 93 = .ok (.dup2, 1) := by decide +kernel
theorem dX0_boards_94 : decode cX0_boards 94 = .ok (.iaload, 1) := by decide +kernel
theorem dX0_boards_95 : decode cX0_boards 95 = .ok (.iload 4, 2) := by decide +kernel
theorem dX0_boards_97 : decode cX0_boards 97 = .ok (.isub, 1) := by decide +kernel
theorem dX0_boards_98 : decode cX0_boards 98 = .ok (.iastore, 1) := by decide +kernel
theorem dX0_boards_99 : decode cX0_boards 99 = .ok (.aload_n 0, 1) := by decide +kernel
theorem dX0_boards_100 : decode cX0_boards 100 = .ok (.getfield 25, 3) := by decide +kernel
theorem dX0_boards_103 : decode cX0_boards 103 = .ok (.iload_n 3, 1) := by decide +kernel
theorem dX0_boards_104 : decode cX0_boards 104 = .ok (.iconst 1, 1) := by decide +kernel
theorem dX0_boards_105 : decode cX0_boards 105 = .ok (.bastore, 1) := by decide +kernel
theorem dX0_boards_106 : decode cX0_boards 106 = .ok (.aload_n 0, 1) := by decide +kernel
theorem dX0_boards_107 : decode cX0_boards 107 = .ok (.dup, 1) := by decide +kernel
theorem dX0_boards_108 : decode cX0_boards 108 = .ok (.getfield 29, 3) := by decide +kernel
theorem dX0_boards_111 : decode cX0_boards 111 = .ok (.iconst 1, 1) := by decide +kernel
theorem dX0_boards_112 : decode cX0_boards 112 = .ok (.iadd, 1) := by decide +kernel
theorem dX0_boards_113 : decode cX0_boards 113 = .ok (.putfield 29, 3) := by decide +kernel
theorem dX0_boards_116 : decode cX0_boards 116 = .ok (.iconst 1, 1) := by decide +kernel
theorem dX0_boards_117 : decode cX0_boards 117 = .ok (.ireturn, 1) := by decide +kernel
theorem dX7_setSending_0 : decode cX7_setSending 0 = .ok (.aload_n 0, 1) := by decide +kernel
theorem dX7_setSending_1 : decode cX7_setSending 1 = .ok (.getfield 34, 3) := by decide +kernel
theorem dX7_setSending_4 : decode cX7_setSending 4 = .ok (.iload_n 1, 1) := by decide +kernel
theorem dX7_setSending_5 : decode cX7_setSending 5 = .ok (.iconst 4, 1) := by decide +kernel
theorem dX7_setSending_6 : decode cX7_setSending 6 = .ok (.imul, 1) := by decide +kernel
theorem dX7_setSending_7 : decode cX7_setSending 7 = .ok (.iload_n 2, 1) := by decide +kernel
theorem dX7_setSending_8 : decode cX7_setSending 8 = .ok (.iadd, 1) := by decide +kernel
theorem dX7_setSending_9 : decode cX7_setSending 9 = .ok (.iload_n 3, 1) := by decide +kernel
theorem dX7_setSending_10 : decode cX7_setSending 10 = .ok (.iastore, 1) := by decide +kernel
theorem dX7_setSending_11 : decode cX7_setSending 11 = .ok (.return_, 1) := by decide +kernel
theorem dX0_fillBoat_0 : decode cX0_fillBoat 0 = .ok (.aload_n 0, 1) := by decide +kernel
theorem dX0_fillBoat_1 : decode cX0_fillBoat 1 = .ok (.getfield 9, 3) := by decide +kernel
theorem dX0_fillBoat_4 : decode cX0_fillBoat 4 = .ok (.istore_n 1, 1) := by decide +kernel
theorem dX0_fillBoat_5 : decode cX0_fillBoat 5 = .ok (.iconst 0, 1) := by decide +kernel
theorem dX0_fillBoat_6 : decode cX0_fillBoat 6 = .ok (.istore_n 2, 1) := by decide +kernel
theorem dX0_fillBoat_7 : decode cX0_fillBoat 7 = .ok (.iload_n 2, 1) := by decide +kernel
theorem dX0_fillBoat_8 : decode cX0_fillBoat 8 = .ok (.aload_n 0, 1) := by decide +kernel
theorem dX0_fillBoat_9 : decode cX0_fillBoat 9 = .ok (.getfield 38, 3) := by decide +kernel
theorem dX0_fillBoat_12 : decode cX0_fillBoat 12 = .ok (.getfield 109, 3) := by decide +kernel
theorem dX0_fillBoat_15 : decode cX0_fillBoat 15 = .ok (.if_icmp .ge 96, 3) := by decide +kernel
theorem dX0_fillBoat_18 : decode cX0_fillBoat 18 = .ok (.aload_n 0, 1) := by decide +kernel
theorem dX0_fillBoat_19 : decode cX0_fillBoat 19 = .ok (.getfield 38, 3) := by decide +kernel
theorem dX0_fillBoat_22 : decode cX0_fillBoat 22 = .ok (.iload_n 2, 1) := by decide +kernel
theorem dX0_fillBoat_23 : decode cX0_fillBoat 23 = .ok (.iconst 0, 1) := by decide +kernel
theorem dX0_fillBoat_24 : decode cX0_fillBoat 24 = .ok (.invokevirtual 112, 3) := by decide +kernel
theorem dX0_fillBoat_27 : decode cX0_fillBoat 27 = .ok (.istore_n 3, 1) := by decide +kernel
theorem dX0_fillBoat_28 : decode cX0_fillBoat 28 = .ok (.aload_n 0, 1) := by decide +kernel
theorem dX0_fillBoat_29 : decode cX0_fillBoat 29 = .ok (.getfield 38, 3) := by decide +kernel
theorem dX0_fillBoat_32 : decode cX0_fillBoat 32 = .ok (.iload_n 2, 1) := by decide +kernel
theorem dX0_fillBoat_33 : decode cX0_fillBoat 33 = .ok (.iconst 1, 1) := by decide +kernel
theorem dX0_fillBoat_34 : decode cX0_fillBoat 34 = .ok (.invokevirtual 112, 3) := by decide +kernel
theorem dX0_fillBoat_37 : decode cX0_fillBoat 37 = .ok (.istore 4, 2) := by decide +kernel
theorem dX0_fillBoat_39 : decode cX0_fillBoat 39 = .ok (.aload_n 0, 1) := by decide +kernel
theorem dX0_fillBoat_40 : decode cX0_fillBoat 40 = .ok (.getfield 38, 3) := by decide +kernel
theorem dX0_fillBoat_43 : decode cX0_fillBoat 43 = .ok (.iload_n 2, 1) := by decide +kernel
theorem dX0_fillBoat_44 : decode cX0_fillBoat 44 = .ok (.invokevirtual 115, 3) := by decide +kernel
theorem dX0_fillBoat_47 : decode cX0_fillBoat 47 = .ok (.ifCond .eq 58, 3) := by decide +kernel
theorem dX0_fillBoat_50 : decode cX0_fillBoat 50 = .ok (.iload_n 3, 1) := by decide +kernel
theorem dX0_fillBoat_51 : decode cX0_fillBoat 51 = .ok (.aload_n 0, 1) := by decide +kernel
theorem dX0_fillBoat_52 : decode cX0_fillBoat 52 = .ok (.getfield 19, 3) := by decide +kernel
theorem dX0_fillBoat_55 : decode cX0_fillBoat 55 = .ok (.if_icmp .eq 50, 3) := by decide +kernel
theorem dX0_fillBoat_58 : decode cX0_fillBoat 58 = .ok (.aload_n 0, 1) := by decide +kernel
theorem dX0_fillBoat_59 : decode cX0_fillBoat 59 = .ok (.getfield 48, 3) := by decide +kernel
theorem dX0_fillBoat_62 : decode cX0_fillBoat 62 = .ok (.getfield 119, 3) := by decide +kernel
theorem dX0_fillBoat_65 : decode cX0_fillBoat 65 = .ok (.iload 4, 2) := by decide +kernel
theorem dX0_fillBoat_67 : decode cX0_fillBoat 67 = .ok (.iaload, 1) := by decide +kernel
theorem dX0_fillBoat_68 : decode cX0_fillBoat 68 = .ok (.iload_n 1, 1) := by decide +kernel
theorem dX0_fillBoat_69 : decode cX0_fillBoat 69 = .ok (.if_icmp .gt 36, 3) := by decide +kernel
theorem dX0_fillBoat_72 : decode cX0_fillBoat 72 = .ok (.aload_n 0, 1) := by decide +kernel
theorem dX0_fillBoat_73 : decode cX0_fillBoat 73 = .ok (.iload_n 3, 1) := by decide +kernel
theorem dX0_fillBoat_74 : decode cX0_fillBoat 74 = .ok (.iload 4, 2) := by decide +kernel
theorem dX0_fillBoat_76 : decode cX0_fillBoat 76 = .ok (.invokevirtual 122, 3) := by decide +kernel
theorem dX0_fillBoat_79 : decode cX0_fillBoat 79 = .ok (.ifCond .eq 26, 3) := by decide +kernel
theorem dX0_fillBoat_82 : decode cX0_fillBoat 82 = .ok (.iload_n 1, 1) := by decide +kernel
theorem dX0_fillBoat_83 : decode cX0_fillBoat 83 = .ok (.aload_n 0, 1) := by decide +kernel
theorem dX0_fillBoat_84 : decode cX0_fillBoat 84 = .ok (.getfield 48, 3) := by decide +kernel
theorem dX0_fillBoat_87 : decode cX0_fillBoat 87 = .ok (.getfield 119, 3) := by decide +kernel
theorem dX0_fillBoat_90 : decode cX0_fillBoat 90 = .ok (.iload 4, 2) := by decide +kernel
theorem dX0_fillBoat_92 : decode cX0_fillBoat 92 = .ok (.iaload, 1) := by decide +kernel
theorem dX0_fillBoat_93 : decode cX0_fillBoat 93 = .ok (.isub, 1) := by decide +kernel
theorem dX0_fillBoat_94 : decode cX0_fillBoat 94 = .ok (.istore_n 1, 1) := by decide +kernel
theorem dX0_fillBoat_95 : decode cX0_fillBoat 95 = .ok (.aload_n 0, 1) := by decide +kernel
theorem dX0_fillBoat_96 : decode cX0_fillBoat 96 = .ok (.getfield 38, 3) := by decide +kernel
theorem dX0_fillBoat_99 : decode cX0_fillBoat 99 = .ok (.iload_n 2, 1) := by decide +kernel
theorem dX0_fillBoat_100 : decode cX0_fillBoat 100 = .ok (.iconst 3, 1) := by decide +kernel
theorem dX0_fillBoat_101 : decode cX0_fillBoat 101 = .ok (.iconst 1, 1) := by decide +kernel
theorem dX0_fillBoat_102 : decode cX0_fillBoat 102 = .ok (.invokevirtual 126, 3) := by decide +kernel
theorem dX0_fillBoat_105 : decode cX0_fillBoat 105 = .ok (.iinc 2 1, 3) := by decide +kernel
theorem dX0_fillBoat_108 : decode cX0_fillBoat 108 = .ok (.goto (-101), 3) := by decide +kernel
theorem dX0_fillBoat_111 : decode cX0_fillBoat 111 = .ok (.return_, 1) := by decide +kernel
theorem dX0_nextNumber_0 : decode cX0_nextNumber 0 = .ok (.aload_n 0, 1) := by decide +kernel
theorem dX0_nextNumber_1 : decode cX0_nextNumber 1 = .ok (.getfield 38, 3) := by decide +kernel
theorem dX0_nextNumber_4 : decode cX0_nextNumber 4 = .ok (.aload_n 0, 1) := by decide +kernel
theorem dX0_nextNumber_5 : decode cX0_nextNumber 5 = .ok (.getfield 38, 3) := by decide +kernel
theorem dX0_nextNumber_8 : decode cX0_nextNumber 8 = .ok (.getfield 146, 3) := by decide +kernel
theorem dX0_nextNumber_11 : decode cX0_nextNumber 11 = .ok (.i2l, 1) := by decide +kernel
theorem dX0_nextNumber_12 : decode cX0_nextNumber 12 = .ok (.ldc2_w 149, 3) := by decide +kernel
theorem dX0_nextNumber_15 : decode cX0_nextNumber 15 = .ok (.lmul, 1) := by decide +kernel
theorem dX0_nextNumber_16 : decode cX0_nextNumber 16 = .ok (.ldc2_w 151, 3) := by decide +kernel
theorem dX0_nextNumber_19 : decode cX0_nextNumber 19 = .ok (.ladd, 1) := by decide +kernel
theorem dX0_nextNumber_20 : decode cX0_nextNumber 20 = .ok (.ldc2_w 153, 3) := by decide +kernel
theorem dX0_nextNumber_23 : decode cX0_nextNumber 23 = .ok (.land, 1) := by decide +kernel
theorem dX0_nextNumber_24 : decode cX0_nextNumber 24 = .ok (.l2i, 1) := by decide +kernel
theorem dX0_nextNumber_25 : decode cX0_nextNumber 25 = .ok (.putfield 146, 3) := by decide +kernel
theorem dX0_nextNumber_28 : decode cX0_nextNumber 28 = .ok (.aload_n 0, 1) := by decide +kernel
theorem dX0_nextNumber_29 : decode cX0_nextNumber 29 = .ok (.getfield 38, 3) := by decide +kernel
theorem dX0_nextNumber_32 : decode cX0_nextNumber 32 = .ok (.getfield 146, 3) := by decide +kernel
theorem dX0_nextNumber_35 : decode cX0_nextNumber 35 = .ok (.ldc 155, 2) := by decide +kernel
theorem dX0_nextNumber_37 : decode cX0_nextNumber 37 = .ok (.idiv, 1) := by decide +kernel
theorem dX0_nextNumber_38 : decode cX0_nextNumber 38 = .ok (.ireturn, 1) := by decide +kernel
theorem dX0_storms_0 : decode cX0_storms 0 = .ok (.aload_n 0, 1) := by decide +kernel
theorem dX0_storms_1 : decode cX0_storms 1 = .ok (.getfield 22, 3) := by decide +kernel
theorem dX0_storms_4 : decode cX0_storms 4 = .ok (.iconst 2, 1) := by decide +kernel
theorem dX0_storms_5 : decode cX0_storms 5 = .ok (.if_icmp .eq 13, 3) := by decide +kernel
theorem dX0_storms_8 : decode cX0_storms 8 = .ok (.aload_n 0, 1) := by decide +kernel
theorem dX0_storms_9 : decode cX0_storms 9 = .ok (.getfield 48, 3) := by decide +kernel
theorem dX0_storms_12 : decode cX0_storms 12 = .ok (.getfield 139, 3) := by decide +kernel
theorem dX0_storms_15 : decode cX0_storms 15 = .ok (.ifCond .ne 5, 3) := by decide +kernel
theorem dX0_storms_18 : decode cX0_storms 18 = .ok (.iconst 0, 1) := by decide +kernel
theorem dX0_storms_19 : decode cX0_storms 19 = .ok (.ireturn, 1) := by decide +kernel
theorem dX0_storms_20 : decode cX0_storms 20 = .ok (.aload_n 0, 1) := by decide +kernel
theorem dX0_storms_21 : decode cX0_storms 21 = .ok (.getfield 48, 3) := by decide +kernel
theorem dX0_storms_24 : decode cX0_storms 24 = .ok (.getfield 139, 3) := by decide +kernel
theorem dX0_storms_27 : decode cX0_storms 27 = .ok (.bipush 100, 2) := by decide +kernel
theorem dX0_storms_29 : decode cX0_storms 29 = .ok (.if_icmp .ne 5, 3) := by decide +kernel
theorem dX0_storms_32 : decode cX0_storms 32 = .ok (.iconst 1, 1) := by decide +kernel
theorem dX0_storms_33 : decode cX0_storms 33 = .ok (.ireturn, 1) := by decide +kernel
theorem dX0_storms_34 : decode cX0_storms 34 = .ok (.aload_n 0, 1) := by decide +kernel
theorem dX0_storms_35 : decode cX0_storms 35 = .ok (.getfield 22, 3) := by decide +kernel
theorem dX0_storms_38 : decode cX0_storms 38 = .ok (.iconst 1, 1) := by decide +kernel
theorem dX0_storms_39 : decode cX0_storms 39 = .ok (.if_icmp .ne 23, 3) := by decide +kernel
theorem dX0_storms_42 : decode cX0_storms 42 = .ok (.aload_n 0, 1) := by decide +kernel
theorem dX0_storms_43 : decode cX0_storms 43 = .ok (.getfield 48, 3) := by decide +kernel
theorem dX0_storms_46 : decode cX0_storms 46 = .ok (.getfield 139, 3) := by decide +kernel
theorem dX0_storms_49 : decode cX0_storms 49 = .ok (.bipush 50, 2) := by decide +kernel
theorem dX0_storms_51 : decode cX0_storms 51 = .ok (.if_icmp .lt 7, 3) := by decide +kernel
theorem dX0_storms_54 : decode cX0_storms 54 = .ok (.iconst 1, 1) := by decide +kernel
theorem dX0_storms_55 : decode cX0_storms 55 = .ok (.goto 29, 3) := by decide +kernel
theorem dX0_storms_58 : decode cX0_storms 58 = .ok (.iconst 0, 1) := by decide +kernel
theorem dX0_storms_59 : decode cX0_storms 59 = .ok (.goto 25, 3) := by decide +kernel
theorem dX0_storms_62 : decode cX0_storms 62 = .ok (.aload_n 0, 1) := by decide +kernel
theorem dX0_storms_63 : decode cX0_storms 63 = .ok (.invokevirtual 142, 3) := by decide +kernel
theorem dX0_storms_66 : decode cX0_storms 66 = .ok (.bipush 100, 2) := by decide +kernel
theorem dX0_storms_68 : decode cX0_storms 68 = .ok (.irem, 1) := by decide +kernel
theorem dX0_storms_69 : decode cX0_storms 69 = .ok (.aload_n 0, 1) := by decide +kernel
theorem dX0_storms_70 : decode cX0_storms 70 = .ok (.getfield 48, 3) := by decide +kernel
theorem dX0_storms_73 : decode cX0_storms 73 = .ok (.getfield 139, 3) := by decide +kernel
theorem dX0_storms_76 : decode cX0_storms 76 = .ok (.if_icmp .ge 7, 3) := by decide +kernel
theorem dX0_storms_79 : decode cX0_storms 79 = .ok (.iconst 1, 1) := by decide +kernel
theorem dX0_storms_80 : decode cX0_storms 80 = .ok (.goto 4, 3) := by decide +kernel
theorem dX0_storms_83 : decode cX0_storms 83 = .ok (.iconst 0, 1) := by decide +kernel
theorem dX0_storms_84 : decode cX0_storms 84 = .ok (.ireturn, 1) := by decide +kernel
theorem dX0_aboardOf_0 : decode cX0_aboardOf 0 = .ok (.iconst 0, 1) := by decide +kernel
theorem dX0_aboardOf_1 : decode cX0_aboardOf 1 = .ok (.istore_n 2, 1) := by decide +kernel
theorem dX0_aboardOf_2 : decode cX0_aboardOf 2 = .ok (.iconst 0, 1) := by decide +kernel
theorem dX0_aboardOf_3 : decode cX0_aboardOf 3 = .ok (.istore_n 3, 1) := by decide +kernel
theorem dX0_aboardOf_4 : decode cX0_aboardOf 4 = .ok (.iload_n 3, 1) := by decide +kernel
theorem dX0_aboardOf_5 : decode cX0_aboardOf 5 = .ok (.aload_n 0, 1) := by decide +kernel
theorem dX0_aboardOf_6 : decode cX0_aboardOf 6 = .ok (.getfield 48, 3) := by decide +kernel
theorem dX0_aboardOf_9 : decode cX0_aboardOf 9 = .ok (.getfield 156, 3) := by decide +kernel
theorem dX0_aboardOf_12 : decode cX0_aboardOf 12 = .ok (.iconst 0, 1) := by decide +kernel
theorem dX0_aboardOf_13 : decode cX0_aboardOf 13 = .ok (.iaload, 1) := by decide +kernel
theorem dX0_aboardOf_14 : decode cX0_aboardOf 14 = .ok (.if_icmp .ge 30, 3) := by decide +kernel
theorem dX0_aboardOf_17 : decode cX0_aboardOf 17 = .ok (.iload_n 2, 1) := by decide +kernel
theorem dX0_aboardOf_18 : decode cX0_aboardOf 18 = .ok (.aload_n 0, 1) := by decide +kernel
theorem dX0_aboardOf_19 : decode cX0_aboardOf 19 = .ok (.getfield 25, 3) := by decide +kernel
theorem dX0_aboardOf_22 : decode cX0_aboardOf 22 = .ok (.iload_n 3, 1) := by decide +kernel
theorem dX0_aboardOf_23 : decode cX0_aboardOf 23 = .ok (.iconst 5, 1) := by decide +kernel
theorem dX0_aboardOf_24 : decode cX0_aboardOf 24 = .ok (.imul, 1) := by decide +kernel
theorem dX0_aboardOf_25 : decode cX0_aboardOf 25 = .ok (.iload_n 1, 1) := by decide +kernel
theorem dX0_aboardOf_26 : decode cX0_aboardOf 26 = .ok (.iadd, 1) := by decide +kernel
theorem dX0_aboardOf_27 : decode cX0_aboardOf 27 = .ok (.baload, 1) := by decide +kernel
theorem dX0_aboardOf_28 : decode cX0_aboardOf 28 = .ok (.ifCond .eq 7, 3) := by decide +kernel
theorem dX0_aboardOf_31 : decode cX0_aboardOf 31 = .ok (.iconst 1, 1) := by decide +kernel
theorem dX0_aboardOf_32 : decode cX0_aboardOf 32 = .ok (.goto 4, 3) := by decide +kernel
theorem dX0_aboardOf_35 : decode cX0_aboardOf 35 = .ok (.iconst 0, 1) := by decide +kernel
theorem dX0_aboardOf_36 : decode cX0_aboardOf 36 = .ok (.iadd, 1) := by decide +kernel
theorem dX0_aboardOf_37 : decode cX0_aboardOf 37 = .ok (.istore_n 2, 1) := by decide +kernel
theorem dX0_aboardOf_38 : decode cX0_aboardOf 38 = .ok (.iinc 3 1, 3) := by decide +kernel
theorem dX0_aboardOf_41 : decode cX0_aboardOf 41 = .ok (.goto (-37), 3) := by decide +kernel
theorem dX0_aboardOf_44 : decode cX0_aboardOf 44 = .ok (.iload_n 2, 1) := by decide +kernel
theorem dX0_aboardOf_45 : decode cX0_aboardOf 45 = .ok (.ireturn, 1) := by decide +kernel
theorem dX0_mixLaw_0 : decode cX0_mixLaw 0 = .ok (.aload_n 0, 1) := by decide +kernel
theorem dX0_mixLaw_1 : decode cX0_mixLaw 1 = .ok (.getfield 48, 3) := by decide +kernel
theorem dX0_mixLaw_4 : decode cX0_mixLaw 4 = .ok (.getfield 169, 3) := by decide +kernel
theorem dX0_mixLaw_7 : decode cX0_mixLaw 7 = .ok (.iconst 2, 1) := by decide +kernel
theorem dX0_mixLaw_8 : decode cX0_mixLaw 8 = .ok (.invokevirtual 173, 3) := by decide +kernel
theorem dX0_mixLaw_11 : decode cX0_mixLaw 11 = .ok (.ifCond .ne 7, 3) := by decide +kernel
theorem dX0_mixLaw_14 : decode cX0_mixLaw 14 = .ok (.ldc2_w 176, 3) := by decide +kernel
theorem dX0_mixLaw_17 : decode cX0_mixLaw 17 = .ok (.lreturn, 1) := by decide +kernel
theorem dX0_mixLaw_18 : decode cX0_mixLaw 18 = .ok (.aload_n 0, 1) := by decide +kernel
theorem dX0_mixLaw_19 : decode cX0_mixLaw 19 = .ok (.iload_n 1, 1) := by decide +kernel
theorem dX0_mixLaw_20 : decode cX0_mixLaw 20 = .ok (.invokevirtual 178, 3) := by decide +kernel
theorem dX0_mixLaw_23 : decode cX0_mixLaw 23 = .ok (.aload_n 0, 1) := by decide +kernel
theorem dX0_mixLaw_24 : decode cX0_mixLaw 24 = .ok (.invokevirtual 188, 3) := by decide +kernel
theorem dX0_mixLaw_27 : decode cX0_mixLaw 27 = .ok (.aload_n 0, 1) := by decide +kernel
theorem dX0_mixLaw_28 : decode cX0_mixLaw 28 = .ok (.getfield 34, 3) := by decide +kernel
theorem dX0_mixLaw_31 : decode cX0_mixLaw 31 = .ok (.iconst 2, 1) := by decide +kernel
theorem dX0_mixLaw_32 : decode cX0_mixLaw 32 = .ok (.lconst 0, 1) := by decide +kernel
theorem dX0_mixLaw_33 : decode cX0_mixLaw 33 = .ok (.lastore, 1) := by decide +kernel
theorem dX0_mixLaw_34 : decode cX0_mixLaw 34 = .ok (.aload_n 0, 1) := by decide +kernel
theorem dX0_mixLaw_35 : decode cX0_mixLaw 35 = .ok (.getfield 34, 3) := by decide +kernel
theorem dX0_mixLaw_38 : decode cX0_mixLaw 38 = .ok (.iconst 4, 1) := by decide +kernel
theorem dX0_mixLaw_39 : decode cX0_mixLaw 39 = .ok (.aload_n 0, 1) := by decide +kernel
theorem dX0_mixLaw_40 : decode cX0_mixLaw 40 = .ok (.iload_n 1, 1) := by decide +kernel
theorem dX0_mixLaw_41 : decode cX0_mixLaw 41 = .ok (.invokevirtual 191, 3) := by decide +kernel
theorem dX0_mixLaw_44 : decode cX0_mixLaw 44 = .ok (.i2l, 1) := by decide +kernel
theorem dX0_mixLaw_45 : decode cX0_mixLaw 45 = .ok (.lastore, 1) := by decide +kernel
theorem dX0_mixLaw_46 : decode cX0_mixLaw 46 = .ok (.aload_n 0, 1) := by decide +kernel
theorem dX0_mixLaw_47 : decode cX0_mixLaw 47 = .ok (.getfield 34, 3) := by decide +kernel
theorem dX0_mixLaw_50 : decode cX0_mixLaw 50 = .ok (.iconst 5, 1) := by decide +kernel
theorem dX0_mixLaw_51 : decode cX0_mixLaw 51 = .ok (.lconst 0, 1) := by decide +kernel
theorem dX0_mixLaw_52 : decode cX0_mixLaw 52 = .ok (.lastore, 1) := by decide +kernel
theorem dX0_mixLaw_53 : decode cX0_mixLaw 53 = .ok (.aload_n 0, 1) := by decide +kernel
theorem dX0_mixLaw_54 : decode cX0_mixLaw 54 = .ok (.getfield 48, 3) := by decide +kernel
theorem dX0_mixLaw_57 : decode cX0_mixLaw 57 = .ok (.getfield 169, 3) := by decide +kernel
theorem dX0_mixLaw_60 : decode cX0_mixLaw 60 = .ok (.iconst 2, 1) := by decide +kernel
theorem dX0_mixLaw_61 : decode cX0_mixLaw 61 = .ok (.aload_n 0, 1) := by decide +kernel
theorem dX0_mixLaw_62 : decode cX0_mixLaw 62 = .ok (.getfield 34, 3) := by decide +kernel
theorem dX0_mixLaw_65 : decode cX0_mixLaw 65 = .ok (.invokevirtual 184, 3) := by decide +kernel
theorem dX0_mixLaw_68 : decode cX0_mixLaw 68 = .ok (.lreturn, 1) := by decide +kernel
theorem dX7_exchange_0 : decode cX7_exchange 0 = .ok (.aload_n 0, 1) := by decide +kernel
theorem dX7_exchange_1 : decode cX7_exchange 1 = .ok (.getfield 25, 3) := by decide +kernel
theorem dX7_exchange_4 : decode cX7_exchange 4 = .ok (.iload_n 1, 1) := by decide +kernel
theorem dX7_exchange_5 : decode cX7_exchange 5 = .ok (.iconst 5, 1) := by decide +kernel
theorem dX7_exchange_6 : decode cX7_exchange 6 = .ok (.imul, 1) := by decide +kernel
theorem dX7_exchange_7 : decode cX7_exchange 7 = .ok (.iload_n 3, 1) := by decide +kernel
theorem dX7_exchange_8 : decode cX7_exchange 8 = .ok (.iadd, 1) := by decide +kernel
theorem dX7_exchange_9 : decode cX7_exchange 9 = .ok (.iaload, 1) := by decide +kernel
theorem dX7_exchange_10 : decode cX7_exchange 10 = .ok (.istore 4, 2) := by decide +kernel
theorem dX7_exchange_12 : decode cX7_exchange 12 = .ok (.aload_n 0, 1) := by decide +kernel
theorem dX7_exchange_13 : decode cX7_exchange 13 = .ok (.getfield 25, 3) := by decide +kernel
theorem dX7_exchange_16 : decode cX7_exchange 16 = .ok (.iload_n 1, 1) := by decide +kernel
theorem dX7_exchange_17 : decode cX7_exchange 17 = .ok (.iconst 5, 1) := by decide +kernel
theorem dX7_exchange_18 : decode cX7_exchange 18 = .ok (.imul, 1) := by decide +kernel
theorem dX7_exchange_19 : decode cX7_exchange 19 = .ok (.iload_n 3, 1) := by decide +kernel
theorem dX7_exchange_20 : decode cX7_exchange 20 = .ok (.iadd, 1) := by decide +kernel
theorem dX7_exchange_21 : decode cX7_exchange 21 = .ok (.aload_n 0, 1) := by decide +kernel
theorem dX7_exchange_22 : decode cX7_exchange 22 = .ok (.getfield 25, 3) := by decide +kernel
theorem dX7_exchange_25 : decode cX7_exchange 25 = .ok (.iload_n 2, 1) := by decide +kernel
theorem dX7_exchange_26 : decode cX7_exchange 26 = .ok (.iconst 5, 1) := by decide +kernel
theorem dX7_exchange_27 : decode cX7_exchange 27 = .ok (.imul, 1) := by decide +kernel
theorem dX7_exchange_28 : decode cX7_exchange 28 = .ok (.iload_n 3, 1) := by decide +kernel
theorem dX7_exchange_29 : decode cX7_exchange 29 = .ok (.iadd, 1) := by decide +kernel
theorem dX7_exchange_30 : decode cX7_exchange 30 = .ok (.iaload, 1) := by decide +kernel
theorem dX7_exchange_31 : decode cX7_exchange 31 = .ok (.iastore, 1) := by decide +kernel
theorem dX7_exchange_32 : decode cX7_exchange 32 = .ok (.aload_n 0, 1) := by decide +kernel
theorem dX7_exchange_33 : decode cX7_exchange 33 = .ok (.getfield 25, 3) := by decide +kernel
theorem dX7_exchange_36 : decode cX7_exchange 36 = .ok (.iload_n 2, 1) := by decide +kernel
theorem dX7_exchange_37 : decode cX7_exchange 37 = .ok (.iconst 5, 1) := by decide +kernel
theorem dX7_exchange_38 : decode cX7_exchange 38 = .ok (.imul, 1) := by decide +kernel
theorem dX7_exchange_39 : decode cX7_exchange 39 = .ok (.iload_n 3, 1) := by decide +kernel
theorem dX7_exchange_40 : decode cX7_exchange 40 = .ok (.iadd, 1) := by decide +kernel
theorem dX7_exchange_41 : decode cX7_exchange 41 = .ok (.iload 4, 2) := by decide +kernel
theorem dX7_exchange_43 : decode cX7_exchange 43 = .ok (.iastore, 1) := by decide +kernel
theorem dX7_exchange_44 : decode cX7_exchange 44 = .ok (.return_, 1) := by decide +kernel
theorem dX0_mixTwo_0 : decode cX0_mixTwo 0 = .ok (.iconst (-1), 1) := by decide +kernel
theorem dX0_mixTwo_1 : decode cX0_mixTwo 1 = .ok (.istore_n 2, 1) := by decide +kernel
theorem dX0_mixTwo_2 : decode cX0_mixTwo 2 = .ok (.iconst 0, 1) := by decide +kernel
theorem dX0_mixTwo_3 : decode cX0_mixTwo 3 = .ok (.istore_n 3, 1) := by decide +kernel
theorem dX0_mixTwo_4 : decode cX0_mixTwo 4 = .ok (.iload_n 3, 1) := by decide +kernel
theorem dX0_mixTwo_5 : decode cX0_mixTwo 5 = .ok (.aload_n 0, 1) := by decide +kernel
theorem dX0_mixTwo_6 : decode cX0_mixTwo 6 = .ok (.getfield 48, 3) := by decide +kernel
theorem dX0_mixTwo_9 : decode cX0_mixTwo 9 = .ok (.getfield 156, 3) := by decide +kernel
theorem dX0_mixTwo_12 : decode cX0_mixTwo 12 = .ok (.iconst 0, 1) := by decide +kernel
theorem dX0_mixTwo_13 : decode cX0_mixTwo 13 = .ok (.iaload, 1) := by decide +kernel
theorem dX0_mixTwo_14 : decode cX0_mixTwo 14 = .ok (.if_icmp .ge 40, 3) := by decide +kernel
theorem dX0_mixTwo_17 : decode cX0_mixTwo 17 = .ok (.aload_n 0, 1) := by decide +kernel
theorem dX0_mixTwo_18 : decode cX0_mixTwo 18 = .ok (.getfield 25, 3) := by decide +kernel
theorem dX0_mixTwo_21 : decode cX0_mixTwo 21 = .ok (.iload_n 3, 1) := by decide +kernel
theorem dX0_mixTwo_22 : decode cX0_mixTwo 22 = .ok (.iconst 5, 1) := by decide +kernel
theorem dX0_mixTwo_23 : decode cX0_mixTwo 23 = .ok (.imul, 1) := by decide +kernel
theorem dX0_mixTwo_24 : decode cX0_mixTwo 24 = .ok (.iload_n 1, 1) := by decide +kernel
theorem dX0_mixTwo_25 : decode cX0_mixTwo 25 = .ok (.iadd, 1) := by decide +kernel
theorem dX0_mixTwo_26 : decode cX0_mixTwo 26 = .ok (.baload, 1) := by decide +kernel
theorem dX0_mixTwo_27 : decode cX0_mixTwo 27 = .ok (.ifCond .eq 21, 3) := by decide +kernel
theorem dX0_mixTwo_30 : decode cX0_mixTwo 30 = .ok (.iload_n 2, 1) := by decide +kernel
theorem dX0_mixTwo_31 : decode cX0_mixTwo 31 = .ok (.iconst (-1), 1) := by decide +kernel
theorem dX0_mixTwo_32 : decode cX0_mixTwo 32 = .ok (.if_icmp .eq 14, 3) := by decide +kernel
theorem dX0_mixTwo_35 : decode cX0_mixTwo 35 = .ok (.aload_n 0, 1) := by decide +kernel
theorem dX0_mixTwo_36 : decode cX0_mixTwo 36 = .ok (.getfield 38, 3) := by decide +kernel
theorem dX0_mixTwo_39 : decode cX0_mixTwo 39 = .ok (.iload_n 2, 1) := by decide +kernel
theorem dX0_mixTwo_40 : decode cX0_mixTwo 40 = .ok (.iload_n 3, 1) := by decide +kernel
theorem dX0_mixTwo_41 : decode cX0_mixTwo 41 = .ok (.iload_n 1, 1) := by decide +kernel
theorem dX0_mixTwo_42 : decode cX0_mixTwo 42 = .ok (.invokevirtual 166, 3) := by decide +kernel
theorem dX0_mixTwo_45 : decode cX0_mixTwo 45 = .ok (.return_, 1) := by decide +kernel
theorem dX0_mixTwo_46 : decode cX0_mixTwo 46 = .ok (.iload_n 3, 1) := by decide +kernel
theorem dX0_mixTwo_47 : decode cX0_mixTwo 47 = .ok (.istore_n 2, 1) := by decide +kernel
theorem dX0_mixTwo_48 : decode cX0_mixTwo 48 = .ok (.iinc 3 1, 3) := by decide +kernel
theorem dX0_mixTwo_51 : decode cX0_mixTwo 51 = .ok (.goto (-47), 3) := by decide +kernel
theorem dX0_mixTwo_54 : decode cX0_mixTwo 54 = .ok (.return_, 1) := by decide +kernel
theorem dX0_mixAll_0 : decode cX0_mixAll 0 = .ok (.iconst 0, 1) := by decide +kernel
theorem dX0_mixAll_1 : decode cX0_mixAll 1 = .ok (.istore_n 1, 1) := by decide +kernel
theorem dX0_mixAll_2 : decode cX0_mixAll 2 = .ok (.iload_n 1, 1) := by decide +kernel
theorem dX0_mixAll_3 : decode cX0_mixAll 3 = .ok (.aload_n 0, 1) := by decide +kernel
theorem dX0_mixAll_4 : decode cX0_mixAll 4 = .ok (.getfield 48, 3) := by decide +kernel
theorem dX0_mixAll_7 : decode cX0_mixAll 7 = .ok (.getfield 156, 3) := by decide +kernel
theorem dX0_mixAll_10 : decode cX0_mixAll 10 = .ok (.iconst 1, 1) := by decide +kernel
theorem dX0_mixAll_11 : decode cX0_mixAll 11 = .ok (.iaload, 1) := by decide +kernel
theorem dX0_mixAll_12 : decode cX0_mixAll 12 = .ok (.if_icmp .ge 24, 3) := by decide +kernel
theorem dX0_mixAll_15 : decode cX0_mixAll 15 = .ok (.aload_n 0, 1) := by decide +kernel
theorem dX0_mixAll_16 : decode cX0_mixAll 16 = .ok (.iload_n 1, 1) := by decide +kernel
theorem dX0_mixAll_17 : decode cX0_mixAll 17 = .ok (.invokevirtual 159, 3) := by decide +kernel
theorem dX0_mixAll_20 : decode cX0_mixAll 20 = .ok (.lconst 0, 1) := by decide +kernel
theorem dX0_mixAll_21 : decode cX0_mixAll 21 = .ok (.lcmp, 1) := by decide +kernel
theorem dX0_mixAll_22 : decode cX0_mixAll 22 = .ok (.ifCond .eq 8, 3) := by decide +kernel
theorem dX0_mixAll_25 : decode cX0_mixAll 25 = .ok (.aload_n 0, 1) := by decide +kernel
theorem dX0_mixAll_26 : decode cX0_mixAll 26 = .ok (.iload_n 1, 1) := by decide +kernel
theorem dX0_mixAll_27 : decode cX0_mixAll 27 = .ok (.invokevirtual 163, 3) := by decide +kernel
theorem dX0_mixAll_30 : decode cX0_mixAll 30 = .ok (.iinc 1 1, 3) := by decide +kernel
theorem dX0_mixAll_33 : decode cX0_mixAll 33 = .ok (.goto (-31), 3) := by decide +kernel
theorem dX0_mixAll_36 : decode cX0_mixAll 36 = .ok (.return_, 1) := by decide +kernel
theorem dX0_land_0 : decode cX0_land 0 = .ok (.iconst 0, 1) := by decide +kernel
theorem dX0_land_1 : decode cX0_land 1 = .ok (.istore_n 1, 1) := by decide +kernel
theorem dX0_land_2 : decode cX0_land 2 = .ok (.iload_n 1, 1) := by decide +kernel
theorem dX0_land_3 : decode cX0_land 3 = .ok (.aload_n 0, 1) := by decide +kernel
theorem dX0_land_4 : decode cX0_land 4 = .ok (.getfield 25, 3) := by decide +kernel
theorem dX0_land_7 : decode cX0_land 7 = .ok (.arraylength, 1) := by decide +kernel
theorem dX0_land_8 : decode cX0_land 8 = .ok (.if_icmp .ge 45, 3) := by decide +kernel
theorem dX0_land_11 : decode cX0_land 11 = .ok (.aload_n 0, 1) := by decide +kernel
theorem dX0_land_12 : decode cX0_land 12 = .ok (.getfield 25, 3) := by decide +kernel
theorem dX0_land_15 : decode cX0_land 15 = .ok (.iload_n 1, 1) := by decide +kernel
theorem dX0_land_16 : decode cX0_land 16 = .ok (.baload, 1) := by decide +kernel
theorem dX0_land_17 : decode cX0_land 17 = .ok (.ifCond .eq 30, 3) := by decide +kernel
theorem dX0_land_20 : decode cX0_land 20 = .ok (.aload_n 0, 1) := by decide +kernel
theorem dX0_land_21 : decode cX0_land 21 = .ok (.getfield 38, 3) := by decide +kernel
theorem dX0_land_24 : decode cX0_land 24 = .ok (.getfield 130, 3) := by decide +kernel
theorem dX0_land_27 : decode cX0_land 27 = .ok (.iload_n 1, 1) := by decide +kernel
theorem dX0_land_28 : decode cX0_land 28 = .ok (.iconst 1, 1) := by decide +kernel
theorem dX0_land_29 : decode cX0_land 29 = .ok (.aload_n 0, 1) := by decide +kernel
theorem dX0_land_30 : decode cX0_land 30 = .ok (.getfield 38, 3) := by decide +kernel
theorem dX0_land_33 : decode cX0_land 33 = .ok (.getfield 130, 3) := by decide +kernel
theorem dX0_land_36 : decode cX0_land 36 = .ok (.iload_n 1, 1) := by decide +kernel
theorem dX0_land_37 : decode cX0_land 37 = .ok (.iaload, 1) := by decide +kernel
theorem dX0_land_38 : decode cX0_land 38 = .ok (.isub, 1) := by decide +kernel
theorem dX0_land_39 : decode cX0_land 39 = .ok (.iastore, 1) := by decide +kernel
theorem dX0_land_40 : decode cX0_land 40 = .ok (.aload_n 0, 1) := by decide +kernel
theorem dX0_land_41 : decode cX0_land 41 = .ok (.getfield 25, 3) := by decide +kernel
theorem dX0_land_44 : decode cX0_land 44 = .ok (.iload_n 1, 1) := by decide +kernel
theorem dX0_land_45 : decode cX0_land 45 = .ok (.iconst 0, 1) := by decide +kernel
theorem dX0_land_46 : decode cX0_land 46 = .ok (.bastore, 1) := by decide +kernel
theorem dX0_land_47 : decode cX0_land 47 = .ok (.iinc 1 1, 3) := by decide +kernel
theorem dX0_land_50 : decode cX0_land 50 = .ok (.goto (-48), 3) := by decide +kernel
theorem dX0_land_53 : decode cX0_land 53 = .ok (.aload_n 0, 1) := by decide +kernel
theorem dX0_land_54 : decode cX0_land 54 = .ok (.iconst 0, 1) := by decide +kernel
theorem dX0_land_55 : decode cX0_land 55 = .ok (.putfield 29, 3) := by decide +kernel
theorem dX0_land_58 : decode cX0_land 58 = .ok (.return_, 1) := by decide +kernel
theorem dX0_pass_0 : decode cX0_pass 0 = .ok (.iconst 0, 1) := by decide +kernel
theorem dX0_pass_1 : decode cX0_pass 1 = .ok (.istore_n 2, 1) := by decide +kernel
theorem dX0_pass_2 : decode cX0_pass 2 = .ok (.iload_n 2, 1) := by decide +kernel
theorem dX0_pass_3 : decode cX0_pass 3 = .ok (.iload_n 1, 1) := by decide +kernel
theorem dX0_pass_4 : decode cX0_pass 4 = .ok (.if_icmp .ge 65, 3) := by decide +kernel
theorem dX0_pass_7 : decode cX0_pass 7 = .ok (.aload_n 0, 1) := by decide +kernel
theorem dX0_pass_8 : decode cX0_pass 8 = .ok (.invokevirtual 52, 3) := by decide +kernel
theorem dX0_pass_11 : decode cX0_pass 11 = .ok (.aload_n 0, 1) := by decide +kernel
theorem dX0_pass_12 : decode cX0_pass 12 = .ok (.invokevirtual 55, 3) := by decide +kernel
theorem dX0_pass_15 : decode cX0_pass 15 = .ok (.aload_n 0, 1) := by decide +kernel
theorem dX0_pass_16 : decode cX0_pass 16 = .ok (.invokevirtual 58, 3) := by decide +kernel
theorem dX0_pass_19 : decode cX0_pass 19 = .ok (.ifCond .eq 20, 3) := by decide +kernel
theorem dX0_pass_22 : decode cX0_pass 22 = .ok (.aload_n 0, 1) := by decide +kernel
theorem dX0_pass_23 : decode cX0_pass 23 = .ok (.getfield 38, 3) := by decide +kernel
theorem dX0_pass_26 : decode cX0_pass 26 = .ok (.dup, 1) := by decide +kernel
theorem dX0_pass_27 : decode cX0_pass 27 = .ok (.getfield 62, 3) := by decide +kernel
theorem dX0_pass_30 : decode cX0_pass 30 = .ok (.iconst 1, 1) := by decide +kernel
theorem dX0_pass_31 : decode cX0_pass 31 = .ok (.iadd, 1) := by decide +kernel
theorem dX0_pass_32 : decode cX0_pass 32 = .ok (.putfield 62, 3) := by decide +kernel
theorem dX0_pass_35 : decode cX0_pass 35 = .ok (.aload_n 0, 1) := by decide +kernel
theorem dX0_pass_36 : decode cX0_pass 36 = .ok (.invokevirtual 64, 3) := by decide +kernel
theorem dX0_pass_39 : decode cX0_pass 39 = .ok (.aload_n 0, 1) := by decide +kernel
theorem dX0_pass_40 : decode cX0_pass 40 = .ok (.getfield 29, 3) := by decide +kernel
theorem dX0_pass_43 : decode cX0_pass 43 = .ok (.ifCond .le 7, 3) := by decide +kernel
theorem dX0_pass_46 : decode cX0_pass 46 = .ok (.aload_n 0, 1) := by decide +kernel
theorem dX0_pass_47 : decode cX0_pass 47 = .ok (.invokevirtual 67, 3) := by decide +kernel
theorem dX0_pass_50 : decode cX0_pass 50 = .ok (.aload_n 0, 1) := by decide +kernel
theorem dX0_pass_51 : decode cX0_pass 51 = .ok (.getfield 38, 3) := by decide +kernel
theorem dX0_pass_54 : decode cX0_pass 54 = .ok (.dup, 1) := by decide +kernel
theorem dX0_pass_55 : decode cX0_pass 55 = .ok (.getfield 70, 3) := by decide +kernel
theorem dX0_pass_58 : decode cX0_pass 58 = .ok (.iconst 1, 1) := by decide +kernel
theorem dX0_pass_59 : decode cX0_pass 59 = .ok (.iadd, 1) := by decide +kernel
theorem dX0_pass_60 : decode cX0_pass 60 = .ok (.putfield 70, 3) := by decide +kernel
theorem dX0_pass_63 : decode cX0_pass 63 = .ok (.iinc 2 1, 3) := by decide +kernel
theorem dX0_pass_66 : decode cX0_pass 66 = .ok (.goto (-64), 3) := by decide +kernel
theorem dX0_pass_69 : decode cX0_pass 69 = .ok (.return_, 1) := by decide +kernel
theorem dX8_isSign_0 : decode cX8_isSign 0 = .ok (.aload_n 0, 1) := by decide +kernel
theorem dX8_isSign_1 : decode cX8_isSign 1 = .ok (.getfield 11, 3) := by decide +kernel
theorem dX8_isSign_4 : decode cX8_isSign 4 = .ok (.iconst 4, 1) := by decide +kernel
theorem dX8_isSign_5 : decode cX8_isSign 5 = .ok (.if_icmp .ne 15, 3) := by decide +kernel
theorem dX8_isSign_8 : decode cX8_isSign 8 = .ok (.aload_n 0, 1) := by decide +kernel
theorem dX8_isSign_9 : decode cX8_isSign 9 = .ok (.getfield 18, 3) := by decide +kernel
theorem dX8_isSign_12 : decode cX8_isSign 12 = .ok (.iload_n 1, 1) := by decide +kernel
theorem dX8_isSign_13 : decode cX8_isSign 13 = .ok (.if_icmp .ne 7, 3) := by decide +kernel
theorem dX8_isSign_16 : decode cX8_isSign 16 = .ok (.iconst 1, 1) := by decide +kernel
theorem dX8_isSign_17 : decode cX8_isSign 17 = .ok (.goto 4, 3) := by decide +kernel
theorem dX8_isSign_20 : decode cX8_isSign 20 = .ok (.iconst 0, 1) := by decide +kernel
theorem dX8_isSign_21 : decode cX8_isSign 21 = .ok (.ireturn, 1) := by decide +kernel
theorem dX1_isAtEnd_0 : decode cX1_isAtEnd 0 = .ok (.aload_n 0, 1) := by decide +kernel
theorem dX1_isAtEnd_1 : decode cX1_isAtEnd 1 = .ok (.getfield 27, 3) := by decide +kernel
theorem dX1_isAtEnd_4 : decode cX1_isAtEnd 4 = .ok (.ifCond .ne 26, 3) := by decide +kernel
theorem dX1_isAtEnd_7 : decode cX1_isAtEnd 7 = .ok (.aload_n 0, 1) := by decide +kernel
theorem dX1_isAtEnd_8 : decode cX1_isAtEnd 8 = .ok (.getfield 21, 3) := by decide +kernel
theorem dX1_isAtEnd_11 : decode cX1_isAtEnd 11 = .ok (.ifCond .ne 19, 3) := by decide +kernel
theorem dX1_isAtEnd_14 : decode cX1_isAtEnd 14 = .ok (.aload_n 0, 1) := by decide +kernel
theorem dX1_isAtEnd_15 : decode cX1_isAtEnd 15 = .ok (.getfield 31, 3) := by decide +kernel
theorem dX1_isAtEnd_18 : decode cX1_isAtEnd 18 = .ok (.bipush 15, 2) := by decide +kernel
theorem dX1_isAtEnd_20 : decode cX1_isAtEnd 20 = .ok (.invokevirtual 53, 3) := by decide +kernel
theorem dX1_isAtEnd_23 : decode cX1_isAtEnd 23 = .ok (.ifCond .eq 7, 3) := by decide +kernel
theorem dX1_isAtEnd_26 : decode cX1_isAtEnd 26 = .ok (.iconst 1, 1) := by decide +kernel
theorem dX1_isAtEnd_27 : decode cX1_isAtEnd 27 = .ok (.goto 4, 3) := by decide +kernel
theorem dX1_isAtEnd_30 : decode cX1_isAtEnd 30 = .ok (.iconst 0, 1) := by decide +kernel
theorem dX1_isAtEnd_31 : decode cX1_isAtEnd 31 = .ok (.ireturn, 1) := by decide +kernel
theorem dX1_push_0 : decode cX1_push 0 = .ok (.aload_n 0, 1) := by decide +kernel
theorem dX1_push_1 : decode cX1_push 1 = .ok (.getfield 17, 3) := by decide +kernel
theorem dX1_push_4 : decode cX1_push 4 = .ok (.aload_n 0, 1) := by decide +kernel
theorem dX1_push_5 : decode cX1_push 5 = .ok (.getfield 13, 3) := by decide +kernel
theorem dX1_push_8 : decode cX1_push 8 = .ok (.arraylength, 1) := by decide +kernel
theorem dX1_push_9 : decode cX1_push 9 = .ok (.if_icmp .ge 23, 3) := by decide +kernel
theorem dX1_push_12 : decode cX1_push 12 = .ok (.aload_n 0, 1) := by decide +kernel
theorem dX1_push_13 : decode cX1_push 13 = .ok (.getfield 13, 3) := by decide +kernel
theorem dX1_push_16 : decode cX1_push 16 = .ok (.aload_n 0, 1) := by decide +kernel
theorem dX1_push_17 : decode cX1_push 17 = .ok (.getfield 17, 3) := by decide +kernel
theorem dX1_push_20 : decode cX1_push 20 = .ok (.iload_n 1, 1) := by decide +kernel
theorem dX1_push_21 : decode cX1_push 21 = .ok (.iastore, 1) := by decide +kernel
theorem dX1_push_22 : decode cX1_push 22 = .ok (.aload_n 0, 1) := by decide +kernel
theorem dX1_push_23 : decode cX1_push 23 = .ok (.dup, 1) := by decide +kernel
theorem dX1_push_24 : decode cX1_push 24 = .ok (.getfield 17, 3) := by decide +kernel
theorem dX1_push_27 : decode cX1_push 27 = .ok (.iconst 1, 1) := by decide +kernel
theorem dX1_push_28 : decode cX1_push 28 = .ok (.iadd, 1) := by decide +kernel
theorem dX1_push_29 : decode cX1_push 29 = .ok (.putfield 17, 3) := by decide +kernel
theorem dX1_push_32 : decode cX1_push 32 = .ok (.return_, 1) := by decide +kernel
theorem dX1_takeOpen_0 : decode cX1_takeOpen 0 = .ok (.aload_n 0, 1) := by decide +kernel
theorem dX1_takeOpen_1 : decode cX1_takeOpen 1 = .ok (.getfield 21, 3) := by decide +kernel
theorem dX1_takeOpen_4 : decode cX1_takeOpen 4 = .ok (.bipush 8, 2) := by decide +kernel
theorem dX1_takeOpen_6 : decode cX1_takeOpen 6 = .ok (.if_icmp .lt 5, 3) := by decide +kernel
theorem dX1_takeOpen_9 : decode cX1_takeOpen 9 = .ok (.iconst 2, 1) := by decide +kernel
theorem dX1_takeOpen_10 : decode cX1_takeOpen 10 = .ok (.ireturn, 1) := by decide +kernel
theorem dX1_takeOpen_11 : decode cX1_takeOpen 11 = .ok (.aload_n 0, 1) := by decide +kernel
theorem dX1_takeOpen_12 : decode cX1_takeOpen 12 = .ok (.dup, 1) := by decide +kernel
theorem dX1_takeOpen_13 : decode cX1_takeOpen 13 = .ok (.getfield 21, 3) := by decide +kernel
theorem dX1_takeOpen_16 : decode cX1_takeOpen 16 = .ok (.iconst 1, 1) := by decide +kernel
theorem dX1_takeOpen_17 : decode cX1_takeOpen 17 = .ok (.iadd, 1) := by decide +kernel
theorem dX1_takeOpen_18 : decode cX1_takeOpen 18 = .ok (.putfield 21, 3) := by decide +kernel
theorem dX1_takeOpen_21 : decode cX1_takeOpen 21 = .ok (.aload_n 0, 1) := by decide +kernel
theorem dX1_takeOpen_22 : decode cX1_takeOpen 22 = .ok (.bipush 13, 2) := by decide +kernel
theorem dX1_takeOpen_24 : decode cX1_takeOpen 24 = .ok (.invokevirtual 97, 3) := by decide +kernel
theorem dX1_takeOpen_27 : decode cX1_takeOpen 27 = .ok (.iconst 0, 1) := by decide +kernel
theorem dX1_takeOpen_28 : decode cX1_takeOpen 28 = .ok (.ireturn, 1) := by decide +kernel
theorem dX8_isWord_0 : decode cX8_isWord 0 = .ok (.aload_n 0, 1) := by decide +kernel
theorem dX8_isWord_1 : decode cX8_isWord 1 = .ok (.getfield 11, 3) := by decide +kernel
theorem dX8_isWord_4 : decode cX8_isWord 4 = .ok (.iconst 3, 1) := by decide +kernel
theorem dX8_isWord_5 : decode cX8_isWord 5 = .ok (.if_icmp .ne 15, 3) := by decide +kernel
theorem dX8_isWord_8 : decode cX8_isWord 8 = .ok (.aload_n 0, 1) := by decide +kernel
theorem dX8_isWord_9 : decode cX8_isWord 9 = .ok (.getfield 18, 3) := by decide +kernel
theorem dX8_isWord_12 : decode cX8_isWord 12 = .ok (.iload_n 1, 1) := by decide +kernel
theorem dX8_isWord_13 : decode cX8_isWord 13 = .ok (.if_icmp .ne 7, 3) := by decide +kernel
theorem dX8_isWord_16 : decode cX8_isWord 16 = .ok (.iconst 1, 1) := by decide +kernel
theorem dX8_isWord_17 : decode cX8_isWord 17 = .ok (.goto 4, 3) := by decide +kernel
theorem dX8_isWord_20 : decode cX8_isWord 20 = .ok (.iconst 0, 1) := by decide +kernel
theorem dX8_isWord_21 : decode cX8_isWord 21 = .ok (.ireturn, 1) := by decide +kernel
theorem dX1_rankOf_0 : decode cX1_rankOf 0 = .ok (.iload_n 0, 1) := by decide +kernel
theorem dX1_rankOf_1 : decode cX1_rankOf 1 = .ok (.tableswitch 84 0 13 #[79, 79, 81, 81, 84, 84, 84, 84, 84, 84, 75, 73, 77, 71], 71) := by decide +kernel
theorem dX1_rankOf_72 : decode cX1_rankOf 72 = .ok (.iconst 0, 1) := by decide +kernel
theorem dX1_rankOf_73 : decode cX1_rankOf 73 = .ok (.ireturn, 1) := by decide +kernel
theorem dX1_rankOf_74 : decode cX1_rankOf 74 = .ok (.iconst 1, 1) := by decide +kernel
theorem dX1_rankOf_75 : decode cX1_rankOf 75 = .ok (.ireturn, 1) := by decide +kernel
theorem dX1_rankOf_76 : decode cX1_rankOf 76 = .ok (.iconst 2, 1) := by decide +kernel
theorem dX1_rankOf_77 : decode cX1_rankOf 77 = .ok (.ireturn, 1) := by decide +kernel
theorem dX1_rankOf_78 : decode cX1_rankOf 78 = .ok (.iconst 3, 1) := by decide +kernel
theorem dX1_rankOf_79 : decode cX1_rankOf 79 = .ok (.ireturn, 1) := by decide +kernel
theorem dX1_rankOf_80 : decode cX1_rankOf 80 = .ok (.iconst 5, 1) := by decide +kernel
theorem dX1_rankOf_81 : decode cX1_rankOf 81 = .ok (.ireturn, 1) := by decide +kernel
theorem dX1_rankOf_82 : decode cX1_rankOf 82 = .ok (.bipush 6, 2) := by decide +kernel
theorem dX1_rankOf_84 : decode cX1_rankOf 84 = .ok (.ireturn, 1) := by decide +kernel
theorem dX1_rankOf_85 : decode cX1_rankOf 85 = .ok (.iconst 4, 1) := by decide +kernel
theorem dX1_rankOf_86 : decode cX1_rankOf 86 = .ok (.ireturn, 1) := by decide +kernel
theorem dX1_takeKnot_0 : decode cX1_takeKnot 0 = .ok (.aload_n 0, 1) := by decide +kernel
theorem dX1_takeKnot_1 : decode cX1_takeKnot 1 = .ok (.getfield 35, 3) := by decide +kernel
theorem dX1_takeKnot_4 : decode cX1_takeKnot 4 = .ok (.getfield 39, 3) := by decide +kernel
theorem dX1_takeKnot_7 : decode cX1_takeKnot 7 = .ok (.bipush 64, 2) := by decide +kernel
theorem dX1_takeKnot_9 : decode cX1_takeKnot 9 = .ok (.if_icmp .lt 5, 3) := by decide +kernel
theorem dX1_takeKnot_12 : decode cX1_takeKnot 12 = .ok (.iconst 2, 1) := by decide +kernel
theorem dX1_takeKnot_13 : decode cX1_takeKnot 13 = .ok (.ireturn, 1) := by decide +kernel
theorem dX1_takeKnot_14 : decode cX1_takeKnot 14 = .ok (.aload_n 0, 1) := by decide +kernel
theorem dX1_takeKnot_15 : decode cX1_takeKnot 15 = .ok (.getfield 35, 3) := by decide +kernel
theorem dX1_takeKnot_18 : decode cX1_takeKnot 18 = .ok (.dup, 1) := by decide +kernel
theorem dX1_takeKnot_19 : decode cX1_takeKnot 19 = .ok (.getfield 39, 3) := by decide +kernel
theorem dX1_takeKnot_22 : decode cX1_takeKnot 22 = .ok (.iconst 1, 1) := by decide +kernel
theorem dX1_takeKnot_23 : decode cX1_takeKnot 23 = .ok (.iadd, 1) := by decide +kernel
theorem dX1_takeKnot_24 : decode cX1_takeKnot 24 = .ok (.putfield 39, 3) := by decide +kernel
theorem dX1_takeKnot_27 : decode cX1_takeKnot 27 = .ok (.aload_n 0, 1) := by decide +kernel
theorem dX1_takeKnot_28 : decode cX1_takeKnot 28 = .ok (.iload_n 1, 1) := by decide +kernel
theorem dX1_takeKnot_29 : decode cX1_takeKnot 29 = .ok (.invokevirtual 97, 3) := by decide +kernel
theorem dX1_takeKnot_32 : decode cX1_takeKnot 32 = .ok (.iconst 0, 1) := by decide +kernel
theorem dX1_takeKnot_33 : decode cX1_takeKnot 33 = .ok (.ireturn, 1) := by decide +kernel
theorem dX1_write_0 : decode cX1_write 0 = .ok (.aload_n 0, 1) := by decide +kernel
theorem dX1_write_1 : decode cX1_write 1 = .ok (.getfield 24, 3) := by decide +kernel
theorem dX1_write_4 : decode cX1_write 4 = .ok (.bipush 64, 2) := by decide +kernel
theorem dX1_write_6 : decode cX1_write 6 = .ok (.if_icmp .ge 26, 3) := by decide +kernel
theorem dX1_write_9 : decode cX1_write 9 = .ok (.aload_n 0, 1) := by decide +kernel
theorem dX1_write_10 : decode cX1_write 10 = .ok (.getfield 35, 3) := by decide +kernel
theorem dX1_write_13 : decode cX1_write 13 = .ok (.getfield 112, 3) := by decide +kernel
theorem dX1_write_16 : decode cX1_write 16 = .ok (.aload_n 0, 1) := by decide +kernel
theorem dX1_write_17 : decode cX1_write 17 = .ok (.getfield 24, 3) := by decide +kernel
theorem dX1_write_20 : decode cX1_write 20 = .ok (.iload_n 1, 1) := by decide +kernel
theorem dX1_write_21 : decode cX1_write 21 = .ok (.iastore, 1) := by decide +kernel
theorem dX1_write_22 : decode cX1_write 22 = .ok (.aload_n 0, 1) := by decide +kernel
theorem dX1_write_23 : decode cX1_write 23 = .ok (.dup, 1) := by decide +kernel
theorem dX1_write_24 : decode cX1_write 24 = .ok (.getfield 24, 3) := by decide +kernel
theorem dX1_write_27 : decode cX1_write 27 = .ok (.iconst 1, 1) := by decide +kernel
theorem dX1_write_28 : decode cX1_write 28 = .ok (.iadd, 1) := by decide +kernel
theorem dX1_write_29 : decode cX1_write 29 = .ok (.putfield 24, 3) := by decide +kernel
theorem dX1_write_32 : decode cX1_write 32 = .ok (.return_, 1) := by decide +kernel
theorem dX1_takeLeaf_0 : decode cX1_takeLeaf 0 = .ok (.aload_n 0, 1) := by decide +kernel
theorem dX1_takeLeaf_1 : decode cX1_takeLeaf 1 = .ok (.getfield 35, 3) := by decide +kernel
theorem dX1_takeLeaf_4 : decode cX1_takeLeaf 4 = .ok (.getfield 39, 3) := by decide +kernel
theorem dX1_takeLeaf_7 : decode cX1_takeLeaf 7 = .ok (.bipush 64, 2) := by decide +kernel
theorem dX1_takeLeaf_9 : decode cX1_takeLeaf 9 = .ok (.if_icmp .lt 5, 3) := by decide +kernel
theorem dX1_takeLeaf_12 : decode cX1_takeLeaf 12 = .ok (.iconst 2, 1) := by decide +kernel
theorem dX1_takeLeaf_13 : decode cX1_takeLeaf 13 = .ok (.ireturn, 1) := by decide +kernel
theorem dX1_takeLeaf_14 : decode cX1_takeLeaf 14 = .ok (.aload_n 0, 1) := by decide +kernel
theorem dX1_takeLeaf_15 : decode cX1_takeLeaf 15 = .ok (.getfield 35, 3) := by decide +kernel
theorem dX1_takeLeaf_18 : decode cX1_takeLeaf 18 = .ok (.dup, 1) := by decide +kernel
theorem dX1_takeLeaf_19 : decode cX1_takeLeaf 19 = .ok (.getfield 39, 3) := by decide +kernel
theorem dX1_takeLeaf_22 : decode cX1_takeLeaf 22 = .ok (.iconst 1, 1) := by decide +kernel
theorem dX1_takeLeaf_23 : decode cX1_takeLeaf 23 = .ok (.iadd, 1) := by decide +kernel
theorem dX1_takeLeaf_24 : decode cX1_takeLeaf 24 = .ok (.putfield 39, 3) := by decide +kernel
theorem dX1_takeLeaf_27 : decode cX1_takeLeaf 27 = .ok (.aload_n 0, 1) := by decide +kernel
theorem dX1_takeLeaf_28 : decode cX1_takeLeaf 28 = .ok (.iload_n 1, 1) := by decide +kernel
theorem dX1_takeLeaf_29 : decode cX1_takeLeaf 29 = .ok (.invokevirtual 109, 3) := by decide +kernel
theorem dX1_takeLeaf_32 : decode cX1_takeLeaf 32 = .ok (.aload_n 0, 1) := by decide +kernel
theorem dX1_takeLeaf_33 : decode cX1_takeLeaf 33 = .ok (.iconst 0, 1) := by decide +kernel
theorem dX1_takeLeaf_34 : decode cX1_takeLeaf 34 = .ok (.putfield 27, 3) := by decide +kernel
theorem dX1_takeLeaf_37 : decode cX1_takeLeaf 37 = .ok (.iconst 0, 1) := by decide +kernel
theorem dX1_takeLeaf_38 : decode cX1_takeLeaf 38 = .ok (.ireturn, 1) := by decide +kernel
theorem dX1_takeOperand_0 : decode cX1_takeOperand 0 = .ok (.aload_n 0, 1) := by decide +kernel
theorem dX1_takeOperand_1 : decode cX1_takeOperand 1 = .ok (.getfield 31, 3) := by decide +kernel
theorem dX1_takeOperand_4 : decode cX1_takeOperand 4 = .ok (.bipush 13, 2) := by decide +kernel
theorem dX1_takeOperand_6 : decode cX1_takeOperand 6 = .ok (.invokevirtual 53, 3) := by decide +kernel
theorem dX1_takeOperand_9 : decode cX1_takeOperand 9 = .ok (.ifCond .eq 8, 3) := by decide +kernel
theorem dX1_takeOperand_12 : decode cX1_takeOperand 12 = .ok (.aload_n 0, 1) := by decide +kernel
theorem dX1_takeOperand_13 : decode cX1_takeOperand 13 = .ok (.invokevirtual 75, 3) := by decide +kernel
theorem dX1_takeOperand_16 : decode cX1_takeOperand 16 = .ok (.ireturn, 1) := by decide +kernel
theorem dX1_takeOperand_17 : decode cX1_takeOperand 17 = .ok (.aload_n 0, 1) := by decide +kernel
theorem dX1_takeOperand_18 : decode cX1_takeOperand 18 = .ok (.getfield 31, 3) := by decide +kernel
theorem dX1_takeOperand_21 : decode cX1_takeOperand 21 = .ok (.bipush 14, 2) := by decide +kernel
theorem dX1_takeOperand_23 : decode cX1_takeOperand 23 = .ok (.invokevirtual 78, 3) := by decide +kernel
theorem dX1_takeOperand_26 : decode cX1_takeOperand 26 = .ok (.ifCond .eq 49, 3) := by decide +kernel
theorem dX1_takeOperand_29 : decode cX1_takeOperand 29 = .ok (.aload_n 0, 1) := by decide +kernel
theorem dX1_takeOperand_30 : decode cX1_takeOperand 30 = .ok (.getfield 17, 3) := by decide +kernel
theorem dX1_takeOperand_33 : decode cX1_takeOperand 33 = .ok (.ifCond .eq 21, 3) := by decide +kernel
theorem dX1_takeOperand_36 : decode cX1_takeOperand 36 = .ok (.aload_n 0, 1) := by decide +kernel
theorem dX1_takeOperand_37 : decode cX1_takeOperand 37 = .ok (.getfield 13, 3) := by decide +kernel
theorem dX1_takeOperand_40 : decode cX1_takeOperand 40 = .ok (.aload_n 0, 1) := by decide +kernel
theorem dX1_takeOperand_41 : decode cX1_takeOperand 41 = .ok (.getfield 17, 3) := by decide +kernel
theorem dX1_takeOperand_44 : decode cX1_takeOperand 44 = .ok (.iconst 1, 1) := by decide +kernel
theorem dX1_takeOperand_45 : decode cX1_takeOperand 45 = .ok (.isub, 1) := by decide +kernel
theorem dX1_takeOperand_46 : decode cX1_takeOperand 46 = .ok (.iaload, 1) := by decide +kernel
theorem dX1_takeOperand_47 : decode cX1_takeOperand 47 = .ok (.invokestatic 81, 3) := by decide +kernel
theorem dX1_takeOperand_50 : decode cX1_takeOperand 50 = .ok (.iconst 3, 1) := by decide +kernel
theorem dX1_takeOperand_51 : decode cX1_takeOperand 51 = .ok (.if_icmp .gt 7, 3) := by decide +kernel
theorem dX1_takeOperand_54 : decode cX1_takeOperand 54 = .ok (.iconst 1, 1) := by decide +kernel
theorem dX1_takeOperand_55 : decode cX1_takeOperand 55 = .ok (.goto 4, 3) := by decide +kernel
theorem dX1_takeOperand_58 : decode cX1_takeOperand 58 = .ok (.iconst 0, 1) := by decide +kernel
theorem dX1_takeOperand_59 : decode cX1_takeOperand 59 = .ok (.istore_n 1, 1) := by decide +kernel
theorem dX1_takeOperand_60 : decode cX1_takeOperand 60 = .ok (.iload_n 1, 1) := by decide +kernel
theorem dX1_takeOperand_61 : decode cX1_takeOperand 61 = .ok (.ifCond .eq 12, 3) := by decide +kernel
theorem dX1_takeOperand_64 : decode cX1_takeOperand 64 = .ok (.aload_n 0, 1) := by decide +kernel
theorem dX1_takeOperand_65 : decode cX1_takeOperand 65 = .ok (.bipush 12, 2) := by decide +kernel
theorem dX1_takeOperand_67 : decode cX1_takeOperand 67 = .ok (.invokevirtual 85, 3) := by decide +kernel
theorem dX1_takeOperand_70 : decode cX1_takeOperand 70 = .ok (.goto 4, 3) := by decide +kernel
theorem dX1_takeOperand_73 : decode cX1_takeOperand 73 = .ok (.iconst 1, 1) := by decide +kernel
theorem dX1_takeOperand_74 : decode cX1_takeOperand 74 = .ok (.ireturn, 1) := by decide +kernel
theorem dX1_takeOperand_75 : decode cX1_takeOperand 75 = .ok (.aload_n 0, 1) := by decide +kernel
theorem dX1_takeOperand_76 : decode cX1_takeOperand 76 = .ok (.getfield 31, 3) := by decide +kernel
theorem dX1_takeOperand_79 : decode cX1_takeOperand 79 = .ok (.getfield 88, 3) := by decide +kernel
theorem dX1_takeOperand_82 : decode cX1_takeOperand 82 = .ok (.iconst 1, 1) := by decide +kernel
theorem dX1_takeOperand_83 : decode cX1_takeOperand 83 = .ok (.if_icmp .ne 32, 3) := by decide +kernel
theorem dX1_takeOperand_86 : decode cX1_takeOperand 86 = .ok (.aload_n 0, 1) := by decide +kernel
theorem dX1_takeOperand_87 : decode cX1_takeOperand 87 = .ok (.getfield 31, 3) := by decide +kernel
theorem dX1_takeOperand_90 : decode cX1_takeOperand 90 = .ok (.getfield 91, 3) := by decide +kernel
theorem dX1_takeOperand_93 : decode cX1_takeOperand 93 = .ok (.sipush 9999, 3) := by decide +kernel
theorem dX1_takeOperand_96 : decode cX1_takeOperand 96 = .ok (.if_icmp .le 7, 3) := by decide +kernel
theorem dX1_takeOperand_99 : decode cX1_takeOperand 99 = .ok (.iconst 2, 1) := by decide +kernel
theorem dX1_takeOperand_100 : decode cX1_takeOperand 100 = .ok (.goto 14, 3) := by decide +kernel
theorem dX1_takeOperand_103 : decode cX1_takeOperand 103 = .ok (.aload_n 0, 1) := by decide +kernel
theorem dX1_takeOperand_104 : decode cX1_takeOperand 104 = .ok (.aload_n 0, 1) := by decide +kernel
theorem dX1_takeOperand_105 : decode cX1_takeOperand 105 = .ok (.getfield 31, 3) := by decide +kernel
theorem dX1_takeOperand_108 : decode cX1_takeOperand 108 = .ok (.getfield 91, 3) := by decide +kernel
theorem dX1_takeOperand_111 : decode cX1_takeOperand 111 = .ok (.invokevirtual 94, 3) := by decide +kernel
theorem dX1_takeOperand_114 : decode cX1_takeOperand 114 = .ok (.ireturn, 1) := by decide +kernel
theorem dX1_takeOperand_115 : decode cX1_takeOperand 115 = .ok (.aload_n 0, 1) := by decide +kernel
theorem dX1_takeOperand_116 : decode cX1_takeOperand 116 = .ok (.getfield 31, 3) := by decide +kernel
theorem dX1_takeOperand_119 : decode cX1_takeOperand 119 = .ok (.getfield 88, 3) := by decide +kernel
theorem dX1_takeOperand_122 : decode cX1_takeOperand 122 = .ok (.iconst 3, 1) := by decide +kernel
theorem dX1_takeOperand_123 : decode cX1_takeOperand 123 = .ok (.if_icmp .ne 34, 3) := by decide +kernel
theorem dX1_takeOperand_126 : decode cX1_takeOperand 126 = .ok (.aload_n 0, 1) := by decide +kernel
theorem dX1_takeOperand_127 : decode cX1_takeOperand 127 = .ok (.getfield 31, 3) := by decide +kernel
theorem dX1_takeOperand_130 : decode cX1_takeOperand 130 = .ok (.getfield 91, 3) := by decide +kernel
theorem dX1_takeOperand_133 : decode cX1_takeOperand 133 = .ok (.bipush 15, 2) := by decide +kernel
theorem dX1_takeOperand_135 : decode cX1_takeOperand 135 = .ok (.if_icmp .lt 22, 3) := by decide +kernel
theorem dX1_takeOperand_138 : decode cX1_takeOperand 138 = .ok (.aload_n 0, 1) := by decide +kernel
theorem dX1_takeOperand_139 : decode cX1_takeOperand 139 = .ok (.sipush 10000, 3) := by decide +kernel
theorem dX1_takeOperand_142 : decode cX1_takeOperand 142 = .ok (.aload_n 0, 1) := by decide +kernel
theorem dX1_takeOperand_143 : decode cX1_takeOperand 143 = .ok (.getfield 31, 3) := by decide +kernel
theorem dX1_takeOperand_146 : decode cX1_takeOperand 146 = .ok (.getfield 91, 3) := by decide +kernel
theorem dX1_takeOperand_149 : decode cX1_takeOperand 149 = .ok (.iadd, 1) := by decide +kernel
theorem dX1_takeOperand_150 : decode cX1_takeOperand 150 = .ok (.bipush 15, 2) := by decide +kernel
theorem dX1_takeOperand_152 : decode cX1_takeOperand 152 = .ok (.isub, 1) := by decide +kernel
theorem dX1_takeOperand_153 : decode cX1_takeOperand 153 = .ok (.invokevirtual 94, 3) := by decide +kernel
theorem dX1_takeOperand_156 : decode cX1_takeOperand 156 = .ok (.ireturn, 1) := by decide +kernel
theorem dX1_takeOperand_157 : decode cX1_takeOperand 157 = .ok (.iconst 1, 1) := by decide +kernel
theorem dX1_takeOperand_158 : decode cX1_takeOperand 158 = .ok (.ireturn, 1) := by decide +kernel
theorem dX1_writeWaiting_0 : decode cX1_writeWaiting 0 = .ok (.aload_n 0, 1) := by decide +kernel
theorem dX1_writeWaiting_1 : decode cX1_writeWaiting 1 = .ok (.getfield 17, 3) := by decide +kernel
theorem dX1_writeWaiting_4 : decode cX1_writeWaiting 4 = .ok (.ifCond .le 51, 3) := by decide +kernel
theorem dX1_writeWaiting_7 : decode cX1_writeWaiting 7 = .ok (.aload_n 0, 1) := by decide +kernel
theorem dX1_writeWaiting_8 : decode cX1_writeWaiting 8 = .ok (.getfield 13, 3) := by decide +kernel
theorem dX1_writeWaiting_11 : decode cX1_writeWaiting 11 = .ok (.aload_n 0, 1) := by decide +kernel
theorem dX1_writeWaiting_12 : decode cX1_writeWaiting 12 = .ok (.getfield 17, 3) := by decide +kernel
theorem dX1_writeWaiting_15 : decode cX1_writeWaiting 15 = .ok (.iconst 1, 1) := by decide +kernel
theorem dX1_writeWaiting_16 : decode cX1_writeWaiting 16 = .ok (.isub, 1) := by decide +kernel
theorem dX1_writeWaiting_17 : decode cX1_writeWaiting 17 = .ok (.iaload, 1) := by decide +kernel
theorem dX1_writeWaiting_18 : decode cX1_writeWaiting 18 = .ok (.invokestatic 81, 3) := by decide +kernel
theorem dX1_writeWaiting_21 : decode cX1_writeWaiting 21 = .ok (.iload_n 1, 1) := by decide +kernel
theorem dX1_writeWaiting_22 : decode cX1_writeWaiting 22 = .ok (.if_icmp .lt 33, 3) := by decide +kernel
theorem dX1_writeWaiting_25 : decode cX1_writeWaiting 25 = .ok (.aload_n 0, 1) := by decide +kernel
theorem dX1_writeWaiting_26 : decode cX1_writeWaiting 26 = .ok (.dup, 1) := by decide +kernel
theorem dX1_writeWaiting_27 : decode cX1_writeWaiting 27 = .ok (.getfield 17, 3) := by decide +kernel
theorem dX1_writeWaiting_30 : decode cX1_writeWaiting 30 = .ok (.iconst 1, 1) := by decide +kernel
theorem dX1_writeWaiting_31 : decode cX1_writeWaiting 31 = .ok (.isub, 1) := by decide +kernel
theorem dX1_writeWaiting_32 : decode cX1_writeWaiting 32 = .ok (.putfield 17, 3) := by decide +kernel
theorem dX1_writeWaiting_35 : decode cX1_writeWaiting 35 = .ok (.aload_n 0, 1) := by decide +kernel
theorem dX1_writeWaiting_36 : decode cX1_writeWaiting 36 = .ok (.sipush 10007, 3) := by decide +kernel
theorem dX1_writeWaiting_39 : decode cX1_writeWaiting 39 = .ok (.aload_n 0, 1) := by decide +kernel
theorem dX1_writeWaiting_40 : decode cX1_writeWaiting 40 = .ok (.getfield 13, 3) := by decide +kernel
theorem dX1_writeWaiting_43 : decode cX1_writeWaiting 43 = .ok (.aload_n 0, 1) := by decide +kernel
theorem dX1_writeWaiting_44 : decode cX1_writeWaiting 44 = .ok (.getfield 17, 3) := by decide +kernel
theorem dX1_writeWaiting_47 : decode cX1_writeWaiting 47 = .ok (.iaload, 1) := by decide +kernel
theorem dX1_writeWaiting_48 : decode cX1_writeWaiting 48 = .ok (.iadd, 1) := by decide +kernel
theorem dX1_writeWaiting_49 : decode cX1_writeWaiting 49 = .ok (.invokevirtual 109, 3) := by decide +kernel
theorem dX1_writeWaiting_52 : decode cX1_writeWaiting 52 = .ok (.goto (-52), 3) := by decide +kernel
theorem dX1_writeWaiting_55 : decode cX1_writeWaiting 55 = .ok (.return_, 1) := by decide +kernel
theorem dX1_takeClose_0 : decode cX1_takeClose 0 = .ok (.aload_n 0, 1) := by decide +kernel
theorem dX1_takeClose_1 : decode cX1_takeClose 1 = .ok (.getfield 21, 3) := by decide +kernel
theorem dX1_takeClose_4 : decode cX1_takeClose 4 = .ok (.iconst 1, 1) := by decide +kernel
theorem dX1_takeClose_5 : decode cX1_takeClose 5 = .ok (.if_icmp .ge 5, 3) := by decide +kernel
theorem dX1_takeClose_8 : decode cX1_takeClose 8 = .ok (.iconst 1, 1) := by decide +kernel
theorem dX1_takeClose_9 : decode cX1_takeClose 9 = .ok (.ireturn, 1) := by decide +kernel
theorem dX1_takeClose_10 : decode cX1_takeClose 10 = .ok (.aload_n 0, 1) := by decide +kernel
theorem dX1_takeClose_11 : decode cX1_takeClose 11 = .ok (.dup, 1) := by decide +kernel
theorem dX1_takeClose_12 : decode cX1_takeClose 12 = .ok (.getfield 21, 3) := by decide +kernel
theorem dX1_takeClose_15 : decode cX1_takeClose 15 = .ok (.iconst 1, 1) := by decide +kernel
theorem dX1_takeClose_16 : decode cX1_takeClose 16 = .ok (.isub, 1) := by decide +kernel
theorem dX1_takeClose_17 : decode cX1_takeClose 17 = .ok (.putfield 21, 3) := by decide +kernel
theorem dX1_takeClose_20 : decode cX1_takeClose 20 = .ok (.aload_n 0, 1) := by decide +kernel
theorem dX1_takeClose_21 : decode cX1_takeClose 21 = .ok (.iconst 1, 1) := by decide +kernel
theorem dX1_takeClose_22 : decode cX1_takeClose 22 = .ok (.invokevirtual 68, 3) := by decide +kernel
theorem dX1_takeClose_25 : decode cX1_takeClose 25 = .ok (.aload_n 0, 1) := by decide +kernel
theorem dX1_takeClose_26 : decode cX1_takeClose 26 = .ok (.iconst 0, 1) := by decide +kernel
theorem dX1_takeClose_27 : decode cX1_takeClose 27 = .ok (.aload_n 0, 1) := by decide +kernel
theorem dX1_takeClose_28 : decode cX1_takeClose 28 = .ok (.getfield 17, 3) := by decide +kernel
theorem dX1_takeClose_31 : decode cX1_takeClose 31 = .ok (.iconst 1, 1) := by decide +kernel
theorem dX1_takeClose_32 : decode cX1_takeClose 32 = .ok (.isub, 1) := by decide +kernel
theorem dX1_takeClose_33 : decode cX1_takeClose 33 = .ok (.invokestatic 103, 3) := by decide +kernel
theorem dX1_takeClose_36 : decode cX1_takeClose 36 = .ok (.putfield 17, 3) := by decide +kernel
theorem dX1_takeClose_39 : decode cX1_takeClose 39 = .ok (.iconst 0, 1) := by decide +kernel
theorem dX1_takeClose_40 : decode cX1_takeClose 40 = .ok (.ireturn, 1) := by decide +kernel
theorem dX1_operatorHere_0 : decode cX1_operatorHere 0 = .ok (.aload_n 0, 1) := by decide +kernel
theorem dX1_operatorHere_1 : decode cX1_operatorHere 1 = .ok (.getfield 31, 3) := by decide +kernel
theorem dX1_operatorHere_4 : decode cX1_operatorHere 4 = .ok (.getfield 88, 3) := by decide +kernel
theorem dX1_operatorHere_7 : decode cX1_operatorHere 7 = .ok (.iconst 4, 1) := by decide +kernel
theorem dX1_operatorHere_8 : decode cX1_operatorHere 8 = .ok (.if_icmp .ne 23, 3) := by decide +kernel
theorem dX1_operatorHere_11 : decode cX1_operatorHere 11 = .ok (.aload_n 0, 1) := by decide +kernel
theorem dX1_operatorHere_12 : decode cX1_operatorHere 12 = .ok (.getfield 31, 3) := by decide +kernel
theorem dX1_operatorHere_15 : decode cX1_operatorHere 15 = .ok (.getfield 91, 3) := by decide +kernel
theorem dX1_operatorHere_18 : decode cX1_operatorHere 18 = .ok (.bipush 9, 2) := by decide +kernel
theorem dX1_operatorHere_20 : decode cX1_operatorHere 20 = .ok (.if_icmp .gt 11, 3) := by decide +kernel
theorem dX1_operatorHere_23 : decode cX1_operatorHere 23 = .ok (.aload_n 0, 1) := by decide +kernel
theorem dX1_operatorHere_24 : decode cX1_operatorHere 24 = .ok (.getfield 31, 3) := by decide +kernel
theorem dX1_operatorHere_27 : decode cX1_operatorHere 27 = .ok (.getfield 91, 3) := by decide +kernel
theorem dX1_operatorHere_30 : decode cX1_operatorHere 30 = .ok (.ireturn, 1) := by decide +kernel
theorem dX1_operatorHere_31 : decode cX1_operatorHere 31 = .ok (.aload_n 0, 1) := by decide +kernel
theorem dX1_operatorHere_32 : decode cX1_operatorHere 32 = .ok (.getfield 31, 3) := by decide +kernel
theorem dX1_operatorHere_35 : decode cX1_operatorHere 35 = .ok (.bipush 13, 2) := by decide +kernel
theorem dX1_operatorHere_37 : decode cX1_operatorHere 37 = .ok (.invokevirtual 78, 3) := by decide +kernel
theorem dX1_operatorHere_40 : decode cX1_operatorHere 40 = .ok (.ifCond .eq 6, 3) := by decide +kernel
theorem dX1_operatorHere_43 : decode cX1_operatorHere 43 = .ok (.bipush 10, 2) := by decide +kernel
theorem dX1_operatorHere_45 : decode cX1_operatorHere 45 = .ok (.ireturn, 1) := by decide +kernel
theorem dX1_operatorHere_46 : decode cX1_operatorHere 46 = .ok (.aload_n 0, 1) := by decide +kernel
theorem dX1_operatorHere_47 : decode cX1_operatorHere 47 = .ok (.getfield 31, 3) := by decide +kernel
theorem dX1_operatorHere_50 : decode cX1_operatorHere 50 = .ok (.bipush 12, 2) := by decide +kernel
theorem dX1_operatorHere_52 : decode cX1_operatorHere 52 = .ok (.invokevirtual 78, 3) := by decide +kernel
theorem dX1_operatorHere_55 : decode cX1_operatorHere 55 = .ok (.ifCond .eq 8, 3) := by decide +kernel
theorem dX1_operatorHere_58 : decode cX1_operatorHere 58 = .ok (.bipush 11, 2) := by decide +kernel
theorem dX1_operatorHere_60 : decode cX1_operatorHere 60 = .ok (.goto 4, 3) := by decide +kernel
theorem dX1_operatorHere_63 : decode cX1_operatorHere 63 = .ok (.iconst (-1), 1) := by decide +kernel
theorem dX1_operatorHere_64 : decode cX1_operatorHere 64 = .ok (.ireturn, 1) := by decide +kernel
theorem dX1_takeOperator_0 : decode cX1_takeOperator 0 = .ok (.aload_n 0, 1) := by decide +kernel
theorem dX1_takeOperator_1 : decode cX1_takeOperator 1 = .ok (.invokevirtual 100, 3) := by decide +kernel
theorem dX1_takeOperator_4 : decode cX1_takeOperator 4 = .ok (.istore_n 1, 1) := by decide +kernel
theorem dX1_takeOperator_5 : decode cX1_takeOperator 5 = .ok (.iload_n 1, 1) := by decide +kernel
theorem dX1_takeOperator_6 : decode cX1_takeOperator 6 = .ok (.iconst (-1), 1) := by decide +kernel
theorem dX1_takeOperator_7 : decode cX1_takeOperator 7 = .ok (.if_icmp .ne 5, 3) := by decide +kernel
theorem dX1_takeOperator_10 : decode cX1_takeOperator 10 = .ok (.iconst 1, 1) := by decide +kernel
theorem dX1_takeOperator_11 : decode cX1_takeOperator 11 = .ok (.ireturn, 1) := by decide +kernel
theorem dX1_takeOperator_12 : decode cX1_takeOperator 12 = .ok (.iload_n 1, 1) := by decide +kernel
theorem dX1_takeOperator_13 : decode cX1_takeOperator 13 = .ok (.invokestatic 81, 3) := by decide +kernel
theorem dX1_takeOperator_16 : decode cX1_takeOperator 16 = .ok (.istore_n 2, 1) := by decide +kernel
theorem dX1_takeOperator_17 : decode cX1_takeOperator 17 = .ok (.iload_n 2, 1) := by decide +kernel
theorem dX1_takeOperator_18 : decode cX1_takeOperator 18 = .ok (.iconst 4, 1) := by decide +kernel
theorem dX1_takeOperator_19 : decode cX1_takeOperator 19 = .ok (.if_icmp .eq 11, 3) := by decide +kernel
theorem dX1_takeOperator_22 : decode cX1_takeOperator 22 = .ok (.aload_n 0, 1) := by decide +kernel
theorem dX1_takeOperator_23 : decode cX1_takeOperator 23 = .ok (.iload_n 2, 1) := by decide +kernel
theorem dX1_takeOperator_24 : decode cX1_takeOperator 24 = .ok (.invokevirtual 68, 3) := by decide +kernel
theorem dX1_takeOperator_27 : decode cX1_takeOperator 27 = .ok (.goto 37, 3) := by decide +kernel
theorem dX1_takeOperator_30 : decode cX1_takeOperator 30 = .ok (.aload_n 0, 1) := by decide +kernel
theorem dX1_takeOperator_31 : decode cX1_takeOperator 31 = .ok (.iload_n 2, 1) := by decide +kernel
theorem dX1_takeOperator_32 : decode cX1_takeOperator 32 = .ok (.iconst 1, 1) := by decide +kernel
theorem dX1_takeOperator_33 : decode cX1_takeOperator 33 = .ok (.iadd, 1) := by decide +kernel
theorem dX1_takeOperator_34 : decode cX1_takeOperator 34 = .ok (.invokevirtual 68, 3) := by decide +kernel
theorem dX1_takeOperator_37 : decode cX1_takeOperator 37 = .ok (.aload_n 0, 1) := by decide +kernel
theorem dX1_takeOperator_38 : decode cX1_takeOperator 38 = .ok (.getfield 17, 3) := by decide +kernel
theorem dX1_takeOperator_41 : decode cX1_takeOperator 41 = .ok (.ifCond .le 23, 3) := by decide +kernel
theorem dX1_takeOperator_44 : decode cX1_takeOperator 44 = .ok (.aload_n 0, 1) := by decide +kernel
theorem dX1_takeOperator_45 : decode cX1_takeOperator 45 = .ok (.getfield 13, 3) := by decide +kernel
theorem dX1_takeOperator_48 : decode cX1_takeOperator 48 = .ok (.aload_n 0, 1) := by decide +kernel
theorem dX1_takeOperator_49 : decode cX1_takeOperator 49 = .ok (.getfield 17, 3) := by decide +kernel
theorem dX1_takeOperator_52 : decode cX1_takeOperator 52 = .ok (.iconst 1, 1) := by decide +kernel
theorem dX1_takeOperator_53 : decode cX1_takeOperator 53 = .ok (.isub, 1) := by decide +kernel
theorem dX1_takeOperator_54 : decode cX1_takeOperator 54 = .ok (.iaload, 1) := by decide +kernel
theorem dX1_takeOperator_55 : decode cX1_takeOperator 55 = .ok (.invokestatic 81, 3) := by decide +kernel
theorem dX1_takeOperator_58 : decode cX1_takeOperator 58 = .ok (.iload_n 2, 1) := by decide +kernel
theorem dX1_takeOperator_59 : decode cX1_takeOperator 59 = .ok (.if_icmp .ne 5, 3) := by decide +kernel
theorem dX1_takeOperator_62 : decode cX1_takeOperator 62 = .ok (.iconst 1, 1) := by decide +kernel
theorem dX1_takeOperator_63 : decode cX1_takeOperator 63 = .ok (.ireturn, 1) := by decide +kernel
theorem dX1_takeOperator_64 : decode cX1_takeOperator 64 = .ok (.aload_n 0, 1) := by decide +kernel
theorem dX1_takeOperator_65 : decode cX1_takeOperator 65 = .ok (.iconst 1, 1) := by decide +kernel
theorem dX1_takeOperator_66 : decode cX1_takeOperator 66 = .ok (.putfield 27, 3) := by decide +kernel
theorem dX1_takeOperator_69 : decode cX1_takeOperator 69 = .ok (.aload_n 0, 1) := by decide +kernel
theorem dX1_takeOperator_70 : decode cX1_takeOperator 70 = .ok (.iload_n 1, 1) := by decide +kernel
theorem dX1_takeOperator_71 : decode cX1_takeOperator 71 = .ok (.invokevirtual 85, 3) := by decide +kernel
theorem dX1_takeOperator_74 : decode cX1_takeOperator 74 = .ok (.ireturn, 1) := by decide +kernel
theorem dX8_isLetter_0 : decode cX8_isLetter 0 = .ok (.iload_n 0, 1) := by decide +kernel
theorem dX8_isLetter_1 : decode cX8_isLetter 1 = .ok (.bipush 97, 2) := by decide +kernel
theorem dX8_isLetter_3 : decode cX8_isLetter 3 = .ok (.if_icmp .lt 13, 3) := by decide +kernel
theorem dX8_isLetter_6 : decode cX8_isLetter 6 = .ok (.iload_n 0, 1) := by decide +kernel
theorem dX8_isLetter_7 : decode cX8_isLetter 7 = .ok (.bipush 122, 2) := by decide +kernel
theorem dX8_isLetter_9 : decode cX8_isLetter 9 = .ok (.if_icmp .gt 7, 3) := by decide +kernel
theorem dX8_isLetter_12 : decode cX8_isLetter 12 = .ok (.iconst 1, 1) := by decide +kernel
theorem dX8_isLetter_13 : decode cX8_isLetter 13 = .ok (.goto 4, 3) := by decide +kernel
theorem dX8_isLetter_16 : decode cX8_isLetter 16 = .ok (.iconst 0, 1) := by decide +kernel
theorem dX8_isLetter_17 : decode cX8_isLetter 17 = .ok (.ireturn, 1) := by decide +kernel
section
variable {p : Program} {l : Launch} {e : Env} {s : State} {m : MethodId} {args : Array Value} {below : List Frame} {meth : Method} {c : Code} {D : va_G} {aC : Nat → ClassId} {B : Nat}
set_option maxHeartbeats 4000000 in
set_option maxRecDepth 100000 in
theorem c0_start (l : Launch) (D : va_G) (aC : Nat → ClassId) (B : Nat) {F : Nat} {a1 : Nat} (ha1 : a1 < 69) (hYa1 : yC.1 a1 = (7, 0)) {a2 : Int32} {mem : g_M} {q0 : g_M} (he : f0_start F a1 a2 mem = some q0) : g_Met l yX0_start cX0_start 3 none 1 D aC B yC 69 mem [.ref (B + 53), .ref (B + a1), .int a2] none q0 := by
  refine g_ofW (by decide) (Nat.le_of_ble_eq_true rfl) ?_
  intro p e s m args below meth c ls E hml hret hlk hM hl
  have E : g_C p s m args c cX0_start RX0 D aC (g_Zs (g_A B 69)) := E
  have hx := E.1
  have hb := E.2.1
  have hown := E.2.2.1
  have hts := E.2.2.2.1
  have hl : lv_has ls 3 [(0, .ref (B + 53)), (1, .ref (B + a1)), (2, .int a2)] := hl
  unfold f0_start at he
  refine lv_aload_n hx hb dX0_start_0 rfl (lv_at hl 0 rfl) ?_
  refine lv_aload_n hx hb dX0_start_1 rfl (lv_at hl 1 rfl) ?_
  refine g_putR E hM (o := 53) (Nat.le_of_ble_eq_true rfl) rfl fp_X0_38 rfl dX0_start_2 (fun H locs hM => ?_)
  obtain ⟨m1, hm1, he⟩ := g_let_ex he
  rw [← hm1] at hM
  refine lv_aload_n hx hb dX0_start_5 rfl (lv_at hl 0 rfl) ?_
  refine lv_aload_n hx hb dX0_start_6 rfl (lv_at hl 1 rfl) ?_
  obtain ⟨q2, hqq2, hq2, hYq2, he⟩ := g_dr_some he
  refine g_getD E hM (o := a1) ha1 hYa1 fl_X0_42 (pn_7_0 a1 ha1 hYa1) hqq2 dX0_start_7 ?_
  refine g_putR E hM (o := 53) (Nat.le_of_ble_eq_true rfl) rfl fp_X0_48 rfl dX0_start_10 (fun H locs hM => ?_)
  obtain ⟨m3, hm3, he⟩ := g_let_ex he
  rw [← hm3] at hM
  refine lv_aload_n hx hb dX0_start_13 rfl (lv_at hl 0 rfl) ?_
  refine lv_iload_n hx hb dX0_start_14 rfl (lv_at hl 2 rfl) ?_
  refine g_putI E hM (o := 53) (Nat.le_of_ble_eq_true rfl) rfl fp_X0_22 dX0_start_15 (fun H locs hM => ?_)
  obtain ⟨m4, hm4, he⟩ := g_let_ex he
  rw [← hm4] at hM
  refine lv_aload_n hx hb dX0_start_18 rfl (lv_at hl 0 rfl) ?_
  refine lv_aload_n hx hb dX0_start_19 rfl (lv_at hl 0 rfl) ?_
  obtain ⟨q5, hqq5, hq5, hYq5, he⟩ := g_dr_some he
  refine g_getD E hM (o := 53) (Nat.le_of_ble_eq_true rfl) rfl fl_X0_48 rfl hqq5 dX0_start_20 ?_
  refine g_getI E hM (o := q5) hq5 hYq5 fl_X0_49 dX0_start_23 ?_
  refine g_putI E hM (o := 53) (Nat.le_of_ble_eq_true rfl) rfl fp_X0_9 dX0_start_26 (fun H locs hM => ?_)
  obtain ⟨m6, hm6, he⟩ := g_let_ex he
  rw [← hm6] at hM
  refine lv_aload_n hx hb dX0_start_29 rfl (lv_at hl 0 rfl) ?_
  refine lv_iconst (v := (0 : Int32)) hx hb dX0_start_30 rfl ?_
  refine g_putZ E hM (o := 53) (Nat.le_of_ble_eq_true rfl) rfl fp_X0_15 (Or.inl rfl) dX0_start_31 (fun H locs hM => ?_)
  obtain ⟨m7, hm7, he⟩ := g_let_ex he
  rw [← hm7] at hM
  refine lv_aload_n hx hb dX0_start_34 rfl (lv_at hl 0 rfl) ?_
  refine lv_iconst (v := (-1 : Int32)) hx hb dX0_start_35 rfl ?_
  refine g_putI E hM (o := 53) (Nat.le_of_ble_eq_true rfl) rfl fp_X0_19 dX0_start_36 (fun H locs hM => ?_)
  obtain ⟨m8, hm8, he⟩ := g_let_ex he
  rw [← hm8] at hM
  cases he
  exact g_vret E hM hret hlk dX0_start_39

set_option maxHeartbeats 4000000 in
set_option maxRecDepth 100000 in
theorem c9_wantAt (l : Launch) (D : va_G) (aC : Nat → ClassId) (B : Nat) {F : Nat} {t : Nat} (ht : t < 69) (hY : yC.1 t = (9, 0)) {a1 : Int32} {a2 : Int32} {mem : g_M} {q0 : Int32} (he : f9_wantAt F t a1 a2 mem = some q0) : g_Met l yX9_wantAt cX9_wantAt 3 (some .int) 1 D aC B yC 69 mem [.ref (B + t), .int a1, .int a2] (some (.int q0)) mem := by
  refine g_ofW (by decide) (Nat.le_of_ble_eq_true rfl) ?_
  intro p e s m args below meth c ls E hml hret hlk hM hl
  have E : g_C p s m args c cX9_wantAt RX9 D aC (g_Zs (g_A B 69)) := E
  have hx := E.1
  have hb := E.2.1
  have hown := E.2.2.1
  have hts := E.2.2.2.1
  have hl : lv_has ls 3 [(0, .ref (B + t)), (1, .int a1), (2, .int a2)] := hl
  unfold f9_wantAt at he
  refine lv_aload_n hx hb dX9_wantAt_0 rfl (lv_at hl 0 rfl) ?_
  refine g_getP E hM (o := t) ht hY fl_X9_40 (q := (t + 8)) (pt_9_9 t ht hY).1 dX9_wantAt_1 ?_
  refine lv_iload_n hx hb dX9_wantAt_4 rfl (lv_at hl 1 rfl) ?_
  refine lv_iconst (v := (5 : Int32)) hx hb dX9_wantAt_5 rfl ?_
  refine lv_imul hx hb dX9_wantAt_6 ?_
  refine lv_iload_n hx hb dX9_wantAt_7 rfl (lv_at hl 2 rfl) ?_
  refine lv_iadd hx hb dX9_wantAt_8 ?_
  obtain ⟨h1, he⟩ := g_ck_some he
  refine g_iald E hM (o := (t + 8)) (pt_9_9 t ht hY).2.1 (pt_9_9 t ht hY).2.2 h1 dX9_wantAt_9 ?_
  cases he
  exact g_iret E hM hret hlk dX9_wantAt_10

set_option maxHeartbeats 4000000 in
set_option maxRecDepth 100000 in
theorem w7_sortsAt_b41 (E : g_C p s m args c cX7_sortsAt RX7 D aC (g_Zs (g_A B 69))) (hml : c.maxLocals = 5) (hret : meth.sig.returnType = (some .int)) (hlk : meth.locks = false) {F : Nat} {q0 : Int32} {t : Nat} {a1 : Int32} {a2 : Int32} (ht : t < 69) (hY : yC.1 t = (7, 0)) {mem : g_M} {s5 : Int32 → Int32 → Option (Int32)} (hs5 : ∀ (v3 : Int32) (v4 : Int32) (H : Heap) (locs : List Loc) (ls : Array Slot), g_At D aC B yC 69 mem s.heap H locs → lv_has ls 5 [(0, .ref (B + t)), (1, .int a1), (2, .int a2), (3, .int v3), (4, .int v4)] → s5 v3 v4 = some q0 → W p l e (g_rm 1) s m args below meth c H locs 0 0 (g_MQ below D aC B yC 69 args s (some (.int q0)) mem) (F0 m 5 ls [])) : ∀ (v3 : Int32) (v4 : Int32) (H : Heap) (locs : List Loc) (ls : Array Slot), g_At D aC B yC 69 mem s.heap H locs → lv_has ls 5 [(0, .ref (B + t)), (1, .int a1), (2, .int a2), (3, .int v3), (4, .int v4)] → f7_sortsAt_b41 F t a1 a2 s5 mem v3 v4 = some q0 → W p l e (g_rm 1) s m args below meth c H locs 0 0 (g_MQ below D aC B yC 69 args s (some (.int q0)) mem) (F0 m 41 ls []) := by
  intro v3 v4 H locs ls hM hl he
  unfold f7_sortsAt_b41 at he
  have hx := E.1
  have hb := E.2.1
  have hown := E.2.2.1
  have hts := E.2.2.2.1
  obtain ⟨x1, hx1, he⟩ := g_let_ex he
  refine lv_iinc (v := x1) (lv' := [(4, .int x1), (0, .ref (B + t)), (1, .int a1), (2, .int a2), (3, .int v3)]) hx hb dX7_sortsAt_41 hl (k := 4) rfl (by rw [hx1]; rfl) (by decide) rfl (fun ls hl => ?_)
  refine lv_goto (tgt := 5) hx hb dX7_sortsAt_44 (by decide) ?_
  exact hs5 _ _ _ _ _ hM (lv_sub hl [1, 2, 3, 4, 0] rfl) he

set_option maxHeartbeats 4000000 in
set_option maxRecDepth 100000 in
theorem w7_sortsAt_b5_body (E : g_C p s m args c cX7_sortsAt RX7 D aC (g_Zs (g_A B 69))) (hml : c.maxLocals = 5) (hret : meth.sig.returnType = (some .int)) (hlk : meth.locks = false) {F : Nat} {q0 : Int32} {t : Nat} {a1 : Int32} {a2 : Int32} (ht : t < 69) (hY : yC.1 t = (7, 0)) {mem : g_M} {s5 : Int32 → Int32 → Option (Int32)} (hs5 : ∀ (v3 : Int32) (v4 : Int32) (H : Heap) (locs : List Loc) (ls : Array Slot), g_At D aC B yC 69 mem s.heap H locs → lv_has ls 5 [(0, .ref (B + t)), (1, .int a1), (2, .int a2), (3, .int v3), (4, .int v4)] → s5 v3 v4 = some q0 → W p l e (g_rm 1) s m args below meth c H locs 0 0 (g_MQ below D aC B yC 69 args s (some (.int q0)) mem) (F0 m 5 ls [])) : ∀ (v3 : Int32) (v4 : Int32) (H : Heap) (locs : List Loc) (ls : Array Slot), g_At D aC B yC 69 mem s.heap H locs → lv_has ls 5 [(0, .ref (B + t)), (1, .int a1), (2, .int a2), (3, .int v3), (4, .int v4)] → f7_sortsAt_b5_body F t a1 a2 s5 mem v3 v4 = some q0 → W p l e (g_rm 1) s m args below meth c H locs 0 0 (g_MQ below D aC B yC 69 args s (some (.int q0)) mem) (F0 m 5 ls []) := by
  intro v3 v4 H locs ls hM hl he
  unfold f7_sortsAt_b5_body at he
  have hx := E.1
  have hb := E.2.1
  have hown := E.2.2.1
  have hts := E.2.2.2.1
  refine lv_iload hx hb dX7_sortsAt_5 (lv_at hl 4 rfl) ?_
  refine lv_aload_n hx hb dX7_sortsAt_7 rfl (lv_at hl 0 rfl) ?_
  obtain ⟨q2, hqq2, hq2, hYq2, he⟩ := g_dr_some he
  refine g_getD E hM (o := t) ht hY fl_X7_40 (pn_7_0 t ht hY) hqq2 dX7_sortsAt_8 ?_
  refine g_getP E hM (o := q2) hq2 hYq2 fl_X7_73 (q := (q2 + 1)) (pt_9_0 q2 hq2 hYq2).1 dX7_sortsAt_11 ?_
  refine lv_iconst (v := (1 : Int32)) hx hb dX7_sortsAt_14 rfl ?_
  obtain ⟨h3, he⟩ := g_ck_some he
  refine g_iald E hM (o := (q2 + 1)) (pt_9_0 q2 hq2 hYq2).2.1 (pt_9_0 q2 hq2 hYq2).2.2 h3 dX7_sortsAt_15 ?_
  refine lv_icmp_ge (tgt := 47) hx hb dX7_sortsAt_16 (by decide) (fun h4 => ?_) (fun h4 => ?_)
  · rw [if_neg (Int32.not_lt.mpr h4)] at he
    refine lv_iload_n hx hb dX7_sortsAt_47 rfl (lv_at hl 3 rfl) ?_
    cases he
    exact g_iret E hM hret hlk dX7_sortsAt_48
  · rw [if_pos (Int32.not_le.mp h4)] at he
    refine lv_aload_n hx hb dX7_sortsAt_19 rfl (lv_at hl 0 rfl) ?_
    refine g_getP E hM (o := t) ht hY fl_X7_28 (q := (t + 3)) (pt_7_6 t ht hY).1 dX7_sortsAt_20 ?_
    refine lv_iload_n hx hb dX7_sortsAt_23 rfl (lv_at hl 1 rfl) ?_
    refine lv_iconst (v := (5 : Int32)) hx hb dX7_sortsAt_24 rfl ?_
    refine lv_imul hx hb dX7_sortsAt_25 ?_
    refine lv_iload hx hb dX7_sortsAt_26 (lv_at hl 4 rfl) ?_
    refine lv_iadd hx hb dX7_sortsAt_28 ?_
    obtain ⟨h5, he⟩ := g_ck_some he
    refine g_iald E hM (o := (t + 3)) (pt_7_6 t ht hY).2.1 (pt_7_6 t ht hY).2.2 h5 dX7_sortsAt_29 ?_
    refine lv_iload_n hx hb dX7_sortsAt_30 rfl (lv_at hl 2 rfl) ?_
    refine lv_icmp_ne (tgt := 41) hx hb dX7_sortsAt_31 (by decide) (fun h6 => ?_) (fun h6 => ?_)
    · rw [if_neg h6] at he
      exact w7_sortsAt_b41 (F := F) (t := t) (a1 := a1) (a2 := a2) E hml hret hlk ht hY hs5 _ _ _ _ _ hM (lv_sub hl [0, 1, 2, 3, 4] rfl) he
    · rw [if_pos h6] at he
      refine lv_iload_n hx hb dX7_sortsAt_34 rfl (lv_at hl 3 rfl) ?_
      refine lv_iconst (v := (1 : Int32)) hx hb dX7_sortsAt_35 rfl ?_
      refine lv_iload hx hb dX7_sortsAt_36 (lv_at hl 4 rfl) ?_
      refine lv_ishl hx hb dX7_sortsAt_38 ?_
      refine lv_ior hx hb dX7_sortsAt_39 ?_
      obtain ⟨x7, hx7, he⟩ := g_let_ex he
      refine g_topI hx7 ?_
      refine lv_istore_n (lv' := [(3, .int x7), (0, .ref (B + t)), (1, .int a1), (2, .int a2), (4, .int v4)]) hx hb dX7_sortsAt_40 rfl hl (by decide) rfl (fun ls hl => ?_)
      exact w7_sortsAt_b41 (F := F) (t := t) (a1 := a1) (a2 := a2) E hml hret hlk ht hY hs5 _ _ _ _ _ hM (lv_sub hl [1, 2, 3, 0, 4] rfl) he

set_option maxHeartbeats 4000000 in
set_option maxRecDepth 100000 in
theorem w7_sortsAt_b5 (E : g_C p s m args c cX7_sortsAt RX7 D aC (g_Zs (g_A B 69))) (hml : c.maxLocals = 5) (hret : meth.sig.returnType = (some .int)) (hlk : meth.locks = false) {F : Nat} {q0 : Int32} {t : Nat} {a1 : Int32} {a2 : Int32} (ht : t < 69) (hY : yC.1 t = (7, 0)) {mem : g_M} : ∀ (v3 : Int32) (v4 : Int32) (H : Heap) (locs : List Loc) (ls : Array Slot), g_At D aC B yC 69 mem s.heap H locs → lv_has ls 5 [(0, .ref (B + t)), (1, .int a1), (2, .int a2), (3, .int v3), (4, .int v4)] → f7_sortsAt_b5 F t a1 a2 mem v3 v4 = some q0 → W p l e (g_rm 1) s m args below meth c H locs 0 0 (g_MQ below D aC B yC 69 args s (some (.int q0)) mem) (F0 m 5 ls []) := by
  have key : ∀ (nn : Nat) (x : Int32 × Int32) (H : Heap) (locs : List Loc) (ls : Array Slot), g_At D aC B yC 69 mem s.heap H locs → lv_has ls 5 [(0, .ref (B + t)), (1, .int a1), (2, .int a2), (3, .int x.1), (4, .int x.2)] → g_fix (fun sf x => f7_sortsAt_b5_body F t a1 a2 (fun v3 v4 => sf (v3, v4)) mem x.1 x.2) nn x = some q0 → W p l e (g_rm 1) s m args below meth c H locs 0 0 (g_MQ below D aC B yC 69 args s (some (.int q0)) mem) (F0 m 5 ls []) := by
    intro nn
    induction nn with
    | zero => intro x H locs ls hM hl he; simp [g_fix] at he
    | succ nn ih =>
      intro x H locs ls hM hl he
      exact w7_sortsAt_b5_body (F := F) (t := t) (a1 := a1) (a2 := a2) E hml hret hlk ht hY (fun v3 v4 H locs ls hM hl he => ih (v3, v4) H locs ls hM hl he) x.1 x.2 H locs ls hM hl he
  intro v3 v4 H locs ls hM hl he
  exact key F (v3, v4) H locs ls hM hl he

set_option maxHeartbeats 4000000 in
set_option maxRecDepth 100000 in
theorem c7_sortsAt (l : Launch) (D : va_G) (aC : Nat → ClassId) (B : Nat) {F : Nat} {t : Nat} (ht : t < 69) (hY : yC.1 t = (7, 0)) {a1 : Int32} {a2 : Int32} {mem : g_M} {q0 : Int32} (he : f7_sortsAt F t a1 a2 mem = some q0) : g_Met l yX7_sortsAt cX7_sortsAt 5 (some .int) 1 D aC B yC 69 mem [.ref (B + t), .int a1, .int a2] (some (.int q0)) mem := by
  refine g_ofW (by decide) (Nat.le_of_ble_eq_true rfl) ?_
  intro p e s m args below meth c ls E hml hret hlk hM hl
  have E : g_C p s m args c cX7_sortsAt RX7 D aC (g_Zs (g_A B 69)) := E
  have hx := E.1
  have hb := E.2.1
  have hown := E.2.2.1
  have hts := E.2.2.2.1
  have hl : lv_has ls 5 [(0, .ref (B + t)), (1, .int a1), (2, .int a2)] := hl
  unfold f7_sortsAt at he
  refine lv_iconst (v := (0 : Int32)) hx hb dX7_sortsAt_0 rfl ?_
  refine lv_istore_n (lv' := [(3, .int (0 : Int32)), (0, .ref (B + t)), (1, .int a1), (2, .int a2)]) hx hb dX7_sortsAt_1 rfl hl (by decide) rfl (fun ls hl => ?_)
  refine lv_iconst (v := (0 : Int32)) hx hb dX7_sortsAt_2 rfl ?_
  refine lv_istore (lv' := [(4, .int (0 : Int32)), (3, .int (0 : Int32)), (0, .ref (B + t)), (1, .int a1), (2, .int a2)]) hx hb dX7_sortsAt_3 hl (by decide) rfl (fun ls hl => ?_)
  exact w7_sortsAt_b5 (F := F) (t := t) (a1 := a1) (a2 := a2) E hml hret hlk ht hY _ _ _ _ _ hM (lv_sub hl [2, 3, 4, 1, 0] rfl) he

set_option maxHeartbeats 4000000 in
set_option maxRecDepth 100000 in
theorem c7_lacks (l : Launch) (D : va_G) (aC : Nat → ClassId) (B : Nat) {F : Nat} {t : Nat} (ht : t < 69) (hY : yC.1 t = (7, 0)) {a1 : Int32} {a2 : Int32} {a3 : Int32} {mem : g_M} {q0 : Int32} (he : f7_lacks F t a1 a2 a3 mem = some q0) : g_Met l yX7_lacks cX7_lacks 4 (some .int) 2 D aC B yC 69 mem [.ref (B + t), .int a1, .int a2, .int a3] (some (.int q0)) mem := by
  refine g_ofW (by decide) (Nat.le_of_ble_eq_true rfl) ?_
  intro p e s m args below meth c ls E hml hret hlk hM hl
  have E : g_C p s m args c cX7_lacks RX7 D aC (g_Zs (g_A B 69)) := E
  have hx := E.1
  have hb := E.2.1
  have hown := E.2.2.1
  have hts := E.2.2.2.1
  have hl : lv_has ls 4 [(0, .ref (B + t)), (1, .int a1), (2, .int a2), (3, .int a3)] := hl
  unfold f7_lacks at he
  refine lv_aload_n hx hb dX7_lacks_0 rfl (lv_at hl 0 rfl) ?_
  obtain ⟨q1, hqq1, hq1, hYq1, he⟩ := g_dr_some he
  refine g_getD E hM (o := t) ht hY fl_X7_40 (pn_7_0 t ht hY) hqq1 dX7_lacks_1 ?_
  refine g_getP E hM (o := q1) hq1 hYq1 fl_X7_85 (q := (q1 + 6)) (pt_9_5 q1 hq1 hYq1).1 dX7_lacks_4 ?_
  refine lv_iload_n hx hb dX7_lacks_7 rfl (lv_at hl 2 rfl) ?_
  obtain ⟨h2, he⟩ := g_ck_some he
  refine g_iald E hM (o := (q1 + 6)) (pt_9_5 q1 hq1 hYq1).2.1 (pt_9_5 q1 hq1 hYq1).2.2 h2 dX7_lacks_8 ?_
  refine lv_aload_n hx hb dX7_lacks_9 rfl (lv_at hl 0 rfl) ?_
  refine lv_iload_n hx hb dX7_lacks_10 rfl (lv_at hl 1 rfl) ?_
  refine lv_iconst (v := (1 : Int32)) hx hb dX7_lacks_11 rfl ?_
  refine lv_iload_n hx hb dX7_lacks_12 rfl (lv_at hl 3 rfl) ?_
  refine lv_isub hx hb dX7_lacks_13 ?_
  obtain ⟨r3, hcr3, he⟩ := g_bind he
  refine g_callV [.int a1, .int ((1 : Int32) - a3)] (rest := [.int (mem.1 (q1 + 6) a2.toNatClampNeg)]) E hml hl.1 hM cv_X7_76 (c7_sortsAt l D aC B ht hY hcr3) (o := t) ht hY (by decide) rfl rfl (Nat.le_of_ble_eq_true rfl) dX7_lacks_14 (fun H locs hM => ?_)
  refine W.eq (g2 := F0 m 17 ls [.int r3, .int (mem.1 (q1 + 6) a2.toNatClampNeg)]) rfl ?_
  refine lv_iand hx hb dX7_lacks_17 ?_
  cases he
  exact g_iret E hM hret hlk dX7_lacks_18

set_option maxHeartbeats 4000000 in
set_option maxRecDepth 100000 in
theorem c2_isTold (l : Launch) (D : va_G) (aC : Nat → ClassId) (B : Nat) {F : Nat} {t : Nat} (ht : t < 69) (hY : yC.1 t = (2, 0)) {a1 : Int32} {mem : g_M} {q0 : Int32} (he : f2_isTold F t a1 mem = some q0) : g_Met l yX2_isTold cX2_isTold 2 (some .boolean) 1 D aC B yC 69 mem [.ref (B + t), .int a1] (some (.int q0)) mem := by
  refine g_ofW (by decide) (Nat.le_of_ble_eq_true rfl) ?_
  intro p e s m args below meth c ls E hml hret hlk hM hl
  have E : g_C p s m args c cX2_isTold RX2 D aC (g_Zs (g_A B 69)) := E
  have hx := E.1
  have hb := E.2.1
  have hown := E.2.2.1
  have hts := E.2.2.2.1
  have hl : lv_has ls 2 [(0, .ref (B + t)), (1, .int a1)] := hl
  unfold f2_isTold at he
  refine lv_aload_n hx hb dX2_isTold_0 rfl (lv_at hl 0 rfl) ?_
  refine g_getP E hM (o := t) ht hY fl_X2_17 (q := (t + 2)) (pt_2_1 t ht hY).1 dX2_isTold_1 ?_
  refine lv_iload_n hx hb dX2_isTold_4 rfl (lv_at hl 1 rfl) ?_
  obtain ⟨h1, he⟩ := g_ck_some he
  refine g_iald E hM (o := (t + 2)) (pt_2_1 t ht hY).2.1 (pt_2_1 t ht hY).2.2 h1 dX2_isTold_5 ?_
  refine lv_aload_n hx hb dX2_isTold_6 rfl (lv_at hl 0 rfl) ?_
  refine g_getP E hM (o := t) ht hY fl_X2_20 (q := (t + 3)) (pt_2_2 t ht hY).1 dX2_isTold_7 ?_
  refine lv_iload_n hx hb dX2_isTold_10 rfl (lv_at hl 1 rfl) ?_
  obtain ⟨h2, he⟩ := g_ck_some he
  refine g_iald E hM (o := (t + 3)) (pt_2_2 t ht hY).2.1 (pt_2_2 t ht hY).2.2 h2 dX2_isTold_11 ?_
  refine lv_icmp_ge (tgt := 19) hx hb dX2_isTold_12 (by decide) (fun h3 => ?_) (fun h3 => ?_)
  · rw [if_neg (Int32.not_lt.mpr h3)] at he
    refine lv_iconst (v := (0 : Int32)) hx hb dX2_isTold_19 rfl ?_
    cases he
    exact g_zret E hM hret hlk (Or.inl rfl) dX2_isTold_20
  · rw [if_pos (Int32.not_le.mp h3)] at he
    refine lv_iconst (v := (1 : Int32)) hx hb dX2_isTold_15 rfl ?_
    refine lv_goto (tgt := 20) hx hb dX2_isTold_16 (by decide) ?_
    cases he
    exact g_zret E hM hret hlk (Or.inr rfl) dX2_isTold_20

set_option maxHeartbeats 4000000 in
set_option maxRecDepth 100000 in
theorem c0_nameBoat (l : Launch) (D : va_G) (aC : Nat → ClassId) (B : Nat) {F : Nat} {mem : g_M} {q0 : g_M} (he : f0_nameBoat F mem = some q0) : g_Met l yX0_nameBoat cX0_nameBoat 1 none 1 D aC B yC 69 mem [.ref (B + 53)] none q0 := by
  refine g_ofW (by decide) (Nat.le_of_ble_eq_true rfl) ?_
  intro p e s m args below meth c ls E hml hret hlk hM hl
  have E : g_C p s m args c cX0_nameBoat RX0 D aC (g_Zs (g_A B 69)) := E
  have hx := E.1
  have hb := E.2.1
  have hown := E.2.2.1
  have hts := E.2.2.2.1
  have hl : lv_has ls 1 [(0, .ref (B + 53))] := hl
  unfold f0_nameBoat at he
  refine lv_aload_n hx hb dX0_nameBoat_0 rfl (lv_at hl 0 rfl) ?_
  refine g_getP E hM (o := 53) (Nat.le_of_ble_eq_true rfl) rfl fl_X0_34 (q := 55) rfl dX0_nameBoat_1 ?_
  refine lv_iconst (v := (3 : Int32)) hx hb dX0_nameBoat_4 rfl ?_
  refine lv_aload_n hx hb dX0_nameBoat_5 rfl (lv_at hl 0 rfl) ?_
  refine g_getI E hM (o := 53) (Nat.le_of_ble_eq_true rfl) rfl fl_X0_29 dX0_nameBoat_6 ?_
  refine lv_i2l hx hb dX0_nameBoat_9 rfl ?_
  obtain ⟨h1, he⟩ := g_ck_some he
  refine g_last E hM (o := 55) (Nat.le_of_ble_eq_true rfl) rfl h1 dX0_nameBoat_10 (fun H locs hM => ?_)
  obtain ⟨m2, hm2, he⟩ := g_let_ex he
  rw [← hm2] at hM
  refine lv_aload_n hx hb dX0_nameBoat_11 rfl (lv_at hl 0 rfl) ?_
  refine g_getP E hM (o := 53) (Nat.le_of_ble_eq_true rfl) rfl fl_X0_34 (q := 55) rfl dX0_nameBoat_12 ?_
  refine lv_bipush (v := (6 : Int32)) hx hb dX0_nameBoat_15 rfl ?_
  refine lv_aload_n hx hb dX0_nameBoat_17 rfl (lv_at hl 0 rfl) ?_
  obtain ⟨q3, hqq3, hq3, hYq3, he⟩ := g_dr_some he
  refine g_getD E hM (o := 53) (Nat.le_of_ble_eq_true rfl) rfl fl_X0_38 rfl hqq3 dX0_nameBoat_18 ?_
  refine g_getI E hM (o := q3) hq3 hYq3 fl_X0_70 dX0_nameBoat_21 ?_
  refine lv_i2l hx hb dX0_nameBoat_24 rfl ?_
  obtain ⟨h4, he⟩ := g_ck_some he
  refine g_last E hM (o := 55) (Nat.le_of_ble_eq_true rfl) rfl h4 dX0_nameBoat_25 (fun H locs hM => ?_)
  obtain ⟨m5, hm5, he⟩ := g_let_ex he
  rw [← hm5] at hM
  cases he
  exact g_vret E hM hret hlk dX0_nameBoat_26

set_option maxHeartbeats 4000000 in
set_option maxRecDepth 100000 in
theorem cjbc (l : Launch) (D : va_G) (aC : Nat → ClassId) (B : Nat) {F : Nat} {a0 : Int32} {mem : g_M} {q0 : Int32} (he : fjbc F a0 mem = some q0) : g_Met l yJ6_bitCount_0f7a4 cJ6_bitCount_0f7a4 1 (some .int) 1 D aC B yC 69 mem [.int a0] (some (.int q0)) mem := by
  refine g_ofW (by decide) (Nat.le_of_ble_eq_true rfl) ?_
  intro p e s m args below meth c ls E hml hret hlk hM hl
  have E : g_C p s m args c cJ6_bitCount_0f7a4 RJ6 D aC (g_Zs (g_A B 69)) := E
  have hx := E.1
  have hb := E.2.1
  have hown := E.2.2.1
  have hts := E.2.2.2.1
  have hl : lv_has ls 1 [(0, .int a0)] := hl
  unfold fjbc at he
  refine lv_iload_n hx hb dJ6_bitCount_0f7a4_0 rfl (lv_at hl 0 rfl) ?_
  refine lv_iload_n hx hb dJ6_bitCount_0f7a4_1 rfl (lv_at hl 0 rfl) ?_
  refine lv_iconst (v := (1 : Int32)) hx hb dJ6_bitCount_0f7a4_2 rfl ?_
  refine lv_iushr hx hb dJ6_bitCount_0f7a4_3 rfl ?_
  refine lv_ldcw (v := (1431655765 : Int32)) hx hb hown (hts _ kc_J6_265) dJ6_bitCount_0f7a4_4 ?_
  refine lv_iand hx hb dJ6_bitCount_0f7a4_7 ?_
  refine lv_isub hx hb dJ6_bitCount_0f7a4_8 ?_
  obtain ⟨x1, hx1, he⟩ := g_let_ex he
  refine g_topI hx1 ?_
  refine lv_istore_n (lv' := [(0, .int x1)]) hx hb dJ6_bitCount_0f7a4_9 rfl hl (by decide) rfl (fun ls hl => ?_)
  refine lv_iload_n hx hb dJ6_bitCount_0f7a4_10 rfl (lv_at hl 0 rfl) ?_
  refine lv_ldcw (v := (858993459 : Int32)) hx hb hown (hts _ kc_J6_266) dJ6_bitCount_0f7a4_11 ?_
  refine lv_iand hx hb dJ6_bitCount_0f7a4_14 ?_
  refine lv_iload_n hx hb dJ6_bitCount_0f7a4_15 rfl (lv_at hl 0 rfl) ?_
  refine lv_iconst (v := (2 : Int32)) hx hb dJ6_bitCount_0f7a4_16 rfl ?_
  refine lv_iushr hx hb dJ6_bitCount_0f7a4_17 rfl ?_
  refine lv_ldcw (v := (858993459 : Int32)) hx hb hown (hts _ kc_J6_266) dJ6_bitCount_0f7a4_18 ?_
  refine lv_iand hx hb dJ6_bitCount_0f7a4_21 ?_
  refine lv_iadd hx hb dJ6_bitCount_0f7a4_22 ?_
  obtain ⟨x2, hx2, he⟩ := g_let_ex he
  refine g_topI hx2 ?_
  refine lv_istore_n (lv' := [(0, .int x2)]) hx hb dJ6_bitCount_0f7a4_23 rfl hl (by decide) rfl (fun ls hl => ?_)
  refine lv_iload_n hx hb dJ6_bitCount_0f7a4_24 rfl (lv_at hl 0 rfl) ?_
  refine lv_iload_n hx hb dJ6_bitCount_0f7a4_25 rfl (lv_at hl 0 rfl) ?_
  refine lv_iconst (v := (4 : Int32)) hx hb dJ6_bitCount_0f7a4_26 rfl ?_
  refine lv_iushr hx hb dJ6_bitCount_0f7a4_27 rfl ?_
  refine lv_iadd hx hb dJ6_bitCount_0f7a4_28 ?_
  refine lv_ldcw (v := (252645135 : Int32)) hx hb hown (hts _ kc_J6_267) dJ6_bitCount_0f7a4_29 ?_
  refine lv_iand hx hb dJ6_bitCount_0f7a4_32 ?_
  obtain ⟨x3, hx3, he⟩ := g_let_ex he
  refine g_topI hx3 ?_
  refine lv_istore_n (lv' := [(0, .int x3)]) hx hb dJ6_bitCount_0f7a4_33 rfl hl (by decide) rfl (fun ls hl => ?_)
  refine lv_iload_n hx hb dJ6_bitCount_0f7a4_34 rfl (lv_at hl 0 rfl) ?_
  refine lv_iload_n hx hb dJ6_bitCount_0f7a4_35 rfl (lv_at hl 0 rfl) ?_
  refine lv_bipush (v := (8 : Int32)) hx hb dJ6_bitCount_0f7a4_36 rfl ?_
  refine lv_iushr hx hb dJ6_bitCount_0f7a4_38 rfl ?_
  refine lv_iadd hx hb dJ6_bitCount_0f7a4_39 ?_
  obtain ⟨x4, hx4, he⟩ := g_let_ex he
  refine g_topI hx4 ?_
  refine lv_istore_n (lv' := [(0, .int x4)]) hx hb dJ6_bitCount_0f7a4_40 rfl hl (by decide) rfl (fun ls hl => ?_)
  refine lv_iload_n hx hb dJ6_bitCount_0f7a4_41 rfl (lv_at hl 0 rfl) ?_
  refine lv_iload_n hx hb dJ6_bitCount_0f7a4_42 rfl (lv_at hl 0 rfl) ?_
  refine lv_bipush (v := (16 : Int32)) hx hb dJ6_bitCount_0f7a4_43 rfl ?_
  refine lv_iushr hx hb dJ6_bitCount_0f7a4_45 rfl ?_
  refine lv_iadd hx hb dJ6_bitCount_0f7a4_46 ?_
  obtain ⟨x5, hx5, he⟩ := g_let_ex he
  refine g_topI hx5 ?_
  refine lv_istore_n (lv' := [(0, .int x5)]) hx hb dJ6_bitCount_0f7a4_47 rfl hl (by decide) rfl (fun ls hl => ?_)
  refine lv_iload_n hx hb dJ6_bitCount_0f7a4_48 rfl (lv_at hl 0 rfl) ?_
  refine lv_bipush (v := (63 : Int32)) hx hb dJ6_bitCount_0f7a4_49 rfl ?_
  refine lv_iand hx hb dJ6_bitCount_0f7a4_51 ?_
  cases he
  exact g_iret E hM hret hlk dJ6_bitCount_0f7a4_52

set_option maxHeartbeats 4000000 in
set_option maxRecDepth 100000 in
theorem c7_away (l : Launch) (D : va_G) (aC : Nat → ClassId) (B : Nat) {F : Nat} {t : Nat} (ht : t < 69) (hY : yC.1 t = (7, 0)) {a1 : Int32} {mem : g_M} {q0 : Int32} (he : f7_away F t a1 mem = some q0) : g_Met l yX7_away cX7_away 2 (some .int) 2 D aC B yC 69 mem [.ref (B + t), .int a1] (some (.int q0)) mem := by
  refine g_ofW (by decide) (Nat.le_of_ble_eq_true rfl) ?_
  intro p e s m args below meth c ls E hml hret hlk hM hl
  have E : g_C p s m args c cX7_away RX7 D aC (g_Zs (g_A B 69)) := E
  have hx := E.1
  have hb := E.2.1
  have hown := E.2.2.1
  have hts := E.2.2.2.1
  have hl : lv_has ls 2 [(0, .ref (B + t)), (1, .int a1)] := hl
  unfold f7_away at he
  refine lv_aload_n hx hb dX7_away_0 rfl (lv_at hl 0 rfl) ?_
  refine lv_iload_n hx hb dX7_away_1 rfl (lv_at hl 1 rfl) ?_
  refine lv_iconst (v := (1 : Int32)) hx hb dX7_away_2 rfl ?_
  obtain ⟨r1, hcr1, he⟩ := g_bind he
  refine g_callV [.int a1, .int (1 : Int32)] (rest := []) E hml hl.1 hM cv_X7_76 (c7_sortsAt l D aC B ht hY hcr1) (o := t) ht hY (by decide) rfl rfl (Nat.le_of_ble_eq_true rfl) dX7_away_3 (fun H locs hM => ?_)
  refine W.eq (g2 := F0 m 6 ls [.int r1]) rfl ?_
  obtain ⟨r2, hcr2, he⟩ := g_bind he
  refine g_callS [.int r1] (rest := []) E hml hl.1 hM cs_X7_79 (cjbc l D aC B hcr2) (by decide) rfl rfl (Nat.le_of_ble_eq_true rfl) dX7_away_6 (fun H locs hM => ?_)
  refine W.eq (g2 := F0 m 9 ls [.int r2]) rfl ?_
  cases he
  exact g_iret E hM hret hlk dX7_away_9

set_option maxHeartbeats 4000000 in
set_option maxRecDepth 100000 in
theorem c0_nameMan (l : Launch) (D : va_G) (aC : Nat → ClassId) (B : Nat) {F : Nat} {a1 : Int32} {mem : g_M} {q0 : g_M} (he : f0_nameMan F a1 mem = some q0) : g_Met l yX0_nameMan cX0_nameMan 2 none 3 D aC B yC 69 mem [.ref (B + 53), .int a1] none q0 := by
  refine g_ofW (by decide) (Nat.le_of_ble_eq_true rfl) ?_
  intro p e s m args below meth c ls E hml hret hlk hM hl
  have E : g_C p s m args c cX0_nameMan RX0 D aC (g_Zs (g_A B 69)) := E
  have hx := E.1
  have hb := E.2.1
  have hown := E.2.2.1
  have hts := E.2.2.2.1
  have hl : lv_has ls 2 [(0, .ref (B + 53)), (1, .int a1)] := hl
  unfold f0_nameMan at he
  refine lv_aload_n hx hb dX0_nameMan_0 rfl (lv_at hl 0 rfl) ?_
  obtain ⟨r1, hcr1, he⟩ := g_bind he
  refine g_callV [] (rest := []) E hml hl.1 hM cv_X0_188 (c0_nameBoat l D aC B hcr1) (o := 53) (Nat.le_of_ble_eq_true rfl) rfl (by decide) rfl rfl (Nat.le_of_ble_eq_true rfl) dX0_nameMan_1 (fun H locs hM => ?_)
  refine W.eq (g2 := F0 m 4 ls []) rfl ?_
  refine lv_aload_n hx hb dX0_nameMan_4 rfl (lv_at hl 0 rfl) ?_
  refine g_getP E hM (o := 53) (Nat.le_of_ble_eq_true rfl) rfl fl_X0_34 (q := 55) rfl dX0_nameMan_5 ?_
  refine lv_iconst (v := (2 : Int32)) hx hb dX0_nameMan_8 rfl ?_
  refine lv_aload_n hx hb dX0_nameMan_9 rfl (lv_at hl 0 rfl) ?_
  obtain ⟨q2, hqq2, hq2, hYq2, he⟩ := g_dr_some he
  refine g_getD E hM (o := 53) (Nat.le_of_ble_eq_true rfl) rfl fl_X0_38 rfl hqq2 dX0_nameMan_10 ?_
  refine g_getP E hM (o := q2) hq2 hYq2 fl_X0_100 (q := (q2 + 1)) (pt_7_4 q2 hq2 hYq2).1 dX0_nameMan_13 ?_
  refine lv_iload_n hx hb dX0_nameMan_16 rfl (lv_at hl 1 rfl) ?_
  obtain ⟨h3, he⟩ := g_ck_some he
  refine g_iald E hM (o := (q2 + 1)) (pt_7_4 q2 hq2 hYq2).2.1 (pt_7_4 q2 hq2 hYq2).2.2 h3 dX0_nameMan_17 ?_
  refine lv_i2l hx hb dX0_nameMan_18 rfl ?_
  obtain ⟨h4, he⟩ := g_ck_some he
  refine g_last E hM (o := 55) (Nat.le_of_ble_eq_true rfl) rfl h4 dX0_nameMan_19 (fun H locs hM => ?_)
  obtain ⟨m5, hm5, he⟩ := g_let_ex he
  rw [← hm5] at hM
  refine lv_aload_n hx hb dX0_nameMan_20 rfl (lv_at hl 0 rfl) ?_
  refine g_getP E hM (o := 53) (Nat.le_of_ble_eq_true rfl) rfl fl_X0_34 (q := 55) rfl dX0_nameMan_21 ?_
  refine lv_iconst (v := (4 : Int32)) hx hb dX0_nameMan_24 rfl ?_
  refine lv_aload_n hx hb dX0_nameMan_25 rfl (lv_at hl 0 rfl) ?_
  obtain ⟨q6, hqq6, hq6, hYq6, he⟩ := g_dr_some he
  refine g_getD E hM (o := 53) (Nat.le_of_ble_eq_true rfl) rfl fl_X0_38 rfl hqq6 dX0_nameMan_26 ?_
  refine lv_iload_n hx hb dX0_nameMan_29 rfl (lv_at hl 1 rfl) ?_
  obtain ⟨r7, hcr7, he⟩ := g_bind he
  refine g_callV [.int a1] (rest := [.int (4 : Int32), .ref (B + 55)]) E hml hl.1 hM cv_X0_195 (c7_away l D aC B hq6 hYq6 hcr7) (o := q6) hq6 hYq6 (by decide) rfl rfl (Nat.le_of_ble_eq_true rfl) dX0_nameMan_30 (fun H locs hM => ?_)
  refine W.eq (g2 := F0 m 33 ls [.int r7, .int (4 : Int32), .ref (B + 55)]) rfl ?_
  refine lv_i2l hx hb dX0_nameMan_33 rfl ?_
  obtain ⟨h8, he⟩ := g_ck_some he
  refine g_last E hM (o := 55) (Nat.le_of_ble_eq_true rfl) rfl h8 dX0_nameMan_34 (fun H locs hM => ?_)
  obtain ⟨m9, hm9, he⟩ := g_let_ex he
  rw [← hm9] at hM
  cases he
  exact g_vret E hM hret hlk dX0_nameMan_35

set_option maxHeartbeats 4000000 in
set_option maxRecDepth 100000 in
theorem w2_product_b53 (E : g_C p s m args c cX2_product RX2 D aC (g_Zs (g_A B 69))) (hml : c.maxLocals = 8) (hret : meth.sig.returnType = (some .long)) (hlk : meth.locks = false) {F : Nat} {q0 : Int64} {a0 : Int64} {a2 : Int64} {mem : g_M} : ∀ (H : Heap) (locs : List Loc) (ls : Array Slot), g_At D aC B yC 69 mem s.heap H locs → lv_has ls 8 [(0, .long a0), (2, .long a2)] → f2_product_b53 F a0 a2 mem = some q0 → W p l e (g_rm 1) s m args below meth c H locs 0 0 (g_MQ below D aC B yC 69 args s (some (.long q0)) mem) (F0 m 53 ls []) := by
  intro H locs ls hM hl he
  unfold f2_product_b53 at he
  have hx := E.1
  have hb := E.2.1
  have hown := E.2.2.1
  have hts := E.2.2.2.1
  refine lv_lload_n hx hb dX2_product_53 rfl (lv_at hl 0 rfl) ?_
  refine lv_lload_n hx hb dX2_product_54 rfl (lv_at hl 1 rfl) ?_
  refine lv_lmul hx hb dX2_product_55 ?_
  cases he
  exact g_lret E hM hret hlk dX2_product_56

set_option maxHeartbeats 4000000 in
set_option maxRecDepth 100000 in
theorem w2_product_b26 (E : g_C p s m args c cX2_product RX2 D aC (g_Zs (g_A B 69))) (hml : c.maxLocals = 8) (hret : meth.sig.returnType = (some .long)) (hlk : meth.locks = false) {F : Nat} {q0 : Int64} {a0 : Int64} {a2 : Int64} {mem : g_M} : ∀ (v4 : Int64) (w0 : Int64) (H : Heap) (locs : List Loc) (ls : Array Slot), g_At D aC B yC 69 mem s.heap H locs → lv_has ls 8 [(0, .long a0), (2, .long a2), (4, .long v4)] → f2_product_b26 F a0 a2 mem v4 w0 = some q0 → W p l e (g_rm 1) s m args below meth c H locs 0 0 (g_MQ below D aC B yC 69 args s (some (.long q0)) mem) (F0 m 26 ls [.long w0]) := by
  intro v4 w0 H locs ls hM hl he
  unfold f2_product_b26 at he
  have hx := E.1
  have hb := E.2.1
  have hown := E.2.2.1
  have hts := E.2.2.2.1
  refine lv_lstore (lv' := [(6, .long w0), (0, .long a0), (2, .long a2), (4, .long v4)]) hx hb dX2_product_26 hl (by decide) rfl (fun ls hl => ?_)
  refine lv_lload hx hb dX2_product_28 (lv_at hl 3 rfl) ?_
  refine lv_lconst (v := (0 : Int64)) hx hb dX2_product_30 rfl ?_
  refine W.lcmp hx hb dX2_product_31 ?_
  refine lv_if_eq (tgt := 53) hx hb dX2_product_32 (by decide) (fun h1 => ?_) (fun h1 => ?_)
  · rw [if_pos h1] at he
    exact w2_product_b53 (F := F) (a0 := a0) (a2 := a2) E hml hret hlk _ _ _ hM (lv_sub hl [1, 2] rfl) he
  · rw [if_neg h1] at he
    refine lv_lload hx hb dX2_product_35 (lv_at hl 0 rfl) ?_
    refine lv_ldc2 (v := (1000000000000 : Int64)) hx hb hown (hts _ kc_X2_37) dX2_product_37 ?_
    refine lv_lload hx hb dX2_product_40 (lv_at hl 3 rfl) ?_
    obtain ⟨h2, he⟩ := g_nzL_some he
    refine lv_ldiv hx hb dX2_product_42 h2 ?_
    refine W.lcmp hx hb dX2_product_43 ?_
    refine lv_if_le (tgt := 53) hx hb dX2_product_44 (by decide) (fun h3 => ?_) (fun h3 => ?_)
    · rw [if_neg (Int32.not_lt.mpr h3)] at he
      exact w2_product_b53 (F := F) (a0 := a0) (a2 := a2) E hml hret hlk _ _ _ hM (lv_sub hl [1, 2] rfl) he
    · rw [if_pos (Int32.not_le.mp h3)] at he
      refine lv_ldc2 (v := (-9223372036854775808 : Int64)) hx hb hown (hts _ kc_X2_35) dX2_product_47 ?_
      refine lv_goto (tgt := 56) hx hb dX2_product_50 (by decide) ?_
      cases he
      exact g_lret E hM hret hlk dX2_product_56

set_option maxHeartbeats 4000000 in
set_option maxRecDepth 100000 in
theorem w2_product_b12 (E : g_C p s m args c cX2_product RX2 D aC (g_Zs (g_A B 69))) (hml : c.maxLocals = 8) (hret : meth.sig.returnType = (some .long)) (hlk : meth.locks = false) {F : Nat} {q0 : Int64} {a0 : Int64} {a2 : Int64} {mem : g_M} : ∀ (w0 : Int64) (H : Heap) (locs : List Loc) (ls : Array Slot), g_At D aC B yC 69 mem s.heap H locs → lv_has ls 8 [(0, .long a0), (2, .long a2)] → f2_product_b12 F a0 a2 mem w0 = some q0 → W p l e (g_rm 1) s m args below meth c H locs 0 0 (g_MQ below D aC B yC 69 args s (some (.long q0)) mem) (F0 m 12 ls [.long w0]) := by
  intro w0 H locs ls hM hl he
  unfold f2_product_b12 at he
  have hx := E.1
  have hb := E.2.1
  have hown := E.2.2.1
  have hts := E.2.2.2.1
  refine lv_lstore (lv' := [(4, .long w0), (0, .long a0), (2, .long a2)]) hx hb dX2_product_12 hl (by decide) rfl (fun ls hl => ?_)
  refine lv_lload_n hx hb dX2_product_14 rfl (lv_at hl 2 rfl) ?_
  refine lv_lconst (v := (0 : Int64)) hx hb dX2_product_15 rfl ?_
  refine W.lcmp hx hb dX2_product_16 ?_
  refine lv_if_ge (tgt := 25) hx hb dX2_product_17 (by decide) (fun h4 => ?_) (fun h4 => ?_)
  · rw [if_neg (Int32.not_lt.mpr h4)] at he
    refine lv_lload_n hx hb dX2_product_25 rfl (lv_at hl 2 rfl) ?_
    exact w2_product_b26 (F := F) (a0 := a0) (a2 := a2) E hml hret hlk _ _ _ _ _ hM (lv_sub hl [1, 2, 0] rfl) he
  · rw [if_pos (Int32.not_le.mp h4)] at he
    refine lv_lload_n hx hb dX2_product_20 rfl (lv_at hl 2 rfl) ?_
    refine lv_lneg hx hb dX2_product_21 ?_
    refine lv_goto (tgt := 26) hx hb dX2_product_22 (by decide) ?_
    exact w2_product_b26 (F := F) (a0 := a0) (a2 := a2) E hml hret hlk _ _ _ _ _ hM (lv_sub hl [1, 2, 0] rfl) he

set_option maxHeartbeats 4000000 in
set_option maxRecDepth 100000 in
theorem c2_product (l : Launch) (D : va_G) (aC : Nat → ClassId) (B : Nat) {F : Nat} {a0 : Int64} {a2 : Int64} {mem : g_M} {q0 : Int64} (he : f2_product F a0 a2 mem = some q0) : g_Met l yX2_product cX2_product 8 (some .long) 1 D aC B yC 69 mem [.long a0, .long a2] (some (.long q0)) mem := by
  refine g_ofW (by decide) (Nat.le_of_ble_eq_true rfl) ?_
  intro p e s m args below meth c ls E hml hret hlk hM hl
  have E : g_C p s m args c cX2_product RX2 D aC (g_Zs (g_A B 69)) := E
  have hx := E.1
  have hb := E.2.1
  have hown := E.2.2.1
  have hts := E.2.2.2.1
  have hl : lv_has ls 8 [(0, .long a0), (2, .long a2)] := hl
  unfold f2_product at he
  refine lv_lload_n hx hb dX2_product_0 rfl (lv_at hl 0 rfl) ?_
  refine lv_lconst (v := (0 : Int64)) hx hb dX2_product_1 rfl ?_
  refine W.lcmp hx hb dX2_product_2 ?_
  refine lv_if_ge (tgt := 11) hx hb dX2_product_3 (by decide) (fun h5 => ?_) (fun h5 => ?_)
  · rw [if_neg (Int32.not_lt.mpr h5)] at he
    refine lv_lload_n hx hb dX2_product_11 rfl (lv_at hl 0 rfl) ?_
    exact w2_product_b12 (F := F) (a0 := a0) (a2 := a2) E hml hret hlk _ _ _ _ hM (lv_sub hl [0, 1] rfl) he
  · rw [if_pos (Int32.not_le.mp h5)] at he
    refine lv_lload_n hx hb dX2_product_6 rfl (lv_at hl 0 rfl) ?_
    refine lv_lneg hx hb dX2_product_7 ?_
    refine lv_goto (tgt := 12) hx hb dX2_product_8 (by decide) ?_
    exact w2_product_b12 (F := F) (a0 := a0) (a2 := a2) E hml hret hlk _ _ _ _ hM (lv_sub hl [0, 1] rfl) he

set_option maxHeartbeats 4000000 in
set_option maxRecDepth 100000 in
theorem c2_isSo (l : Launch) (D : va_G) (aC : Nat → ClassId) (B : Nat) {F : Nat} {a0 : Int32} {a1 : Int64} {a3 : Int64} {mem : g_M} {q0 : Int32} (he : f2_isSo F a0 a1 a3 mem = some q0) : g_Met l yX2_isSo cX2_isSo 5 (some .boolean) 1 D aC B yC 69 mem [.int a0, .long a1, .long a3] (some (.int q0)) mem := by
  refine g_ofW (by decide) (Nat.le_of_ble_eq_true rfl) ?_
  intro p e s m args below meth c ls E hml hret hlk hM hl
  have E : g_C p s m args c cX2_isSo RX2 D aC (g_Zs (g_A B 69)) := E
  have hx := E.1
  have hb := E.2.1
  have hown := E.2.2.1
  have hts := E.2.2.2.1
  have hl : lv_has ls 5 [(0, .int a0), (1, .long a1), (3, .long a3)] := hl
  unfold f2_isSo at he
  refine lv_iload_n hx hb dX2_isSo_0 rfl (lv_at hl 0 rfl) ?_
  by_cases h1 : a0 = (4 : Int32)
  · rw [if_pos h1] at he
    refine lv_tableIn (tgt := 36) (off := 35) hx hb dX2_isSo_1 (by rw [h1]; decide) (by rw [h1]; decide) (by rw [h1]; rfl) (by decide) ?_
    refine lv_lload_n hx hb dX2_isSo_36 rfl (lv_at hl 1 rfl) ?_
    refine lv_lload_n hx hb dX2_isSo_37 rfl (lv_at hl 2 rfl) ?_
    refine W.lcmp hx hb dX2_isSo_38 ?_
    refine lv_if_ge (tgt := 46) hx hb dX2_isSo_39 (by decide) (fun h2 => ?_) (fun h2 => ?_)
    · rw [if_neg (Int32.not_lt.mpr h2)] at he
      refine lv_iconst (v := (0 : Int32)) hx hb dX2_isSo_46 rfl ?_
      cases he
      exact g_zret E hM hret hlk (Or.inl rfl) dX2_isSo_47
    · rw [if_pos (Int32.not_le.mp h2)] at he
      refine lv_iconst (v := (1 : Int32)) hx hb dX2_isSo_42 rfl ?_
      refine lv_goto (tgt := 47) hx hb dX2_isSo_43 (by decide) ?_
      cases he
      exact g_zret E hM hret hlk (Or.inr rfl) dX2_isSo_47
  rw [if_neg h1] at he
  by_cases h3 : a0 = (5 : Int32)
  · rw [if_pos h3] at he
    refine lv_tableIn (tgt := 48) (off := 47) hx hb dX2_isSo_1 (by rw [h3]; decide) (by rw [h3]; decide) (by rw [h3]; rfl) (by decide) ?_
    refine lv_lload_n hx hb dX2_isSo_48 rfl (lv_at hl 1 rfl) ?_
    refine lv_lload_n hx hb dX2_isSo_49 rfl (lv_at hl 2 rfl) ?_
    refine W.lcmp hx hb dX2_isSo_50 ?_
    refine lv_if_gt (tgt := 58) hx hb dX2_isSo_51 (by decide) (fun h4 => ?_) (fun h4 => ?_)
    · rw [if_neg (Int32.not_le.mpr h4)] at he
      refine lv_iconst (v := (0 : Int32)) hx hb dX2_isSo_58 rfl ?_
      cases he
      exact g_zret E hM hret hlk (Or.inl rfl) dX2_isSo_59
    · rw [if_pos (Int32.not_lt.mp h4)] at he
      refine lv_iconst (v := (1 : Int32)) hx hb dX2_isSo_54 rfl ?_
      refine lv_goto (tgt := 59) hx hb dX2_isSo_55 (by decide) ?_
      cases he
      exact g_zret E hM hret hlk (Or.inr rfl) dX2_isSo_59
  rw [if_neg h3] at he
  by_cases h5 : a0 = (6 : Int32)
  · rw [if_pos h5] at he
    refine lv_tableIn (tgt := 60) (off := 59) hx hb dX2_isSo_1 (by rw [h5]; decide) (by rw [h5]; decide) (by rw [h5]; rfl) (by decide) ?_
    refine lv_lload_n hx hb dX2_isSo_60 rfl (lv_at hl 1 rfl) ?_
    refine lv_lload_n hx hb dX2_isSo_61 rfl (lv_at hl 2 rfl) ?_
    refine W.lcmp hx hb dX2_isSo_62 ?_
    refine lv_if_ne (tgt := 70) hx hb dX2_isSo_63 (by decide) (fun h6 => ?_) (fun h6 => ?_)
    · rw [if_neg h6] at he
      refine lv_iconst (v := (0 : Int32)) hx hb dX2_isSo_70 rfl ?_
      cases he
      exact g_zret E hM hret hlk (Or.inl rfl) dX2_isSo_71
    · rw [if_pos h6] at he
      refine lv_iconst (v := (1 : Int32)) hx hb dX2_isSo_66 rfl ?_
      refine lv_goto (tgt := 71) hx hb dX2_isSo_67 (by decide) ?_
      cases he
      exact g_zret E hM hret hlk (Or.inr rfl) dX2_isSo_71
  rw [if_neg h5] at he
  by_cases h7 : a0 = (7 : Int32)
  · rw [if_pos h7] at he
    refine lv_tableIn (tgt := 72) (off := 71) hx hb dX2_isSo_1 (by rw [h7]; decide) (by rw [h7]; decide) (by rw [h7]; rfl) (by decide) ?_
    refine lv_lload_n hx hb dX2_isSo_72 rfl (lv_at hl 1 rfl) ?_
    refine lv_lload_n hx hb dX2_isSo_73 rfl (lv_at hl 2 rfl) ?_
    refine W.lcmp hx hb dX2_isSo_74 ?_
    refine lv_if_eq (tgt := 82) hx hb dX2_isSo_75 (by decide) (fun h8 => ?_) (fun h8 => ?_)
    · rw [if_pos h8] at he
      refine lv_iconst (v := (0 : Int32)) hx hb dX2_isSo_82 rfl ?_
      cases he
      exact g_zret E hM hret hlk (Or.inl rfl) dX2_isSo_83
    · rw [if_neg h8] at he
      refine lv_iconst (v := (1 : Int32)) hx hb dX2_isSo_78 rfl ?_
      refine lv_goto (tgt := 83) hx hb dX2_isSo_79 (by decide) ?_
      cases he
      exact g_zret E hM hret hlk (Or.inr rfl) dX2_isSo_83
  rw [if_neg h7] at he
  by_cases h9 : a0 = (8 : Int32)
  · rw [if_pos h9] at he
    refine lv_tableIn (tgt := 84) (off := 83) hx hb dX2_isSo_1 (by rw [h9]; decide) (by rw [h9]; decide) (by rw [h9]; rfl) (by decide) ?_
    refine lv_lload_n hx hb dX2_isSo_84 rfl (lv_at hl 1 rfl) ?_
    refine lv_lload_n hx hb dX2_isSo_85 rfl (lv_at hl 2 rfl) ?_
    refine W.lcmp hx hb dX2_isSo_86 ?_
    refine lv_if_lt (tgt := 94) hx hb dX2_isSo_87 (by decide) (fun h10 => ?_) (fun h10 => ?_)
    · rw [if_neg (Int32.not_le.mpr h10)] at he
      refine lv_iconst (v := (0 : Int32)) hx hb dX2_isSo_94 rfl ?_
      cases he
      exact g_zret E hM hret hlk (Or.inl rfl) dX2_isSo_95
    · rw [if_pos (Int32.not_lt.mp h10)] at he
      refine lv_iconst (v := (1 : Int32)) hx hb dX2_isSo_90 rfl ?_
      refine lv_goto (tgt := 95) hx hb dX2_isSo_91 (by decide) ?_
      cases he
      exact g_zret E hM hret hlk (Or.inr rfl) dX2_isSo_95
  rw [if_neg h9] at he
  refine lv_tableOut (tgt := 96) hx hb dX2_isSo_1 (by have zh1 := lv_neT (a := 4) h1 rfl; have zh3 := lv_neT (a := 5) h3 rfl; have zh5 := lv_neT (a := 6) h5 rfl; have zh7 := lv_neT (a := 7) h7 rfl; have zh9 := lv_neT (a := 8) h9 rfl; omega) (by decide) ?_
  refine lv_lload_n hx hb dX2_isSo_96 rfl (lv_at hl 1 rfl) ?_
  refine lv_lload_n hx hb dX2_isSo_97 rfl (lv_at hl 2 rfl) ?_
  refine W.lcmp hx hb dX2_isSo_98 ?_
  refine lv_if_le (tgt := 106) hx hb dX2_isSo_99 (by decide) (fun h11 => ?_) (fun h11 => ?_)
  · rw [if_neg (Int32.not_lt.mpr h11)] at he
    refine lv_iconst (v := (0 : Int32)) hx hb dX2_isSo_106 rfl ?_
    cases he
    exact g_zret E hM hret hlk (Or.inl rfl) dX2_isSo_107
  · rw [if_pos (Int32.not_le.mp h11)] at he
    refine lv_iconst (v := (1 : Int32)) hx hb dX2_isSo_102 rfl ?_
    refine lv_goto (tgt := 107) hx hb dX2_isSo_103 (by decide) ?_
    cases he
    exact g_zret E hM hret hlk (Or.inr rfl) dX2_isSo_107

set_option maxHeartbeats 4000000 in
set_option maxRecDepth 100000 in
theorem w2_worked_b124 (E : g_C p s m args c cX2_worked RX2 D aC (g_Zs (g_A B 69))) (hml : c.maxLocals = 5) (hret : meth.sig.returnType = (some .long)) (hlk : meth.locks = false) {F : Nat} {q0 : Int64} {a0 : Int32} {a1 : Int64} {a3 : Int64} {mem : g_M} : ∀ (H : Heap) (locs : List Loc) (ls : Array Slot), g_At D aC B yC 69 mem s.heap H locs → lv_has ls 5 [] → f2_worked_b124 F a0 a1 a3 mem = some q0 → W p l e (g_rm 2) s m args below meth c H locs 0 0 (g_MQ below D aC B yC 69 args s (some (.long q0)) mem) (F0 m 124 ls []) := by
  intro H locs ls hM hl he
  unfold f2_worked_b124 at he
  have hx := E.1
  have hb := E.2.1
  have hown := E.2.2.1
  have hts := E.2.2.2.1
  refine lv_lconst (v := (1 : Int64)) hx hb dX2_worked_124 rfl ?_
  refine lv_goto (tgt := 129) hx hb dX2_worked_125 (by decide) ?_
  cases he
  exact g_lret E hM hret hlk dX2_worked_129

set_option maxHeartbeats 4000000 in
set_option maxRecDepth 100000 in
theorem c2_worked (l : Launch) (D : va_G) (aC : Nat → ClassId) (B : Nat) {F : Nat} {a0 : Int32} {a1 : Int64} {a3 : Int64} {mem : g_M} {q0 : Int64} (he : f2_worked F a0 a1 a3 mem = some q0) : g_Met l yX2_worked cX2_worked 5 (some .long) 2 D aC B yC 69 mem [.int a0, .long a1, .long a3] (some (.long q0)) mem := by
  refine g_ofW (by decide) (Nat.le_of_ble_eq_true rfl) ?_
  intro p e s m args below meth c ls E hml hret hlk hM hl
  have E : g_C p s m args c cX2_worked RX2 D aC (g_Zs (g_A B 69)) := E
  have hx := E.1
  have hb := E.2.1
  have hown := E.2.2.1
  have hts := E.2.2.2.1
  have hl : lv_has ls 5 [(0, .int a0), (1, .long a1), (3, .long a3)] := hl
  unfold f2_worked at he
  refine lv_iload_n hx hb dX2_worked_0 rfl (lv_at hl 0 rfl) ?_
  by_cases h1 : a0 = (0 : Int32)
  · rw [if_pos h1] at he
    refine lv_tableIn (tgt := 64) (off := 63) hx hb dX2_worked_1 (by rw [h1]; decide) (by rw [h1]; decide) (by rw [h1]; rfl) (by decide) ?_
    refine lv_lload_n hx hb dX2_worked_64 rfl (lv_at hl 1 rfl) ?_
    refine lv_lload_n hx hb dX2_worked_65 rfl (lv_at hl 2 rfl) ?_
    refine lv_ladd hx hb dX2_worked_66 ?_
    cases he
    exact g_lret E hM hret hlk dX2_worked_67
  rw [if_neg h1] at he
  by_cases h2 : a0 = (1 : Int32)
  · rw [if_pos h2] at he
    refine lv_tableIn (tgt := 68) (off := 67) hx hb dX2_worked_1 (by rw [h2]; decide) (by rw [h2]; decide) (by rw [h2]; rfl) (by decide) ?_
    refine lv_lload_n hx hb dX2_worked_68 rfl (lv_at hl 1 rfl) ?_
    refine lv_lload_n hx hb dX2_worked_69 rfl (lv_at hl 2 rfl) ?_
    refine lv_lsub hx hb dX2_worked_70 ?_
    cases he
    exact g_lret E hM hret hlk dX2_worked_71
  rw [if_neg h2] at he
  by_cases h3 : a0 = (2 : Int32)
  · rw [if_pos h3] at he
    refine lv_tableIn (tgt := 72) (off := 71) hx hb dX2_worked_1 (by rw [h3]; decide) (by rw [h3]; decide) (by rw [h3]; rfl) (by decide) ?_
    refine lv_lload_n hx hb dX2_worked_72 rfl (lv_at hl 1 rfl) ?_
    refine lv_lload_n hx hb dX2_worked_73 rfl (lv_at hl 2 rfl) ?_
    obtain ⟨r4, hcr4, he⟩ := g_bind he
    refine g_callS [.long a1, .long a3] (rest := []) E hml hl.1 hM cs_X2_41 (c2_product l D aC B hcr4) (by decide) rfl rfl (Nat.le_of_ble_eq_true rfl) dX2_worked_74 (fun H locs hM => ?_)
    refine W.eq (g2 := F0 m 77 ls [.long r4]) rfl ?_
    cases he
    exact g_lret E hM hret hlk dX2_worked_77
  rw [if_neg h3] at he
  by_cases h5 : a0 = (3 : Int32)
  · rw [if_pos h5] at he
    refine lv_tableIn (tgt := 78) (off := 77) hx hb dX2_worked_1 (by rw [h5]; decide) (by rw [h5]; decide) (by rw [h5]; rfl) (by decide) ?_
    refine lv_lload_n hx hb dX2_worked_78 rfl (lv_at hl 2 rfl) ?_
    refine lv_lconst (v := (0 : Int64)) hx hb dX2_worked_79 rfl ?_
    refine W.lcmp hx hb dX2_worked_80 ?_
    refine lv_if_ne (tgt := 90) hx hb dX2_worked_81 (by decide) (fun h6 => ?_) (fun h6 => ?_)
    · rw [if_neg h6] at he
      refine lv_lload_n hx hb dX2_worked_90 rfl (lv_at hl 1 rfl) ?_
      refine lv_lload_n hx hb dX2_worked_91 rfl (lv_at hl 2 rfl) ?_
      obtain ⟨h7, he⟩ := g_nzL_some he
      refine lv_ldiv hx hb dX2_worked_92 h7 ?_
      cases he
      exact g_lret E hM hret hlk dX2_worked_93
    · rw [if_pos h6] at he
      refine lv_ldc2 (v := (-9223372036854775808 : Int64)) hx hb hown (hts _ kc_X2_35) dX2_worked_84 ?_
      refine lv_goto (tgt := 93) hx hb dX2_worked_87 (by decide) ?_
      cases he
      exact g_lret E hM hret hlk dX2_worked_93
  rw [if_neg h5] at he
  by_cases h8 : a0 = (4 : Int32)
  · rw [if_pos h8] at he
    refine lv_tableIn (tgt := 130) (off := 129) hx hb dX2_worked_1 (by rw [h8]; decide) (by rw [h8]; decide) (by rw [h8]; rfl) (by decide) ?_
    refine lv_iload_n hx hb dX2_worked_130 rfl (lv_at hl 0 rfl) ?_
    refine lv_lload_n hx hb dX2_worked_131 rfl (lv_at hl 1 rfl) ?_
    refine lv_lload_n hx hb dX2_worked_132 rfl (lv_at hl 2 rfl) ?_
    obtain ⟨r9, hcr9, he⟩ := g_bind he
    refine g_callS [.int a0, .long a1, .long a3] (rest := []) E hml hl.1 hM cs_X2_45 (c2_isSo l D aC B hcr9) (by decide) rfl rfl (Nat.le_of_ble_eq_true rfl) dX2_worked_133 (fun H locs hM => ?_)
    refine W.eq (g2 := F0 m 136 ls [.int r9]) rfl ?_
    refine lv_if_eq (tgt := 143) hx hb dX2_worked_136 (by decide) (fun h10 => ?_) (fun h10 => ?_)
    · rw [if_pos h10] at he
      refine lv_lconst (v := (0 : Int64)) hx hb dX2_worked_143 rfl ?_
      cases he
      exact g_lret E hM hret hlk dX2_worked_144
    · rw [if_neg h10] at he
      refine lv_lconst (v := (1 : Int64)) hx hb dX2_worked_139 rfl ?_
      refine lv_goto (tgt := 144) hx hb dX2_worked_140 (by decide) ?_
      cases he
      exact g_lret E hM hret hlk dX2_worked_144
  rw [if_neg h8] at he
  by_cases h11 : a0 = (5 : Int32)
  · rw [if_pos h11] at he
    refine lv_tableIn (tgt := 130) (off := 129) hx hb dX2_worked_1 (by rw [h11]; decide) (by rw [h11]; decide) (by rw [h11]; rfl) (by decide) ?_
    refine lv_iload_n hx hb dX2_worked_130 rfl (lv_at hl 0 rfl) ?_
    refine lv_lload_n hx hb dX2_worked_131 rfl (lv_at hl 1 rfl) ?_
    refine lv_lload_n hx hb dX2_worked_132 rfl (lv_at hl 2 rfl) ?_
    obtain ⟨r12, hcr12, he⟩ := g_bind he
    refine g_callS [.int a0, .long a1, .long a3] (rest := []) E hml hl.1 hM cs_X2_45 (c2_isSo l D aC B hcr12) (by decide) rfl rfl (Nat.le_of_ble_eq_true rfl) dX2_worked_133 (fun H locs hM => ?_)
    refine W.eq (g2 := F0 m 136 ls [.int r12]) rfl ?_
    refine lv_if_eq (tgt := 143) hx hb dX2_worked_136 (by decide) (fun h13 => ?_) (fun h13 => ?_)
    · rw [if_pos h13] at he
      refine lv_lconst (v := (0 : Int64)) hx hb dX2_worked_143 rfl ?_
      cases he
      exact g_lret E hM hret hlk dX2_worked_144
    · rw [if_neg h13] at he
      refine lv_lconst (v := (1 : Int64)) hx hb dX2_worked_139 rfl ?_
      refine lv_goto (tgt := 144) hx hb dX2_worked_140 (by decide) ?_
      cases he
      exact g_lret E hM hret hlk dX2_worked_144
  rw [if_neg h11] at he
  by_cases h14 : a0 = (6 : Int32)
  · rw [if_pos h14] at he
    refine lv_tableIn (tgt := 130) (off := 129) hx hb dX2_worked_1 (by rw [h14]; decide) (by rw [h14]; decide) (by rw [h14]; rfl) (by decide) ?_
    refine lv_iload_n hx hb dX2_worked_130 rfl (lv_at hl 0 rfl) ?_
    refine lv_lload_n hx hb dX2_worked_131 rfl (lv_at hl 1 rfl) ?_
    refine lv_lload_n hx hb dX2_worked_132 rfl (lv_at hl 2 rfl) ?_
    obtain ⟨r15, hcr15, he⟩ := g_bind he
    refine g_callS [.int a0, .long a1, .long a3] (rest := []) E hml hl.1 hM cs_X2_45 (c2_isSo l D aC B hcr15) (by decide) rfl rfl (Nat.le_of_ble_eq_true rfl) dX2_worked_133 (fun H locs hM => ?_)
    refine W.eq (g2 := F0 m 136 ls [.int r15]) rfl ?_
    refine lv_if_eq (tgt := 143) hx hb dX2_worked_136 (by decide) (fun h16 => ?_) (fun h16 => ?_)
    · rw [if_pos h16] at he
      refine lv_lconst (v := (0 : Int64)) hx hb dX2_worked_143 rfl ?_
      cases he
      exact g_lret E hM hret hlk dX2_worked_144
    · rw [if_neg h16] at he
      refine lv_lconst (v := (1 : Int64)) hx hb dX2_worked_139 rfl ?_
      refine lv_goto (tgt := 144) hx hb dX2_worked_140 (by decide) ?_
      cases he
      exact g_lret E hM hret hlk dX2_worked_144
  rw [if_neg h14] at he
  by_cases h17 : a0 = (7 : Int32)
  · rw [if_pos h17] at he
    refine lv_tableIn (tgt := 130) (off := 129) hx hb dX2_worked_1 (by rw [h17]; decide) (by rw [h17]; decide) (by rw [h17]; rfl) (by decide) ?_
    refine lv_iload_n hx hb dX2_worked_130 rfl (lv_at hl 0 rfl) ?_
    refine lv_lload_n hx hb dX2_worked_131 rfl (lv_at hl 1 rfl) ?_
    refine lv_lload_n hx hb dX2_worked_132 rfl (lv_at hl 2 rfl) ?_
    obtain ⟨r18, hcr18, he⟩ := g_bind he
    refine g_callS [.int a0, .long a1, .long a3] (rest := []) E hml hl.1 hM cs_X2_45 (c2_isSo l D aC B hcr18) (by decide) rfl rfl (Nat.le_of_ble_eq_true rfl) dX2_worked_133 (fun H locs hM => ?_)
    refine W.eq (g2 := F0 m 136 ls [.int r18]) rfl ?_
    refine lv_if_eq (tgt := 143) hx hb dX2_worked_136 (by decide) (fun h19 => ?_) (fun h19 => ?_)
    · rw [if_pos h19] at he
      refine lv_lconst (v := (0 : Int64)) hx hb dX2_worked_143 rfl ?_
      cases he
      exact g_lret E hM hret hlk dX2_worked_144
    · rw [if_neg h19] at he
      refine lv_lconst (v := (1 : Int64)) hx hb dX2_worked_139 rfl ?_
      refine lv_goto (tgt := 144) hx hb dX2_worked_140 (by decide) ?_
      cases he
      exact g_lret E hM hret hlk dX2_worked_144
  rw [if_neg h17] at he
  by_cases h20 : a0 = (8 : Int32)
  · rw [if_pos h20] at he
    refine lv_tableIn (tgt := 130) (off := 129) hx hb dX2_worked_1 (by rw [h20]; decide) (by rw [h20]; decide) (by rw [h20]; rfl) (by decide) ?_
    refine lv_iload_n hx hb dX2_worked_130 rfl (lv_at hl 0 rfl) ?_
    refine lv_lload_n hx hb dX2_worked_131 rfl (lv_at hl 1 rfl) ?_
    refine lv_lload_n hx hb dX2_worked_132 rfl (lv_at hl 2 rfl) ?_
    obtain ⟨r21, hcr21, he⟩ := g_bind he
    refine g_callS [.int a0, .long a1, .long a3] (rest := []) E hml hl.1 hM cs_X2_45 (c2_isSo l D aC B hcr21) (by decide) rfl rfl (Nat.le_of_ble_eq_true rfl) dX2_worked_133 (fun H locs hM => ?_)
    refine W.eq (g2 := F0 m 136 ls [.int r21]) rfl ?_
    refine lv_if_eq (tgt := 143) hx hb dX2_worked_136 (by decide) (fun h22 => ?_) (fun h22 => ?_)
    · rw [if_pos h22] at he
      refine lv_lconst (v := (0 : Int64)) hx hb dX2_worked_143 rfl ?_
      cases he
      exact g_lret E hM hret hlk dX2_worked_144
    · rw [if_neg h22] at he
      refine lv_lconst (v := (1 : Int64)) hx hb dX2_worked_139 rfl ?_
      refine lv_goto (tgt := 144) hx hb dX2_worked_140 (by decide) ?_
      cases he
      exact g_lret E hM hret hlk dX2_worked_144
  rw [if_neg h20] at he
  by_cases h23 : a0 = (9 : Int32)
  · rw [if_pos h23] at he
    refine lv_tableIn (tgt := 130) (off := 129) hx hb dX2_worked_1 (by rw [h23]; decide) (by rw [h23]; decide) (by rw [h23]; rfl) (by decide) ?_
    refine lv_iload_n hx hb dX2_worked_130 rfl (lv_at hl 0 rfl) ?_
    refine lv_lload_n hx hb dX2_worked_131 rfl (lv_at hl 1 rfl) ?_
    refine lv_lload_n hx hb dX2_worked_132 rfl (lv_at hl 2 rfl) ?_
    obtain ⟨r24, hcr24, he⟩ := g_bind he
    refine g_callS [.int a0, .long a1, .long a3] (rest := []) E hml hl.1 hM cs_X2_45 (c2_isSo l D aC B hcr24) (by decide) rfl rfl (Nat.le_of_ble_eq_true rfl) dX2_worked_133 (fun H locs hM => ?_)
    refine W.eq (g2 := F0 m 136 ls [.int r24]) rfl ?_
    refine lv_if_eq (tgt := 143) hx hb dX2_worked_136 (by decide) (fun h25 => ?_) (fun h25 => ?_)
    · rw [if_pos h25] at he
      refine lv_lconst (v := (0 : Int64)) hx hb dX2_worked_143 rfl ?_
      cases he
      exact g_lret E hM hret hlk dX2_worked_144
    · rw [if_neg h25] at he
      refine lv_lconst (v := (1 : Int64)) hx hb dX2_worked_139 rfl ?_
      refine lv_goto (tgt := 144) hx hb dX2_worked_140 (by decide) ?_
      cases he
      exact g_lret E hM hret hlk dX2_worked_144
  rw [if_neg h23] at he
  by_cases h26 : a0 = (10 : Int32)
  · rw [if_pos h26] at he
    refine lv_tableIn (tgt := 94) (off := 93) hx hb dX2_worked_1 (by rw [h26]; decide) (by rw [h26]; decide) (by rw [h26]; rfl) (by decide) ?_
    refine lv_lload_n hx hb dX2_worked_94 rfl (lv_at hl 1 rfl) ?_
    refine lv_lconst (v := (0 : Int64)) hx hb dX2_worked_95 rfl ?_
    refine W.lcmp hx hb dX2_worked_96 ?_
    refine lv_if_eq (tgt := 110) hx hb dX2_worked_97 (by decide) (fun h27 => ?_) (fun h27 => ?_)
    · rw [if_pos h27] at he
      refine lv_lconst (v := (0 : Int64)) hx hb dX2_worked_110 rfl ?_
      cases he
      exact g_lret E hM hret hlk dX2_worked_111
    · rw [if_neg h27] at he
      refine lv_lload_n hx hb dX2_worked_100 rfl (lv_at hl 2 rfl) ?_
      refine lv_lconst (v := (0 : Int64)) hx hb dX2_worked_101 rfl ?_
      refine W.lcmp hx hb dX2_worked_102 ?_
      refine lv_if_eq (tgt := 110) hx hb dX2_worked_103 (by decide) (fun h28 => ?_) (fun h28 => ?_)
      · rw [if_pos h28] at he
        refine lv_lconst (v := (0 : Int64)) hx hb dX2_worked_110 rfl ?_
        cases he
        exact g_lret E hM hret hlk dX2_worked_111
      · rw [if_neg h28] at he
        refine lv_lconst (v := (1 : Int64)) hx hb dX2_worked_106 rfl ?_
        refine lv_goto (tgt := 111) hx hb dX2_worked_107 (by decide) ?_
        cases he
        exact g_lret E hM hret hlk dX2_worked_111
  rw [if_neg h26] at he
  by_cases h29 : a0 = (11 : Int32)
  · rw [if_pos h29] at he
    refine lv_tableIn (tgt := 112) (off := 111) hx hb dX2_worked_1 (by rw [h29]; decide) (by rw [h29]; decide) (by rw [h29]; rfl) (by decide) ?_
    refine lv_lload_n hx hb dX2_worked_112 rfl (lv_at hl 1 rfl) ?_
    refine lv_lconst (v := (0 : Int64)) hx hb dX2_worked_113 rfl ?_
    refine W.lcmp hx hb dX2_worked_114 ?_
    refine lv_if_ne (tgt := 124) hx hb dX2_worked_115 (by decide) (fun h30 => ?_) (fun h30 => ?_)
    · rw [if_neg h30] at he
      exact w2_worked_b124 (F := F) (a0 := a0) (a1 := a1) (a3 := a3) E hml hret hlk _ _ _ hM (lv_sub hl [] rfl) he
    · rw [if_pos h30] at he
      refine lv_lload_n hx hb dX2_worked_118 rfl (lv_at hl 2 rfl) ?_
      refine lv_lconst (v := (0 : Int64)) hx hb dX2_worked_119 rfl ?_
      refine W.lcmp hx hb dX2_worked_120 ?_
      refine lv_if_eq (tgt := 128) hx hb dX2_worked_121 (by decide) (fun h31 => ?_) (fun h31 => ?_)
      · rw [if_pos h31] at he
        refine lv_lconst (v := (0 : Int64)) hx hb dX2_worked_128 rfl ?_
        cases he
        exact g_lret E hM hret hlk dX2_worked_129
      · rw [if_neg h31] at he
        exact w2_worked_b124 (F := F) (a0 := a0) (a1 := a1) (a3 := a3) E hml hret hlk _ _ _ hM (lv_sub hl [] rfl) he
  rw [if_neg h29] at he
  refine lv_tableOut (tgt := 130) hx hb dX2_worked_1 (by have zh1 := lv_neT (a := 0) h1 rfl; have zh2 := lv_neT (a := 1) h2 rfl; have zh3 := lv_neT (a := 2) h3 rfl; have zh5 := lv_neT (a := 3) h5 rfl; have zh8 := lv_neT (a := 4) h8 rfl; have zh11 := lv_neT (a := 5) h11 rfl; have zh14 := lv_neT (a := 6) h14 rfl; have zh17 := lv_neT (a := 7) h17 rfl; have zh20 := lv_neT (a := 8) h20 rfl; have zh23 := lv_neT (a := 9) h23 rfl; have zh26 := lv_neT (a := 10) h26 rfl; have zh29 := lv_neT (a := 11) h29 rfl; omega) (by decide) ?_
  refine lv_iload_n hx hb dX2_worked_130 rfl (lv_at hl 0 rfl) ?_
  refine lv_lload_n hx hb dX2_worked_131 rfl (lv_at hl 1 rfl) ?_
  refine lv_lload_n hx hb dX2_worked_132 rfl (lv_at hl 2 rfl) ?_
  obtain ⟨r32, hcr32, he⟩ := g_bind he
  refine g_callS [.int a0, .long a1, .long a3] (rest := []) E hml hl.1 hM cs_X2_45 (c2_isSo l D aC B hcr32) (by decide) rfl rfl (Nat.le_of_ble_eq_true rfl) dX2_worked_133 (fun H locs hM => ?_)
  refine W.eq (g2 := F0 m 136 ls [.int r32]) rfl ?_
  refine lv_if_eq (tgt := 143) hx hb dX2_worked_136 (by decide) (fun h33 => ?_) (fun h33 => ?_)
  · rw [if_pos h33] at he
    refine lv_lconst (v := (0 : Int64)) hx hb dX2_worked_143 rfl ?_
    cases he
    exact g_lret E hM hret hlk dX2_worked_144
  · rw [if_neg h33] at he
    refine lv_lconst (v := (1 : Int64)) hx hb dX2_worked_139 rfl ?_
    refine lv_goto (tgt := 144) hx hb dX2_worked_140 (by decide) ?_
    cases he
    exact g_lret E hM hret hlk dX2_worked_144

set_option maxHeartbeats 4000000 in
set_option maxRecDepth 100000 in
theorem w2_value_b146 (E : g_C p s m args c cX2_value RX2 D aC (g_Zs (g_A B 69))) (hml : c.maxLocals = 8) (hret : meth.sig.returnType = (some .long)) (hlk : meth.locks = false) {F : Nat} {q0 : Int64 × g_M} {t : Nat} {a1 : Int32} {a2 : Nat} (ht : t < 69) (hY : yC.1 t = (2, 0)) (ha2 : a2 < 69) (hYa2 : (yC.1 a2).1 = 51) {s10 : Int32 → Int32 → g_M → Option (Int64 × g_M)} (hs10 : ∀ (v3 : Int32) (v4 : Int32) (mem : g_M) (H : Heap) (locs : List Loc) (ls : Array Slot), g_At D aC B yC 69 mem s.heap H locs → lv_has ls 8 [(0, .ref (B + t)), (1, .int a1), (2, .ref (B + a2)), (3, .int v3), (4, .int v4)] → s10 v3 v4 mem = some q0 → W p l e (g_rm 3) s m args below meth c H locs 0 0 (g_MQ below D aC B yC 69 args s (some (.long q0.1)) q0.2) (F0 m 10 ls [])) : ∀ (v3 : Int32) (v4 : Int32) (v6 : Int64) (mem : g_M) (H : Heap) (locs : List Loc) (ls : Array Slot), g_At D aC B yC 69 mem s.heap H locs → lv_has ls 8 [(0, .ref (B + t)), (1, .int a1), (2, .ref (B + a2)), (3, .int v3), (4, .int v4), (6, .long v6)] → f2_value_b146 F t a1 a2 s10 v3 v4 v6 mem = some q0 → W p l e (g_rm 3) s m args below meth c H locs 0 0 (g_MQ below D aC B yC 69 args s (some (.long q0.1)) q0.2) (F0 m 146 ls []) := by
  intro v3 v4 v6 mem H locs ls hM hl he
  unfold f2_value_b146 at he
  have hx := E.1
  have hb := E.2.1
  have hown := E.2.2.1
  have hts := E.2.2.2.1
  refine lv_lload hx hb dX2_value_146 (lv_at hl 5 rfl) ?_
  refine lv_ldc2 (v := (1000000000000 : Int64)) hx hb hown (hts _ kc_X2_37) dX2_value_148 ?_
  refine W.lcmp hx hb dX2_value_151 ?_
  refine lv_if_gt (tgt := 164) hx hb dX2_value_152 (by decide) (fun h1 => ?_) (fun h1 => ?_)
  · rw [if_neg (Int32.not_le.mpr h1)] at he
    refine lv_ldc2 (v := (-9223372036854775808 : Int64)) hx hb hown (hts _ kc_X2_35) dX2_value_164 ?_
    cases he
    exact g_lret E hM hret hlk dX2_value_167
  · rw [if_pos (Int32.not_lt.mp h1)] at he
    refine lv_lload hx hb dX2_value_155 (lv_at hl 5 rfl) ?_
    refine lv_ldc2 (v := (-1000000000000 : Int64)) hx hb hown (hts _ kc_X2_39) dX2_value_157 ?_
    refine W.lcmp hx hb dX2_value_160 ?_
    refine lv_if_ge (tgt := 168) hx hb dX2_value_161 (by decide) (fun h2 => ?_) (fun h2 => ?_)
    · rw [if_neg (Int32.not_lt.mpr h2)] at he
      refine lv_aload_n hx hb dX2_value_168 rfl (lv_at hl 0 rfl) ?_
      refine g_getP E hM (o := t) ht hY fl_X2_27 (q := (t + 4)) (pt_2_4 t ht hY).1 dX2_value_169 ?_
      refine lv_iload_n hx hb dX2_value_172 rfl (lv_at hl 3 rfl) ?_
      refine lv_lload hx hb dX2_value_173 (lv_at hl 5 rfl) ?_
      obtain ⟨h3, he⟩ := g_ck_some he
      refine g_last E hM (o := (t + 4)) (pt_2_4 t ht hY).2.1 (pt_2_4 t ht hY).2.2 h3 dX2_value_175 (fun H locs hM => ?_)
      obtain ⟨m4, hm4, he⟩ := g_let_ex he
      rw [← hm4] at hM
      obtain ⟨x5, hx5, he⟩ := g_let_ex he
      refine lv_iinc (v := x5) (lv' := [(3, .int x5), (0, .ref (B + t)), (1, .int a1), (2, .ref (B + a2)), (4, .int v4), (6, .long v6)]) hx hb dX2_value_176 hl (k := 3) rfl (by rw [hx5]; rfl) (by decide) rfl (fun ls hl => ?_)
      obtain ⟨x6, hx6, he⟩ := g_let_ex he
      refine lv_iinc (v := x6) (lv' := [(4, .int x6), (3, .int x5), (0, .ref (B + t)), (1, .int a1), (2, .ref (B + a2)), (6, .long v6)]) hx hb dX2_value_179 hl (k := 4) rfl (by rw [hx6]; rfl) (by decide) rfl (fun ls hl => ?_)
      refine lv_goto (tgt := 10) hx hb dX2_value_182 (by decide) ?_
      exact hs10 _ _ _ _ _ _ hM (lv_sub hl [2, 3, 4, 1, 0] rfl) he
    · rw [if_pos (Int32.not_le.mp h2)] at he
      refine lv_ldc2 (v := (-9223372036854775808 : Int64)) hx hb hown (hts _ kc_X2_35) dX2_value_164 ?_
      cases he
      exact g_lret E hM hret hlk dX2_value_167

set_option maxHeartbeats 4000000 in
set_option maxRecDepth 100000 in
theorem w2_value_b60 (E : g_C p s m args c cX2_value RX2 D aC (g_Zs (g_A B 69))) (hml : c.maxLocals = 8) (hret : meth.sig.returnType = (some .long)) (hlk : meth.locks = false) {F : Nat} {q0 : Int64 × g_M} {t : Nat} {a1 : Int32} {a2 : Nat} (ht : t < 69) (hY : yC.1 t = (2, 0)) (ha2 : a2 < 69) (hYa2 : (yC.1 a2).1 = 51) {s10 : Int32 → Int32 → g_M → Option (Int64 × g_M)} (hs10 : ∀ (v3 : Int32) (v4 : Int32) (mem : g_M) (H : Heap) (locs : List Loc) (ls : Array Slot), g_At D aC B yC 69 mem s.heap H locs → lv_has ls 8 [(0, .ref (B + t)), (1, .int a1), (2, .ref (B + a2)), (3, .int v3), (4, .int v4)] → s10 v3 v4 mem = some q0 → W p l e (g_rm 3) s m args below meth c H locs 0 0 (g_MQ below D aC B yC 69 args s (some (.long q0.1)) q0.2) (F0 m 10 ls [])) : ∀ (v3 : Int32) (v4 : Int32) (w0 : Int64) (mem : g_M) (H : Heap) (locs : List Loc) (ls : Array Slot), g_At D aC B yC 69 mem s.heap H locs → lv_has ls 8 [(0, .ref (B + t)), (1, .int a1), (2, .ref (B + a2)), (3, .int v3), (4, .int v4)] → f2_value_b60 F t a1 a2 s10 v3 v4 w0 mem = some q0 → W p l e (g_rm 3) s m args below meth c H locs 0 0 (g_MQ below D aC B yC 69 args s (some (.long q0.1)) q0.2) (F0 m 60 ls [.long w0]) := by
  intro v3 v4 w0 mem H locs ls hM hl he
  unfold f2_value_b60 at he
  have hx := E.1
  have hb := E.2.1
  have hown := E.2.2.1
  have hts := E.2.2.2.1
  refine lv_lstore (lv' := [(6, .long w0), (0, .ref (B + t)), (1, .int a1), (2, .ref (B + a2)), (3, .int v3), (4, .int v4)]) hx hb dX2_value_60 hl (by decide) rfl (fun ls hl => ?_)
  refine lv_goto (tgt := 146) hx hb dX2_value_62 (by decide) ?_
  exact w2_value_b146 (F := F) (t := t) (a1 := a1) (a2 := a2) E hml hret hlk ht hY ha2 hYa2 hs10 _ _ _ _ _ _ _ hM (lv_sub hl [1, 2, 3, 4, 5, 0] rfl) he

set_option maxHeartbeats 4000000 in
set_option maxRecDepth 100000 in
theorem w2_value_b104 (E : g_C p s m args c cX2_value RX2 D aC (g_Zs (g_A B 69))) (hml : c.maxLocals = 8) (hret : meth.sig.returnType = (some .long)) (hlk : meth.locks = false) {F : Nat} {q0 : Int64 × g_M} {t : Nat} {a1 : Int32} {a2 : Nat} (ht : t < 69) (hY : yC.1 t = (2, 0)) (ha2 : a2 < 69) (hYa2 : (yC.1 a2).1 = 51) {s10 : Int32 → Int32 → g_M → Option (Int64 × g_M)} (hs10 : ∀ (v3 : Int32) (v4 : Int32) (mem : g_M) (H : Heap) (locs : List Loc) (ls : Array Slot), g_At D aC B yC 69 mem s.heap H locs → lv_has ls 8 [(0, .ref (B + t)), (1, .int a1), (2, .ref (B + a2)), (3, .int v3), (4, .int v4)] → s10 v3 v4 mem = some q0 → W p l e (g_rm 3) s m args below meth c H locs 0 0 (g_MQ below D aC B yC 69 args s (some (.long q0.1)) q0.2) (F0 m 10 ls [])) : ∀ (v3 : Int32) (v4 : Int32) (v5 : Int32) (mem : g_M) (H : Heap) (locs : List Loc) (ls : Array Slot), g_At D aC B yC 69 mem s.heap H locs → lv_has ls 8 [(0, .ref (B + t)), (1, .int a1), (2, .ref (B + a2)), (3, .int v3), (4, .int v4), (5, .int v5)] → f2_value_b104 F t a1 a2 s10 v3 v4 v5 mem = some q0 → W p l e (g_rm 3) s m args below meth c H locs 0 0 (g_MQ below D aC B yC 69 args s (some (.long q0.1)) q0.2) (F0 m 104 ls []) := by
  intro v3 v4 v5 mem H locs ls hM hl he
  unfold f2_value_b104 at he
  have hx := E.1
  have hb := E.2.1
  have hown := E.2.2.1
  have hts := E.2.2.2.1
  refine lv_iload_n hx hb dX2_value_104 rfl (lv_at hl 3 rfl) ?_
  refine lv_iconst (v := (2 : Int32)) hx hb dX2_value_105 rfl ?_
  refine lv_icmp_lt (tgt := 142) hx hb dX2_value_106 (by decide) (fun h7 => ?_) (fun h7 => ?_)
  · rw [if_neg (Int32.not_le.mpr h7)] at he
    refine lv_ldc2 (v := (-9223372036854775808 : Int64)) hx hb hown (hts _ kc_X2_35) dX2_value_142 ?_
    cases he
    exact g_lret E hM hret hlk dX2_value_145
  · rw [if_pos (Int32.not_lt.mp h7)] at he
    refine lv_iload hx hb dX2_value_109 (lv_at hl 5 rfl) ?_
    refine lv_sipush (v := (10007 : Int32)) hx hb dX2_value_111 rfl ?_
    refine lv_isub hx hb dX2_value_114 ?_
    refine lv_aload_n hx hb dX2_value_115 rfl (lv_at hl 0 rfl) ?_
    refine g_getP E hM (o := t) ht hY fl_X2_27 (q := (t + 4)) (pt_2_4 t ht hY).1 dX2_value_116 ?_
    refine lv_iload_n hx hb dX2_value_119 rfl (lv_at hl 3 rfl) ?_
    refine lv_iconst (v := (2 : Int32)) hx hb dX2_value_120 rfl ?_
    refine lv_isub hx hb dX2_value_121 ?_
    obtain ⟨h8, he⟩ := g_ck_some he
    refine g_lald E hM (o := (t + 4)) (pt_2_4 t ht hY).2.1 (pt_2_4 t ht hY).2.2 h8 dX2_value_122 ?_
    refine lv_aload_n hx hb dX2_value_123 rfl (lv_at hl 0 rfl) ?_
    refine g_getP E hM (o := t) ht hY fl_X2_27 (q := (t + 4)) (pt_2_4 t ht hY).1 dX2_value_124 ?_
    refine lv_iload_n hx hb dX2_value_127 rfl (lv_at hl 3 rfl) ?_
    refine lv_iconst (v := (1 : Int32)) hx hb dX2_value_128 rfl ?_
    refine lv_isub hx hb dX2_value_129 ?_
    obtain ⟨h9, he⟩ := g_ck_some he
    refine g_lald E hM (o := (t + 4)) (pt_2_4 t ht hY).2.1 (pt_2_4 t ht hY).2.2 h9 dX2_value_130 ?_
    obtain ⟨r10, hcr10, he⟩ := g_bind he
    refine g_callS [.int (v5 - (10007 : Int32)), .long (mem.2.1 (t + 4) (v3 - (2 : Int32)).toNatClampNeg), .long (mem.2.1 (t + 4) (v3 - (1 : Int32)).toNatClampNeg)] (rest := []) E hml hl.1 hM cs_X2_31 (c2_worked l D aC B hcr10) (by decide) rfl rfl (Nat.le_of_ble_eq_true rfl) dX2_value_131 (fun H locs hM => ?_)
    refine W.eq (g2 := F0 m 134 ls [.long r10]) rfl ?_
    refine lv_lstore (lv' := [(6, .long r10), (0, .ref (B + t)), (1, .int a1), (2, .ref (B + a2)), (3, .int v3), (4, .int v4), (5, .int v5)]) hx hb dX2_value_134 hl (by decide) rfl (fun ls hl => ?_)
    obtain ⟨x11, hx11, he⟩ := g_let_ex he
    refine lv_iinc (v := x11) (lv' := [(3, .int x11), (6, .long r10), (0, .ref (B + t)), (1, .int a1), (2, .ref (B + a2)), (4, .int v4), (5, .int v5)]) hx hb dX2_value_136 hl (k := 4) rfl (by rw [hx11]; rfl) (by decide) rfl (fun ls hl => ?_)
    refine lv_goto (tgt := 146) hx hb dX2_value_139 (by decide) ?_
    exact w2_value_b146 (F := F) (t := t) (a1 := a1) (a2 := a2) E hml hret hlk ht hY ha2 hYa2 hs10 _ _ _ _ _ _ _ hM (lv_sub hl [2, 3, 4, 0, 5, 1] rfl) he

set_option maxHeartbeats 4000000 in
set_option maxRecDepth 100000 in
theorem w2_value_b96 (E : g_C p s m args c cX2_value RX2 D aC (g_Zs (g_A B 69))) (hml : c.maxLocals = 8) (hret : meth.sig.returnType = (some .long)) (hlk : meth.locks = false) {F : Nat} {q0 : Int64 × g_M} {t : Nat} {a1 : Int32} {a2 : Nat} (ht : t < 69) (hY : yC.1 t = (2, 0)) (ha2 : a2 < 69) (hYa2 : (yC.1 a2).1 = 51) {s10 : Int32 → Int32 → g_M → Option (Int64 × g_M)} (hs10 : ∀ (v3 : Int32) (v4 : Int32) (mem : g_M) (H : Heap) (locs : List Loc) (ls : Array Slot), g_At D aC B yC 69 mem s.heap H locs → lv_has ls 8 [(0, .ref (B + t)), (1, .int a1), (2, .ref (B + a2)), (3, .int v3), (4, .int v4)] → s10 v3 v4 mem = some q0 → W p l e (g_rm 3) s m args below meth c H locs 0 0 (g_MQ below D aC B yC 69 args s (some (.long q0.1)) q0.2) (F0 m 10 ls [])) : ∀ (v3 : Int32) (v4 : Int32) (w0 : Int64) (mem : g_M) (H : Heap) (locs : List Loc) (ls : Array Slot), g_At D aC B yC 69 mem s.heap H locs → lv_has ls 8 [(0, .ref (B + t)), (1, .int a1), (2, .ref (B + a2)), (3, .int v3), (4, .int v4)] → f2_value_b96 F t a1 a2 s10 v3 v4 w0 mem = some q0 → W p l e (g_rm 3) s m args below meth c H locs 0 0 (g_MQ below D aC B yC 69 args s (some (.long q0.1)) q0.2) (F0 m 96 ls [.long w0]) := by
  intro v3 v4 w0 mem H locs ls hM hl he
  unfold f2_value_b96 at he
  have hx := E.1
  have hb := E.2.1
  have hown := E.2.2.1
  have hts := E.2.2.2.1
  refine lv_lstore (lv' := [(6, .long w0), (0, .ref (B + t)), (1, .int a1), (2, .ref (B + a2)), (3, .int v3), (4, .int v4)]) hx hb dX2_value_96 hl (by decide) rfl (fun ls hl => ?_)
  obtain ⟨x12, hx12, he⟩ := g_let_ex he
  refine lv_iinc (v := x12) (lv' := [(3, .int x12), (6, .long w0), (0, .ref (B + t)), (1, .int a1), (2, .ref (B + a2)), (4, .int v4)]) hx hb dX2_value_98 hl (k := 4) rfl (by rw [hx12]; rfl) (by decide) rfl (fun ls hl => ?_)
  refine lv_goto (tgt := 146) hx hb dX2_value_101 (by decide) ?_
  exact w2_value_b146 (F := F) (t := t) (a1 := a1) (a2 := a2) E hml hret hlk ht hY ha2 hYa2 hs10 _ _ _ _ _ _ _ hM (lv_sub hl [2, 3, 4, 0, 5, 1] rfl) he

set_option maxHeartbeats 4000000 in
set_option maxRecDepth 100000 in
theorem w2_value_b10_body (E : g_C p s m args c cX2_value RX2 D aC (g_Zs (g_A B 69))) (hml : c.maxLocals = 8) (hret : meth.sig.returnType = (some .long)) (hlk : meth.locks = false) {F : Nat} {q0 : Int64 × g_M} {t : Nat} {a1 : Int32} {a2 : Nat} (ht : t < 69) (hY : yC.1 t = (2, 0)) (ha2 : a2 < 69) (hYa2 : (yC.1 a2).1 = 51) {s10 : Int32 → Int32 → g_M → Option (Int64 × g_M)} (hs10 : ∀ (v3 : Int32) (v4 : Int32) (mem : g_M) (H : Heap) (locs : List Loc) (ls : Array Slot), g_At D aC B yC 69 mem s.heap H locs → lv_has ls 8 [(0, .ref (B + t)), (1, .int a1), (2, .ref (B + a2)), (3, .int v3), (4, .int v4)] → s10 v3 v4 mem = some q0 → W p l e (g_rm 3) s m args below meth c H locs 0 0 (g_MQ below D aC B yC 69 args s (some (.long q0.1)) q0.2) (F0 m 10 ls [])) : ∀ (v3 : Int32) (v4 : Int32) (mem : g_M) (H : Heap) (locs : List Loc) (ls : Array Slot), g_At D aC B yC 69 mem s.heap H locs → lv_has ls 8 [(0, .ref (B + t)), (1, .int a1), (2, .ref (B + a2)), (3, .int v3), (4, .int v4)] → f2_value_b10_body F t a1 a2 s10 v3 v4 mem = some q0 → W p l e (g_rm 3) s m args below meth c H locs 0 0 (g_MQ below D aC B yC 69 args s (some (.long q0.1)) q0.2) (F0 m 10 ls []) := by
  intro v3 v4 mem H locs ls hM hl he
  unfold f2_value_b10_body at he
  have hx := E.1
  have hb := E.2.1
  have hown := E.2.2.1
  have hts := E.2.2.2.1
  refine lv_iload hx hb dX2_value_10 (lv_at hl 4 rfl) ?_
  refine lv_aload_n hx hb dX2_value_12 rfl (lv_at hl 0 rfl) ?_
  refine g_getP E hM (o := t) ht hY fl_X2_20 (q := (t + 3)) (pt_2_2 t ht hY).1 dX2_value_13 ?_
  refine lv_iload_n hx hb dX2_value_16 rfl (lv_at hl 1 rfl) ?_
  obtain ⟨h13, he⟩ := g_ck_some he
  refine g_iald E hM (o := (t + 3)) (pt_2_2 t ht hY).2.1 (pt_2_2 t ht hY).2.2 h13 dX2_value_17 ?_
  refine lv_icmp_ge (tgt := 185) hx hb dX2_value_18 (by decide) (fun h14 => ?_) (fun h14 => ?_)
  · rw [if_neg (Int32.not_lt.mpr h14)] at he
    refine lv_iload_n hx hb dX2_value_185 rfl (lv_at hl 3 rfl) ?_
    refine lv_iconst (v := (1 : Int32)) hx hb dX2_value_186 rfl ?_
    refine lv_icmp_ne (tgt := 199) hx hb dX2_value_187 (by decide) (fun h24 => ?_) (fun h24 => ?_)
    · rw [if_neg h24] at he
      refine lv_ldc2 (v := (-9223372036854775808 : Int64)) hx hb hown (hts _ kc_X2_35) dX2_value_199 ?_
      cases he
      exact g_lret E hM hret hlk dX2_value_202
    · rw [if_pos h24] at he
      refine lv_aload_n hx hb dX2_value_190 rfl (lv_at hl 0 rfl) ?_
      refine g_getP E hM (o := t) ht hY fl_X2_27 (q := (t + 4)) (pt_2_4 t ht hY).1 dX2_value_191 ?_
      refine lv_iconst (v := (0 : Int32)) hx hb dX2_value_194 rfl ?_
      obtain ⟨h25, he⟩ := g_ck_some he
      refine g_lald E hM (o := (t + 4)) (pt_2_4 t ht hY).2.1 (pt_2_4 t ht hY).2.2 h25 dX2_value_195 ?_
      refine lv_goto (tgt := 202) hx hb dX2_value_196 (by decide) ?_
      cases he
      exact g_lret E hM hret hlk dX2_value_202
  · rw [if_pos (Int32.not_le.mp h14)] at he
    refine lv_aload_n hx hb dX2_value_21 rfl (lv_at hl 0 rfl) ?_
    refine g_getP E hM (o := t) ht hY fl_X2_13 (q := (t + 1)) (pt_2_0 t ht hY).1 dX2_value_22 ?_
    refine lv_iload hx hb dX2_value_25 (lv_at hl 4 rfl) ?_
    obtain ⟨h15, he⟩ := g_ck_some he
    refine g_iald E hM (o := (t + 1)) (pt_2_0 t ht hY).2.1 (pt_2_0 t ht hY).2.2 h15 dX2_value_27 ?_
    obtain ⟨x16, hx16, he⟩ := g_let_ex he
    refine g_topI hx16 ?_
    refine lv_istore (lv' := [(5, .int x16), (0, .ref (B + t)), (1, .int a1), (2, .ref (B + a2)), (3, .int v3), (4, .int v4)]) hx hb dX2_value_28 hl (by decide) rfl (fun ls hl => ?_)
    refine lv_iload hx hb dX2_value_30 (lv_at hl 0 rfl) ?_
    refine lv_sipush (v := (10007 : Int32)) hx hb dX2_value_32 rfl ?_
    refine lv_icmp_ge (tgt := 65) hx hb dX2_value_35 (by decide) (fun h17 => ?_) (fun h17 => ?_)
    · rw [if_neg (Int32.not_lt.mpr h17)] at he
      refine lv_iload hx hb dX2_value_65 (lv_at hl 0 rfl) ?_
      refine lv_sipush (v := (10019 : Int32)) hx hb dX2_value_67 rfl ?_
      refine lv_icmp_ne (tgt := 104) hx hb dX2_value_70 (by decide) (fun h20 => ?_) (fun h20 => ?_)
      · rw [if_neg h20] at he
        exact w2_value_b104 (F := F) (t := t) (a1 := a1) (a2 := a2) E hml hret hlk ht hY ha2 hYa2 hs10 _ _ _ _ _ _ _ hM (lv_sub hl [1, 2, 3, 4, 5, 0] rfl) he
      · rw [if_pos h20] at he
        refine lv_iload_n hx hb dX2_value_73 rfl (lv_at hl 4 rfl) ?_
        refine lv_iconst (v := (1 : Int32)) hx hb dX2_value_74 rfl ?_
        refine lv_icmp_lt (tgt := 104) hx hb dX2_value_75 (by decide) (fun h21 => ?_) (fun h21 => ?_)
        · rw [if_neg (Int32.not_le.mpr h21)] at he
          exact w2_value_b104 (F := F) (t := t) (a1 := a1) (a2 := a2) E hml hret hlk ht hY ha2 hYa2 hs10 _ _ _ _ _ _ _ hM (lv_sub hl [1, 2, 3, 4, 5, 0] rfl) he
        · rw [if_pos (Int32.not_lt.mp h21)] at he
          refine lv_aload_n hx hb dX2_value_78 rfl (lv_at hl 1 rfl) ?_
          refine g_getP E hM (o := t) ht hY fl_X2_27 (q := (t + 4)) (pt_2_4 t ht hY).1 dX2_value_79 ?_
          refine lv_iload_n hx hb dX2_value_82 rfl (lv_at hl 4 rfl) ?_
          refine lv_iconst (v := (1 : Int32)) hx hb dX2_value_83 rfl ?_
          refine lv_isub hx hb dX2_value_84 ?_
          obtain ⟨h22, he⟩ := g_ck_some he
          refine g_lald E hM (o := (t + 4)) (pt_2_4 t ht hY).2.1 (pt_2_4 t ht hY).2.2 h22 dX2_value_85 ?_
          refine lv_lconst (v := (0 : Int64)) hx hb dX2_value_86 rfl ?_
          refine W.lcmp hx hb dX2_value_87 ?_
          refine lv_if_ne (tgt := 95) hx hb dX2_value_88 (by decide) (fun h23 => ?_) (fun h23 => ?_)
          · rw [if_neg h23] at he
            refine lv_lconst (v := (0 : Int64)) hx hb dX2_value_95 rfl ?_
            exact w2_value_b96 (F := F) (t := t) (a1 := a1) (a2 := a2) E hml hret hlk ht hY ha2 hYa2 hs10 _ _ _ _ _ _ _ hM (lv_sub hl [1, 2, 3, 4, 5] rfl) he
          · rw [if_pos h23] at he
            refine lv_lconst (v := (1 : Int64)) hx hb dX2_value_91 rfl ?_
            refine lv_goto (tgt := 96) hx hb dX2_value_92 (by decide) ?_
            exact w2_value_b96 (F := F) (t := t) (a1 := a1) (a2 := a2) E hml hret hlk ht hY ha2 hYa2 hs10 _ _ _ _ _ _ _ hM (lv_sub hl [1, 2, 3, 4, 5] rfl) he
    · rw [if_pos (Int32.not_le.mp h17)] at he
      refine lv_iload hx hb dX2_value_38 (lv_at hl 0 rfl) ?_
      refine lv_sipush (v := (10000 : Int32)) hx hb dX2_value_40 rfl ?_
      refine lv_icmp_ge (tgt := 52) hx hb dX2_value_43 (by decide) (fun h18 => ?_) (fun h18 => ?_)
      · rw [if_neg (Int32.not_lt.mpr h18)] at he
        refine lv_aload_n hx hb dX2_value_52 rfl (lv_at hl 3 rfl) ?_
        refine lv_iload hx hb dX2_value_53 (lv_at hl 0 rfl) ?_
        refine lv_sipush (v := (10000 : Int32)) hx hb dX2_value_55 rfl ?_
        refine lv_isub hx hb dX2_value_58 ?_
        obtain ⟨h19, he⟩ := g_ck_some he
        refine g_lald E hM (o := a2) ha2 (g_yp hYa2) h19 dX2_value_59 ?_
        exact w2_value_b60 (F := F) (t := t) (a1 := a1) (a2 := a2) E hml hret hlk ht hY ha2 hYa2 hs10 _ _ _ _ _ _ _ hM (lv_sub hl [1, 2, 3, 4, 5] rfl) he
      · rw [if_pos (Int32.not_le.mp h18)] at he
        refine lv_iload hx hb dX2_value_46 (lv_at hl 0 rfl) ?_
        refine lv_i2l hx hb dX2_value_48 rfl ?_
        refine lv_goto (tgt := 60) hx hb dX2_value_49 (by decide) ?_
        exact w2_value_b60 (F := F) (t := t) (a1 := a1) (a2 := a2) E hml hret hlk ht hY ha2 hYa2 hs10 _ _ _ _ _ _ _ hM (lv_sub hl [1, 2, 3, 4, 5] rfl) he

set_option maxHeartbeats 4000000 in
set_option maxRecDepth 100000 in
theorem w2_value_b10 (E : g_C p s m args c cX2_value RX2 D aC (g_Zs (g_A B 69))) (hml : c.maxLocals = 8) (hret : meth.sig.returnType = (some .long)) (hlk : meth.locks = false) {F : Nat} {q0 : Int64 × g_M} {t : Nat} {a1 : Int32} {a2 : Nat} (ht : t < 69) (hY : yC.1 t = (2, 0)) (ha2 : a2 < 69) (hYa2 : (yC.1 a2).1 = 51) : ∀ (v3 : Int32) (v4 : Int32) (mem : g_M) (H : Heap) (locs : List Loc) (ls : Array Slot), g_At D aC B yC 69 mem s.heap H locs → lv_has ls 8 [(0, .ref (B + t)), (1, .int a1), (2, .ref (B + a2)), (3, .int v3), (4, .int v4)] → f2_value_b10 F t a1 a2 v3 v4 mem = some q0 → W p l e (g_rm 3) s m args below meth c H locs 0 0 (g_MQ below D aC B yC 69 args s (some (.long q0.1)) q0.2) (F0 m 10 ls []) := by
  have key : ∀ (nn : Nat) (x : Int32 × Int32 × g_M) (H : Heap) (locs : List Loc) (ls : Array Slot), g_At D aC B yC 69 x.2.2 s.heap H locs → lv_has ls 8 [(0, .ref (B + t)), (1, .int a1), (2, .ref (B + a2)), (3, .int x.1), (4, .int x.2.1)] → g_fix (fun sf x => f2_value_b10_body F t a1 a2 (fun v3 v4 mem => sf (v3, v4, mem)) x.1 x.2.1 x.2.2) nn x = some q0 → W p l e (g_rm 3) s m args below meth c H locs 0 0 (g_MQ below D aC B yC 69 args s (some (.long q0.1)) q0.2) (F0 m 10 ls []) := by
    intro nn
    induction nn with
    | zero => intro x H locs ls hM hl he; simp [g_fix] at he
    | succ nn ih =>
      intro x H locs ls hM hl he
      exact w2_value_b10_body (F := F) (t := t) (a1 := a1) (a2 := a2) E hml hret hlk ht hY ha2 hYa2 (fun v3 v4 mem H locs ls hM hl he => ih (v3, v4, mem) H locs ls hM hl he) x.1 x.2.1 x.2.2 H locs ls hM hl he
  intro v3 v4 mem H locs ls hM hl he
  exact key F (v3, v4, mem) H locs ls hM hl he

set_option maxHeartbeats 4000000 in
set_option maxRecDepth 100000 in
theorem c2_value (l : Launch) (D : va_G) (aC : Nat → ClassId) (B : Nat) {F : Nat} {t : Nat} (ht : t < 69) (hY : yC.1 t = (2, 0)) {a1 : Int32} {a2 : Nat} (ha2 : a2 < 69) (hYa2 : (yC.1 a2).1 = 51) {mem : g_M} {q0 : Int64 × g_M} (he : f2_value F t a1 a2 mem = some q0) : g_Met l yX2_value cX2_value 8 (some .long) 3 D aC B yC 69 mem [.ref (B + t), .int a1, .ref (B + a2)] (some (.long q0.1)) q0.2 := by
  refine g_ofW (by decide) (Nat.le_of_ble_eq_true rfl) ?_
  intro p e s m args below meth c ls E hml hret hlk hM hl
  have E : g_C p s m args c cX2_value RX2 D aC (g_Zs (g_A B 69)) := E
  have hx := E.1
  have hb := E.2.1
  have hown := E.2.2.1
  have hts := E.2.2.2.1
  have hl : lv_has ls 8 [(0, .ref (B + t)), (1, .int a1), (2, .ref (B + a2))] := hl
  unfold f2_value at he
  refine lv_iconst (v := (0 : Int32)) hx hb dX2_value_0 rfl ?_
  refine lv_istore_n (lv' := [(3, .int (0 : Int32)), (0, .ref (B + t)), (1, .int a1), (2, .ref (B + a2))]) hx hb dX2_value_1 rfl hl (by decide) rfl (fun ls hl => ?_)
  refine lv_aload_n hx hb dX2_value_2 rfl (lv_at hl 1 rfl) ?_
  refine g_getP E hM (o := t) ht hY fl_X2_17 (q := (t + 2)) (pt_2_1 t ht hY).1 dX2_value_3 ?_
  refine lv_iload_n hx hb dX2_value_6 rfl (lv_at hl 2 rfl) ?_
  obtain ⟨h26, he⟩ := g_ck_some he
  refine g_iald E hM (o := (t + 2)) (pt_2_1 t ht hY).2.1 (pt_2_1 t ht hY).2.2 h26 dX2_value_7 ?_
  obtain ⟨x27, hx27, he⟩ := g_let_ex he
  refine g_topI hx27 ?_
  refine lv_istore (lv' := [(4, .int x27), (3, .int (0 : Int32)), (0, .ref (B + t)), (1, .int a1), (2, .ref (B + a2))]) hx hb dX2_value_8 hl (by decide) rfl (fun ls hl => ?_)
  exact w2_value_b10 (F := F) (t := t) (a1 := a1) (a2 := a2) E hml hret hlk ht hY ha2 hYa2 _ _ _ _ _ _ hM (lv_sub hl [2, 3, 4, 1, 0] rfl) he

set_option maxHeartbeats 4000000 in
set_option maxRecDepth 100000 in
theorem c0_gainLaw (l : Launch) (D : va_G) (aC : Nat → ClassId) (B : Nat) {F : Nat} {a1 : Int32} {a2 : Int32} {mem : g_M} {q0 : Int64 × g_M} (he : f0_gainLaw F a1 a2 mem = some q0) : g_Met l yX0_gainLaw cX0_gainLaw 3 (some .long) 4 D aC B yC 69 mem [.ref (B + 53), .int a1, .int a2] (some (.long q0.1)) q0.2 := by
  refine g_ofW (by decide) (Nat.le_of_ble_eq_true rfl) ?_
  intro p e s m args below meth c ls E hml hret hlk hM hl
  have E : g_C p s m args c cX0_gainLaw RX0 D aC (g_Zs (g_A B 69)) := E
  have hx := E.1
  have hb := E.2.1
  have hown := E.2.2.1
  have hts := E.2.2.2.1
  have hl : lv_has ls 3 [(0, .ref (B + 53)), (1, .int a1), (2, .int a2)] := hl
  unfold f0_gainLaw at he
  refine lv_aload_n hx hb dX0_gainLaw_0 rfl (lv_at hl 0 rfl) ?_
  obtain ⟨q1, hqq1, hq1, hYq1, he⟩ := g_dr_some he
  refine g_getD E hM (o := 53) (Nat.le_of_ble_eq_true rfl) rfl fl_X0_48 rfl hqq1 dX0_gainLaw_1 ?_
  refine g_getP E hM (o := q1) hq1 hYq1 fl_X0_169 (q := (q1 + 9)) (pt_9_13 q1 hq1 hYq1).1 dX0_gainLaw_4 ?_
  refine lv_iconst (v := (1 : Int32)) hx hb dX0_gainLaw_7 rfl ?_
  obtain ⟨r2, hcr2, he⟩ := g_bind he
  refine g_callV [.int (1 : Int32)] (rest := []) E hml hl.1 hM cv_X0_173 (c2_isTold l D aC B (pt_9_13 q1 hq1 hYq1).2.1 (pt_9_13 q1 hq1 hYq1).2.2 hcr2) (o := (q1 + 9)) (pt_9_13 q1 hq1 hYq1).2.1 (pt_9_13 q1 hq1 hYq1).2.2 (by decide) rfl rfl (Nat.le_of_ble_eq_true rfl) dX0_gainLaw_8 (fun H locs hM => ?_)
  refine W.eq (g2 := F0 m 11 ls [.int r2]) rfl ?_
  refine lv_if_ne (tgt := 18) hx hb dX0_gainLaw_11 (by decide) (fun h3 => ?_) (fun h3 => ?_)
  · rw [if_neg h3] at he
    refine lv_aload_n hx hb dX0_gainLaw_18 rfl (lv_at hl 0 rfl) ?_
    refine g_getP E hM (o := 53) (Nat.le_of_ble_eq_true rfl) rfl fl_X0_34 (q := 55) rfl dX0_gainLaw_19 ?_
    refine lv_iconst (v := (0 : Int32)) hx hb dX0_gainLaw_22 rfl ?_
    refine lv_lconst (v := (0 : Int64)) hx hb dX0_gainLaw_23 rfl ?_
    obtain ⟨h4, he⟩ := g_ck_some he
    refine g_last E hM (o := 55) (Nat.le_of_ble_eq_true rfl) rfl h4 dX0_gainLaw_24 (fun H locs hM => ?_)
    obtain ⟨m5, hm5, he⟩ := g_let_ex he
    rw [← hm5] at hM
    refine lv_aload_n hx hb dX0_gainLaw_25 rfl (lv_at hl 0 rfl) ?_
    refine g_getP E hM (o := 53) (Nat.le_of_ble_eq_true rfl) rfl fl_X0_34 (q := 55) rfl dX0_gainLaw_26 ?_
    refine lv_iconst (v := (1 : Int32)) hx hb dX0_gainLaw_29 rfl ?_
    refine lv_lconst (v := (0 : Int64)) hx hb dX0_gainLaw_30 rfl ?_
    obtain ⟨h6, he⟩ := g_ck_some he
    refine g_last E hM (o := 55) (Nat.le_of_ble_eq_true rfl) rfl h6 dX0_gainLaw_31 (fun H locs hM => ?_)
    obtain ⟨m7, hm7, he⟩ := g_let_ex he
    rw [← hm7] at hM
    refine lv_aload_n hx hb dX0_gainLaw_32 rfl (lv_at hl 0 rfl) ?_
    refine lv_iload_n hx hb dX0_gainLaw_33 rfl (lv_at hl 1 rfl) ?_
    obtain ⟨r8, hcr8, he⟩ := g_bind he
    refine g_callV [.int a1] (rest := []) E hml hl.1 hM cv_X0_181 (c0_nameMan l D aC B hcr8) (o := 53) (Nat.le_of_ble_eq_true rfl) rfl (by decide) rfl rfl (Nat.le_of_ble_eq_true rfl) dX0_gainLaw_34 (fun H locs hM => ?_)
    refine W.eq (g2 := F0 m 37 ls []) rfl ?_
    refine lv_aload_n hx hb dX0_gainLaw_37 rfl (lv_at hl 0 rfl) ?_
    refine g_getP E hM (o := 53) (Nat.le_of_ble_eq_true rfl) rfl fl_X0_34 (q := 55) rfl dX0_gainLaw_38 ?_
    refine lv_iconst (v := (5 : Int32)) hx hb dX0_gainLaw_41 rfl ?_
    refine lv_aload_n hx hb dX0_gainLaw_42 rfl (lv_at hl 0 rfl) ?_
    obtain ⟨q9, hqq9, hq9, hYq9, he⟩ := g_dr_some he
    refine g_getD E hM (o := 53) (Nat.le_of_ble_eq_true rfl) rfl fl_X0_48 rfl hqq9 dX0_gainLaw_43 ?_
    refine lv_iload_n hx hb dX0_gainLaw_46 rfl (lv_at hl 2 rfl) ?_
    refine lv_iconst (v := (4 : Int32)) hx hb dX0_gainLaw_47 rfl ?_
    obtain ⟨r10, hcr10, he⟩ := g_bind he
    refine g_callV [.int a2, .int (4 : Int32)] (rest := [.int (5 : Int32), .ref (B + 55)]) E hml hl.1 hM cv_X0_76 (c9_wantAt l D aC B hq9 hYq9 hcr10) (o := q9) hq9 hYq9 (by decide) rfl rfl (Nat.le_of_ble_eq_true rfl) dX0_gainLaw_48 (fun H locs hM => ?_)
    refine W.eq (g2 := F0 m 51 ls [.int r10, .int (5 : Int32), .ref (B + 55)]) rfl ?_
    refine lv_i2l hx hb dX0_gainLaw_51 rfl ?_
    obtain ⟨h11, he⟩ := g_ck_some he
    refine g_last E hM (o := 55) (Nat.le_of_ble_eq_true rfl) rfl h11 dX0_gainLaw_52 (fun H locs hM => ?_)
    obtain ⟨m12, hm12, he⟩ := g_let_ex he
    rw [← hm12] at hM
    refine lv_aload_n hx hb dX0_gainLaw_53 rfl (lv_at hl 0 rfl) ?_
    obtain ⟨q13, hqq13, hq13, hYq13, he⟩ := g_dr_some he
    refine g_getD E hM (o := 53) (Nat.le_of_ble_eq_true rfl) rfl fl_X0_48 rfl hqq13 dX0_gainLaw_54 ?_
    refine g_getP E hM (o := q13) hq13 hYq13 fl_X0_169 (q := (q13 + 9)) (pt_9_13 q13 hq13 hYq13).1 dX0_gainLaw_57 ?_
    refine lv_iconst (v := (1 : Int32)) hx hb dX0_gainLaw_60 rfl ?_
    refine lv_aload_n hx hb dX0_gainLaw_61 rfl (lv_at hl 0 rfl) ?_
    refine g_getP E hM (o := 53) (Nat.le_of_ble_eq_true rfl) rfl fl_X0_34 (q := 55) rfl dX0_gainLaw_62 ?_
    obtain ⟨r14, hcr14, he⟩ := g_bind he
    refine g_callV [.int (1 : Int32), .ref (B + 55)] (rest := []) E hml hl.1 hM cv_X0_184 (c2_value l D aC B (pt_9_13 q13 hq13 hYq13).2.1 (pt_9_13 q13 hq13 hYq13).2.2 (Nat.le_of_ble_eq_true rfl) rfl hcr14) (o := (q13 + 9)) (pt_9_13 q13 hq13 hYq13).2.1 (pt_9_13 q13 hq13 hYq13).2.2 (by decide) rfl rfl (Nat.le_of_ble_eq_true rfl) dX0_gainLaw_65 (fun H locs hM => ?_)
    refine W.eq (g2 := F0 m 68 ls [.long r14.1]) rfl ?_
    cases he
    exact g_lret E hM hret hlk dX0_gainLaw_68
  · rw [if_pos h3] at he
    refine lv_ldc2 (v := (-9223372036854775808 : Int64)) hx hb hown (hts _ kc_X0_176) dX0_gainLaw_14 ?_
    cases he
    exact g_lret E hM hret hlk dX0_gainLaw_17

set_option maxHeartbeats 4000000 in
set_option maxRecDepth 100000 in
theorem c0_within (l : Launch) (D : va_G) (aC : Nat → ClassId) (B : Nat) {F : Nat} {a0 : Int64} {a2 : Int32} {mem : g_M} {q0 : Int32} (he : f0_within F a0 a2 mem = some q0) : g_Met l yX0_within cX0_within 3 (some .int) 2 D aC B yC 69 mem [.long a0, .int a2] (some (.int q0)) mem := by
  refine g_ofW (by decide) (Nat.le_of_ble_eq_true rfl) ?_
  intro p e s m args below meth c ls E hml hret hlk hM hl
  have E : g_C p s m args c cX0_within RX0 D aC (g_Zs (g_A B 69)) := E
  have hx := E.1
  have hb := E.2.1
  have hown := E.2.2.1
  have hts := E.2.2.2.1
  have hl : lv_has ls 3 [(0, .long a0), (2, .int a2)] := hl
  unfold f0_within at he
  refine lv_lload_n hx hb dX0_within_0 rfl (lv_at hl 0 rfl) ?_
  refine lv_ldc2 (v := (-9223372036854775808 : Int64)) hx hb hown (hts _ kc_X0_176) dX0_within_1 ?_
  refine W.lcmp hx hb dX0_within_4 ?_
  refine lv_if_ne (tgt := 10) hx hb dX0_within_5 (by decide) (fun h1 => ?_) (fun h1 => ?_)
  · rw [if_neg h1] at he
    refine lv_lconst (v := (0 : Int64)) hx hb dX0_within_10 rfl ?_
    refine lv_ldc2 (v := (999 : Int64)) hx hb hown (hts _ kc_X0_198) dX0_within_11 ?_
    refine lv_lload_n hx hb dX0_within_14 rfl (lv_at hl 0 rfl) ?_
    refine va_mmin_long hx hb (hml.trans hl.1.symm) hown (hts _ mm_X0_200) (hts _ km_minL.1) (hts _ ki_Math) (hts _ km_minL.2) (Nat.le_of_ble_eq_true rfl) (Nat.le_of_ble_eq_true rfl) (Nat.zero_le _) (Nat.zero_le _) dX0_within_15 ?_
    refine va_mmax_long hx hb (hml.trans hl.1.symm) hown (hts _ mm_X0_203) (hts _ km_maxL.1) (hts _ ki_Math) (hts _ km_maxL.2) (Nat.le_of_ble_eq_true rfl) (Nat.le_of_ble_eq_true rfl) (Nat.zero_le _) (Nat.zero_le _) dX0_within_18 ?_
    refine lv_l2i hx hb dX0_within_21 rfl ?_
    cases he
    exact g_iret E hM hret hlk dX0_within_22
  · rw [if_pos h1] at he
    refine lv_iload_n hx hb dX0_within_8 rfl (lv_at hl 1 rfl) ?_
    cases he
    exact g_iret E hM hret hlk dX0_within_9

set_option maxHeartbeats 4000000 in
set_option maxRecDepth 100000 in
theorem c0_settle (l : Launch) (D : va_G) (aC : Nat → ClassId) (B : Nat) {F : Nat} {a1 : Int32} {mem : g_M} {q0 : g_M} (he : f0_settle F a1 mem = some q0) : g_Met l yX0_settle cX0_settle 4 none 5 D aC B yC 69 mem [.ref (B + 53), .int a1] none q0 := by
  refine g_ofW (by decide) (Nat.le_of_ble_eq_true rfl) ?_
  intro p e s m args below meth c ls E hml hret hlk hM hl
  have E : g_C p s m args c cX0_settle RX0 D aC (g_Zs (g_A B 69)) := E
  have hx := E.1
  have hb := E.2.1
  have hown := E.2.2.1
  have hts := E.2.2.2.1
  have hl : lv_has ls 4 [(0, .ref (B + 53)), (1, .int a1)] := hl
  unfold f0_settle at he
  refine lv_aload_n hx hb dX0_settle_0 rfl (lv_at hl 0 rfl) ?_
  obtain ⟨q1, hqq1, hq1, hYq1, he⟩ := g_dr_some he
  refine g_getD E hM (o := 53) (Nat.le_of_ble_eq_true rfl) rfl fl_X0_48 rfl hqq1 dX0_settle_1 ?_
  refine lv_iload_n hx hb dX0_settle_4 rfl (lv_at hl 1 rfl) ?_
  refine lv_iconst (v := (0 : Int32)) hx hb dX0_settle_5 rfl ?_
  obtain ⟨r2, hcr2, he⟩ := g_bind he
  refine g_callV [.int a1, .int (0 : Int32)] (rest := []) E hml hl.1 hM cv_X0_76 (c9_wantAt l D aC B hq1 hYq1 hcr2) (o := q1) hq1 hYq1 (by decide) rfl rfl (Nat.le_of_ble_eq_true rfl) dX0_settle_6 (fun H locs hM => ?_)
  refine W.eq (g2 := F0 m 9 ls [.int r2]) rfl ?_
  refine lv_istore_n (lv' := [(2, .int r2), (0, .ref (B + 53)), (1, .int a1)]) hx hb dX0_settle_9 rfl hl (by decide) rfl (fun ls hl => ?_)
  refine lv_aload_n hx hb dX0_settle_10 rfl (lv_at hl 1 rfl) ?_
  obtain ⟨q3, hqq3, hq3, hYq3, he⟩ := g_dr_some he
  refine g_getD E hM (o := 53) (Nat.le_of_ble_eq_true rfl) rfl fl_X0_38 rfl hqq3 dX0_settle_11 ?_
  refine lv_iload_n hx hb dX0_settle_14 rfl (lv_at hl 0 rfl) ?_
  refine lv_aload_n hx hb dX0_settle_15 rfl (lv_at hl 1 rfl) ?_
  obtain ⟨q4, hqq4, hq4, hYq4, he⟩ := g_dr_some he
  refine g_getD E hM (o := 53) (Nat.le_of_ble_eq_true rfl) rfl fl_X0_48 rfl hqq4 dX0_settle_16 ?_
  refine lv_iload_n hx hb dX0_settle_19 rfl (lv_at hl 2 rfl) ?_
  refine lv_iconst (v := (1 : Int32)) hx hb dX0_settle_20 rfl ?_
  obtain ⟨r5, hcr5, he⟩ := g_bind he
  refine g_callV [.int a1, .int (1 : Int32)] (rest := [.int r2, .ref (B + q3)]) E hml hl.1 hM cv_X0_76 (c9_wantAt l D aC B hq4 hYq4 hcr5) (o := q4) hq4 hYq4 (by decide) rfl rfl (Nat.le_of_ble_eq_true rfl) dX0_settle_21 (fun H locs hM => ?_)
  refine W.eq (g2 := F0 m 24 ls [.int r5, .int r2, .ref (B + q3)]) rfl ?_
  refine lv_aload_n hx hb dX0_settle_24 rfl (lv_at hl 1 rfl) ?_
  obtain ⟨q6, hqq6, hq6, hYq6, he⟩ := g_dr_some he
  refine g_getD E hM (o := 53) (Nat.le_of_ble_eq_true rfl) rfl fl_X0_48 rfl hqq6 dX0_settle_25 ?_
  refine lv_iload_n hx hb dX0_settle_28 rfl (lv_at hl 2 rfl) ?_
  refine lv_iconst (v := (2 : Int32)) hx hb dX0_settle_29 rfl ?_
  obtain ⟨r7, hcr7, he⟩ := g_bind he
  refine g_callV [.int a1, .int (2 : Int32)] (rest := [.int r5, .int r2, .ref (B + q3)]) E hml hl.1 hM cv_X0_76 (c9_wantAt l D aC B hq6 hYq6 hcr7) (o := q6) hq6 hYq6 (by decide) rfl rfl (Nat.le_of_ble_eq_true rfl) dX0_settle_30 (fun H locs hM => ?_)
  refine W.eq (g2 := F0 m 33 ls [.int r7, .int r5, .int r2, .ref (B + q3)]) rfl ?_
  obtain ⟨r8, hcr8, he⟩ := g_bind he
  refine g_callV [.int r2, .int r5, .int r7] (rest := []) E hml hl.1 hM cv_X0_84 (c7_lacks l D aC B hq3 hYq3 hcr8) (o := q3) hq3 hYq3 (by decide) rfl rfl (Nat.le_of_ble_eq_true rfl) dX0_settle_33 (fun H locs hM => ?_)
  refine W.eq (g2 := F0 m 36 ls [.int r8]) rfl ?_
  refine lv_if_eq (tgt := 50) hx hb dX0_settle_36 (by decide) (fun h9 => ?_) (fun h9 => ?_)
  · rw [if_pos h9] at he
    refine lv_aload_n hx hb dX0_settle_50 rfl (lv_at hl 1 rfl) ?_
    obtain ⟨q13, hqq13, hq13, hYq13, he⟩ := g_dr_some he
    refine g_getD E hM (o := 53) (Nat.le_of_ble_eq_true rfl) rfl fl_X0_38 rfl hqq13 dX0_settle_51 ?_
    refine g_getP E hM (o := q13) hq13 hYq13 fl_X0_88 (q := (q13 + 5)) (pt_7_9 q13 hq13 hYq13).1 dX0_settle_54 ?_
    refine lv_iload_n hx hb dX0_settle_57 rfl (lv_at hl 2 rfl) ?_
    refine lv_iconst (v := (1 : Int32)) hx hb dX0_settle_58 rfl ?_
    obtain ⟨h14, he⟩ := g_ck_some he
    refine g_iast E hM (o := (q13 + 5)) (pt_7_9 q13 hq13 hYq13).2.1 (pt_7_9 q13 hq13 hYq13).2.2 h14 dX0_settle_59 (fun H locs hM => ?_)
    obtain ⟨m15, hm15, he⟩ := g_let_ex he
    rw [← hm15] at hM
    refine lv_aload_n hx hb dX0_settle_60 rfl (lv_at hl 1 rfl) ?_
    refine lv_iload_n hx hb dX0_settle_61 rfl (lv_at hl 0 rfl) ?_
    refine lv_iload_n hx hb dX0_settle_62 rfl (lv_at hl 2 rfl) ?_
    obtain ⟨r16, hcr16, he⟩ := g_bind he
    refine g_callV [.int r2, .int a1] (rest := []) E hml hl.1 hM cv_X0_92 (c0_gainLaw l D aC B hcr16) (o := 53) (Nat.le_of_ble_eq_true rfl) rfl (by decide) rfl rfl (Nat.le_of_ble_eq_true rfl) dX0_settle_63 (fun H locs hM => ?_)
    refine W.eq (g2 := F0 m 66 ls [.long r16.1]) rfl ?_
    refine lv_aload_n hx hb dX0_settle_66 rfl (lv_at hl 1 rfl) ?_
    obtain ⟨q17, hqq17, hq17, hYq17, he⟩ := g_dr_some he
    refine g_getD E hM (o := 53) (Nat.le_of_ble_eq_true rfl) rfl fl_X0_48 rfl hqq17 dX0_settle_67 ?_
    refine lv_iload_n hx hb dX0_settle_70 rfl (lv_at hl 2 rfl) ?_
    refine lv_iconst (v := (4 : Int32)) hx hb dX0_settle_71 rfl ?_
    obtain ⟨r18, hcr18, he⟩ := g_bind he
    refine g_callV [.int a1, .int (4 : Int32)] (rest := [.long r16.1]) E hml hl.1 hM cv_X0_76 (c9_wantAt l D aC B hq17 hYq17 hcr18) (o := q17) hq17 hYq17 (by decide) rfl rfl (Nat.le_of_ble_eq_true rfl) dX0_settle_72 (fun H locs hM => ?_)
    refine W.eq (g2 := F0 m 75 ls [.int r18, .long r16.1]) rfl ?_
    obtain ⟨r19, hcr19, he⟩ := g_bind he
    refine g_callS [.long r16.1, .int r18] (rest := []) E hml hl.1 hM cs_X0_96 (c0_within l D aC B hcr19) (by decide) rfl rfl (Nat.le_of_ble_eq_true rfl) dX0_settle_75 (fun H locs hM => ?_)
    refine W.eq (g2 := F0 m 78 ls [.int r19]) rfl ?_
    refine lv_istore_n (lv' := [(3, .int r19), (2, .int r2), (0, .ref (B + 53)), (1, .int a1)]) hx hb dX0_settle_78 rfl hl (by decide) rfl (fun ls hl => ?_)
    refine lv_aload_n hx hb dX0_settle_79 rfl (lv_at hl 2 rfl) ?_
    obtain ⟨q20, hqq20, hq20, hYq20, he⟩ := g_dr_some he
    refine g_getD E hM (o := 53) (Nat.le_of_ble_eq_true rfl) rfl fl_X0_38 rfl hqq20 dX0_settle_80 ?_
    refine g_getP E hM (o := q20) hq20 hYq20 fl_X0_100 (q := (q20 + 1)) (pt_7_4 q20 hq20 hYq20).1 dX0_settle_83 ?_
    refine lv_iload_n hx hb dX0_settle_86 rfl (lv_at hl 1 rfl) ?_
    refine lv_ldc (v := (99999 : Int32)) hx hb hown (hts _ kc_X0_103) dX0_settle_87 ?_
    refine lv_aload_n hx hb dX0_settle_89 rfl (lv_at hl 2 rfl) ?_
    obtain ⟨q21, hqq21, hq21, hYq21, he⟩ := g_dr_some he
    refine g_getD E hM (o := 53) (Nat.le_of_ble_eq_true rfl) rfl fl_X0_38 rfl hqq21 dX0_settle_90 ?_
    refine g_getP E hM (o := q21) hq21 hYq21 fl_X0_100 (q := (q21 + 1)) (pt_7_4 q21 hq21 hYq21).1 dX0_settle_93 ?_
    refine lv_iload_n hx hb dX0_settle_96 rfl (lv_at hl 1 rfl) ?_
    obtain ⟨h22, he⟩ := g_ck_some he
    refine g_iald E hM (o := (q21 + 1)) (pt_7_4 q21 hq21 hYq21).2.1 (pt_7_4 q21 hq21 hYq21).2.2 h22 dX0_settle_97 ?_
    refine lv_iload_n hx hb dX0_settle_98 rfl (lv_at hl 0 rfl) ?_
    refine lv_iadd hx hb dX0_settle_99 ?_
    refine va_mmin hx hb (hml.trans hl.1.symm) hown (hts _ mm_X0_104) (hts _ km_min.1) (hts _ ki_Math) (hts _ km_min.2) (Nat.le_of_ble_eq_true rfl) (Nat.le_of_ble_eq_true rfl) (Nat.zero_le _) (Nat.zero_le _) dX0_settle_100 ?_
    obtain ⟨h23, he⟩ := g_ck_some he
    refine g_iast E hM (o := (q20 + 1)) (pt_7_4 q20 hq20 hYq20).2.1 (pt_7_4 q20 hq20 hYq20).2.2 h23 dX0_settle_103 (fun H locs hM => ?_)
    obtain ⟨m24, hm24, he⟩ := g_let_ex he
    rw [← hm24] at hM
    cases he
    exact g_vret E hM hret hlk dX0_settle_104
  · rw [if_neg h9] at he
    refine lv_aload_n hx hb dX0_settle_39 rfl (lv_at hl 1 rfl) ?_
    obtain ⟨q10, hqq10, hq10, hYq10, he⟩ := g_dr_some he
    refine g_getD E hM (o := 53) (Nat.le_of_ble_eq_true rfl) rfl fl_X0_38 rfl hqq10 dX0_settle_40 ?_
    refine g_getP E hM (o := q10) hq10 hYq10 fl_X0_88 (q := (q10 + 5)) (pt_7_9 q10 hq10 hYq10).1 dX0_settle_43 ?_
    refine lv_iload_n hx hb dX0_settle_46 rfl (lv_at hl 2 rfl) ?_
    refine lv_iconst (v := (2 : Int32)) hx hb dX0_settle_47 rfl ?_
    obtain ⟨h11, he⟩ := g_ck_some he
    refine g_iast E hM (o := (q10 + 5)) (pt_7_9 q10 hq10 hYq10).2.1 (pt_7_9 q10 hq10 hYq10).2.2 h11 dX0_settle_48 (fun H locs hM => ?_)
    obtain ⟨m12, hm12, he⟩ := g_let_ex he
    rw [← hm12] at hM
    cases he
    exact g_vret E hM hret hlk dX0_settle_49

set_option maxHeartbeats 4000000 in
set_option maxRecDepth 100000 in
theorem w0_settleWants_b37 (E : g_C p s m args c cX0_settleWants RX0 D aC (g_Zs (g_A B 69))) (hml : c.maxLocals = 2) (hret : meth.sig.returnType = none) (hlk : meth.locks = false) {F : Nat} {q0 : g_M} {s2 : Int32 → g_M → Option (g_M)} (hs2 : ∀ (v1 : Int32) (mem : g_M) (H : Heap) (locs : List Loc) (ls : Array Slot), g_At D aC B yC 69 mem s.heap H locs → lv_has ls 2 [(0, .ref (B + 53)), (1, .int v1)] → s2 v1 mem = some q0 → W p l e (g_rm 6) s m args below meth c H locs 0 0 (g_MQ below D aC B yC 69 args s none q0) (F0 m 2 ls [])) : ∀ (v1 : Int32) (mem : g_M) (H : Heap) (locs : List Loc) (ls : Array Slot), g_At D aC B yC 69 mem s.heap H locs → lv_has ls 2 [(0, .ref (B + 53)), (1, .int v1)] → f0_settleWants_b37 F s2 v1 mem = some q0 → W p l e (g_rm 6) s m args below meth c H locs 0 0 (g_MQ below D aC B yC 69 args s none q0) (F0 m 37 ls []) := by
  intro v1 mem H locs ls hM hl he
  unfold f0_settleWants_b37 at he
  have hx := E.1
  have hb := E.2.1
  have hown := E.2.2.1
  have hts := E.2.2.2.1
  obtain ⟨x1, hx1, he⟩ := g_let_ex he
  refine lv_iinc (v := x1) (lv' := [(1, .int x1), (0, .ref (B + 53))]) hx hb dX0_settleWants_37 hl (k := 1) rfl (by rw [hx1]; rfl) (by decide) rfl (fun ls hl => ?_)
  refine lv_goto (tgt := 2) hx hb dX0_settleWants_40 (by decide) ?_
  exact hs2 _ _ _ _ _ hM (lv_sub hl [1, 0] rfl) he

set_option maxHeartbeats 4000000 in
set_option maxRecDepth 100000 in
theorem w0_settleWants_b2_body (E : g_C p s m args c cX0_settleWants RX0 D aC (g_Zs (g_A B 69))) (hml : c.maxLocals = 2) (hret : meth.sig.returnType = none) (hlk : meth.locks = false) {F : Nat} {q0 : g_M} {s2 : Int32 → g_M → Option (g_M)} (hs2 : ∀ (v1 : Int32) (mem : g_M) (H : Heap) (locs : List Loc) (ls : Array Slot), g_At D aC B yC 69 mem s.heap H locs → lv_has ls 2 [(0, .ref (B + 53)), (1, .int v1)] → s2 v1 mem = some q0 → W p l e (g_rm 6) s m args below meth c H locs 0 0 (g_MQ below D aC B yC 69 args s none q0) (F0 m 2 ls [])) : ∀ (v1 : Int32) (mem : g_M) (H : Heap) (locs : List Loc) (ls : Array Slot), g_At D aC B yC 69 mem s.heap H locs → lv_has ls 2 [(0, .ref (B + 53)), (1, .int v1)] → f0_settleWants_b2_body F s2 v1 mem = some q0 → W p l e (g_rm 6) s m args below meth c H locs 0 0 (g_MQ below D aC B yC 69 args s none q0) (F0 m 2 ls []) := by
  intro v1 mem H locs ls hM hl he
  unfold f0_settleWants_b2_body at he
  have hx := E.1
  have hb := E.2.1
  have hown := E.2.2.1
  have hts := E.2.2.2.1
  refine lv_iload_n hx hb dX0_settleWants_2 rfl (lv_at hl 1 rfl) ?_
  refine lv_aload_n hx hb dX0_settleWants_3 rfl (lv_at hl 0 rfl) ?_
  obtain ⟨q2, hqq2, hq2, hYq2, he⟩ := g_dr_some he
  refine g_getD E hM (o := 53) (Nat.le_of_ble_eq_true rfl) rfl fl_X0_48 rfl hqq2 dX0_settleWants_4 ?_
  refine g_getI E hM (o := q2) hq2 hYq2 fl_X0_73 dX0_settleWants_7 ?_
  refine lv_icmp_ge (tgt := 43) hx hb dX0_settleWants_10 (by decide) (fun h3 => ?_) (fun h3 => ?_)
  · rw [if_neg (Int32.not_lt.mpr h3)] at he
    cases he
    exact g_vret E hM hret hlk dX0_settleWants_43
  · rw [if_pos (Int32.not_le.mp h3)] at he
    refine lv_aload_n hx hb dX0_settleWants_13 rfl (lv_at hl 0 rfl) ?_
    obtain ⟨q4, hqq4, hq4, hYq4, he⟩ := g_dr_some he
    refine g_getD E hM (o := 53) (Nat.le_of_ble_eq_true rfl) rfl fl_X0_48 rfl hqq4 dX0_settleWants_14 ?_
    refine lv_iload_n hx hb dX0_settleWants_17 rfl (lv_at hl 1 rfl) ?_
    refine lv_iconst (v := (3 : Int32)) hx hb dX0_settleWants_18 rfl ?_
    obtain ⟨r5, hcr5, he⟩ := g_bind he
    refine g_callV [.int v1, .int (3 : Int32)] (rest := []) E hml hl.1 hM cv_X0_76 (c9_wantAt l D aC B hq4 hYq4 hcr5) (o := q4) hq4 hYq4 (by decide) rfl rfl (Nat.le_of_ble_eq_true rfl) dX0_settleWants_19 (fun H locs hM => ?_)
    refine W.eq (g2 := F0 m 22 ls [.int r5]) rfl ?_
    refine lv_aload_n hx hb dX0_settleWants_22 rfl (lv_at hl 0 rfl) ?_
    obtain ⟨q6, hqq6, hq6, hYq6, he⟩ := g_dr_some he
    refine g_getD E hM (o := 53) (Nat.le_of_ble_eq_true rfl) rfl fl_X0_38 rfl hqq6 dX0_settleWants_23 ?_
    refine g_getI E hM (o := q6) hq6 hYq6 fl_X0_70 dX0_settleWants_26 ?_
    refine lv_icmp_ne (tgt := 37) hx hb dX0_settleWants_29 (by decide) (fun h7 => ?_) (fun h7 => ?_)
    · rw [if_neg h7] at he
      exact w0_settleWants_b37 (F := F) E hml hret hlk hs2 _ _ _ _ _ hM (lv_sub hl [0, 1] rfl) he
    · rw [if_pos h7] at he
      refine lv_aload_n hx hb dX0_settleWants_32 rfl (lv_at hl 0 rfl) ?_
      refine lv_iload_n hx hb dX0_settleWants_33 rfl (lv_at hl 1 rfl) ?_
      obtain ⟨r8, hcr8, he⟩ := g_bind he
      refine g_callV [.int v1] (rest := []) E hml hl.1 hM cv_X0_80 (c0_settle l D aC B hcr8) (o := 53) (Nat.le_of_ble_eq_true rfl) rfl (by decide) rfl rfl (Nat.le_of_ble_eq_true rfl) dX0_settleWants_34 (fun H locs hM => ?_)
      refine W.eq (g2 := F0 m 37 ls []) rfl ?_
      exact w0_settleWants_b37 (F := F) E hml hret hlk hs2 _ _ _ _ _ hM (lv_sub hl [0, 1] rfl) he

set_option maxHeartbeats 4000000 in
set_option maxRecDepth 100000 in
theorem w0_settleWants_b2 (E : g_C p s m args c cX0_settleWants RX0 D aC (g_Zs (g_A B 69))) (hml : c.maxLocals = 2) (hret : meth.sig.returnType = none) (hlk : meth.locks = false) {F : Nat} {q0 : g_M} : ∀ (v1 : Int32) (mem : g_M) (H : Heap) (locs : List Loc) (ls : Array Slot), g_At D aC B yC 69 mem s.heap H locs → lv_has ls 2 [(0, .ref (B + 53)), (1, .int v1)] → f0_settleWants_b2 F v1 mem = some q0 → W p l e (g_rm 6) s m args below meth c H locs 0 0 (g_MQ below D aC B yC 69 args s none q0) (F0 m 2 ls []) := by
  have key : ∀ (nn : Nat) (x : Int32 × g_M) (H : Heap) (locs : List Loc) (ls : Array Slot), g_At D aC B yC 69 x.2 s.heap H locs → lv_has ls 2 [(0, .ref (B + 53)), (1, .int x.1)] → g_fix (fun sf x => f0_settleWants_b2_body F (fun v1 mem => sf (v1, mem)) x.1 x.2) nn x = some q0 → W p l e (g_rm 6) s m args below meth c H locs 0 0 (g_MQ below D aC B yC 69 args s none q0) (F0 m 2 ls []) := by
    intro nn
    induction nn with
    | zero => intro x H locs ls hM hl he; simp [g_fix] at he
    | succ nn ih =>
      intro x H locs ls hM hl he
      exact w0_settleWants_b2_body (F := F) E hml hret hlk (fun v1 mem H locs ls hM hl he => ih (v1, mem) H locs ls hM hl he) x.1 x.2 H locs ls hM hl he
  intro v1 mem H locs ls hM hl he
  exact key F (v1, mem) H locs ls hM hl he

set_option maxHeartbeats 4000000 in
set_option maxRecDepth 100000 in
theorem c0_settleWants (l : Launch) (D : va_G) (aC : Nat → ClassId) (B : Nat) {F : Nat} {mem : g_M} {q0 : g_M} (he : f0_settleWants F mem = some q0) : g_Met l yX0_settleWants cX0_settleWants 2 none 6 D aC B yC 69 mem [.ref (B + 53)] none q0 := by
  refine g_ofW (by decide) (Nat.le_of_ble_eq_true rfl) ?_
  intro p e s m args below meth c ls E hml hret hlk hM hl
  have E : g_C p s m args c cX0_settleWants RX0 D aC (g_Zs (g_A B 69)) := E
  have hx := E.1
  have hb := E.2.1
  have hown := E.2.2.1
  have hts := E.2.2.2.1
  have hl : lv_has ls 2 [(0, .ref (B + 53))] := hl
  unfold f0_settleWants at he
  refine lv_iconst (v := (0 : Int32)) hx hb dX0_settleWants_0 rfl ?_
  refine lv_istore_n (lv' := [(1, .int (0 : Int32)), (0, .ref (B + 53))]) hx hb dX0_settleWants_1 rfl hl (by decide) rfl (fun ls hl => ?_)
  exact w0_settleWants_b2 (F := F) E hml hret hlk _ _ _ _ _ hM (lv_sub hl [1, 0] rfl) he

set_option maxHeartbeats 4000000 in
set_option maxRecDepth 100000 in
theorem c7_sendingAt (l : Launch) (D : va_G) (aC : Nat → ClassId) (B : Nat) {F : Nat} {t : Nat} (ht : t < 69) (hY : yC.1 t = (7, 0)) {a1 : Int32} {a2 : Int32} {mem : g_M} {q0 : Int32} (he : f7_sendingAt F t a1 a2 mem = some q0) : g_Met l yX7_sendingAt cX7_sendingAt 3 (some .int) 1 D aC B yC 69 mem [.ref (B + t), .int a1, .int a2] (some (.int q0)) mem := by
  refine g_ofW (by decide) (Nat.le_of_ble_eq_true rfl) ?_
  intro p e s m args below meth c ls E hml hret hlk hM hl
  have E : g_C p s m args c cX7_sendingAt RX7 D aC (g_Zs (g_A B 69)) := E
  have hx := E.1
  have hb := E.2.1
  have hown := E.2.2.1
  have hts := E.2.2.2.1
  have hl : lv_has ls 3 [(0, .ref (B + t)), (1, .int a1), (2, .int a2)] := hl
  unfold f7_sendingAt at he
  refine lv_aload_n hx hb dX7_sendingAt_0 rfl (lv_at hl 0 rfl) ?_
  refine g_getP E hM (o := t) ht hY fl_X7_34 (q := (t + 4)) (pt_7_8 t ht hY).1 dX7_sendingAt_1 ?_
  refine lv_iload_n hx hb dX7_sendingAt_4 rfl (lv_at hl 1 rfl) ?_
  refine lv_iconst (v := (4 : Int32)) hx hb dX7_sendingAt_5 rfl ?_
  refine lv_imul hx hb dX7_sendingAt_6 ?_
  refine lv_iload_n hx hb dX7_sendingAt_7 rfl (lv_at hl 2 rfl) ?_
  refine lv_iadd hx hb dX7_sendingAt_8 ?_
  obtain ⟨h1, he⟩ := g_ck_some he
  refine g_iald E hM (o := (t + 4)) (pt_7_8 t ht hY).2.1 (pt_7_8 t ht hY).2.2 h1 dX7_sendingAt_9 ?_
  cases he
  exact g_iret E hM hret hlk dX7_sendingAt_10

set_option maxHeartbeats 4000000 in
set_option maxRecDepth 100000 in
theorem c7_isDue (l : Launch) (D : va_G) (aC : Nat → ClassId) (B : Nat) {F : Nat} {t : Nat} (ht : t < 69) (hY : yC.1 t = (7, 0)) {a1 : Int32} {mem : g_M} {q0 : Int32} (he : f7_isDue F t a1 mem = some q0) : g_Met l yX7_isDue cX7_isDue 2 (some .boolean) 2 D aC B yC 69 mem [.ref (B + t), .int a1] (some (.int q0)) mem := by
  refine g_ofW (by decide) (Nat.le_of_ble_eq_true rfl) ?_
  intro p e s m args below meth c ls E hml hret hlk hM hl
  have E : g_C p s m args c cX7_isDue RX7 D aC (g_Zs (g_A B 69)) := E
  have hx := E.1
  have hb := E.2.1
  have hown := E.2.2.1
  have hts := E.2.2.2.1
  have hl : lv_has ls 2 [(0, .ref (B + t)), (1, .int a1)] := hl
  unfold f7_isDue at he
  refine lv_aload_n hx hb dX7_isDue_0 rfl (lv_at hl 0 rfl) ?_
  refine lv_iload_n hx hb dX7_isDue_1 rfl (lv_at hl 1 rfl) ?_
  refine lv_iconst (v := (3 : Int32)) hx hb dX7_isDue_2 rfl ?_
  obtain ⟨r1, hcr1, he⟩ := g_bind he
  refine g_callV [.int a1, .int (3 : Int32)] (rest := []) E hml hl.1 hM cv_X7_65 (c7_sendingAt l D aC B ht hY hcr1) (o := t) ht hY (by decide) rfl rfl (Nat.le_of_ble_eq_true rfl) dX7_isDue_3 (fun H locs hM => ?_)
  refine W.eq (g2 := F0 m 6 ls [.int r1]) rfl ?_
  refine lv_if_ne (tgt := 26) hx hb dX7_isDue_6 (by decide) (fun h2 => ?_) (fun h2 => ?_)
  · rw [if_neg h2] at he
    refine lv_iconst (v := (0 : Int32)) hx hb dX7_isDue_26 rfl ?_
    cases he
    exact g_zret E hM hret hlk (Or.inl rfl) dX7_isDue_27
  · rw [if_pos h2] at he
    refine lv_aload_n hx hb dX7_isDue_9 rfl (lv_at hl 0 rfl) ?_
    refine lv_iload_n hx hb dX7_isDue_10 rfl (lv_at hl 1 rfl) ?_
    refine lv_iconst (v := (2 : Int32)) hx hb dX7_isDue_11 rfl ?_
    obtain ⟨r3, hcr3, he⟩ := g_bind he
    refine g_callV [.int a1, .int (2 : Int32)] (rest := []) E hml hl.1 hM cv_X7_65 (c7_sendingAt l D aC B ht hY hcr3) (o := t) ht hY (by decide) rfl rfl (Nat.le_of_ble_eq_true rfl) dX7_isDue_12 (fun H locs hM => ?_)
    refine W.eq (g2 := F0 m 15 ls [.int r3]) rfl ?_
    refine lv_aload_n hx hb dX7_isDue_15 rfl (lv_at hl 0 rfl) ?_
    refine g_getI E hM (o := t) ht hY fl_X7_9 dX7_isDue_16 ?_
    refine lv_icmp_gt (tgt := 26) hx hb dX7_isDue_19 (by decide) (fun h4 => ?_) (fun h4 => ?_)
    · rw [if_neg (Int32.not_le.mpr h4)] at he
      refine lv_iconst (v := (0 : Int32)) hx hb dX7_isDue_26 rfl ?_
      cases he
      exact g_zret E hM hret hlk (Or.inl rfl) dX7_isDue_27
    · rw [if_pos (Int32.not_lt.mp h4)] at he
      refine lv_iconst (v := (1 : Int32)) hx hb dX7_isDue_22 rfl ?_
      refine lv_goto (tgt := 27) hx hb dX7_isDue_23 (by decide) ?_
      cases he
      exact g_zret E hM hret hlk (Or.inr rfl) dX7_isDue_27

set_option maxHeartbeats 4000000 in
set_option maxRecDepth 100000 in
theorem c0_nameSort (l : Launch) (D : va_G) (aC : Nat → ClassId) (B : Nat) {F : Nat} {a1 : Int32} {mem : g_M} {q0 : g_M} (he : f0_nameSort F a1 mem = some q0) : g_Met l yX0_nameSort cX0_nameSort 2 none 1 D aC B yC 69 mem [.ref (B + 53), .int a1] none q0 := by
  refine g_ofW (by decide) (Nat.le_of_ble_eq_true rfl) ?_
  intro p e s m args below meth c ls E hml hret hlk hM hl
  have E : g_C p s m args c cX0_nameSort RX0 D aC (g_Zs (g_A B 69)) := E
  have hx := E.1
  have hb := E.2.1
  have hown := E.2.2.1
  have hts := E.2.2.2.1
  have hl : lv_has ls 2 [(0, .ref (B + 53)), (1, .int a1)] := hl
  unfold f0_nameSort at he
  refine lv_aload_n hx hb dX0_nameSort_0 rfl (lv_at hl 0 rfl) ?_
  refine g_getP E hM (o := 53) (Nat.le_of_ble_eq_true rfl) rfl fl_X0_34 (q := 55) rfl dX0_nameSort_1 ?_
  refine lv_iconst (v := (0 : Int32)) hx hb dX0_nameSort_4 rfl ?_
  refine lv_aload_n hx hb dX0_nameSort_5 rfl (lv_at hl 0 rfl) ?_
  obtain ⟨q1, hqq1, hq1, hYq1, he⟩ := g_dr_some he
  refine g_getD E hM (o := 53) (Nat.le_of_ble_eq_true rfl) rfl fl_X0_48 rfl hqq1 dX0_nameSort_6 ?_
  refine g_getP E hM (o := q1) hq1 hYq1 fl_X0_119 (q := (q1 + 4)) (pt_9_3 q1 hq1 hYq1).1 dX0_nameSort_9 ?_
  refine lv_iload_n hx hb dX0_nameSort_12 rfl (lv_at hl 1 rfl) ?_
  obtain ⟨h2, he⟩ := g_ck_some he
  refine g_iald E hM (o := (q1 + 4)) (pt_9_3 q1 hq1 hYq1).2.1 (pt_9_3 q1 hq1 hYq1).2.2 h2 dX0_nameSort_13 ?_
  refine lv_i2l hx hb dX0_nameSort_14 rfl ?_
  obtain ⟨h3, he⟩ := g_ck_some he
  refine g_last E hM (o := 55) (Nat.le_of_ble_eq_true rfl) rfl h3 dX0_nameSort_15 (fun H locs hM => ?_)
  obtain ⟨m4, hm4, he⟩ := g_let_ex he
  rw [← hm4] at hM
  refine lv_aload_n hx hb dX0_nameSort_16 rfl (lv_at hl 0 rfl) ?_
  refine g_getP E hM (o := 53) (Nat.le_of_ble_eq_true rfl) rfl fl_X0_34 (q := 55) rfl dX0_nameSort_17 ?_
  refine lv_iconst (v := (1 : Int32)) hx hb dX0_nameSort_20 rfl ?_
  refine lv_aload_n hx hb dX0_nameSort_21 rfl (lv_at hl 0 rfl) ?_
  obtain ⟨q5, hqq5, hq5, hYq5, he⟩ := g_dr_some he
  refine g_getD E hM (o := 53) (Nat.le_of_ble_eq_true rfl) rfl fl_X0_48 rfl hqq5 dX0_nameSort_22 ?_
  refine g_getP E hM (o := q5) hq5 hYq5 fl_X0_136 (q := (q5 + 5)) (pt_9_4 q5 hq5 hYq5).1 dX0_nameSort_25 ?_
  refine lv_iload_n hx hb dX0_nameSort_28 rfl (lv_at hl 1 rfl) ?_
  obtain ⟨h6, he⟩ := g_ck_some he
  refine g_iald E hM (o := (q5 + 5)) (pt_9_4 q5 hq5 hYq5).2.1 (pt_9_4 q5 hq5 hYq5).2.2 h6 dX0_nameSort_29 ?_
  refine lv_i2l hx hb dX0_nameSort_30 rfl ?_
  obtain ⟨h7, he⟩ := g_ck_some he
  refine g_last E hM (o := 55) (Nat.le_of_ble_eq_true rfl) rfl h7 dX0_nameSort_31 (fun H locs hM => ?_)
  obtain ⟨m8, hm8, he⟩ := g_let_ex he
  rw [← hm8] at hM
  cases he
  exact g_vret E hM hret hlk dX0_nameSort_32

set_option maxHeartbeats 4000000 in
set_option maxRecDepth 100000 in
theorem c0_fareLaw (l : Launch) (D : va_G) (aC : Nat → ClassId) (B : Nat) {F : Nat} {a1 : Int32} {a2 : Int32} {mem : g_M} {q0 : Int64 × g_M} (he : f0_fareLaw F a1 a2 mem = some q0) : g_Met l yX0_fareLaw cX0_fareLaw 3 (some .long) 4 D aC B yC 69 mem [.ref (B + 53), .int a1, .int a2] (some (.long q0.1)) q0.2 := by
  refine g_ofW (by decide) (Nat.le_of_ble_eq_true rfl) ?_
  intro p e s m args below meth c ls E hml hret hlk hM hl
  have E : g_C p s m args c cX0_fareLaw RX0 D aC (g_Zs (g_A B 69)) := E
  have hx := E.1
  have hb := E.2.1
  have hown := E.2.2.1
  have hts := E.2.2.2.1
  have hl : lv_has ls 3 [(0, .ref (B + 53)), (1, .int a1), (2, .int a2)] := hl
  unfold f0_fareLaw at he
  refine lv_aload_n hx hb dX0_fareLaw_0 rfl (lv_at hl 0 rfl) ?_
  obtain ⟨q1, hqq1, hq1, hYq1, he⟩ := g_dr_some he
  refine g_getD E hM (o := 53) (Nat.le_of_ble_eq_true rfl) rfl fl_X0_48 rfl hqq1 dX0_fareLaw_1 ?_
  refine g_getP E hM (o := q1) hq1 hYq1 fl_X0_169 (q := (q1 + 9)) (pt_9_13 q1 hq1 hYq1).1 dX0_fareLaw_4 ?_
  refine lv_iconst (v := (0 : Int32)) hx hb dX0_fareLaw_7 rfl ?_
  obtain ⟨r2, hcr2, he⟩ := g_bind he
  refine g_callV [.int (0 : Int32)] (rest := []) E hml hl.1 hM cv_X0_173 (c2_isTold l D aC B (pt_9_13 q1 hq1 hYq1).2.1 (pt_9_13 q1 hq1 hYq1).2.2 hcr2) (o := (q1 + 9)) (pt_9_13 q1 hq1 hYq1).2.1 (pt_9_13 q1 hq1 hYq1).2.2 (by decide) rfl rfl (Nat.le_of_ble_eq_true rfl) dX0_fareLaw_8 (fun H locs hM => ?_)
  refine W.eq (g2 := F0 m 11 ls [.int r2]) rfl ?_
  refine lv_if_ne (tgt := 18) hx hb dX0_fareLaw_11 (by decide) (fun h3 => ?_) (fun h3 => ?_)
  · rw [if_neg h3] at he
    refine lv_aload_n hx hb dX0_fareLaw_18 rfl (lv_at hl 0 rfl) ?_
    refine lv_iload_n hx hb dX0_fareLaw_19 rfl (lv_at hl 2 rfl) ?_
    obtain ⟨r4, hcr4, he⟩ := g_bind he
    refine g_callV [.int a2] (rest := []) E hml hl.1 hM cv_X0_178 (c0_nameSort l D aC B hcr4) (o := 53) (Nat.le_of_ble_eq_true rfl) rfl (by decide) rfl rfl (Nat.le_of_ble_eq_true rfl) dX0_fareLaw_20 (fun H locs hM => ?_)
    refine W.eq (g2 := F0 m 23 ls []) rfl ?_
    refine lv_aload_n hx hb dX0_fareLaw_23 rfl (lv_at hl 0 rfl) ?_
    refine lv_iload_n hx hb dX0_fareLaw_24 rfl (lv_at hl 1 rfl) ?_
    obtain ⟨r5, hcr5, he⟩ := g_bind he
    refine g_callV [.int a1] (rest := []) E hml hl.1 hM cv_X0_181 (c0_nameMan l D aC B hcr5) (o := 53) (Nat.le_of_ble_eq_true rfl) rfl (by decide) rfl rfl (Nat.le_of_ble_eq_true rfl) dX0_fareLaw_25 (fun H locs hM => ?_)
    refine W.eq (g2 := F0 m 28 ls []) rfl ?_
    refine lv_aload_n hx hb dX0_fareLaw_28 rfl (lv_at hl 0 rfl) ?_
    refine g_getP E hM (o := 53) (Nat.le_of_ble_eq_true rfl) rfl fl_X0_34 (q := 55) rfl dX0_fareLaw_29 ?_
    refine lv_iconst (v := (5 : Int32)) hx hb dX0_fareLaw_32 rfl ?_
    refine lv_lconst (v := (0 : Int64)) hx hb dX0_fareLaw_33 rfl ?_
    obtain ⟨h6, he⟩ := g_ck_some he
    refine g_last E hM (o := 55) (Nat.le_of_ble_eq_true rfl) rfl h6 dX0_fareLaw_34 (fun H locs hM => ?_)
    obtain ⟨m7, hm7, he⟩ := g_let_ex he
    rw [← hm7] at hM
    refine lv_aload_n hx hb dX0_fareLaw_35 rfl (lv_at hl 0 rfl) ?_
    obtain ⟨q8, hqq8, hq8, hYq8, he⟩ := g_dr_some he
    refine g_getD E hM (o := 53) (Nat.le_of_ble_eq_true rfl) rfl fl_X0_48 rfl hqq8 dX0_fareLaw_36 ?_
    refine g_getP E hM (o := q8) hq8 hYq8 fl_X0_169 (q := (q8 + 9)) (pt_9_13 q8 hq8 hYq8).1 dX0_fareLaw_39 ?_
    refine lv_iconst (v := (0 : Int32)) hx hb dX0_fareLaw_42 rfl ?_
    refine lv_aload_n hx hb dX0_fareLaw_43 rfl (lv_at hl 0 rfl) ?_
    refine g_getP E hM (o := 53) (Nat.le_of_ble_eq_true rfl) rfl fl_X0_34 (q := 55) rfl dX0_fareLaw_44 ?_
    obtain ⟨r9, hcr9, he⟩ := g_bind he
    refine g_callV [.int (0 : Int32), .ref (B + 55)] (rest := []) E hml hl.1 hM cv_X0_184 (c2_value l D aC B (pt_9_13 q8 hq8 hYq8).2.1 (pt_9_13 q8 hq8 hYq8).2.2 (Nat.le_of_ble_eq_true rfl) rfl hcr9) (o := (q8 + 9)) (pt_9_13 q8 hq8 hYq8).2.1 (pt_9_13 q8 hq8 hYq8).2.2 (by decide) rfl rfl (Nat.le_of_ble_eq_true rfl) dX0_fareLaw_47 (fun H locs hM => ?_)
    refine W.eq (g2 := F0 m 50 ls [.long r9.1]) rfl ?_
    cases he
    exact g_lret E hM hret hlk dX0_fareLaw_50
  · rw [if_pos h3] at he
    refine lv_ldc2 (v := (-9223372036854775808 : Int64)) hx hb hown (hts _ kc_X0_176) dX0_fareLaw_14 ?_
    cases he
    exact g_lret E hM hret hlk dX0_fareLaw_17

set_option maxHeartbeats 4000000 in
set_option maxRecDepth 100000 in
theorem w0_boards_b67 (E : g_C p s m args c cX0_boards RX0 D aC (g_Zs (g_A B 69))) (hml : c.maxLocals = 5) (hret : meth.sig.returnType = (some .boolean)) (hlk : meth.locks = false) {F : Nat} {q0 : Int32 × g_M} {a1 : Int32} {a2 : Int32} : ∀ (v3 : Int32) (w0 : Int32) (mem : g_M) (H : Heap) (locs : List Loc) (ls : Array Slot), g_At D aC B yC 69 mem s.heap H locs → lv_has ls 5 [(0, .ref (B + 53)), (1, .int a1), (3, .int v3)] → f0_boards_b67 F a1 a2 v3 w0 mem = some q0 → W p l e (g_rm 5) s m args below meth c H locs 0 0 (g_MQ below D aC B yC 69 args s (some (.int q0.1)) q0.2) (F0 m 67 ls [.int w0]) := by
  intro v3 w0 mem H locs ls hM hl he
  unfold f0_boards_b67 at he
  have hx := E.1
  have hb := E.2.1
  have hown := E.2.2.1
  have hts := E.2.2.2.1
  refine lv_istore (lv' := [(4, .int w0), (0, .ref (B + 53)), (1, .int a1), (3, .int v3)]) hx hb dX0_boards_67 hl (by decide) rfl (fun ls hl => ?_)
  refine lv_aload_n hx hb dX0_boards_69 rfl (lv_at hl 1 rfl) ?_
  obtain ⟨q1, hqq1, hq1, hYq1, he⟩ := g_dr_some he
  refine g_getD E hM (o := 53) (Nat.le_of_ble_eq_true rfl) rfl fl_X0_38 rfl hqq1 dX0_boards_70 ?_
  refine g_getP E hM (o := q1) hq1 hYq1 fl_X0_100 (q := (q1 + 1)) (pt_7_4 q1 hq1 hYq1).1 dX0_boards_73 ?_
  refine lv_iload_n hx hb dX0_boards_76 rfl (lv_at hl 2 rfl) ?_
  obtain ⟨h2, he⟩ := g_ck_some he
  refine g_iald E hM (o := (q1 + 1)) (pt_7_4 q1 hq1 hYq1).2.1 (pt_7_4 q1 hq1 hYq1).2.2 h2 dX0_boards_77 ?_
  refine lv_iload hx hb dX0_boards_78 (lv_at hl 0 rfl) ?_
  refine lv_icmp_ge (tgt := 85) hx hb dX0_boards_80 (by decide) (fun h3 => ?_) (fun h3 => ?_)
  · rw [if_neg (Int32.not_lt.mpr h3)] at he
    refine lv_aload_n hx hb dX0_boards_85 rfl (lv_at hl 1 rfl) ?_
    obtain ⟨q4, hqq4, hq4, hYq4, he⟩ := g_dr_some he
    refine g_getD E hM (o := 53) (Nat.le_of_ble_eq_true rfl) rfl fl_X0_38 rfl hqq4 dX0_boards_86 ?_
    refine g_getP E hM (o := q4) hq4 hYq4 fl_X0_100 (q := (q4 + 1)) (pt_7_4 q4 hq4 hYq4).1 dX0_boards_89 ?_
    refine lv_iload_n hx hb dX0_boards_92 rfl (lv_at hl 2 rfl) ?_
    refine lv_dup2_11 hx hb dX0_boards_93 rfl rfl ?_
    obtain ⟨h5, he⟩ := g_ck_some he
    refine g_iald E hM (o := (q4 + 1)) (pt_7_4 q4 hq4 hYq4).2.1 (pt_7_4 q4 hq4 hYq4).2.2 h5 dX0_boards_94 ?_
    refine lv_iload hx hb dX0_boards_95 (lv_at hl 0 rfl) ?_
    refine lv_isub hx hb dX0_boards_97 ?_
    obtain ⟨h6, he⟩ := g_ck_some he
    refine g_iast E hM (o := (q4 + 1)) (pt_7_4 q4 hq4 hYq4).2.1 (pt_7_4 q4 hq4 hYq4).2.2 h6 dX0_boards_98 (fun H locs hM => ?_)
    obtain ⟨m7, hm7, he⟩ := g_let_ex he
    rw [← hm7] at hM
    refine lv_aload_n hx hb dX0_boards_99 rfl (lv_at hl 1 rfl) ?_
    refine g_getP E hM (o := 53) (Nat.le_of_ble_eq_true rfl) rfl fl_X0_25 (q := 54) rfl dX0_boards_100 ?_
    refine lv_iload_n hx hb dX0_boards_103 rfl (lv_at hl 3 rfl) ?_
    refine lv_iconst (v := (1 : Int32)) hx hb dX0_boards_104 rfl ?_
    obtain ⟨h8, he⟩ := g_ck_some he
    refine g_zast E hM (o := 54) (Nat.le_of_ble_eq_true rfl) rfl h8 (Or.inr rfl) dX0_boards_105 (fun H locs hM => ?_)
    obtain ⟨m9, hm9, he⟩ := g_let_ex he
    rw [← hm9] at hM
    refine lv_aload_n hx hb dX0_boards_106 rfl (lv_at hl 1 rfl) ?_
    refine lv_dup hx hb dX0_boards_107 rfl ?_
    refine g_getI E hM (o := 53) (Nat.le_of_ble_eq_true rfl) rfl fl_X0_29 dX0_boards_108 ?_
    refine lv_iconst (v := (1 : Int32)) hx hb dX0_boards_111 rfl ?_
    refine lv_iadd hx hb dX0_boards_112 ?_
    refine g_putI E hM (o := 53) (Nat.le_of_ble_eq_true rfl) rfl fp_X0_29 dX0_boards_113 (fun H locs hM => ?_)
    obtain ⟨m10, hm10, he⟩ := g_let_ex he
    rw [← hm10] at hM
    refine lv_iconst (v := (1 : Int32)) hx hb dX0_boards_116 rfl ?_
    cases he
    exact g_zret E hM hret hlk (Or.inr rfl) dX0_boards_117
  · rw [if_pos (Int32.not_le.mp h3)] at he
    refine lv_iconst (v := (0 : Int32)) hx hb dX0_boards_83 rfl ?_
    cases he
    exact g_zret E hM hret hlk (Or.inl rfl) dX0_boards_84

set_option maxHeartbeats 4000000 in
set_option maxRecDepth 100000 in
theorem c0_boards (l : Launch) (D : va_G) (aC : Nat → ClassId) (B : Nat) {F : Nat} {a1 : Int32} {a2 : Int32} {mem : g_M} {q0 : Int32 × g_M} (he : f0_boards F a1 a2 mem = some q0) : g_Met l yX0_boards cX0_boards 5 (some .boolean) 5 D aC B yC 69 mem [.ref (B + 53), .int a1, .int a2] (some (.int q0.1)) q0.2 := by
  refine g_ofW (by decide) (Nat.le_of_ble_eq_true rfl) ?_
  intro p e s m args below meth c ls E hml hret hlk hM hl
  have E : g_C p s m args c cX0_boards RX0 D aC (g_Zs (g_A B 69)) := E
  have hx := E.1
  have hb := E.2.1
  have hown := E.2.2.1
  have hts := E.2.2.2.1
  have hl : lv_has ls 5 [(0, .ref (B + 53)), (1, .int a1), (2, .int a2)] := hl
  unfold f0_boards at he
  refine lv_iload_n hx hb dX0_boards_0 rfl (lv_at hl 1 rfl) ?_
  refine lv_iconst (v := (5 : Int32)) hx hb dX0_boards_1 rfl ?_
  refine lv_imul hx hb dX0_boards_2 ?_
  refine lv_iload_n hx hb dX0_boards_3 rfl (lv_at hl 2 rfl) ?_
  refine lv_iadd hx hb dX0_boards_4 ?_
  obtain ⟨x11, hx11, he⟩ := g_let_ex he
  refine g_topI hx11 ?_
  refine lv_istore_n (lv' := [(3, .int x11), (0, .ref (B + 53)), (1, .int a1), (2, .int a2)]) hx hb dX0_boards_5 rfl hl (by decide) rfl (fun ls hl => ?_)
  refine lv_aload_n hx hb dX0_boards_6 rfl (lv_at hl 1 rfl) ?_
  obtain ⟨q12, hqq12, hq12, hYq12, he⟩ := g_dr_some he
  refine g_getD E hM (o := 53) (Nat.le_of_ble_eq_true rfl) rfl fl_X0_38 rfl hqq12 dX0_boards_7 ?_
  refine g_getP E hM (o := q12) hq12 hYq12 fl_X0_130 (q := (q12 + 3)) (pt_7_6 q12 hq12 hYq12).1 dX0_boards_10 ?_
  refine lv_iload_n hx hb dX0_boards_13 rfl (lv_at hl 0 rfl) ?_
  obtain ⟨h13, he⟩ := g_ck_some he
  refine g_iald E hM (o := (q12 + 3)) (pt_7_6 q12 hq12 hYq12).2.1 (pt_7_6 q12 hq12 hYq12).2.2 h13 dX0_boards_14 ?_
  refine lv_aload_n hx hb dX0_boards_15 rfl (lv_at hl 1 rfl) ?_
  obtain ⟨q14, hqq14, hq14, hYq14, he⟩ := g_dr_some he
  refine g_getD E hM (o := 53) (Nat.le_of_ble_eq_true rfl) rfl fl_X0_38 rfl hqq14 dX0_boards_16 ?_
  refine g_getI E hM (o := q14) hq14 hYq14 fl_X0_70 dX0_boards_19 ?_
  refine lv_iconst (v := (1 : Int32)) hx hb dX0_boards_22 rfl ?_
  refine lv_iand hx hb dX0_boards_23 ?_
  refine lv_icmp_ne (tgt := 36) hx hb dX0_boards_24 (by decide) (fun h15 => ?_) (fun h15 => ?_)
  · rw [if_neg h15] at he
    refine lv_iconst (v := (0 : Int32)) hx hb dX0_boards_36 rfl ?_
    cases he
    exact g_zret E hM hret hlk (Or.inl rfl) dX0_boards_37
  · rw [if_pos h15] at he
    refine lv_aload_n hx hb dX0_boards_27 rfl (lv_at hl 1 rfl) ?_
    refine g_getP E hM (o := 53) (Nat.le_of_ble_eq_true rfl) rfl fl_X0_25 (q := 54) rfl dX0_boards_28 ?_
    refine lv_iload_n hx hb dX0_boards_31 rfl (lv_at hl 0 rfl) ?_
    obtain ⟨h16, he⟩ := g_ck_some he
    refine g_zald E hM (o := 54) (Nat.le_of_ble_eq_true rfl) rfl h16 dX0_boards_32 ?_
    refine lv_if_eq (tgt := 38) hx hb dX0_boards_33 (by decide) (fun h17 => ?_) (fun h17 => ?_)
    · rw [if_pos h17] at he
      refine lv_aload_n hx hb dX0_boards_38 rfl (lv_at hl 1 rfl) ?_
      refine g_getI E hM (o := 53) (Nat.le_of_ble_eq_true rfl) rfl fl_X0_15 dX0_boards_39 ?_
      refine lv_if_eq (tgt := 49) hx hb dX0_boards_42 (by decide) (fun h18 => ?_) (fun h18 => ?_)
      · rw [if_pos h18] at he
        refine lv_aload_n hx hb dX0_boards_49 rfl (lv_at hl 1 rfl) ?_
        refine lv_iload_n hx hb dX0_boards_50 rfl (lv_at hl 2 rfl) ?_
        refine lv_iload_n hx hb dX0_boards_51 rfl (lv_at hl 3 rfl) ?_
        obtain ⟨r19, hcr19, he⟩ := g_bind he
        refine g_callV [.int a1, .int a2] (rest := []) E hml hl.1 hM cv_X0_133 (c0_fareLaw l D aC B hcr19) (o := 53) (Nat.le_of_ble_eq_true rfl) rfl (by decide) rfl rfl (Nat.le_of_ble_eq_true rfl) dX0_boards_52 (fun H locs hM => ?_)
        refine W.eq (g2 := F0 m 55 ls [.long r19.1]) rfl ?_
        refine lv_aload_n hx hb dX0_boards_55 rfl (lv_at hl 1 rfl) ?_
        obtain ⟨q20, hqq20, hq20, hYq20, he⟩ := g_dr_some he
        refine g_getD E hM (o := 53) (Nat.le_of_ble_eq_true rfl) rfl fl_X0_48 rfl hqq20 dX0_boards_56 ?_
        refine g_getP E hM (o := q20) hq20 hYq20 fl_X0_136 (q := (q20 + 5)) (pt_9_4 q20 hq20 hYq20).1 dX0_boards_59 ?_
        refine lv_iload_n hx hb dX0_boards_62 rfl (lv_at hl 3 rfl) ?_
        obtain ⟨h21, he⟩ := g_ck_some he
        refine g_iald E hM (o := (q20 + 5)) (pt_9_4 q20 hq20 hYq20).2.1 (pt_9_4 q20 hq20 hYq20).2.2 h21 dX0_boards_63 ?_
        obtain ⟨r22, hcr22, he⟩ := g_bind he
        refine g_callS [.long r19.1, .int (r19.2.1 (q20 + 5) a2.toNatClampNeg)] (rest := []) E hml hl.1 hM cs_X0_96 (c0_within l D aC B hcr22) (by decide) rfl rfl (Nat.le_of_ble_eq_true rfl) dX0_boards_64 (fun H locs hM => ?_)
        refine W.eq (g2 := F0 m 67 ls [.int r22]) rfl ?_
        exact w0_boards_b67 (F := F) (a1 := a1) (a2 := a2) E hml hret hlk _ _ _ _ _ _ hM (lv_sub hl [1, 2, 0] rfl) he
      · rw [if_neg h18] at he
        refine lv_iconst (v := (0 : Int32)) hx hb dX0_boards_45 rfl ?_
        refine lv_goto (tgt := 67) hx hb dX0_boards_46 (by decide) ?_
        exact w0_boards_b67 (F := F) (a1 := a1) (a2 := a2) E hml hret hlk _ _ _ _ _ _ hM (lv_sub hl [1, 2, 0] rfl) he
    · rw [if_neg h17] at he
      refine lv_iconst (v := (0 : Int32)) hx hb dX0_boards_36 rfl ?_
      cases he
      exact g_zret E hM hret hlk (Or.inl rfl) dX0_boards_37

set_option maxHeartbeats 4000000 in
set_option maxRecDepth 100000 in
theorem c7_setSending (l : Launch) (D : va_G) (aC : Nat → ClassId) (B : Nat) {F : Nat} {t : Nat} (ht : t < 69) (hY : yC.1 t = (7, 0)) {a1 : Int32} {a2 : Int32} {a3 : Int32} {mem : g_M} {q0 : g_M} (he : f7_setSending F t a1 a2 a3 mem = some q0) : g_Met l yX7_setSending cX7_setSending 4 none 1 D aC B yC 69 mem [.ref (B + t), .int a1, .int a2, .int a3] none q0 := by
  refine g_ofW (by decide) (Nat.le_of_ble_eq_true rfl) ?_
  intro p e s m args below meth c ls E hml hret hlk hM hl
  have E : g_C p s m args c cX7_setSending RX7 D aC (g_Zs (g_A B 69)) := E
  have hx := E.1
  have hb := E.2.1
  have hown := E.2.2.1
  have hts := E.2.2.2.1
  have hl : lv_has ls 4 [(0, .ref (B + t)), (1, .int a1), (2, .int a2), (3, .int a3)] := hl
  unfold f7_setSending at he
  refine lv_aload_n hx hb dX7_setSending_0 rfl (lv_at hl 0 rfl) ?_
  refine g_getP E hM (o := t) ht hY fl_X7_34 (q := (t + 4)) (pt_7_8 t ht hY).1 dX7_setSending_1 ?_
  refine lv_iload_n hx hb dX7_setSending_4 rfl (lv_at hl 1 rfl) ?_
  refine lv_iconst (v := (4 : Int32)) hx hb dX7_setSending_5 rfl ?_
  refine lv_imul hx hb dX7_setSending_6 ?_
  refine lv_iload_n hx hb dX7_setSending_7 rfl (lv_at hl 2 rfl) ?_
  refine lv_iadd hx hb dX7_setSending_8 ?_
  refine lv_iload_n hx hb dX7_setSending_9 rfl (lv_at hl 3 rfl) ?_
  obtain ⟨h1, he⟩ := g_ck_some he
  refine g_iast E hM (o := (t + 4)) (pt_7_8 t ht hY).2.1 (pt_7_8 t ht hY).2.2 h1 dX7_setSending_10 (fun H locs hM => ?_)
  obtain ⟨m2, hm2, he⟩ := g_let_ex he
  rw [← hm2] at hM
  cases he
  exact g_vret E hM hret hlk dX7_setSending_11

set_option maxHeartbeats 4000000 in
set_option maxRecDepth 100000 in
theorem w0_fillBoat_b105 (E : g_C p s m args c cX0_fillBoat RX0 D aC (g_Zs (g_A B 69))) (hml : c.maxLocals = 5) (hret : meth.sig.returnType = none) (hlk : meth.locks = false) {F : Nat} {q0 : g_M} {s7 : Int32 → Int32 → g_M → Option (g_M)} (hs7 : ∀ (v1 : Int32) (v2 : Int32) (mem : g_M) (H : Heap) (locs : List Loc) (ls : Array Slot), g_At D aC B yC 69 mem s.heap H locs → lv_has ls 5 [(0, .ref (B + 53)), (1, .int v1), (2, .int v2)] → s7 v1 v2 mem = some q0 → W p l e (g_rm 6) s m args below meth c H locs 0 0 (g_MQ below D aC B yC 69 args s none q0) (F0 m 7 ls [])) : ∀ (v1 : Int32) (v2 : Int32) (mem : g_M) (H : Heap) (locs : List Loc) (ls : Array Slot), g_At D aC B yC 69 mem s.heap H locs → lv_has ls 5 [(0, .ref (B + 53)), (1, .int v1), (2, .int v2)] → f0_fillBoat_b105 F s7 v1 v2 mem = some q0 → W p l e (g_rm 6) s m args below meth c H locs 0 0 (g_MQ below D aC B yC 69 args s none q0) (F0 m 105 ls []) := by
  intro v1 v2 mem H locs ls hM hl he
  unfold f0_fillBoat_b105 at he
  have hx := E.1
  have hb := E.2.1
  have hown := E.2.2.1
  have hts := E.2.2.2.1
  obtain ⟨x1, hx1, he⟩ := g_let_ex he
  refine lv_iinc (v := x1) (lv' := [(2, .int x1), (0, .ref (B + 53)), (1, .int v1)]) hx hb dX0_fillBoat_105 hl (k := 2) rfl (by rw [hx1]; rfl) (by decide) rfl (fun ls hl => ?_)
  refine lv_goto (tgt := 7) hx hb dX0_fillBoat_108 (by decide) ?_
  exact hs7 _ _ _ _ _ _ hM (lv_sub hl [1, 2, 0] rfl) he

set_option maxHeartbeats 4000000 in
set_option maxRecDepth 100000 in
theorem w0_fillBoat_b7_body (E : g_C p s m args c cX0_fillBoat RX0 D aC (g_Zs (g_A B 69))) (hml : c.maxLocals = 5) (hret : meth.sig.returnType = none) (hlk : meth.locks = false) {F : Nat} {q0 : g_M} {s7 : Int32 → Int32 → g_M → Option (g_M)} (hs7 : ∀ (v1 : Int32) (v2 : Int32) (mem : g_M) (H : Heap) (locs : List Loc) (ls : Array Slot), g_At D aC B yC 69 mem s.heap H locs → lv_has ls 5 [(0, .ref (B + 53)), (1, .int v1), (2, .int v2)] → s7 v1 v2 mem = some q0 → W p l e (g_rm 6) s m args below meth c H locs 0 0 (g_MQ below D aC B yC 69 args s none q0) (F0 m 7 ls [])) : ∀ (v1 : Int32) (v2 : Int32) (mem : g_M) (H : Heap) (locs : List Loc) (ls : Array Slot), g_At D aC B yC 69 mem s.heap H locs → lv_has ls 5 [(0, .ref (B + 53)), (1, .int v1), (2, .int v2)] → f0_fillBoat_b7_body F s7 v1 v2 mem = some q0 → W p l e (g_rm 6) s m args below meth c H locs 0 0 (g_MQ below D aC B yC 69 args s none q0) (F0 m 7 ls []) := by
  intro v1 v2 mem H locs ls hM hl he
  unfold f0_fillBoat_b7_body at he
  have hx := E.1
  have hb := E.2.1
  have hown := E.2.2.1
  have hts := E.2.2.2.1
  refine lv_iload_n hx hb dX0_fillBoat_7 rfl (lv_at hl 2 rfl) ?_
  refine lv_aload_n hx hb dX0_fillBoat_8 rfl (lv_at hl 0 rfl) ?_
  obtain ⟨q2, hqq2, hq2, hYq2, he⟩ := g_dr_some he
  refine g_getD E hM (o := 53) (Nat.le_of_ble_eq_true rfl) rfl fl_X0_38 rfl hqq2 dX0_fillBoat_9 ?_
  refine g_getI E hM (o := q2) hq2 hYq2 fl_X0_109 dX0_fillBoat_12 ?_
  refine lv_icmp_ge (tgt := 111) hx hb dX0_fillBoat_15 (by decide) (fun h3 => ?_) (fun h3 => ?_)
  · rw [if_neg (Int32.not_lt.mpr h3)] at he
    cases he
    exact g_vret E hM hret hlk dX0_fillBoat_111
  · rw [if_pos (Int32.not_le.mp h3)] at he
    refine lv_aload_n hx hb dX0_fillBoat_18 rfl (lv_at hl 0 rfl) ?_
    obtain ⟨q4, hqq4, hq4, hYq4, he⟩ := g_dr_some he
    refine g_getD E hM (o := 53) (Nat.le_of_ble_eq_true rfl) rfl fl_X0_38 rfl hqq4 dX0_fillBoat_19 ?_
    refine lv_iload_n hx hb dX0_fillBoat_22 rfl (lv_at hl 2 rfl) ?_
    refine lv_iconst (v := (0 : Int32)) hx hb dX0_fillBoat_23 rfl ?_
    obtain ⟨r5, hcr5, he⟩ := g_bind he
    refine g_callV [.int v2, .int (0 : Int32)] (rest := []) E hml hl.1 hM cv_X0_112 (c7_sendingAt l D aC B hq4 hYq4 hcr5) (o := q4) hq4 hYq4 (by decide) rfl rfl (Nat.le_of_ble_eq_true rfl) dX0_fillBoat_24 (fun H locs hM => ?_)
    refine W.eq (g2 := F0 m 27 ls [.int r5]) rfl ?_
    refine lv_istore_n (lv' := [(3, .int r5), (0, .ref (B + 53)), (1, .int v1), (2, .int v2)]) hx hb dX0_fillBoat_27 rfl hl (by decide) rfl (fun ls hl => ?_)
    refine lv_aload_n hx hb dX0_fillBoat_28 rfl (lv_at hl 1 rfl) ?_
    obtain ⟨q6, hqq6, hq6, hYq6, he⟩ := g_dr_some he
    refine g_getD E hM (o := 53) (Nat.le_of_ble_eq_true rfl) rfl fl_X0_38 rfl hqq6 dX0_fillBoat_29 ?_
    refine lv_iload_n hx hb dX0_fillBoat_32 rfl (lv_at hl 3 rfl) ?_
    refine lv_iconst (v := (1 : Int32)) hx hb dX0_fillBoat_33 rfl ?_
    obtain ⟨r7, hcr7, he⟩ := g_bind he
    refine g_callV [.int v2, .int (1 : Int32)] (rest := []) E hml hl.1 hM cv_X0_112 (c7_sendingAt l D aC B hq6 hYq6 hcr7) (o := q6) hq6 hYq6 (by decide) rfl rfl (Nat.le_of_ble_eq_true rfl) dX0_fillBoat_34 (fun H locs hM => ?_)
    refine W.eq (g2 := F0 m 37 ls [.int r7]) rfl ?_
    refine lv_istore (lv' := [(4, .int r7), (3, .int r5), (0, .ref (B + 53)), (1, .int v1), (2, .int v2)]) hx hb dX0_fillBoat_37 hl (by decide) rfl (fun ls hl => ?_)
    refine lv_aload_n hx hb dX0_fillBoat_39 rfl (lv_at hl 2 rfl) ?_
    obtain ⟨q8, hqq8, hq8, hYq8, he⟩ := g_dr_some he
    refine g_getD E hM (o := 53) (Nat.le_of_ble_eq_true rfl) rfl fl_X0_38 rfl hqq8 dX0_fillBoat_40 ?_
    refine lv_iload_n hx hb dX0_fillBoat_43 rfl (lv_at hl 4 rfl) ?_
    obtain ⟨r9, hcr9, he⟩ := g_bind he
    refine g_callV [.int v2] (rest := []) E hml hl.1 hM cv_X0_115 (c7_isDue l D aC B hq8 hYq8 hcr9) (o := q8) hq8 hYq8 (by decide) rfl rfl (Nat.le_of_ble_eq_true rfl) dX0_fillBoat_44 (fun H locs hM => ?_)
    refine W.eq (g2 := F0 m 47 ls [.int r9]) rfl ?_
    refine lv_if_eq (tgt := 105) hx hb dX0_fillBoat_47 (by decide) (fun h10 => ?_) (fun h10 => ?_)
    · rw [if_pos h10] at he
      exact w0_fillBoat_b105 (F := F) E hml hret hlk hs7 _ _ _ _ _ _ hM (lv_sub hl [2, 3, 4] rfl) he
    · rw [if_neg h10] at he
      refine lv_iload_n hx hb dX0_fillBoat_50 rfl (lv_at hl 1 rfl) ?_
      refine lv_aload_n hx hb dX0_fillBoat_51 rfl (lv_at hl 2 rfl) ?_
      refine g_getI E hM (o := 53) (Nat.le_of_ble_eq_true rfl) rfl fl_X0_19 dX0_fillBoat_52 ?_
      refine lv_icmp_eq (tgt := 105) hx hb dX0_fillBoat_55 (by decide) (fun h11 => ?_) (fun h11 => ?_)
      · rw [if_pos h11] at he
        exact w0_fillBoat_b105 (F := F) E hml hret hlk hs7 _ _ _ _ _ _ hM (lv_sub hl [2, 3, 4] rfl) he
      · rw [if_neg h11] at he
        refine lv_aload_n hx hb dX0_fillBoat_58 rfl (lv_at hl 2 rfl) ?_
        obtain ⟨q12, hqq12, hq12, hYq12, he⟩ := g_dr_some he
        refine g_getD E hM (o := 53) (Nat.le_of_ble_eq_true rfl) rfl fl_X0_48 rfl hqq12 dX0_fillBoat_59 ?_
        refine g_getP E hM (o := q12) hq12 hYq12 fl_X0_119 (q := (q12 + 4)) (pt_9_3 q12 hq12 hYq12).1 dX0_fillBoat_62 ?_
        refine lv_iload hx hb dX0_fillBoat_65 (lv_at hl 0 rfl) ?_
        obtain ⟨h13, he⟩ := g_ck_some he
        refine g_iald E hM (o := (q12 + 4)) (pt_9_3 q12 hq12 hYq12).2.1 (pt_9_3 q12 hq12 hYq12).2.2 h13 dX0_fillBoat_67 ?_
        refine lv_iload_n hx hb dX0_fillBoat_68 rfl (lv_at hl 3 rfl) ?_
        refine lv_icmp_gt (tgt := 105) hx hb dX0_fillBoat_69 (by decide) (fun h14 => ?_) (fun h14 => ?_)
        · rw [if_neg (Int32.not_le.mpr h14)] at he
          exact w0_fillBoat_b105 (F := F) E hml hret hlk hs7 _ _ _ _ _ _ hM (lv_sub hl [2, 3, 4] rfl) he
        · rw [if_pos (Int32.not_lt.mp h14)] at he
          refine lv_aload_n hx hb dX0_fillBoat_72 rfl (lv_at hl 2 rfl) ?_
          refine lv_iload_n hx hb dX0_fillBoat_73 rfl (lv_at hl 1 rfl) ?_
          refine lv_iload hx hb dX0_fillBoat_74 (lv_at hl 0 rfl) ?_
          obtain ⟨r15, hcr15, he⟩ := g_bind he
          refine g_callV [.int r5, .int r7] (rest := []) E hml hl.1 hM cv_X0_122 (c0_boards l D aC B hcr15) (o := 53) (Nat.le_of_ble_eq_true rfl) rfl (by decide) rfl rfl (Nat.le_of_ble_eq_true rfl) dX0_fillBoat_76 (fun H locs hM => ?_)
          refine W.eq (g2 := F0 m 79 ls [.int r15.1]) rfl ?_
          refine lv_if_eq (tgt := 105) hx hb dX0_fillBoat_79 (by decide) (fun h16 => ?_) (fun h16 => ?_)
          · rw [if_pos h16] at he
            exact w0_fillBoat_b105 (F := F) E hml hret hlk hs7 _ _ _ _ _ _ hM (lv_sub hl [2, 3, 4] rfl) he
          · rw [if_neg h16] at he
            refine lv_iload_n hx hb dX0_fillBoat_82 rfl (lv_at hl 3 rfl) ?_
            refine lv_aload_n hx hb dX0_fillBoat_83 rfl (lv_at hl 2 rfl) ?_
            obtain ⟨q17, hqq17, hq17, hYq17, he⟩ := g_dr_some he
            refine g_getD E hM (o := 53) (Nat.le_of_ble_eq_true rfl) rfl fl_X0_48 rfl hqq17 dX0_fillBoat_84 ?_
            refine g_getP E hM (o := q17) hq17 hYq17 fl_X0_119 (q := (q17 + 4)) (pt_9_3 q17 hq17 hYq17).1 dX0_fillBoat_87 ?_
            refine lv_iload hx hb dX0_fillBoat_90 (lv_at hl 0 rfl) ?_
            obtain ⟨h18, he⟩ := g_ck_some he
            refine g_iald E hM (o := (q17 + 4)) (pt_9_3 q17 hq17 hYq17).2.1 (pt_9_3 q17 hq17 hYq17).2.2 h18 dX0_fillBoat_92 ?_
            refine lv_isub hx hb dX0_fillBoat_93 ?_
            obtain ⟨x19, hx19, he⟩ := g_let_ex he
            refine g_topI hx19 ?_
            refine lv_istore_n (lv' := [(1, .int x19), (4, .int r7), (3, .int r5), (0, .ref (B + 53)), (2, .int v2)]) hx hb dX0_fillBoat_94 rfl hl (by decide) rfl (fun ls hl => ?_)
            refine lv_aload_n hx hb dX0_fillBoat_95 rfl (lv_at hl 3 rfl) ?_
            obtain ⟨q20, hqq20, hq20, hYq20, he⟩ := g_dr_some he
            refine g_getD E hM (o := 53) (Nat.le_of_ble_eq_true rfl) rfl fl_X0_38 rfl hqq20 dX0_fillBoat_96 ?_
            refine lv_iload_n hx hb dX0_fillBoat_99 rfl (lv_at hl 4 rfl) ?_
            refine lv_iconst (v := (3 : Int32)) hx hb dX0_fillBoat_100 rfl ?_
            refine lv_iconst (v := (1 : Int32)) hx hb dX0_fillBoat_101 rfl ?_
            obtain ⟨r21, hcr21, he⟩ := g_bind he
            refine g_callV [.int v2, .int (3 : Int32), .int (1 : Int32)] (rest := []) E hml hl.1 hM cv_X0_126 (c7_setSending l D aC B hq20 hYq20 hcr21) (o := q20) hq20 hYq20 (by decide) rfl rfl (Nat.le_of_ble_eq_true rfl) dX0_fillBoat_102 (fun H locs hM => ?_)
            refine W.eq (g2 := F0 m 105 ls []) rfl ?_
            exact w0_fillBoat_b105 (F := F) E hml hret hlk hs7 _ _ _ _ _ _ hM (lv_sub hl [3, 0, 4] rfl) he

set_option maxHeartbeats 4000000 in
set_option maxRecDepth 100000 in
theorem w0_fillBoat_b7 (E : g_C p s m args c cX0_fillBoat RX0 D aC (g_Zs (g_A B 69))) (hml : c.maxLocals = 5) (hret : meth.sig.returnType = none) (hlk : meth.locks = false) {F : Nat} {q0 : g_M} : ∀ (v1 : Int32) (v2 : Int32) (mem : g_M) (H : Heap) (locs : List Loc) (ls : Array Slot), g_At D aC B yC 69 mem s.heap H locs → lv_has ls 5 [(0, .ref (B + 53)), (1, .int v1), (2, .int v2)] → f0_fillBoat_b7 F v1 v2 mem = some q0 → W p l e (g_rm 6) s m args below meth c H locs 0 0 (g_MQ below D aC B yC 69 args s none q0) (F0 m 7 ls []) := by
  have key : ∀ (nn : Nat) (x : Int32 × Int32 × g_M) (H : Heap) (locs : List Loc) (ls : Array Slot), g_At D aC B yC 69 x.2.2 s.heap H locs → lv_has ls 5 [(0, .ref (B + 53)), (1, .int x.1), (2, .int x.2.1)] → g_fix (fun sf x => f0_fillBoat_b7_body F (fun v1 v2 mem => sf (v1, v2, mem)) x.1 x.2.1 x.2.2) nn x = some q0 → W p l e (g_rm 6) s m args below meth c H locs 0 0 (g_MQ below D aC B yC 69 args s none q0) (F0 m 7 ls []) := by
    intro nn
    induction nn with
    | zero => intro x H locs ls hM hl he; simp [g_fix] at he
    | succ nn ih =>
      intro x H locs ls hM hl he
      exact w0_fillBoat_b7_body (F := F) E hml hret hlk (fun v1 v2 mem H locs ls hM hl he => ih (v1, v2, mem) H locs ls hM hl he) x.1 x.2.1 x.2.2 H locs ls hM hl he
  intro v1 v2 mem H locs ls hM hl he
  exact key F (v1, v2, mem) H locs ls hM hl he

set_option maxHeartbeats 4000000 in
set_option maxRecDepth 100000 in
theorem c0_fillBoat (l : Launch) (D : va_G) (aC : Nat → ClassId) (B : Nat) {F : Nat} {mem : g_M} {q0 : g_M} (he : f0_fillBoat F mem = some q0) : g_Met l yX0_fillBoat cX0_fillBoat 5 none 6 D aC B yC 69 mem [.ref (B + 53)] none q0 := by
  refine g_ofW (by decide) (Nat.le_of_ble_eq_true rfl) ?_
  intro p e s m args below meth c ls E hml hret hlk hM hl
  have E : g_C p s m args c cX0_fillBoat RX0 D aC (g_Zs (g_A B 69)) := E
  have hx := E.1
  have hb := E.2.1
  have hown := E.2.2.1
  have hts := E.2.2.2.1
  have hl : lv_has ls 5 [(0, .ref (B + 53))] := hl
  unfold f0_fillBoat at he
  refine lv_aload_n hx hb dX0_fillBoat_0 rfl (lv_at hl 0 rfl) ?_
  refine g_getI E hM (o := 53) (Nat.le_of_ble_eq_true rfl) rfl fl_X0_9 dX0_fillBoat_1 ?_
  obtain ⟨x22, hx22, he⟩ := g_let_ex he
  refine g_topI hx22 ?_
  refine lv_istore_n (lv' := [(1, .int x22), (0, .ref (B + 53))]) hx hb dX0_fillBoat_4 rfl hl (by decide) rfl (fun ls hl => ?_)
  refine lv_iconst (v := (0 : Int32)) hx hb dX0_fillBoat_5 rfl ?_
  refine lv_istore_n (lv' := [(2, .int (0 : Int32)), (1, .int x22), (0, .ref (B + 53))]) hx hb dX0_fillBoat_6 rfl hl (by decide) rfl (fun ls hl => ?_)
  exact w0_fillBoat_b7 (F := F) E hml hret hlk _ _ _ _ _ _ hM (lv_sub hl [2, 1, 0] rfl) he

set_option maxHeartbeats 4000000 in
set_option maxRecDepth 100000 in
theorem c0_nextNumber (l : Launch) (D : va_G) (aC : Nat → ClassId) (B : Nat) {F : Nat} {mem : g_M} {q0 : Int32 × g_M} (he : f0_nextNumber F mem = some q0) : g_Met l yX0_nextNumber cX0_nextNumber 1 (some .int) 1 D aC B yC 69 mem [.ref (B + 53)] (some (.int q0.1)) q0.2 := by
  refine g_ofW (by decide) (Nat.le_of_ble_eq_true rfl) ?_
  intro p e s m args below meth c ls E hml hret hlk hM hl
  have E : g_C p s m args c cX0_nextNumber RX0 D aC (g_Zs (g_A B 69)) := E
  have hx := E.1
  have hb := E.2.1
  have hown := E.2.2.1
  have hts := E.2.2.2.1
  have hl : lv_has ls 1 [(0, .ref (B + 53))] := hl
  unfold f0_nextNumber at he
  refine lv_aload_n hx hb dX0_nextNumber_0 rfl (lv_at hl 0 rfl) ?_
  obtain ⟨q1, hqq1, hq1, hYq1, he⟩ := g_dr_some he
  refine g_getD E hM (o := 53) (Nat.le_of_ble_eq_true rfl) rfl fl_X0_38 rfl hqq1 dX0_nextNumber_1 ?_
  refine lv_aload_n hx hb dX0_nextNumber_4 rfl (lv_at hl 0 rfl) ?_
  obtain ⟨q2, hqq2, hq2, hYq2, he⟩ := g_dr_some he
  refine g_getD E hM (o := 53) (Nat.le_of_ble_eq_true rfl) rfl fl_X0_38 rfl hqq2 dX0_nextNumber_5 ?_
  refine g_getI E hM (o := q2) hq2 hYq2 fl_X0_146 dX0_nextNumber_8 ?_
  refine lv_i2l hx hb dX0_nextNumber_11 rfl ?_
  refine lv_ldc2 (v := (1103515245 : Int64)) hx hb hown (hts _ kc_X0_149) dX0_nextNumber_12 ?_
  refine lv_lmul hx hb dX0_nextNumber_15 ?_
  refine lv_ldc2 (v := (12345 : Int64)) hx hb hown (hts _ kc_X0_151) dX0_nextNumber_16 ?_
  refine lv_ladd hx hb dX0_nextNumber_19 ?_
  refine lv_ldc2 (v := (2147483647 : Int64)) hx hb hown (hts _ kc_X0_153) dX0_nextNumber_20 ?_
  refine lv_land hx hb dX0_nextNumber_23 ?_
  refine lv_l2i hx hb dX0_nextNumber_24 rfl ?_
  refine g_putI E hM (o := q1) hq1 hYq1 fp_X0_146 dX0_nextNumber_25 (fun H locs hM => ?_)
  obtain ⟨m3, hm3, he⟩ := g_let_ex he
  rw [← hm3] at hM
  refine lv_aload_n hx hb dX0_nextNumber_28 rfl (lv_at hl 0 rfl) ?_
  obtain ⟨q4, hqq4, hq4, hYq4, he⟩ := g_dr_some he
  refine g_getD E hM (o := 53) (Nat.le_of_ble_eq_true rfl) rfl fl_X0_38 rfl hqq4 dX0_nextNumber_29 ?_
  refine g_getI E hM (o := q4) hq4 hYq4 fl_X0_146 dX0_nextNumber_32 ?_
  refine lv_ldc (v := (65536 : Int32)) hx hb hown (hts _ kc_X0_155) dX0_nextNumber_35 ?_
  refine lv_idiv hx hb dX0_nextNumber_37 (by decide) ?_
  cases he
  exact g_iret E hM hret hlk dX0_nextNumber_38

set_option maxHeartbeats 4000000 in
set_option maxRecDepth 100000 in
theorem c0_storms (l : Launch) (D : va_G) (aC : Nat → ClassId) (B : Nat) {F : Nat} {mem : g_M} {q0 : Int32 × g_M} (he : f0_storms F mem = some q0) : g_Met l yX0_storms cX0_storms 1 (some .boolean) 2 D aC B yC 69 mem [.ref (B + 53)] (some (.int q0.1)) q0.2 := by
  refine g_ofW (by decide) (Nat.le_of_ble_eq_true rfl) ?_
  intro p e s m args below meth c ls E hml hret hlk hM hl
  have E : g_C p s m args c cX0_storms RX0 D aC (g_Zs (g_A B 69)) := E
  have hx := E.1
  have hb := E.2.1
  have hown := E.2.2.1
  have hts := E.2.2.2.1
  have hl : lv_has ls 1 [(0, .ref (B + 53))] := hl
  unfold f0_storms at he
  refine lv_aload_n hx hb dX0_storms_0 rfl (lv_at hl 0 rfl) ?_
  refine g_getI E hM (o := 53) (Nat.le_of_ble_eq_true rfl) rfl fl_X0_22 dX0_storms_1 ?_
  refine lv_iconst (v := (2 : Int32)) hx hb dX0_storms_4 rfl ?_
  refine lv_icmp_eq (tgt := 18) hx hb dX0_storms_5 (by decide) (fun h1 => ?_) (fun h1 => ?_)
  · rw [if_pos h1] at he
    refine lv_iconst (v := (0 : Int32)) hx hb dX0_storms_18 rfl ?_
    cases he
    exact g_zret E hM hret hlk (Or.inl rfl) dX0_storms_19
  · rw [if_neg h1] at he
    refine lv_aload_n hx hb dX0_storms_8 rfl (lv_at hl 0 rfl) ?_
    obtain ⟨q2, hqq2, hq2, hYq2, he⟩ := g_dr_some he
    refine g_getD E hM (o := 53) (Nat.le_of_ble_eq_true rfl) rfl fl_X0_48 rfl hqq2 dX0_storms_9 ?_
    refine g_getI E hM (o := q2) hq2 hYq2 fl_X0_139 dX0_storms_12 ?_
    refine lv_if_ne (tgt := 20) hx hb dX0_storms_15 (by decide) (fun h3 => ?_) (fun h3 => ?_)
    · rw [if_neg h3] at he
      refine lv_aload_n hx hb dX0_storms_20 rfl (lv_at hl 0 rfl) ?_
      obtain ⟨q4, hqq4, hq4, hYq4, he⟩ := g_dr_some he
      refine g_getD E hM (o := 53) (Nat.le_of_ble_eq_true rfl) rfl fl_X0_48 rfl hqq4 dX0_storms_21 ?_
      refine g_getI E hM (o := q4) hq4 hYq4 fl_X0_139 dX0_storms_24 ?_
      refine lv_bipush (v := (100 : Int32)) hx hb dX0_storms_27 rfl ?_
      refine lv_icmp_ne (tgt := 34) hx hb dX0_storms_29 (by decide) (fun h5 => ?_) (fun h5 => ?_)
      · rw [if_neg h5] at he
        refine lv_aload_n hx hb dX0_storms_34 rfl (lv_at hl 0 rfl) ?_
        refine g_getI E hM (o := 53) (Nat.le_of_ble_eq_true rfl) rfl fl_X0_22 dX0_storms_35 ?_
        refine lv_iconst (v := (1 : Int32)) hx hb dX0_storms_38 rfl ?_
        refine lv_icmp_ne (tgt := 62) hx hb dX0_storms_39 (by decide) (fun h6 => ?_) (fun h6 => ?_)
        · rw [if_neg h6] at he
          refine lv_aload_n hx hb dX0_storms_62 rfl (lv_at hl 0 rfl) ?_
          obtain ⟨r9, hcr9, he⟩ := g_bind he
          refine g_callV [] (rest := []) E hml hl.1 hM cv_X0_142 (c0_nextNumber l D aC B hcr9) (o := 53) (Nat.le_of_ble_eq_true rfl) rfl (by decide) rfl rfl (Nat.le_of_ble_eq_true rfl) dX0_storms_63 (fun H locs hM => ?_)
          refine W.eq (g2 := F0 m 66 ls [.int r9.1]) rfl ?_
          refine lv_bipush (v := (100 : Int32)) hx hb dX0_storms_66 rfl ?_
          refine lv_irem hx hb dX0_storms_68 (by decide) ?_
          refine lv_aload_n hx hb dX0_storms_69 rfl (lv_at hl 0 rfl) ?_
          obtain ⟨q10, hqq10, hq10, hYq10, he⟩ := g_dr_some he
          refine g_getD E hM (o := 53) (Nat.le_of_ble_eq_true rfl) rfl fl_X0_48 rfl hqq10 dX0_storms_70 ?_
          refine g_getI E hM (o := q10) hq10 hYq10 fl_X0_139 dX0_storms_73 ?_
          refine lv_icmp_ge (tgt := 83) hx hb dX0_storms_76 (by decide) (fun h11 => ?_) (fun h11 => ?_)
          · rw [if_neg (Int32.not_lt.mpr h11)] at he
            refine lv_iconst (v := (0 : Int32)) hx hb dX0_storms_83 rfl ?_
            cases he
            exact g_zret E hM hret hlk (Or.inl rfl) dX0_storms_84
          · rw [if_pos (Int32.not_le.mp h11)] at he
            refine lv_iconst (v := (1 : Int32)) hx hb dX0_storms_79 rfl ?_
            refine lv_goto (tgt := 84) hx hb dX0_storms_80 (by decide) ?_
            cases he
            exact g_zret E hM hret hlk (Or.inr rfl) dX0_storms_84
        · rw [if_pos h6] at he
          refine lv_aload_n hx hb dX0_storms_42 rfl (lv_at hl 0 rfl) ?_
          obtain ⟨q7, hqq7, hq7, hYq7, he⟩ := g_dr_some he
          refine g_getD E hM (o := 53) (Nat.le_of_ble_eq_true rfl) rfl fl_X0_48 rfl hqq7 dX0_storms_43 ?_
          refine g_getI E hM (o := q7) hq7 hYq7 fl_X0_139 dX0_storms_46 ?_
          refine lv_bipush (v := (50 : Int32)) hx hb dX0_storms_49 rfl ?_
          refine lv_icmp_lt (tgt := 58) hx hb dX0_storms_51 (by decide) (fun h8 => ?_) (fun h8 => ?_)
          · rw [if_neg (Int32.not_le.mpr h8)] at he
            refine lv_iconst (v := (0 : Int32)) hx hb dX0_storms_58 rfl ?_
            refine lv_goto (tgt := 84) hx hb dX0_storms_59 (by decide) ?_
            cases he
            exact g_zret E hM hret hlk (Or.inl rfl) dX0_storms_84
          · rw [if_pos (Int32.not_lt.mp h8)] at he
            refine lv_iconst (v := (1 : Int32)) hx hb dX0_storms_54 rfl ?_
            refine lv_goto (tgt := 84) hx hb dX0_storms_55 (by decide) ?_
            cases he
            exact g_zret E hM hret hlk (Or.inr rfl) dX0_storms_84
      · rw [if_pos h5] at he
        refine lv_iconst (v := (1 : Int32)) hx hb dX0_storms_32 rfl ?_
        cases he
        exact g_zret E hM hret hlk (Or.inr rfl) dX0_storms_33
    · rw [if_pos h3] at he
      refine lv_iconst (v := (0 : Int32)) hx hb dX0_storms_18 rfl ?_
      cases he
      exact g_zret E hM hret hlk (Or.inl rfl) dX0_storms_19

set_option maxHeartbeats 4000000 in
set_option maxRecDepth 100000 in
theorem w0_aboardOf_b36 (E : g_C p s m args c cX0_aboardOf RX0 D aC (g_Zs (g_A B 69))) (hml : c.maxLocals = 4) (hret : meth.sig.returnType = (some .int)) (hlk : meth.locks = false) {F : Nat} {q0 : Int32} {a1 : Int32} {mem : g_M} {s4 : Int32 → Int32 → Option (Int32)} (hs4 : ∀ (v2 : Int32) (v3 : Int32) (H : Heap) (locs : List Loc) (ls : Array Slot), g_At D aC B yC 69 mem s.heap H locs → lv_has ls 4 [(0, .ref (B + 53)), (1, .int a1), (2, .int v2), (3, .int v3)] → s4 v2 v3 = some q0 → W p l e (g_rm 1) s m args below meth c H locs 0 0 (g_MQ below D aC B yC 69 args s (some (.int q0)) mem) (F0 m 4 ls [])) : ∀ (v3 : Int32) (w0 : Int32) (w1 : Int32) (H : Heap) (locs : List Loc) (ls : Array Slot), g_At D aC B yC 69 mem s.heap H locs → lv_has ls 4 [(0, .ref (B + 53)), (1, .int a1), (3, .int v3)] → f0_aboardOf_b36 F a1 s4 mem v3 w0 w1 = some q0 → W p l e (g_rm 1) s m args below meth c H locs 0 0 (g_MQ below D aC B yC 69 args s (some (.int q0)) mem) (F0 m 36 ls [.int w1, .int w0]) := by
  intro v3 w0 w1 H locs ls hM hl he
  unfold f0_aboardOf_b36 at he
  have hx := E.1
  have hb := E.2.1
  have hown := E.2.2.1
  have hts := E.2.2.2.1
  refine lv_iadd hx hb dX0_aboardOf_36 ?_
  obtain ⟨x1, hx1, he⟩ := g_let_ex he
  refine g_topI hx1 ?_
  refine lv_istore_n (lv' := [(2, .int x1), (0, .ref (B + 53)), (1, .int a1), (3, .int v3)]) hx hb dX0_aboardOf_37 rfl hl (by decide) rfl (fun ls hl => ?_)
  obtain ⟨x2, hx2, he⟩ := g_let_ex he
  refine lv_iinc (v := x2) (lv' := [(3, .int x2), (2, .int x1), (0, .ref (B + 53)), (1, .int a1)]) hx hb dX0_aboardOf_38 hl (k := 3) rfl (by rw [hx2]; rfl) (by decide) rfl (fun ls hl => ?_)
  refine lv_goto (tgt := 4) hx hb dX0_aboardOf_41 (by decide) ?_
  exact hs4 _ _ _ _ _ hM (lv_sub hl [2, 3, 1, 0] rfl) he

set_option maxHeartbeats 4000000 in
set_option maxRecDepth 100000 in
theorem w0_aboardOf_b4_body (E : g_C p s m args c cX0_aboardOf RX0 D aC (g_Zs (g_A B 69))) (hml : c.maxLocals = 4) (hret : meth.sig.returnType = (some .int)) (hlk : meth.locks = false) {F : Nat} {q0 : Int32} {a1 : Int32} {mem : g_M} {s4 : Int32 → Int32 → Option (Int32)} (hs4 : ∀ (v2 : Int32) (v3 : Int32) (H : Heap) (locs : List Loc) (ls : Array Slot), g_At D aC B yC 69 mem s.heap H locs → lv_has ls 4 [(0, .ref (B + 53)), (1, .int a1), (2, .int v2), (3, .int v3)] → s4 v2 v3 = some q0 → W p l e (g_rm 1) s m args below meth c H locs 0 0 (g_MQ below D aC B yC 69 args s (some (.int q0)) mem) (F0 m 4 ls [])) : ∀ (v2 : Int32) (v3 : Int32) (H : Heap) (locs : List Loc) (ls : Array Slot), g_At D aC B yC 69 mem s.heap H locs → lv_has ls 4 [(0, .ref (B + 53)), (1, .int a1), (2, .int v2), (3, .int v3)] → f0_aboardOf_b4_body F a1 s4 mem v2 v3 = some q0 → W p l e (g_rm 1) s m args below meth c H locs 0 0 (g_MQ below D aC B yC 69 args s (some (.int q0)) mem) (F0 m 4 ls []) := by
  intro v2 v3 H locs ls hM hl he
  unfold f0_aboardOf_b4_body at he
  have hx := E.1
  have hb := E.2.1
  have hown := E.2.2.1
  have hts := E.2.2.2.1
  refine lv_iload_n hx hb dX0_aboardOf_4 rfl (lv_at hl 3 rfl) ?_
  refine lv_aload_n hx hb dX0_aboardOf_5 rfl (lv_at hl 0 rfl) ?_
  obtain ⟨q3, hqq3, hq3, hYq3, he⟩ := g_dr_some he
  refine g_getD E hM (o := 53) (Nat.le_of_ble_eq_true rfl) rfl fl_X0_48 rfl hqq3 dX0_aboardOf_6 ?_
  refine g_getP E hM (o := q3) hq3 hYq3 fl_X0_156 (q := (q3 + 1)) (pt_9_0 q3 hq3 hYq3).1 dX0_aboardOf_9 ?_
  refine lv_iconst (v := (0 : Int32)) hx hb dX0_aboardOf_12 rfl ?_
  obtain ⟨h4, he⟩ := g_ck_some he
  refine g_iald E hM (o := (q3 + 1)) (pt_9_0 q3 hq3 hYq3).2.1 (pt_9_0 q3 hq3 hYq3).2.2 h4 dX0_aboardOf_13 ?_
  refine lv_icmp_ge (tgt := 44) hx hb dX0_aboardOf_14 (by decide) (fun h5 => ?_) (fun h5 => ?_)
  · rw [if_neg (Int32.not_lt.mpr h5)] at he
    refine lv_iload_n hx hb dX0_aboardOf_44 rfl (lv_at hl 2 rfl) ?_
    cases he
    exact g_iret E hM hret hlk dX0_aboardOf_45
  · rw [if_pos (Int32.not_le.mp h5)] at he
    refine lv_iload_n hx hb dX0_aboardOf_17 rfl (lv_at hl 2 rfl) ?_
    refine lv_aload_n hx hb dX0_aboardOf_18 rfl (lv_at hl 0 rfl) ?_
    refine g_getP E hM (o := 53) (Nat.le_of_ble_eq_true rfl) rfl fl_X0_25 (q := 54) rfl dX0_aboardOf_19 ?_
    refine lv_iload_n hx hb dX0_aboardOf_22 rfl (lv_at hl 3 rfl) ?_
    refine lv_iconst (v := (5 : Int32)) hx hb dX0_aboardOf_23 rfl ?_
    refine lv_imul hx hb dX0_aboardOf_24 ?_
    refine lv_iload_n hx hb dX0_aboardOf_25 rfl (lv_at hl 1 rfl) ?_
    refine lv_iadd hx hb dX0_aboardOf_26 ?_
    obtain ⟨h6, he⟩ := g_ck_some he
    refine g_zald E hM (o := 54) (Nat.le_of_ble_eq_true rfl) rfl h6 dX0_aboardOf_27 ?_
    refine lv_if_eq (tgt := 35) hx hb dX0_aboardOf_28 (by decide) (fun h7 => ?_) (fun h7 => ?_)
    · rw [if_pos h7] at he
      refine lv_iconst (v := (0 : Int32)) hx hb dX0_aboardOf_35 rfl ?_
      exact w0_aboardOf_b36 (F := F) (a1 := a1) E hml hret hlk hs4 _ _ _ _ _ _ hM (lv_sub hl [0, 1, 3] rfl) he
    · rw [if_neg h7] at he
      refine lv_iconst (v := (1 : Int32)) hx hb dX0_aboardOf_31 rfl ?_
      refine lv_goto (tgt := 36) hx hb dX0_aboardOf_32 (by decide) ?_
      exact w0_aboardOf_b36 (F := F) (a1 := a1) E hml hret hlk hs4 _ _ _ _ _ _ hM (lv_sub hl [0, 1, 3] rfl) he

set_option maxHeartbeats 4000000 in
set_option maxRecDepth 100000 in
theorem w0_aboardOf_b4 (E : g_C p s m args c cX0_aboardOf RX0 D aC (g_Zs (g_A B 69))) (hml : c.maxLocals = 4) (hret : meth.sig.returnType = (some .int)) (hlk : meth.locks = false) {F : Nat} {q0 : Int32} {a1 : Int32} {mem : g_M} : ∀ (v2 : Int32) (v3 : Int32) (H : Heap) (locs : List Loc) (ls : Array Slot), g_At D aC B yC 69 mem s.heap H locs → lv_has ls 4 [(0, .ref (B + 53)), (1, .int a1), (2, .int v2), (3, .int v3)] → f0_aboardOf_b4 F a1 mem v2 v3 = some q0 → W p l e (g_rm 1) s m args below meth c H locs 0 0 (g_MQ below D aC B yC 69 args s (some (.int q0)) mem) (F0 m 4 ls []) := by
  have key : ∀ (nn : Nat) (x : Int32 × Int32) (H : Heap) (locs : List Loc) (ls : Array Slot), g_At D aC B yC 69 mem s.heap H locs → lv_has ls 4 [(0, .ref (B + 53)), (1, .int a1), (2, .int x.1), (3, .int x.2)] → g_fix (fun sf x => f0_aboardOf_b4_body F a1 (fun v2 v3 => sf (v2, v3)) mem x.1 x.2) nn x = some q0 → W p l e (g_rm 1) s m args below meth c H locs 0 0 (g_MQ below D aC B yC 69 args s (some (.int q0)) mem) (F0 m 4 ls []) := by
    intro nn
    induction nn with
    | zero => intro x H locs ls hM hl he; simp [g_fix] at he
    | succ nn ih =>
      intro x H locs ls hM hl he
      exact w0_aboardOf_b4_body (F := F) (a1 := a1) E hml hret hlk (fun v2 v3 H locs ls hM hl he => ih (v2, v3) H locs ls hM hl he) x.1 x.2 H locs ls hM hl he
  intro v2 v3 H locs ls hM hl he
  exact key F (v2, v3) H locs ls hM hl he

set_option maxHeartbeats 4000000 in
set_option maxRecDepth 100000 in
theorem c0_aboardOf (l : Launch) (D : va_G) (aC : Nat → ClassId) (B : Nat) {F : Nat} {a1 : Int32} {mem : g_M} {q0 : Int32} (he : f0_aboardOf F a1 mem = some q0) : g_Met l yX0_aboardOf cX0_aboardOf 4 (some .int) 1 D aC B yC 69 mem [.ref (B + 53), .int a1] (some (.int q0)) mem := by
  refine g_ofW (by decide) (Nat.le_of_ble_eq_true rfl) ?_
  intro p e s m args below meth c ls E hml hret hlk hM hl
  have E : g_C p s m args c cX0_aboardOf RX0 D aC (g_Zs (g_A B 69)) := E
  have hx := E.1
  have hb := E.2.1
  have hown := E.2.2.1
  have hts := E.2.2.2.1
  have hl : lv_has ls 4 [(0, .ref (B + 53)), (1, .int a1)] := hl
  unfold f0_aboardOf at he
  refine lv_iconst (v := (0 : Int32)) hx hb dX0_aboardOf_0 rfl ?_
  refine lv_istore_n (lv' := [(2, .int (0 : Int32)), (0, .ref (B + 53)), (1, .int a1)]) hx hb dX0_aboardOf_1 rfl hl (by decide) rfl (fun ls hl => ?_)
  refine lv_iconst (v := (0 : Int32)) hx hb dX0_aboardOf_2 rfl ?_
  refine lv_istore_n (lv' := [(3, .int (0 : Int32)), (2, .int (0 : Int32)), (0, .ref (B + 53)), (1, .int a1)]) hx hb dX0_aboardOf_3 rfl hl (by decide) rfl (fun ls hl => ?_)
  exact w0_aboardOf_b4 (F := F) (a1 := a1) E hml hret hlk _ _ _ _ _ hM (lv_sub hl [2, 3, 1, 0] rfl) he

set_option maxHeartbeats 4000000 in
set_option maxRecDepth 100000 in
theorem c0_mixLaw (l : Launch) (D : va_G) (aC : Nat → ClassId) (B : Nat) {F : Nat} {a1 : Int32} {mem : g_M} {q0 : Int64 × g_M} (he : f0_mixLaw F a1 mem = some q0) : g_Met l yX0_mixLaw cX0_mixLaw 2 (some .long) 4 D aC B yC 69 mem [.ref (B + 53), .int a1] (some (.long q0.1)) q0.2 := by
  refine g_ofW (by decide) (Nat.le_of_ble_eq_true rfl) ?_
  intro p e s m args below meth c ls E hml hret hlk hM hl
  have E : g_C p s m args c cX0_mixLaw RX0 D aC (g_Zs (g_A B 69)) := E
  have hx := E.1
  have hb := E.2.1
  have hown := E.2.2.1
  have hts := E.2.2.2.1
  have hl : lv_has ls 2 [(0, .ref (B + 53)), (1, .int a1)] := hl
  unfold f0_mixLaw at he
  refine lv_aload_n hx hb dX0_mixLaw_0 rfl (lv_at hl 0 rfl) ?_
  obtain ⟨q1, hqq1, hq1, hYq1, he⟩ := g_dr_some he
  refine g_getD E hM (o := 53) (Nat.le_of_ble_eq_true rfl) rfl fl_X0_48 rfl hqq1 dX0_mixLaw_1 ?_
  refine g_getP E hM (o := q1) hq1 hYq1 fl_X0_169 (q := (q1 + 9)) (pt_9_13 q1 hq1 hYq1).1 dX0_mixLaw_4 ?_
  refine lv_iconst (v := (2 : Int32)) hx hb dX0_mixLaw_7 rfl ?_
  obtain ⟨r2, hcr2, he⟩ := g_bind he
  refine g_callV [.int (2 : Int32)] (rest := []) E hml hl.1 hM cv_X0_173 (c2_isTold l D aC B (pt_9_13 q1 hq1 hYq1).2.1 (pt_9_13 q1 hq1 hYq1).2.2 hcr2) (o := (q1 + 9)) (pt_9_13 q1 hq1 hYq1).2.1 (pt_9_13 q1 hq1 hYq1).2.2 (by decide) rfl rfl (Nat.le_of_ble_eq_true rfl) dX0_mixLaw_8 (fun H locs hM => ?_)
  refine W.eq (g2 := F0 m 11 ls [.int r2]) rfl ?_
  refine lv_if_ne (tgt := 18) hx hb dX0_mixLaw_11 (by decide) (fun h3 => ?_) (fun h3 => ?_)
  · rw [if_neg h3] at he
    refine lv_aload_n hx hb dX0_mixLaw_18 rfl (lv_at hl 0 rfl) ?_
    refine lv_iload_n hx hb dX0_mixLaw_19 rfl (lv_at hl 1 rfl) ?_
    obtain ⟨r4, hcr4, he⟩ := g_bind he
    refine g_callV [.int a1] (rest := []) E hml hl.1 hM cv_X0_178 (c0_nameSort l D aC B hcr4) (o := 53) (Nat.le_of_ble_eq_true rfl) rfl (by decide) rfl rfl (Nat.le_of_ble_eq_true rfl) dX0_mixLaw_20 (fun H locs hM => ?_)
    refine W.eq (g2 := F0 m 23 ls []) rfl ?_
    refine lv_aload_n hx hb dX0_mixLaw_23 rfl (lv_at hl 0 rfl) ?_
    obtain ⟨r5, hcr5, he⟩ := g_bind he
    refine g_callV [] (rest := []) E hml hl.1 hM cv_X0_188 (c0_nameBoat l D aC B hcr5) (o := 53) (Nat.le_of_ble_eq_true rfl) rfl (by decide) rfl rfl (Nat.le_of_ble_eq_true rfl) dX0_mixLaw_24 (fun H locs hM => ?_)
    refine W.eq (g2 := F0 m 27 ls []) rfl ?_
    refine lv_aload_n hx hb dX0_mixLaw_27 rfl (lv_at hl 0 rfl) ?_
    refine g_getP E hM (o := 53) (Nat.le_of_ble_eq_true rfl) rfl fl_X0_34 (q := 55) rfl dX0_mixLaw_28 ?_
    refine lv_iconst (v := (2 : Int32)) hx hb dX0_mixLaw_31 rfl ?_
    refine lv_lconst (v := (0 : Int64)) hx hb dX0_mixLaw_32 rfl ?_
    obtain ⟨h6, he⟩ := g_ck_some he
    refine g_last E hM (o := 55) (Nat.le_of_ble_eq_true rfl) rfl h6 dX0_mixLaw_33 (fun H locs hM => ?_)
    obtain ⟨m7, hm7, he⟩ := g_let_ex he
    rw [← hm7] at hM
    refine lv_aload_n hx hb dX0_mixLaw_34 rfl (lv_at hl 0 rfl) ?_
    refine g_getP E hM (o := 53) (Nat.le_of_ble_eq_true rfl) rfl fl_X0_34 (q := 55) rfl dX0_mixLaw_35 ?_
    refine lv_iconst (v := (4 : Int32)) hx hb dX0_mixLaw_38 rfl ?_
    refine lv_aload_n hx hb dX0_mixLaw_39 rfl (lv_at hl 0 rfl) ?_
    refine lv_iload_n hx hb dX0_mixLaw_40 rfl (lv_at hl 1 rfl) ?_
    obtain ⟨r8, hcr8, he⟩ := g_bind he
    refine g_callV [.int a1] (rest := [.int (4 : Int32), .ref (B + 55)]) E hml hl.1 hM cv_X0_191 (c0_aboardOf l D aC B hcr8) (o := 53) (Nat.le_of_ble_eq_true rfl) rfl (by decide) rfl rfl (Nat.le_of_ble_eq_true rfl) dX0_mixLaw_41 (fun H locs hM => ?_)
    refine W.eq (g2 := F0 m 44 ls [.int r8, .int (4 : Int32), .ref (B + 55)]) rfl ?_
    refine lv_i2l hx hb dX0_mixLaw_44 rfl ?_
    obtain ⟨h9, he⟩ := g_ck_some he
    refine g_last E hM (o := 55) (Nat.le_of_ble_eq_true rfl) rfl h9 dX0_mixLaw_45 (fun H locs hM => ?_)
    obtain ⟨m10, hm10, he⟩ := g_let_ex he
    rw [← hm10] at hM
    refine lv_aload_n hx hb dX0_mixLaw_46 rfl (lv_at hl 0 rfl) ?_
    refine g_getP E hM (o := 53) (Nat.le_of_ble_eq_true rfl) rfl fl_X0_34 (q := 55) rfl dX0_mixLaw_47 ?_
    refine lv_iconst (v := (5 : Int32)) hx hb dX0_mixLaw_50 rfl ?_
    refine lv_lconst (v := (0 : Int64)) hx hb dX0_mixLaw_51 rfl ?_
    obtain ⟨h11, he⟩ := g_ck_some he
    refine g_last E hM (o := 55) (Nat.le_of_ble_eq_true rfl) rfl h11 dX0_mixLaw_52 (fun H locs hM => ?_)
    obtain ⟨m12, hm12, he⟩ := g_let_ex he
    rw [← hm12] at hM
    refine lv_aload_n hx hb dX0_mixLaw_53 rfl (lv_at hl 0 rfl) ?_
    obtain ⟨q13, hqq13, hq13, hYq13, he⟩ := g_dr_some he
    refine g_getD E hM (o := 53) (Nat.le_of_ble_eq_true rfl) rfl fl_X0_48 rfl hqq13 dX0_mixLaw_54 ?_
    refine g_getP E hM (o := q13) hq13 hYq13 fl_X0_169 (q := (q13 + 9)) (pt_9_13 q13 hq13 hYq13).1 dX0_mixLaw_57 ?_
    refine lv_iconst (v := (2 : Int32)) hx hb dX0_mixLaw_60 rfl ?_
    refine lv_aload_n hx hb dX0_mixLaw_61 rfl (lv_at hl 0 rfl) ?_
    refine g_getP E hM (o := 53) (Nat.le_of_ble_eq_true rfl) rfl fl_X0_34 (q := 55) rfl dX0_mixLaw_62 ?_
    obtain ⟨r14, hcr14, he⟩ := g_bind he
    refine g_callV [.int (2 : Int32), .ref (B + 55)] (rest := []) E hml hl.1 hM cv_X0_184 (c2_value l D aC B (pt_9_13 q13 hq13 hYq13).2.1 (pt_9_13 q13 hq13 hYq13).2.2 (Nat.le_of_ble_eq_true rfl) rfl hcr14) (o := (q13 + 9)) (pt_9_13 q13 hq13 hYq13).2.1 (pt_9_13 q13 hq13 hYq13).2.2 (by decide) rfl rfl (Nat.le_of_ble_eq_true rfl) dX0_mixLaw_65 (fun H locs hM => ?_)
    refine W.eq (g2 := F0 m 68 ls [.long r14.1]) rfl ?_
    cases he
    exact g_lret E hM hret hlk dX0_mixLaw_68
  · rw [if_pos h3] at he
    refine lv_ldc2 (v := (-9223372036854775808 : Int64)) hx hb hown (hts _ kc_X0_176) dX0_mixLaw_14 ?_
    cases he
    exact g_lret E hM hret hlk dX0_mixLaw_17

set_option maxHeartbeats 4000000 in
set_option maxRecDepth 100000 in
theorem c7_exchange (l : Launch) (D : va_G) (aC : Nat → ClassId) (B : Nat) {F : Nat} {t : Nat} (ht : t < 69) (hY : yC.1 t = (7, 0)) {a1 : Int32} {a2 : Int32} {a3 : Int32} {mem : g_M} {q0 : g_M} (he : f7_exchange F t a1 a2 a3 mem = some q0) : g_Met l yX7_exchange cX7_exchange 5 none 1 D aC B yC 69 mem [.ref (B + t), .int a1, .int a2, .int a3] none q0 := by
  refine g_ofW (by decide) (Nat.le_of_ble_eq_true rfl) ?_
  intro p e s m args below meth c ls E hml hret hlk hM hl
  have E : g_C p s m args c cX7_exchange RX7 D aC (g_Zs (g_A B 69)) := E
  have hx := E.1
  have hb := E.2.1
  have hown := E.2.2.1
  have hts := E.2.2.2.1
  have hl : lv_has ls 5 [(0, .ref (B + t)), (1, .int a1), (2, .int a2), (3, .int a3)] := hl
  unfold f7_exchange at he
  refine lv_aload_n hx hb dX7_exchange_0 rfl (lv_at hl 0 rfl) ?_
  refine g_getP E hM (o := t) ht hY fl_X7_25 (q := (t + 2)) (pt_7_5 t ht hY).1 dX7_exchange_1 ?_
  refine lv_iload_n hx hb dX7_exchange_4 rfl (lv_at hl 1 rfl) ?_
  refine lv_iconst (v := (5 : Int32)) hx hb dX7_exchange_5 rfl ?_
  refine lv_imul hx hb dX7_exchange_6 ?_
  refine lv_iload_n hx hb dX7_exchange_7 rfl (lv_at hl 3 rfl) ?_
  refine lv_iadd hx hb dX7_exchange_8 ?_
  obtain ⟨h1, he⟩ := g_ck_some he
  refine g_iald E hM (o := (t + 2)) (pt_7_5 t ht hY).2.1 (pt_7_5 t ht hY).2.2 h1 dX7_exchange_9 ?_
  obtain ⟨x2, hx2, he⟩ := g_let_ex he
  refine g_topI hx2 ?_
  refine lv_istore (lv' := [(4, .int x2), (0, .ref (B + t)), (1, .int a1), (2, .int a2), (3, .int a3)]) hx hb dX7_exchange_10 hl (by decide) rfl (fun ls hl => ?_)
  refine lv_aload_n hx hb dX7_exchange_12 rfl (lv_at hl 1 rfl) ?_
  refine g_getP E hM (o := t) ht hY fl_X7_25 (q := (t + 2)) (pt_7_5 t ht hY).1 dX7_exchange_13 ?_
  refine lv_iload_n hx hb dX7_exchange_16 rfl (lv_at hl 2 rfl) ?_
  refine lv_iconst (v := (5 : Int32)) hx hb dX7_exchange_17 rfl ?_
  refine lv_imul hx hb dX7_exchange_18 ?_
  refine lv_iload_n hx hb dX7_exchange_19 rfl (lv_at hl 4 rfl) ?_
  refine lv_iadd hx hb dX7_exchange_20 ?_
  refine lv_aload_n hx hb dX7_exchange_21 rfl (lv_at hl 1 rfl) ?_
  refine g_getP E hM (o := t) ht hY fl_X7_25 (q := (t + 2)) (pt_7_5 t ht hY).1 dX7_exchange_22 ?_
  refine lv_iload_n hx hb dX7_exchange_25 rfl (lv_at hl 3 rfl) ?_
  refine lv_iconst (v := (5 : Int32)) hx hb dX7_exchange_26 rfl ?_
  refine lv_imul hx hb dX7_exchange_27 ?_
  refine lv_iload_n hx hb dX7_exchange_28 rfl (lv_at hl 4 rfl) ?_
  refine lv_iadd hx hb dX7_exchange_29 ?_
  obtain ⟨h3, he⟩ := g_ck_some he
  refine g_iald E hM (o := (t + 2)) (pt_7_5 t ht hY).2.1 (pt_7_5 t ht hY).2.2 h3 dX7_exchange_30 ?_
  obtain ⟨h4, he⟩ := g_ck_some he
  refine g_iast E hM (o := (t + 2)) (pt_7_5 t ht hY).2.1 (pt_7_5 t ht hY).2.2 h4 dX7_exchange_31 (fun H locs hM => ?_)
  obtain ⟨m5, hm5, he⟩ := g_let_ex he
  rw [← hm5] at hM
  refine lv_aload_n hx hb dX7_exchange_32 rfl (lv_at hl 1 rfl) ?_
  refine g_getP E hM (o := t) ht hY fl_X7_25 (q := (t + 2)) (pt_7_5 t ht hY).1 dX7_exchange_33 ?_
  refine lv_iload_n hx hb dX7_exchange_36 rfl (lv_at hl 3 rfl) ?_
  refine lv_iconst (v := (5 : Int32)) hx hb dX7_exchange_37 rfl ?_
  refine lv_imul hx hb dX7_exchange_38 ?_
  refine lv_iload_n hx hb dX7_exchange_39 rfl (lv_at hl 4 rfl) ?_
  refine lv_iadd hx hb dX7_exchange_40 ?_
  refine lv_iload hx hb dX7_exchange_41 (lv_at hl 0 rfl) ?_
  obtain ⟨h6, he⟩ := g_ck_some he
  refine g_iast E hM (o := (t + 2)) (pt_7_5 t ht hY).2.1 (pt_7_5 t ht hY).2.2 h6 dX7_exchange_43 (fun H locs hM => ?_)
  obtain ⟨m7, hm7, he⟩ := g_let_ex he
  rw [← hm7] at hM
  cases he
  exact g_vret E hM hret hlk dX7_exchange_44

set_option maxHeartbeats 4000000 in
set_option maxRecDepth 100000 in
theorem w0_mixTwo_b48 (E : g_C p s m args c cX0_mixTwo RX0 D aC (g_Zs (g_A B 69))) (hml : c.maxLocals = 4) (hret : meth.sig.returnType = none) (hlk : meth.locks = false) {F : Nat} {q0 : g_M} {a1 : Int32} {s4 : Int32 → Int32 → g_M → Option (g_M)} (hs4 : ∀ (v2 : Int32) (v3 : Int32) (mem : g_M) (H : Heap) (locs : List Loc) (ls : Array Slot), g_At D aC B yC 69 mem s.heap H locs → lv_has ls 4 [(0, .ref (B + 53)), (1, .int a1), (2, .int v2), (3, .int v3)] → s4 v2 v3 mem = some q0 → W p l e (g_rm 2) s m args below meth c H locs 0 0 (g_MQ below D aC B yC 69 args s none q0) (F0 m 4 ls [])) : ∀ (v2 : Int32) (v3 : Int32) (mem : g_M) (H : Heap) (locs : List Loc) (ls : Array Slot), g_At D aC B yC 69 mem s.heap H locs → lv_has ls 4 [(0, .ref (B + 53)), (1, .int a1), (2, .int v2), (3, .int v3)] → f0_mixTwo_b48 F a1 s4 v2 v3 mem = some q0 → W p l e (g_rm 2) s m args below meth c H locs 0 0 (g_MQ below D aC B yC 69 args s none q0) (F0 m 48 ls []) := by
  intro v2 v3 mem H locs ls hM hl he
  unfold f0_mixTwo_b48 at he
  have hx := E.1
  have hb := E.2.1
  have hown := E.2.2.1
  have hts := E.2.2.2.1
  obtain ⟨x1, hx1, he⟩ := g_let_ex he
  refine lv_iinc (v := x1) (lv' := [(3, .int x1), (0, .ref (B + 53)), (1, .int a1), (2, .int v2)]) hx hb dX0_mixTwo_48 hl (k := 3) rfl (by rw [hx1]; rfl) (by decide) rfl (fun ls hl => ?_)
  refine lv_goto (tgt := 4) hx hb dX0_mixTwo_51 (by decide) ?_
  exact hs4 _ _ _ _ _ _ hM (lv_sub hl [1, 2, 3, 0] rfl) he

set_option maxHeartbeats 4000000 in
set_option maxRecDepth 100000 in
theorem w0_mixTwo_b4_body (E : g_C p s m args c cX0_mixTwo RX0 D aC (g_Zs (g_A B 69))) (hml : c.maxLocals = 4) (hret : meth.sig.returnType = none) (hlk : meth.locks = false) {F : Nat} {q0 : g_M} {a1 : Int32} {s4 : Int32 → Int32 → g_M → Option (g_M)} (hs4 : ∀ (v2 : Int32) (v3 : Int32) (mem : g_M) (H : Heap) (locs : List Loc) (ls : Array Slot), g_At D aC B yC 69 mem s.heap H locs → lv_has ls 4 [(0, .ref (B + 53)), (1, .int a1), (2, .int v2), (3, .int v3)] → s4 v2 v3 mem = some q0 → W p l e (g_rm 2) s m args below meth c H locs 0 0 (g_MQ below D aC B yC 69 args s none q0) (F0 m 4 ls [])) : ∀ (v2 : Int32) (v3 : Int32) (mem : g_M) (H : Heap) (locs : List Loc) (ls : Array Slot), g_At D aC B yC 69 mem s.heap H locs → lv_has ls 4 [(0, .ref (B + 53)), (1, .int a1), (2, .int v2), (3, .int v3)] → f0_mixTwo_b4_body F a1 s4 v2 v3 mem = some q0 → W p l e (g_rm 2) s m args below meth c H locs 0 0 (g_MQ below D aC B yC 69 args s none q0) (F0 m 4 ls []) := by
  intro v2 v3 mem H locs ls hM hl he
  unfold f0_mixTwo_b4_body at he
  have hx := E.1
  have hb := E.2.1
  have hown := E.2.2.1
  have hts := E.2.2.2.1
  refine lv_iload_n hx hb dX0_mixTwo_4 rfl (lv_at hl 3 rfl) ?_
  refine lv_aload_n hx hb dX0_mixTwo_5 rfl (lv_at hl 0 rfl) ?_
  obtain ⟨q2, hqq2, hq2, hYq2, he⟩ := g_dr_some he
  refine g_getD E hM (o := 53) (Nat.le_of_ble_eq_true rfl) rfl fl_X0_48 rfl hqq2 dX0_mixTwo_6 ?_
  refine g_getP E hM (o := q2) hq2 hYq2 fl_X0_156 (q := (q2 + 1)) (pt_9_0 q2 hq2 hYq2).1 dX0_mixTwo_9 ?_
  refine lv_iconst (v := (0 : Int32)) hx hb dX0_mixTwo_12 rfl ?_
  obtain ⟨h3, he⟩ := g_ck_some he
  refine g_iald E hM (o := (q2 + 1)) (pt_9_0 q2 hq2 hYq2).2.1 (pt_9_0 q2 hq2 hYq2).2.2 h3 dX0_mixTwo_13 ?_
  refine lv_icmp_ge (tgt := 54) hx hb dX0_mixTwo_14 (by decide) (fun h4 => ?_) (fun h4 => ?_)
  · rw [if_neg (Int32.not_lt.mpr h4)] at he
    cases he
    exact g_vret E hM hret hlk dX0_mixTwo_54
  · rw [if_pos (Int32.not_le.mp h4)] at he
    refine lv_aload_n hx hb dX0_mixTwo_17 rfl (lv_at hl 0 rfl) ?_
    refine g_getP E hM (o := 53) (Nat.le_of_ble_eq_true rfl) rfl fl_X0_25 (q := 54) rfl dX0_mixTwo_18 ?_
    refine lv_iload_n hx hb dX0_mixTwo_21 rfl (lv_at hl 3 rfl) ?_
    refine lv_iconst (v := (5 : Int32)) hx hb dX0_mixTwo_22 rfl ?_
    refine lv_imul hx hb dX0_mixTwo_23 ?_
    refine lv_iload_n hx hb dX0_mixTwo_24 rfl (lv_at hl 1 rfl) ?_
    refine lv_iadd hx hb dX0_mixTwo_25 ?_
    obtain ⟨h5, he⟩ := g_ck_some he
    refine g_zald E hM (o := 54) (Nat.le_of_ble_eq_true rfl) rfl h5 dX0_mixTwo_26 ?_
    refine lv_if_eq (tgt := 48) hx hb dX0_mixTwo_27 (by decide) (fun h6 => ?_) (fun h6 => ?_)
    · rw [if_pos h6] at he
      exact w0_mixTwo_b48 (F := F) (a1 := a1) E hml hret hlk hs4 _ _ _ _ _ _ hM (lv_sub hl [0, 1, 2, 3] rfl) he
    · rw [if_neg h6] at he
      refine lv_iload_n hx hb dX0_mixTwo_30 rfl (lv_at hl 2 rfl) ?_
      refine lv_iconst (v := (-1 : Int32)) hx hb dX0_mixTwo_31 rfl ?_
      refine lv_icmp_eq (tgt := 46) hx hb dX0_mixTwo_32 (by decide) (fun h7 => ?_) (fun h7 => ?_)
      · rw [if_pos h7] at he
        refine lv_iload_n hx hb dX0_mixTwo_46 rfl (lv_at hl 3 rfl) ?_
        refine lv_istore_n (lv' := [(2, .int v3), (0, .ref (B + 53)), (1, .int a1), (3, .int v3)]) hx hb dX0_mixTwo_47 rfl hl (by decide) rfl (fun ls hl => ?_)
        exact w0_mixTwo_b48 (F := F) (a1 := a1) E hml hret hlk hs4 _ _ _ _ _ _ hM (lv_sub hl [1, 2, 0, 3] rfl) he
      · rw [if_neg h7] at he
        refine lv_aload_n hx hb dX0_mixTwo_35 rfl (lv_at hl 0 rfl) ?_
        obtain ⟨q8, hqq8, hq8, hYq8, he⟩ := g_dr_some he
        refine g_getD E hM (o := 53) (Nat.le_of_ble_eq_true rfl) rfl fl_X0_38 rfl hqq8 dX0_mixTwo_36 ?_
        refine lv_iload_n hx hb dX0_mixTwo_39 rfl (lv_at hl 2 rfl) ?_
        refine lv_iload_n hx hb dX0_mixTwo_40 rfl (lv_at hl 3 rfl) ?_
        refine lv_iload_n hx hb dX0_mixTwo_41 rfl (lv_at hl 1 rfl) ?_
        obtain ⟨r9, hcr9, he⟩ := g_bind he
        refine g_callV [.int v2, .int v3, .int a1] (rest := []) E hml hl.1 hM cv_X0_166 (c7_exchange l D aC B hq8 hYq8 hcr9) (o := q8) hq8 hYq8 (by decide) rfl rfl (Nat.le_of_ble_eq_true rfl) dX0_mixTwo_42 (fun H locs hM => ?_)
        refine W.eq (g2 := F0 m 45 ls []) rfl ?_
        cases he
        exact g_vret E hM hret hlk dX0_mixTwo_45

set_option maxHeartbeats 4000000 in
set_option maxRecDepth 100000 in
theorem w0_mixTwo_b4 (E : g_C p s m args c cX0_mixTwo RX0 D aC (g_Zs (g_A B 69))) (hml : c.maxLocals = 4) (hret : meth.sig.returnType = none) (hlk : meth.locks = false) {F : Nat} {q0 : g_M} {a1 : Int32} : ∀ (v2 : Int32) (v3 : Int32) (mem : g_M) (H : Heap) (locs : List Loc) (ls : Array Slot), g_At D aC B yC 69 mem s.heap H locs → lv_has ls 4 [(0, .ref (B + 53)), (1, .int a1), (2, .int v2), (3, .int v3)] → f0_mixTwo_b4 F a1 v2 v3 mem = some q0 → W p l e (g_rm 2) s m args below meth c H locs 0 0 (g_MQ below D aC B yC 69 args s none q0) (F0 m 4 ls []) := by
  have key : ∀ (nn : Nat) (x : Int32 × Int32 × g_M) (H : Heap) (locs : List Loc) (ls : Array Slot), g_At D aC B yC 69 x.2.2 s.heap H locs → lv_has ls 4 [(0, .ref (B + 53)), (1, .int a1), (2, .int x.1), (3, .int x.2.1)] → g_fix (fun sf x => f0_mixTwo_b4_body F a1 (fun v2 v3 mem => sf (v2, v3, mem)) x.1 x.2.1 x.2.2) nn x = some q0 → W p l e (g_rm 2) s m args below meth c H locs 0 0 (g_MQ below D aC B yC 69 args s none q0) (F0 m 4 ls []) := by
    intro nn
    induction nn with
    | zero => intro x H locs ls hM hl he; simp [g_fix] at he
    | succ nn ih =>
      intro x H locs ls hM hl he
      exact w0_mixTwo_b4_body (F := F) (a1 := a1) E hml hret hlk (fun v2 v3 mem H locs ls hM hl he => ih (v2, v3, mem) H locs ls hM hl he) x.1 x.2.1 x.2.2 H locs ls hM hl he
  intro v2 v3 mem H locs ls hM hl he
  exact key F (v2, v3, mem) H locs ls hM hl he

set_option maxHeartbeats 4000000 in
set_option maxRecDepth 100000 in
theorem c0_mixTwo (l : Launch) (D : va_G) (aC : Nat → ClassId) (B : Nat) {F : Nat} {a1 : Int32} {mem : g_M} {q0 : g_M} (he : f0_mixTwo F a1 mem = some q0) : g_Met l yX0_mixTwo cX0_mixTwo 4 none 2 D aC B yC 69 mem [.ref (B + 53), .int a1] none q0 := by
  refine g_ofW (by decide) (Nat.le_of_ble_eq_true rfl) ?_
  intro p e s m args below meth c ls E hml hret hlk hM hl
  have E : g_C p s m args c cX0_mixTwo RX0 D aC (g_Zs (g_A B 69)) := E
  have hx := E.1
  have hb := E.2.1
  have hown := E.2.2.1
  have hts := E.2.2.2.1
  have hl : lv_has ls 4 [(0, .ref (B + 53)), (1, .int a1)] := hl
  unfold f0_mixTwo at he
  refine lv_iconst (v := (-1 : Int32)) hx hb dX0_mixTwo_0 rfl ?_
  refine lv_istore_n (lv' := [(2, .int (-1 : Int32)), (0, .ref (B + 53)), (1, .int a1)]) hx hb dX0_mixTwo_1 rfl hl (by decide) rfl (fun ls hl => ?_)
  refine lv_iconst (v := (0 : Int32)) hx hb dX0_mixTwo_2 rfl ?_
  refine lv_istore_n (lv' := [(3, .int (0 : Int32)), (2, .int (-1 : Int32)), (0, .ref (B + 53)), (1, .int a1)]) hx hb dX0_mixTwo_3 rfl hl (by decide) rfl (fun ls hl => ?_)
  exact w0_mixTwo_b4 (F := F) (a1 := a1) E hml hret hlk _ _ _ _ _ _ hM (lv_sub hl [2, 3, 1, 0] rfl) he

set_option maxHeartbeats 4000000 in
set_option maxRecDepth 100000 in
theorem w0_mixAll_b30 (E : g_C p s m args c cX0_mixAll RX0 D aC (g_Zs (g_A B 69))) (hml : c.maxLocals = 2) (hret : meth.sig.returnType = none) (hlk : meth.locks = false) {F : Nat} {q0 : g_M} {s2 : Int32 → g_M → Option (g_M)} (hs2 : ∀ (v1 : Int32) (mem : g_M) (H : Heap) (locs : List Loc) (ls : Array Slot), g_At D aC B yC 69 mem s.heap H locs → lv_has ls 2 [(0, .ref (B + 53)), (1, .int v1)] → s2 v1 mem = some q0 → W p l e (g_rm 5) s m args below meth c H locs 0 0 (g_MQ below D aC B yC 69 args s none q0) (F0 m 2 ls [])) : ∀ (v1 : Int32) (mem : g_M) (H : Heap) (locs : List Loc) (ls : Array Slot), g_At D aC B yC 69 mem s.heap H locs → lv_has ls 2 [(0, .ref (B + 53)), (1, .int v1)] → f0_mixAll_b30 F s2 v1 mem = some q0 → W p l e (g_rm 5) s m args below meth c H locs 0 0 (g_MQ below D aC B yC 69 args s none q0) (F0 m 30 ls []) := by
  intro v1 mem H locs ls hM hl he
  unfold f0_mixAll_b30 at he
  have hx := E.1
  have hb := E.2.1
  have hown := E.2.2.1
  have hts := E.2.2.2.1
  obtain ⟨x1, hx1, he⟩ := g_let_ex he
  refine lv_iinc (v := x1) (lv' := [(1, .int x1), (0, .ref (B + 53))]) hx hb dX0_mixAll_30 hl (k := 1) rfl (by rw [hx1]; rfl) (by decide) rfl (fun ls hl => ?_)
  refine lv_goto (tgt := 2) hx hb dX0_mixAll_33 (by decide) ?_
  exact hs2 _ _ _ _ _ hM (lv_sub hl [1, 0] rfl) he

set_option maxHeartbeats 4000000 in
set_option maxRecDepth 100000 in
theorem w0_mixAll_b2_body (E : g_C p s m args c cX0_mixAll RX0 D aC (g_Zs (g_A B 69))) (hml : c.maxLocals = 2) (hret : meth.sig.returnType = none) (hlk : meth.locks = false) {F : Nat} {q0 : g_M} {s2 : Int32 → g_M → Option (g_M)} (hs2 : ∀ (v1 : Int32) (mem : g_M) (H : Heap) (locs : List Loc) (ls : Array Slot), g_At D aC B yC 69 mem s.heap H locs → lv_has ls 2 [(0, .ref (B + 53)), (1, .int v1)] → s2 v1 mem = some q0 → W p l e (g_rm 5) s m args below meth c H locs 0 0 (g_MQ below D aC B yC 69 args s none q0) (F0 m 2 ls [])) : ∀ (v1 : Int32) (mem : g_M) (H : Heap) (locs : List Loc) (ls : Array Slot), g_At D aC B yC 69 mem s.heap H locs → lv_has ls 2 [(0, .ref (B + 53)), (1, .int v1)] → f0_mixAll_b2_body F s2 v1 mem = some q0 → W p l e (g_rm 5) s m args below meth c H locs 0 0 (g_MQ below D aC B yC 69 args s none q0) (F0 m 2 ls []) := by
  intro v1 mem H locs ls hM hl he
  unfold f0_mixAll_b2_body at he
  have hx := E.1
  have hb := E.2.1
  have hown := E.2.2.1
  have hts := E.2.2.2.1
  refine lv_iload_n hx hb dX0_mixAll_2 rfl (lv_at hl 1 rfl) ?_
  refine lv_aload_n hx hb dX0_mixAll_3 rfl (lv_at hl 0 rfl) ?_
  obtain ⟨q2, hqq2, hq2, hYq2, he⟩ := g_dr_some he
  refine g_getD E hM (o := 53) (Nat.le_of_ble_eq_true rfl) rfl fl_X0_48 rfl hqq2 dX0_mixAll_4 ?_
  refine g_getP E hM (o := q2) hq2 hYq2 fl_X0_156 (q := (q2 + 1)) (pt_9_0 q2 hq2 hYq2).1 dX0_mixAll_7 ?_
  refine lv_iconst (v := (1 : Int32)) hx hb dX0_mixAll_10 rfl ?_
  obtain ⟨h3, he⟩ := g_ck_some he
  refine g_iald E hM (o := (q2 + 1)) (pt_9_0 q2 hq2 hYq2).2.1 (pt_9_0 q2 hq2 hYq2).2.2 h3 dX0_mixAll_11 ?_
  refine lv_icmp_ge (tgt := 36) hx hb dX0_mixAll_12 (by decide) (fun h4 => ?_) (fun h4 => ?_)
  · rw [if_neg (Int32.not_lt.mpr h4)] at he
    cases he
    exact g_vret E hM hret hlk dX0_mixAll_36
  · rw [if_pos (Int32.not_le.mp h4)] at he
    refine lv_aload_n hx hb dX0_mixAll_15 rfl (lv_at hl 0 rfl) ?_
    refine lv_iload_n hx hb dX0_mixAll_16 rfl (lv_at hl 1 rfl) ?_
    obtain ⟨r5, hcr5, he⟩ := g_bind he
    refine g_callV [.int v1] (rest := []) E hml hl.1 hM cv_X0_159 (c0_mixLaw l D aC B hcr5) (o := 53) (Nat.le_of_ble_eq_true rfl) rfl (by decide) rfl rfl (Nat.le_of_ble_eq_true rfl) dX0_mixAll_17 (fun H locs hM => ?_)
    refine W.eq (g2 := F0 m 20 ls [.long r5.1]) rfl ?_
    refine lv_lconst (v := (0 : Int64)) hx hb dX0_mixAll_20 rfl ?_
    refine W.lcmp hx hb dX0_mixAll_21 ?_
    refine lv_if_eq (tgt := 30) hx hb dX0_mixAll_22 (by decide) (fun h6 => ?_) (fun h6 => ?_)
    · rw [if_pos h6] at he
      exact w0_mixAll_b30 (F := F) E hml hret hlk hs2 _ _ _ _ _ hM (lv_sub hl [0, 1] rfl) he
    · rw [if_neg h6] at he
      refine lv_aload_n hx hb dX0_mixAll_25 rfl (lv_at hl 0 rfl) ?_
      refine lv_iload_n hx hb dX0_mixAll_26 rfl (lv_at hl 1 rfl) ?_
      obtain ⟨r7, hcr7, he⟩ := g_bind he
      refine g_callV [.int v1] (rest := []) E hml hl.1 hM cv_X0_163 (c0_mixTwo l D aC B hcr7) (o := 53) (Nat.le_of_ble_eq_true rfl) rfl (by decide) rfl rfl (Nat.le_of_ble_eq_true rfl) dX0_mixAll_27 (fun H locs hM => ?_)
      refine W.eq (g2 := F0 m 30 ls []) rfl ?_
      exact w0_mixAll_b30 (F := F) E hml hret hlk hs2 _ _ _ _ _ hM (lv_sub hl [0, 1] rfl) he

set_option maxHeartbeats 4000000 in
set_option maxRecDepth 100000 in
theorem w0_mixAll_b2 (E : g_C p s m args c cX0_mixAll RX0 D aC (g_Zs (g_A B 69))) (hml : c.maxLocals = 2) (hret : meth.sig.returnType = none) (hlk : meth.locks = false) {F : Nat} {q0 : g_M} : ∀ (v1 : Int32) (mem : g_M) (H : Heap) (locs : List Loc) (ls : Array Slot), g_At D aC B yC 69 mem s.heap H locs → lv_has ls 2 [(0, .ref (B + 53)), (1, .int v1)] → f0_mixAll_b2 F v1 mem = some q0 → W p l e (g_rm 5) s m args below meth c H locs 0 0 (g_MQ below D aC B yC 69 args s none q0) (F0 m 2 ls []) := by
  have key : ∀ (nn : Nat) (x : Int32 × g_M) (H : Heap) (locs : List Loc) (ls : Array Slot), g_At D aC B yC 69 x.2 s.heap H locs → lv_has ls 2 [(0, .ref (B + 53)), (1, .int x.1)] → g_fix (fun sf x => f0_mixAll_b2_body F (fun v1 mem => sf (v1, mem)) x.1 x.2) nn x = some q0 → W p l e (g_rm 5) s m args below meth c H locs 0 0 (g_MQ below D aC B yC 69 args s none q0) (F0 m 2 ls []) := by
    intro nn
    induction nn with
    | zero => intro x H locs ls hM hl he; simp [g_fix] at he
    | succ nn ih =>
      intro x H locs ls hM hl he
      exact w0_mixAll_b2_body (F := F) E hml hret hlk (fun v1 mem H locs ls hM hl he => ih (v1, mem) H locs ls hM hl he) x.1 x.2 H locs ls hM hl he
  intro v1 mem H locs ls hM hl he
  exact key F (v1, mem) H locs ls hM hl he

set_option maxHeartbeats 4000000 in
set_option maxRecDepth 100000 in
theorem c0_mixAll (l : Launch) (D : va_G) (aC : Nat → ClassId) (B : Nat) {F : Nat} {mem : g_M} {q0 : g_M} (he : f0_mixAll F mem = some q0) : g_Met l yX0_mixAll cX0_mixAll 2 none 5 D aC B yC 69 mem [.ref (B + 53)] none q0 := by
  refine g_ofW (by decide) (Nat.le_of_ble_eq_true rfl) ?_
  intro p e s m args below meth c ls E hml hret hlk hM hl
  have E : g_C p s m args c cX0_mixAll RX0 D aC (g_Zs (g_A B 69)) := E
  have hx := E.1
  have hb := E.2.1
  have hown := E.2.2.1
  have hts := E.2.2.2.1
  have hl : lv_has ls 2 [(0, .ref (B + 53))] := hl
  unfold f0_mixAll at he
  refine lv_iconst (v := (0 : Int32)) hx hb dX0_mixAll_0 rfl ?_
  refine lv_istore_n (lv' := [(1, .int (0 : Int32)), (0, .ref (B + 53))]) hx hb dX0_mixAll_1 rfl hl (by decide) rfl (fun ls hl => ?_)
  exact w0_mixAll_b2 (F := F) E hml hret hlk _ _ _ _ _ hM (lv_sub hl [1, 0] rfl) he

set_option maxHeartbeats 4000000 in
set_option maxRecDepth 100000 in
theorem w0_land_b47 (E : g_C p s m args c cX0_land RX0 D aC (g_Zs (g_A B 69))) (hml : c.maxLocals = 2) (hret : meth.sig.returnType = none) (hlk : meth.locks = false) {F : Nat} {q0 : g_M} {s2 : Int32 → g_M → Option (g_M)} (hs2 : ∀ (v1 : Int32) (mem : g_M) (H : Heap) (locs : List Loc) (ls : Array Slot), g_At D aC B yC 69 mem s.heap H locs → lv_has ls 2 [(0, .ref (B + 53)), (1, .int v1)] → s2 v1 mem = some q0 → W p l e (g_rm 1) s m args below meth c H locs 0 0 (g_MQ below D aC B yC 69 args s none q0) (F0 m 2 ls [])) : ∀ (v1 : Int32) (mem : g_M) (H : Heap) (locs : List Loc) (ls : Array Slot), g_At D aC B yC 69 mem s.heap H locs → lv_has ls 2 [(0, .ref (B + 53)), (1, .int v1)] → f0_land_b47 F s2 v1 mem = some q0 → W p l e (g_rm 1) s m args below meth c H locs 0 0 (g_MQ below D aC B yC 69 args s none q0) (F0 m 47 ls []) := by
  intro v1 mem H locs ls hM hl he
  unfold f0_land_b47 at he
  have hx := E.1
  have hb := E.2.1
  have hown := E.2.2.1
  have hts := E.2.2.2.1
  obtain ⟨x1, hx1, he⟩ := g_let_ex he
  refine lv_iinc (v := x1) (lv' := [(1, .int x1), (0, .ref (B + 53))]) hx hb dX0_land_47 hl (k := 1) rfl (by rw [hx1]; rfl) (by decide) rfl (fun ls hl => ?_)
  refine lv_goto (tgt := 2) hx hb dX0_land_50 (by decide) ?_
  exact hs2 _ _ _ _ _ hM (lv_sub hl [1, 0] rfl) he

set_option maxHeartbeats 4000000 in
set_option maxRecDepth 100000 in
theorem w0_land_b2_body (E : g_C p s m args c cX0_land RX0 D aC (g_Zs (g_A B 69))) (hml : c.maxLocals = 2) (hret : meth.sig.returnType = none) (hlk : meth.locks = false) {F : Nat} {q0 : g_M} {s2 : Int32 → g_M → Option (g_M)} (hs2 : ∀ (v1 : Int32) (mem : g_M) (H : Heap) (locs : List Loc) (ls : Array Slot), g_At D aC B yC 69 mem s.heap H locs → lv_has ls 2 [(0, .ref (B + 53)), (1, .int v1)] → s2 v1 mem = some q0 → W p l e (g_rm 1) s m args below meth c H locs 0 0 (g_MQ below D aC B yC 69 args s none q0) (F0 m 2 ls [])) : ∀ (v1 : Int32) (mem : g_M) (H : Heap) (locs : List Loc) (ls : Array Slot), g_At D aC B yC 69 mem s.heap H locs → lv_has ls 2 [(0, .ref (B + 53)), (1, .int v1)] → f0_land_b2_body F s2 v1 mem = some q0 → W p l e (g_rm 1) s m args below meth c H locs 0 0 (g_MQ below D aC B yC 69 args s none q0) (F0 m 2 ls []) := by
  intro v1 mem H locs ls hM hl he
  unfold f0_land_b2_body at he
  have hx := E.1
  have hb := E.2.1
  have hown := E.2.2.1
  have hts := E.2.2.2.1
  refine lv_iload_n hx hb dX0_land_2 rfl (lv_at hl 1 rfl) ?_
  refine lv_aload_n hx hb dX0_land_3 rfl (lv_at hl 0 rfl) ?_
  refine g_getP E hM (o := 53) (Nat.le_of_ble_eq_true rfl) rfl fl_X0_25 (q := 54) rfl dX0_land_4 ?_
  refine g_alenZ (v := (25 : Int32)) E hM (o := 54) (Nat.le_of_ble_eq_true rfl) rfl rfl dX0_land_7 ?_
  refine lv_icmp_ge (tgt := 53) hx hb dX0_land_8 (by decide) (fun h2 => ?_) (fun h2 => ?_)
  · rw [if_neg (Int32.not_lt.mpr h2)] at he
    refine lv_aload_n hx hb dX0_land_53 rfl (lv_at hl 0 rfl) ?_
    refine lv_iconst (v := (0 : Int32)) hx hb dX0_land_54 rfl ?_
    refine g_putI E hM (o := 53) (Nat.le_of_ble_eq_true rfl) rfl fp_X0_29 dX0_land_55 (fun H locs hM => ?_)
    obtain ⟨m12, hm12, he⟩ := g_let_ex he
    rw [← hm12] at hM
    cases he
    exact g_vret E hM hret hlk dX0_land_58
  · rw [if_pos (Int32.not_le.mp h2)] at he
    refine lv_aload_n hx hb dX0_land_11 rfl (lv_at hl 0 rfl) ?_
    refine g_getP E hM (o := 53) (Nat.le_of_ble_eq_true rfl) rfl fl_X0_25 (q := 54) rfl dX0_land_12 ?_
    refine lv_iload_n hx hb dX0_land_15 rfl (lv_at hl 1 rfl) ?_
    obtain ⟨h3, he⟩ := g_ck_some he
    refine g_zald E hM (o := 54) (Nat.le_of_ble_eq_true rfl) rfl h3 dX0_land_16 ?_
    refine lv_if_eq (tgt := 47) hx hb dX0_land_17 (by decide) (fun h4 => ?_) (fun h4 => ?_)
    · rw [if_pos h4] at he
      exact w0_land_b47 (F := F) E hml hret hlk hs2 _ _ _ _ _ hM (lv_sub hl [0, 1] rfl) he
    · rw [if_neg h4] at he
      refine lv_aload_n hx hb dX0_land_20 rfl (lv_at hl 0 rfl) ?_
      obtain ⟨q5, hqq5, hq5, hYq5, he⟩ := g_dr_some he
      refine g_getD E hM (o := 53) (Nat.le_of_ble_eq_true rfl) rfl fl_X0_38 rfl hqq5 dX0_land_21 ?_
      refine g_getP E hM (o := q5) hq5 hYq5 fl_X0_130 (q := (q5 + 3)) (pt_7_6 q5 hq5 hYq5).1 dX0_land_24 ?_
      refine lv_iload_n hx hb dX0_land_27 rfl (lv_at hl 1 rfl) ?_
      refine lv_iconst (v := (1 : Int32)) hx hb dX0_land_28 rfl ?_
      refine lv_aload_n hx hb dX0_land_29 rfl (lv_at hl 0 rfl) ?_
      obtain ⟨q6, hqq6, hq6, hYq6, he⟩ := g_dr_some he
      refine g_getD E hM (o := 53) (Nat.le_of_ble_eq_true rfl) rfl fl_X0_38 rfl hqq6 dX0_land_30 ?_
      refine g_getP E hM (o := q6) hq6 hYq6 fl_X0_130 (q := (q6 + 3)) (pt_7_6 q6 hq6 hYq6).1 dX0_land_33 ?_
      refine lv_iload_n hx hb dX0_land_36 rfl (lv_at hl 1 rfl) ?_
      obtain ⟨h7, he⟩ := g_ck_some he
      refine g_iald E hM (o := (q6 + 3)) (pt_7_6 q6 hq6 hYq6).2.1 (pt_7_6 q6 hq6 hYq6).2.2 h7 dX0_land_37 ?_
      refine lv_isub hx hb dX0_land_38 ?_
      obtain ⟨h8, he⟩ := g_ck_some he
      refine g_iast E hM (o := (q5 + 3)) (pt_7_6 q5 hq5 hYq5).2.1 (pt_7_6 q5 hq5 hYq5).2.2 h8 dX0_land_39 (fun H locs hM => ?_)
      obtain ⟨m9, hm9, he⟩ := g_let_ex he
      rw [← hm9] at hM
      refine lv_aload_n hx hb dX0_land_40 rfl (lv_at hl 0 rfl) ?_
      refine g_getP E hM (o := 53) (Nat.le_of_ble_eq_true rfl) rfl fl_X0_25 (q := 54) rfl dX0_land_41 ?_
      refine lv_iload_n hx hb dX0_land_44 rfl (lv_at hl 1 rfl) ?_
      refine lv_iconst (v := (0 : Int32)) hx hb dX0_land_45 rfl ?_
      obtain ⟨h10, he⟩ := g_ck_some he
      refine g_zast E hM (o := 54) (Nat.le_of_ble_eq_true rfl) rfl h10 (Or.inl rfl) dX0_land_46 (fun H locs hM => ?_)
      obtain ⟨m11, hm11, he⟩ := g_let_ex he
      rw [← hm11] at hM
      exact w0_land_b47 (F := F) E hml hret hlk hs2 _ _ _ _ _ hM (lv_sub hl [0, 1] rfl) he

set_option maxHeartbeats 4000000 in
set_option maxRecDepth 100000 in
theorem w0_land_b2 (E : g_C p s m args c cX0_land RX0 D aC (g_Zs (g_A B 69))) (hml : c.maxLocals = 2) (hret : meth.sig.returnType = none) (hlk : meth.locks = false) {F : Nat} {q0 : g_M} : ∀ (v1 : Int32) (mem : g_M) (H : Heap) (locs : List Loc) (ls : Array Slot), g_At D aC B yC 69 mem s.heap H locs → lv_has ls 2 [(0, .ref (B + 53)), (1, .int v1)] → f0_land_b2 F v1 mem = some q0 → W p l e (g_rm 1) s m args below meth c H locs 0 0 (g_MQ below D aC B yC 69 args s none q0) (F0 m 2 ls []) := by
  have key : ∀ (nn : Nat) (x : Int32 × g_M) (H : Heap) (locs : List Loc) (ls : Array Slot), g_At D aC B yC 69 x.2 s.heap H locs → lv_has ls 2 [(0, .ref (B + 53)), (1, .int x.1)] → g_fix (fun sf x => f0_land_b2_body F (fun v1 mem => sf (v1, mem)) x.1 x.2) nn x = some q0 → W p l e (g_rm 1) s m args below meth c H locs 0 0 (g_MQ below D aC B yC 69 args s none q0) (F0 m 2 ls []) := by
    intro nn
    induction nn with
    | zero => intro x H locs ls hM hl he; simp [g_fix] at he
    | succ nn ih =>
      intro x H locs ls hM hl he
      exact w0_land_b2_body (F := F) E hml hret hlk (fun v1 mem H locs ls hM hl he => ih (v1, mem) H locs ls hM hl he) x.1 x.2 H locs ls hM hl he
  intro v1 mem H locs ls hM hl he
  exact key F (v1, mem) H locs ls hM hl he

set_option maxHeartbeats 4000000 in
set_option maxRecDepth 100000 in
theorem c0_land (l : Launch) (D : va_G) (aC : Nat → ClassId) (B : Nat) {F : Nat} {mem : g_M} {q0 : g_M} (he : f0_land F mem = some q0) : g_Met l yX0_land cX0_land 2 none 1 D aC B yC 69 mem [.ref (B + 53)] none q0 := by
  refine g_ofW (by decide) (Nat.le_of_ble_eq_true rfl) ?_
  intro p e s m args below meth c ls E hml hret hlk hM hl
  have E : g_C p s m args c cX0_land RX0 D aC (g_Zs (g_A B 69)) := E
  have hx := E.1
  have hb := E.2.1
  have hown := E.2.2.1
  have hts := E.2.2.2.1
  have hl : lv_has ls 2 [(0, .ref (B + 53))] := hl
  unfold f0_land at he
  refine lv_iconst (v := (0 : Int32)) hx hb dX0_land_0 rfl ?_
  refine lv_istore_n (lv' := [(1, .int (0 : Int32)), (0, .ref (B + 53))]) hx hb dX0_land_1 rfl hl (by decide) rfl (fun ls hl => ?_)
  exact w0_land_b2 (F := F) E hml hret hlk _ _ _ _ _ hM (lv_sub hl [1, 0] rfl) he

set_option maxHeartbeats 4000000 in
set_option maxRecDepth 100000 in
theorem w0_pass_b50 (E : g_C p s m args c cX0_pass RX0 D aC (g_Zs (g_A B 69))) (hml : c.maxLocals = 3) (hret : meth.sig.returnType = none) (hlk : meth.locks = false) {F : Nat} {q0 : g_M} {a1 : Int32} {s2 : Int32 → g_M → Option (g_M)} (hs2 : ∀ (v2 : Int32) (mem : g_M) (H : Heap) (locs : List Loc) (ls : Array Slot), g_At D aC B yC 69 mem s.heap H locs → lv_has ls 3 [(0, .ref (B + 53)), (1, .int a1), (2, .int v2)] → s2 v2 mem = some q0 → W p l e (g_rm 7) s m args below meth c H locs 0 0 (g_MQ below D aC B yC 69 args s none q0) (F0 m 2 ls [])) : ∀ (v2 : Int32) (mem : g_M) (H : Heap) (locs : List Loc) (ls : Array Slot), g_At D aC B yC 69 mem s.heap H locs → lv_has ls 3 [(0, .ref (B + 53)), (1, .int a1), (2, .int v2)] → f0_pass_b50 F a1 s2 v2 mem = some q0 → W p l e (g_rm 7) s m args below meth c H locs 0 0 (g_MQ below D aC B yC 69 args s none q0) (F0 m 50 ls []) := by
  intro v2 mem H locs ls hM hl he
  unfold f0_pass_b50 at he
  have hx := E.1
  have hb := E.2.1
  have hown := E.2.2.1
  have hts := E.2.2.2.1
  refine lv_aload_n hx hb dX0_pass_50 rfl (lv_at hl 0 rfl) ?_
  obtain ⟨q1, hqq1, hq1, hYq1, he⟩ := g_dr_some he
  refine g_getD E hM (o := 53) (Nat.le_of_ble_eq_true rfl) rfl fl_X0_38 rfl hqq1 dX0_pass_51 ?_
  refine lv_dup hx hb dX0_pass_54 rfl ?_
  refine g_getI E hM (o := q1) hq1 hYq1 fl_X0_70 dX0_pass_55 ?_
  refine lv_iconst (v := (1 : Int32)) hx hb dX0_pass_58 rfl ?_
  refine lv_iadd hx hb dX0_pass_59 ?_
  refine g_putI E hM (o := q1) hq1 hYq1 fp_X0_70 dX0_pass_60 (fun H locs hM => ?_)
  obtain ⟨m2, hm2, he⟩ := g_let_ex he
  rw [← hm2] at hM
  obtain ⟨x3, hx3, he⟩ := g_let_ex he
  refine lv_iinc (v := x3) (lv' := [(2, .int x3), (0, .ref (B + 53)), (1, .int a1)]) hx hb dX0_pass_63 hl (k := 2) rfl (by rw [hx3]; rfl) (by decide) rfl (fun ls hl => ?_)
  refine lv_goto (tgt := 2) hx hb dX0_pass_66 (by decide) ?_
  exact hs2 _ _ _ _ _ hM (lv_sub hl [1, 2, 0] rfl) he

set_option maxHeartbeats 4000000 in
set_option maxRecDepth 100000 in
theorem w0_pass_b39 (E : g_C p s m args c cX0_pass RX0 D aC (g_Zs (g_A B 69))) (hml : c.maxLocals = 3) (hret : meth.sig.returnType = none) (hlk : meth.locks = false) {F : Nat} {q0 : g_M} {a1 : Int32} {s2 : Int32 → g_M → Option (g_M)} (hs2 : ∀ (v2 : Int32) (mem : g_M) (H : Heap) (locs : List Loc) (ls : Array Slot), g_At D aC B yC 69 mem s.heap H locs → lv_has ls 3 [(0, .ref (B + 53)), (1, .int a1), (2, .int v2)] → s2 v2 mem = some q0 → W p l e (g_rm 7) s m args below meth c H locs 0 0 (g_MQ below D aC B yC 69 args s none q0) (F0 m 2 ls [])) : ∀ (v2 : Int32) (mem : g_M) (H : Heap) (locs : List Loc) (ls : Array Slot), g_At D aC B yC 69 mem s.heap H locs → lv_has ls 3 [(0, .ref (B + 53)), (1, .int a1), (2, .int v2)] → f0_pass_b39 F a1 s2 v2 mem = some q0 → W p l e (g_rm 7) s m args below meth c H locs 0 0 (g_MQ below D aC B yC 69 args s none q0) (F0 m 39 ls []) := by
  intro v2 mem H locs ls hM hl he
  unfold f0_pass_b39 at he
  have hx := E.1
  have hb := E.2.1
  have hown := E.2.2.1
  have hts := E.2.2.2.1
  refine lv_aload_n hx hb dX0_pass_39 rfl (lv_at hl 0 rfl) ?_
  refine g_getI E hM (o := 53) (Nat.le_of_ble_eq_true rfl) rfl fl_X0_29 dX0_pass_40 ?_
  refine lv_if_le (tgt := 50) hx hb dX0_pass_43 (by decide) (fun h4 => ?_) (fun h4 => ?_)
  · rw [if_neg (Int32.not_lt.mpr h4)] at he
    exact w0_pass_b50 (F := F) (a1 := a1) E hml hret hlk hs2 _ _ _ _ _ hM (lv_sub hl [0, 1, 2] rfl) he
  · rw [if_pos (Int32.not_le.mp h4)] at he
    refine lv_aload_n hx hb dX0_pass_46 rfl (lv_at hl 0 rfl) ?_
    obtain ⟨r5, hcr5, he⟩ := g_bind he
    refine g_callV [] (rest := []) E hml hl.1 hM cv_X0_67 (c0_land l D aC B hcr5) (o := 53) (Nat.le_of_ble_eq_true rfl) rfl (by decide) rfl rfl (Nat.le_of_ble_eq_true rfl) dX0_pass_47 (fun H locs hM => ?_)
    refine W.eq (g2 := F0 m 50 ls []) rfl ?_
    exact w0_pass_b50 (F := F) (a1 := a1) E hml hret hlk hs2 _ _ _ _ _ hM (lv_sub hl [0, 1, 2] rfl) he

set_option maxHeartbeats 4000000 in
set_option maxRecDepth 100000 in
theorem w0_pass_b2_body (E : g_C p s m args c cX0_pass RX0 D aC (g_Zs (g_A B 69))) (hml : c.maxLocals = 3) (hret : meth.sig.returnType = none) (hlk : meth.locks = false) {F : Nat} {q0 : g_M} {a1 : Int32} {s2 : Int32 → g_M → Option (g_M)} (hs2 : ∀ (v2 : Int32) (mem : g_M) (H : Heap) (locs : List Loc) (ls : Array Slot), g_At D aC B yC 69 mem s.heap H locs → lv_has ls 3 [(0, .ref (B + 53)), (1, .int a1), (2, .int v2)] → s2 v2 mem = some q0 → W p l e (g_rm 7) s m args below meth c H locs 0 0 (g_MQ below D aC B yC 69 args s none q0) (F0 m 2 ls [])) : ∀ (v2 : Int32) (mem : g_M) (H : Heap) (locs : List Loc) (ls : Array Slot), g_At D aC B yC 69 mem s.heap H locs → lv_has ls 3 [(0, .ref (B + 53)), (1, .int a1), (2, .int v2)] → f0_pass_b2_body F a1 s2 v2 mem = some q0 → W p l e (g_rm 7) s m args below meth c H locs 0 0 (g_MQ below D aC B yC 69 args s none q0) (F0 m 2 ls []) := by
  intro v2 mem H locs ls hM hl he
  unfold f0_pass_b2_body at he
  have hx := E.1
  have hb := E.2.1
  have hown := E.2.2.1
  have hts := E.2.2.2.1
  refine lv_iload_n hx hb dX0_pass_2 rfl (lv_at hl 2 rfl) ?_
  refine lv_iload_n hx hb dX0_pass_3 rfl (lv_at hl 1 rfl) ?_
  refine lv_icmp_ge (tgt := 69) hx hb dX0_pass_4 (by decide) (fun h6 => ?_) (fun h6 => ?_)
  · rw [if_neg (Int32.not_lt.mpr h6)] at he
    cases he
    exact g_vret E hM hret hlk dX0_pass_69
  · rw [if_pos (Int32.not_le.mp h6)] at he
    refine lv_aload_n hx hb dX0_pass_7 rfl (lv_at hl 0 rfl) ?_
    obtain ⟨r7, hcr7, he⟩ := g_bind he
    refine g_callV [] (rest := []) E hml hl.1 hM cv_X0_52 (c0_settleWants l D aC B hcr7) (o := 53) (Nat.le_of_ble_eq_true rfl) rfl (by decide) rfl rfl (Nat.le_of_ble_eq_true rfl) dX0_pass_8 (fun H locs hM => ?_)
    refine W.eq (g2 := F0 m 11 ls []) rfl ?_
    refine lv_aload_n hx hb dX0_pass_11 rfl (lv_at hl 0 rfl) ?_
    obtain ⟨r8, hcr8, he⟩ := g_bind he
    refine g_callV [] (rest := []) E hml hl.1 hM cv_X0_55 (c0_fillBoat l D aC B hcr8) (o := 53) (Nat.le_of_ble_eq_true rfl) rfl (by decide) rfl rfl (Nat.le_of_ble_eq_true rfl) dX0_pass_12 (fun H locs hM => ?_)
    refine W.eq (g2 := F0 m 15 ls []) rfl ?_
    refine lv_aload_n hx hb dX0_pass_15 rfl (lv_at hl 0 rfl) ?_
    obtain ⟨r9, hcr9, he⟩ := g_bind he
    refine g_callV [] (rest := []) E hml hl.1 hM cv_X0_58 (c0_storms l D aC B hcr9) (o := 53) (Nat.le_of_ble_eq_true rfl) rfl (by decide) rfl rfl (Nat.le_of_ble_eq_true rfl) dX0_pass_16 (fun H locs hM => ?_)
    refine W.eq (g2 := F0 m 19 ls [.int r9.1]) rfl ?_
    refine lv_if_eq (tgt := 39) hx hb dX0_pass_19 (by decide) (fun h10 => ?_) (fun h10 => ?_)
    · rw [if_pos h10] at he
      exact w0_pass_b39 (F := F) (a1 := a1) E hml hret hlk hs2 _ _ _ _ _ hM (lv_sub hl [0, 1, 2] rfl) he
    · rw [if_neg h10] at he
      refine lv_aload_n hx hb dX0_pass_22 rfl (lv_at hl 0 rfl) ?_
      obtain ⟨q11, hqq11, hq11, hYq11, he⟩ := g_dr_some he
      refine g_getD E hM (o := 53) (Nat.le_of_ble_eq_true rfl) rfl fl_X0_38 rfl hqq11 dX0_pass_23 ?_
      refine lv_dup hx hb dX0_pass_26 rfl ?_
      refine g_getI E hM (o := q11) hq11 hYq11 fl_X0_62 dX0_pass_27 ?_
      refine lv_iconst (v := (1 : Int32)) hx hb dX0_pass_30 rfl ?_
      refine lv_iadd hx hb dX0_pass_31 ?_
      refine g_putI E hM (o := q11) hq11 hYq11 fp_X0_62 dX0_pass_32 (fun H locs hM => ?_)
      obtain ⟨m12, hm12, he⟩ := g_let_ex he
      rw [← hm12] at hM
      refine lv_aload_n hx hb dX0_pass_35 rfl (lv_at hl 0 rfl) ?_
      obtain ⟨r13, hcr13, he⟩ := g_bind he
      refine g_callV [] (rest := []) E hml hl.1 hM cv_X0_64 (c0_mixAll l D aC B hcr13) (o := 53) (Nat.le_of_ble_eq_true rfl) rfl (by decide) rfl rfl (Nat.le_of_ble_eq_true rfl) dX0_pass_36 (fun H locs hM => ?_)
      refine W.eq (g2 := F0 m 39 ls []) rfl ?_
      exact w0_pass_b39 (F := F) (a1 := a1) E hml hret hlk hs2 _ _ _ _ _ hM (lv_sub hl [0, 1, 2] rfl) he

set_option maxHeartbeats 4000000 in
set_option maxRecDepth 100000 in
theorem w0_pass_b2 (E : g_C p s m args c cX0_pass RX0 D aC (g_Zs (g_A B 69))) (hml : c.maxLocals = 3) (hret : meth.sig.returnType = none) (hlk : meth.locks = false) {F : Nat} {q0 : g_M} {a1 : Int32} : ∀ (v2 : Int32) (mem : g_M) (H : Heap) (locs : List Loc) (ls : Array Slot), g_At D aC B yC 69 mem s.heap H locs → lv_has ls 3 [(0, .ref (B + 53)), (1, .int a1), (2, .int v2)] → f0_pass_b2 F a1 v2 mem = some q0 → W p l e (g_rm 7) s m args below meth c H locs 0 0 (g_MQ below D aC B yC 69 args s none q0) (F0 m 2 ls []) := by
  have key : ∀ (nn : Nat) (x : Int32 × g_M) (H : Heap) (locs : List Loc) (ls : Array Slot), g_At D aC B yC 69 x.2 s.heap H locs → lv_has ls 3 [(0, .ref (B + 53)), (1, .int a1), (2, .int x.1)] → g_fix (fun sf x => f0_pass_b2_body F a1 (fun v2 mem => sf (v2, mem)) x.1 x.2) nn x = some q0 → W p l e (g_rm 7) s m args below meth c H locs 0 0 (g_MQ below D aC B yC 69 args s none q0) (F0 m 2 ls []) := by
    intro nn
    induction nn with
    | zero => intro x H locs ls hM hl he; simp [g_fix] at he
    | succ nn ih =>
      intro x H locs ls hM hl he
      exact w0_pass_b2_body (F := F) (a1 := a1) E hml hret hlk (fun v2 mem H locs ls hM hl he => ih (v2, mem) H locs ls hM hl he) x.1 x.2 H locs ls hM hl he
  intro v2 mem H locs ls hM hl he
  exact key F (v2, mem) H locs ls hM hl he

set_option maxHeartbeats 4000000 in
set_option maxRecDepth 100000 in
theorem c0_pass (l : Launch) (D : va_G) (aC : Nat → ClassId) (B : Nat) {F : Nat} {a1 : Int32} {mem : g_M} {q0 : g_M} (he : f0_pass F a1 mem = some q0) : g_Met l yX0_pass cX0_pass 3 none 7 D aC B yC 69 mem [.ref (B + 53), .int a1] none q0 := by
  refine g_ofW (by decide) (Nat.le_of_ble_eq_true rfl) ?_
  intro p e s m args below meth c ls E hml hret hlk hM hl
  have E : g_C p s m args c cX0_pass RX0 D aC (g_Zs (g_A B 69)) := E
  have hx := E.1
  have hb := E.2.1
  have hown := E.2.2.1
  have hts := E.2.2.2.1
  have hl : lv_has ls 3 [(0, .ref (B + 53)), (1, .int a1)] := hl
  unfold f0_pass at he
  refine lv_iconst (v := (0 : Int32)) hx hb dX0_pass_0 rfl ?_
  refine lv_istore_n (lv' := [(2, .int (0 : Int32)), (0, .ref (B + 53)), (1, .int a1)]) hx hb dX0_pass_1 rfl hl (by decide) rfl (fun ls hl => ?_)
  exact w0_pass_b2 (F := F) (a1 := a1) E hml hret hlk _ _ _ _ _ hM (lv_sub hl [1, 2, 0] rfl) he

set_option maxHeartbeats 4000000 in
set_option maxRecDepth 100000 in
theorem c8_isSign (l : Launch) (D : va_G) (aC : Nat → ClassId) (B : Nat) {F : Nat} {a1 : Int32} {mem : g_M} {q0 : Int32} (he : f8_isSign F a1 mem = some q0) : g_Met l yX8_isSign cX8_isSign 2 (some .boolean) 1 D aC B yC 69 mem [.ref (B + 31), .int a1] (some (.int q0)) mem := by
  refine g_ofW (by decide) (Nat.le_of_ble_eq_true rfl) ?_
  intro p e s m args below meth c ls E hml hret hlk hM hl
  have E : g_C p s m args c cX8_isSign RX8 D aC (g_Zs (g_A B 69)) := E
  have hx := E.1
  have hb := E.2.1
  have hown := E.2.2.1
  have hts := E.2.2.2.1
  have hl : lv_has ls 2 [(0, .ref (B + 31)), (1, .int a1)] := hl
  unfold f8_isSign at he
  refine lv_aload_n hx hb dX8_isSign_0 rfl (lv_at hl 0 rfl) ?_
  refine g_getI E hM (o := 31) (Nat.le_of_ble_eq_true rfl) rfl fl_X8_11 dX8_isSign_1 ?_
  refine lv_iconst (v := (4 : Int32)) hx hb dX8_isSign_4 rfl ?_
  refine lv_icmp_ne (tgt := 20) hx hb dX8_isSign_5 (by decide) (fun h1 => ?_) (fun h1 => ?_)
  · rw [if_neg h1] at he
    refine lv_iconst (v := (0 : Int32)) hx hb dX8_isSign_20 rfl ?_
    cases he
    exact g_zret E hM hret hlk (Or.inl rfl) dX8_isSign_21
  · rw [if_pos h1] at he
    refine lv_aload_n hx hb dX8_isSign_8 rfl (lv_at hl 0 rfl) ?_
    refine g_getI E hM (o := 31) (Nat.le_of_ble_eq_true rfl) rfl fl_X8_18 dX8_isSign_9 ?_
    refine lv_iload_n hx hb dX8_isSign_12 rfl (lv_at hl 1 rfl) ?_
    refine lv_icmp_ne (tgt := 20) hx hb dX8_isSign_13 (by decide) (fun h2 => ?_) (fun h2 => ?_)
    · rw [if_neg h2] at he
      refine lv_iconst (v := (0 : Int32)) hx hb dX8_isSign_20 rfl ?_
      cases he
      exact g_zret E hM hret hlk (Or.inl rfl) dX8_isSign_21
    · rw [if_pos h2] at he
      refine lv_iconst (v := (1 : Int32)) hx hb dX8_isSign_16 rfl ?_
      refine lv_goto (tgt := 21) hx hb dX8_isSign_17 (by decide) ?_
      cases he
      exact g_zret E hM hret hlk (Or.inr rfl) dX8_isSign_21

set_option maxHeartbeats 4000000 in
set_option maxRecDepth 100000 in
theorem c1_isAtEnd (l : Launch) (D : va_G) (aC : Nat → ClassId) (B : Nat) {F : Nat} {mem : g_M} {q0 : Int32} (he : f1_isAtEnd F mem = some q0) : g_Met l yX1_isAtEnd cX1_isAtEnd 1 (some .boolean) 2 D aC B yC 69 mem [.ref (B + 33)] (some (.int q0)) mem := by
  refine g_ofW (by decide) (Nat.le_of_ble_eq_true rfl) ?_
  intro p e s m args below meth c ls E hml hret hlk hM hl
  have E : g_C p s m args c cX1_isAtEnd RX1 D aC (g_Zs (g_A B 69)) := E
  have hx := E.1
  have hb := E.2.1
  have hown := E.2.2.1
  have hts := E.2.2.2.1
  have hl : lv_has ls 1 [(0, .ref (B + 33))] := hl
  unfold f1_isAtEnd at he
  refine lv_aload_n hx hb dX1_isAtEnd_0 rfl (lv_at hl 0 rfl) ?_
  refine g_getI E hM (o := 33) (Nat.le_of_ble_eq_true rfl) rfl fl_X1_27 dX1_isAtEnd_1 ?_
  refine lv_if_ne (tgt := 30) hx hb dX1_isAtEnd_4 (by decide) (fun h1 => ?_) (fun h1 => ?_)
  · rw [if_neg h1] at he
    refine lv_iconst (v := (0 : Int32)) hx hb dX1_isAtEnd_30 rfl ?_
    cases he
    exact g_zret E hM hret hlk (Or.inl rfl) dX1_isAtEnd_31
  · rw [if_pos h1] at he
    refine lv_aload_n hx hb dX1_isAtEnd_7 rfl (lv_at hl 0 rfl) ?_
    refine g_getI E hM (o := 33) (Nat.le_of_ble_eq_true rfl) rfl fl_X1_21 dX1_isAtEnd_8 ?_
    refine lv_if_ne (tgt := 30) hx hb dX1_isAtEnd_11 (by decide) (fun h2 => ?_) (fun h2 => ?_)
    · rw [if_neg h2] at he
      refine lv_iconst (v := (0 : Int32)) hx hb dX1_isAtEnd_30 rfl ?_
      cases he
      exact g_zret E hM hret hlk (Or.inl rfl) dX1_isAtEnd_31
    · rw [if_pos h2] at he
      refine lv_aload_n hx hb dX1_isAtEnd_14 rfl (lv_at hl 0 rfl) ?_
      refine g_getP E hM (o := 33) (Nat.le_of_ble_eq_true rfl) rfl fl_X1_31 (q := 31) rfl dX1_isAtEnd_15 ?_
      refine lv_bipush (v := (15 : Int32)) hx hb dX1_isAtEnd_18 rfl ?_
      obtain ⟨r3, hcr3, he⟩ := g_bind he
      refine g_callV [.int (15 : Int32)] (rest := []) E hml hl.1 hM cv_X1_53 (c8_isSign l D aC B hcr3) (o := 31) (Nat.le_of_ble_eq_true rfl) rfl (by decide) rfl rfl (Nat.le_of_ble_eq_true rfl) dX1_isAtEnd_20 (fun H locs hM => ?_)
      refine W.eq (g2 := F0 m 23 ls [.int r3]) rfl ?_
      refine lv_if_eq (tgt := 30) hx hb dX1_isAtEnd_23 (by decide) (fun h4 => ?_) (fun h4 => ?_)
      · rw [if_pos h4] at he
        refine lv_iconst (v := (0 : Int32)) hx hb dX1_isAtEnd_30 rfl ?_
        cases he
        exact g_zret E hM hret hlk (Or.inl rfl) dX1_isAtEnd_31
      · rw [if_neg h4] at he
        refine lv_iconst (v := (1 : Int32)) hx hb dX1_isAtEnd_26 rfl ?_
        refine lv_goto (tgt := 31) hx hb dX1_isAtEnd_27 (by decide) ?_
        cases he
        exact g_zret E hM hret hlk (Or.inr rfl) dX1_isAtEnd_31

set_option maxHeartbeats 4000000 in
set_option maxRecDepth 100000 in
theorem c1_push (l : Launch) (D : va_G) (aC : Nat → ClassId) (B : Nat) {F : Nat} {a1 : Int32} {mem : g_M} {q0 : g_M} (he : f1_push F a1 mem = some q0) : g_Met l yX1_push cX1_push 2 none 1 D aC B yC 69 mem [.ref (B + 33), .int a1] none q0 := by
  refine g_ofW (by decide) (Nat.le_of_ble_eq_true rfl) ?_
  intro p e s m args below meth c ls E hml hret hlk hM hl
  have E : g_C p s m args c cX1_push RX1 D aC (g_Zs (g_A B 69)) := E
  have hx := E.1
  have hb := E.2.1
  have hown := E.2.2.1
  have hts := E.2.2.2.1
  have hl : lv_has ls 2 [(0, .ref (B + 33)), (1, .int a1)] := hl
  unfold f1_push at he
  refine lv_aload_n hx hb dX1_push_0 rfl (lv_at hl 0 rfl) ?_
  refine g_getI E hM (o := 33) (Nat.le_of_ble_eq_true rfl) rfl fl_X1_17 dX1_push_1 ?_
  refine lv_aload_n hx hb dX1_push_4 rfl (lv_at hl 0 rfl) ?_
  refine g_getP E hM (o := 33) (Nat.le_of_ble_eq_true rfl) rfl fl_X1_13 (q := 34) rfl dX1_push_5 ?_
  refine g_alenI (v := (72 : Int32)) E hM (o := 34) (Nat.le_of_ble_eq_true rfl) rfl rfl dX1_push_8 ?_
  refine lv_icmp_ge (tgt := 32) hx hb dX1_push_9 (by decide) (fun h1 => ?_) (fun h1 => ?_)
  · rw [if_neg (Int32.not_lt.mpr h1)] at he
    cases he
    exact g_vret E hM hret hlk dX1_push_32
  · rw [if_pos (Int32.not_le.mp h1)] at he
    refine lv_aload_n hx hb dX1_push_12 rfl (lv_at hl 0 rfl) ?_
    refine g_getP E hM (o := 33) (Nat.le_of_ble_eq_true rfl) rfl fl_X1_13 (q := 34) rfl dX1_push_13 ?_
    refine lv_aload_n hx hb dX1_push_16 rfl (lv_at hl 0 rfl) ?_
    refine g_getI E hM (o := 33) (Nat.le_of_ble_eq_true rfl) rfl fl_X1_17 dX1_push_17 ?_
    refine lv_iload_n hx hb dX1_push_20 rfl (lv_at hl 1 rfl) ?_
    obtain ⟨h2, he⟩ := g_ck_some he
    refine g_iast E hM (o := 34) (Nat.le_of_ble_eq_true rfl) rfl h2 dX1_push_21 (fun H locs hM => ?_)
    obtain ⟨m3, hm3, he⟩ := g_let_ex he
    rw [← hm3] at hM
    refine lv_aload_n hx hb dX1_push_22 rfl (lv_at hl 0 rfl) ?_
    refine lv_dup hx hb dX1_push_23 rfl ?_
    refine g_getI E hM (o := 33) (Nat.le_of_ble_eq_true rfl) rfl fl_X1_17 dX1_push_24 ?_
    refine lv_iconst (v := (1 : Int32)) hx hb dX1_push_27 rfl ?_
    refine lv_iadd hx hb dX1_push_28 ?_
    refine g_putI E hM (o := 33) (Nat.le_of_ble_eq_true rfl) rfl fp_X1_17 dX1_push_29 (fun H locs hM => ?_)
    obtain ⟨m4, hm4, he⟩ := g_let_ex he
    rw [← hm4] at hM
    cases he
    exact g_vret E hM hret hlk dX1_push_32

set_option maxHeartbeats 4000000 in
set_option maxRecDepth 100000 in
theorem c1_takeOpen (l : Launch) (D : va_G) (aC : Nat → ClassId) (B : Nat) {F : Nat} {mem : g_M} {q0 : Int32 × g_M} (he : f1_takeOpen F mem = some q0) : g_Met l yX1_takeOpen cX1_takeOpen 1 (some .int) 2 D aC B yC 69 mem [.ref (B + 33)] (some (.int q0.1)) q0.2 := by
  refine g_ofW (by decide) (Nat.le_of_ble_eq_true rfl) ?_
  intro p e s m args below meth c ls E hml hret hlk hM hl
  have E : g_C p s m args c cX1_takeOpen RX1 D aC (g_Zs (g_A B 69)) := E
  have hx := E.1
  have hb := E.2.1
  have hown := E.2.2.1
  have hts := E.2.2.2.1
  have hl : lv_has ls 1 [(0, .ref (B + 33))] := hl
  unfold f1_takeOpen at he
  refine lv_aload_n hx hb dX1_takeOpen_0 rfl (lv_at hl 0 rfl) ?_
  refine g_getI E hM (o := 33) (Nat.le_of_ble_eq_true rfl) rfl fl_X1_21 dX1_takeOpen_1 ?_
  refine lv_bipush (v := (8 : Int32)) hx hb dX1_takeOpen_4 rfl ?_
  refine lv_icmp_lt (tgt := 11) hx hb dX1_takeOpen_6 (by decide) (fun h1 => ?_) (fun h1 => ?_)
  · rw [if_neg (Int32.not_le.mpr h1)] at he
    refine lv_aload_n hx hb dX1_takeOpen_11 rfl (lv_at hl 0 rfl) ?_
    refine lv_dup hx hb dX1_takeOpen_12 rfl ?_
    refine g_getI E hM (o := 33) (Nat.le_of_ble_eq_true rfl) rfl fl_X1_21 dX1_takeOpen_13 ?_
    refine lv_iconst (v := (1 : Int32)) hx hb dX1_takeOpen_16 rfl ?_
    refine lv_iadd hx hb dX1_takeOpen_17 ?_
    refine g_putI E hM (o := 33) (Nat.le_of_ble_eq_true rfl) rfl fp_X1_21 dX1_takeOpen_18 (fun H locs hM => ?_)
    obtain ⟨m2, hm2, he⟩ := g_let_ex he
    rw [← hm2] at hM
    refine lv_aload_n hx hb dX1_takeOpen_21 rfl (lv_at hl 0 rfl) ?_
    refine lv_bipush (v := (13 : Int32)) hx hb dX1_takeOpen_22 rfl ?_
    obtain ⟨r3, hcr3, he⟩ := g_bind he
    refine g_callV [.int (13 : Int32)] (rest := []) E hml hl.1 hM cv_X1_97 (c1_push l D aC B hcr3) (o := 33) (Nat.le_of_ble_eq_true rfl) rfl (by decide) rfl rfl (Nat.le_of_ble_eq_true rfl) dX1_takeOpen_24 (fun H locs hM => ?_)
    refine W.eq (g2 := F0 m 27 ls []) rfl ?_
    refine lv_iconst (v := (0 : Int32)) hx hb dX1_takeOpen_27 rfl ?_
    cases he
    exact g_iret E hM hret hlk dX1_takeOpen_28
  · rw [if_pos (Int32.not_lt.mp h1)] at he
    refine lv_iconst (v := (2 : Int32)) hx hb dX1_takeOpen_9 rfl ?_
    cases he
    exact g_iret E hM hret hlk dX1_takeOpen_10

set_option maxHeartbeats 4000000 in
set_option maxRecDepth 100000 in
theorem c8_isWord (l : Launch) (D : va_G) (aC : Nat → ClassId) (B : Nat) {F : Nat} {a1 : Int32} {mem : g_M} {q0 : Int32} (he : f8_isWord F a1 mem = some q0) : g_Met l yX8_isWord cX8_isWord 2 (some .boolean) 1 D aC B yC 69 mem [.ref (B + 31), .int a1] (some (.int q0)) mem := by
  refine g_ofW (by decide) (Nat.le_of_ble_eq_true rfl) ?_
  intro p e s m args below meth c ls E hml hret hlk hM hl
  have E : g_C p s m args c cX8_isWord RX8 D aC (g_Zs (g_A B 69)) := E
  have hx := E.1
  have hb := E.2.1
  have hown := E.2.2.1
  have hts := E.2.2.2.1
  have hl : lv_has ls 2 [(0, .ref (B + 31)), (1, .int a1)] := hl
  unfold f8_isWord at he
  refine lv_aload_n hx hb dX8_isWord_0 rfl (lv_at hl 0 rfl) ?_
  refine g_getI E hM (o := 31) (Nat.le_of_ble_eq_true rfl) rfl fl_X8_11 dX8_isWord_1 ?_
  refine lv_iconst (v := (3 : Int32)) hx hb dX8_isWord_4 rfl ?_
  refine lv_icmp_ne (tgt := 20) hx hb dX8_isWord_5 (by decide) (fun h1 => ?_) (fun h1 => ?_)
  · rw [if_neg h1] at he
    refine lv_iconst (v := (0 : Int32)) hx hb dX8_isWord_20 rfl ?_
    cases he
    exact g_zret E hM hret hlk (Or.inl rfl) dX8_isWord_21
  · rw [if_pos h1] at he
    refine lv_aload_n hx hb dX8_isWord_8 rfl (lv_at hl 0 rfl) ?_
    refine g_getI E hM (o := 31) (Nat.le_of_ble_eq_true rfl) rfl fl_X8_18 dX8_isWord_9 ?_
    refine lv_iload_n hx hb dX8_isWord_12 rfl (lv_at hl 1 rfl) ?_
    refine lv_icmp_ne (tgt := 20) hx hb dX8_isWord_13 (by decide) (fun h2 => ?_) (fun h2 => ?_)
    · rw [if_neg h2] at he
      refine lv_iconst (v := (0 : Int32)) hx hb dX8_isWord_20 rfl ?_
      cases he
      exact g_zret E hM hret hlk (Or.inl rfl) dX8_isWord_21
    · rw [if_pos h2] at he
      refine lv_iconst (v := (1 : Int32)) hx hb dX8_isWord_16 rfl ?_
      refine lv_goto (tgt := 21) hx hb dX8_isWord_17 (by decide) ?_
      cases he
      exact g_zret E hM hret hlk (Or.inr rfl) dX8_isWord_21

set_option maxHeartbeats 4000000 in
set_option maxRecDepth 100000 in
theorem c1_rankOf (l : Launch) (D : va_G) (aC : Nat → ClassId) (B : Nat) {F : Nat} {a0 : Int32} {mem : g_M} {q0 : Int32} (he : f1_rankOf F a0 mem = some q0) : g_Met l yX1_rankOf cX1_rankOf 1 (some .int) 1 D aC B yC 69 mem [.int a0] (some (.int q0)) mem := by
  refine g_ofW (by decide) (Nat.le_of_ble_eq_true rfl) ?_
  intro p e s m args below meth c ls E hml hret hlk hM hl
  have E : g_C p s m args c cX1_rankOf RX1 D aC (g_Zs (g_A B 69)) := E
  have hx := E.1
  have hb := E.2.1
  have hown := E.2.2.1
  have hts := E.2.2.2.1
  have hl : lv_has ls 1 [(0, .int a0)] := hl
  unfold f1_rankOf at he
  refine lv_iload_n hx hb dX1_rankOf_0 rfl (lv_at hl 0 rfl) ?_
  by_cases h1 : a0 = (0 : Int32)
  · rw [if_pos h1] at he
    refine lv_tableIn (tgt := 80) (off := 79) hx hb dX1_rankOf_1 (by rw [h1]; decide) (by rw [h1]; decide) (by rw [h1]; rfl) (by decide) ?_
    refine lv_iconst (v := (5 : Int32)) hx hb dX1_rankOf_80 rfl ?_
    cases he
    exact g_iret E hM hret hlk dX1_rankOf_81
  rw [if_neg h1] at he
  by_cases h2 : a0 = (1 : Int32)
  · rw [if_pos h2] at he
    refine lv_tableIn (tgt := 80) (off := 79) hx hb dX1_rankOf_1 (by rw [h2]; decide) (by rw [h2]; decide) (by rw [h2]; rfl) (by decide) ?_
    refine lv_iconst (v := (5 : Int32)) hx hb dX1_rankOf_80 rfl ?_
    cases he
    exact g_iret E hM hret hlk dX1_rankOf_81
  rw [if_neg h2] at he
  by_cases h3 : a0 = (2 : Int32)
  · rw [if_pos h3] at he
    refine lv_tableIn (tgt := 82) (off := 81) hx hb dX1_rankOf_1 (by rw [h3]; decide) (by rw [h3]; decide) (by rw [h3]; rfl) (by decide) ?_
    refine lv_bipush (v := (6 : Int32)) hx hb dX1_rankOf_82 rfl ?_
    cases he
    exact g_iret E hM hret hlk dX1_rankOf_84
  rw [if_neg h3] at he
  by_cases h4 : a0 = (3 : Int32)
  · rw [if_pos h4] at he
    refine lv_tableIn (tgt := 82) (off := 81) hx hb dX1_rankOf_1 (by rw [h4]; decide) (by rw [h4]; decide) (by rw [h4]; rfl) (by decide) ?_
    refine lv_bipush (v := (6 : Int32)) hx hb dX1_rankOf_82 rfl ?_
    cases he
    exact g_iret E hM hret hlk dX1_rankOf_84
  rw [if_neg h4] at he
  by_cases h5 : a0 = (4 : Int32)
  · rw [if_pos h5] at he
    refine lv_tableIn (tgt := 85) (off := 84) hx hb dX1_rankOf_1 (by rw [h5]; decide) (by rw [h5]; decide) (by rw [h5]; rfl) (by decide) ?_
    refine lv_iconst (v := (4 : Int32)) hx hb dX1_rankOf_85 rfl ?_
    cases he
    exact g_iret E hM hret hlk dX1_rankOf_86
  rw [if_neg h5] at he
  by_cases h6 : a0 = (5 : Int32)
  · rw [if_pos h6] at he
    refine lv_tableIn (tgt := 85) (off := 84) hx hb dX1_rankOf_1 (by rw [h6]; decide) (by rw [h6]; decide) (by rw [h6]; rfl) (by decide) ?_
    refine lv_iconst (v := (4 : Int32)) hx hb dX1_rankOf_85 rfl ?_
    cases he
    exact g_iret E hM hret hlk dX1_rankOf_86
  rw [if_neg h6] at he
  by_cases h7 : a0 = (6 : Int32)
  · rw [if_pos h7] at he
    refine lv_tableIn (tgt := 85) (off := 84) hx hb dX1_rankOf_1 (by rw [h7]; decide) (by rw [h7]; decide) (by rw [h7]; rfl) (by decide) ?_
    refine lv_iconst (v := (4 : Int32)) hx hb dX1_rankOf_85 rfl ?_
    cases he
    exact g_iret E hM hret hlk dX1_rankOf_86
  rw [if_neg h7] at he
  by_cases h8 : a0 = (7 : Int32)
  · rw [if_pos h8] at he
    refine lv_tableIn (tgt := 85) (off := 84) hx hb dX1_rankOf_1 (by rw [h8]; decide) (by rw [h8]; decide) (by rw [h8]; rfl) (by decide) ?_
    refine lv_iconst (v := (4 : Int32)) hx hb dX1_rankOf_85 rfl ?_
    cases he
    exact g_iret E hM hret hlk dX1_rankOf_86
  rw [if_neg h8] at he
  by_cases h9 : a0 = (8 : Int32)
  · rw [if_pos h9] at he
    refine lv_tableIn (tgt := 85) (off := 84) hx hb dX1_rankOf_1 (by rw [h9]; decide) (by rw [h9]; decide) (by rw [h9]; rfl) (by decide) ?_
    refine lv_iconst (v := (4 : Int32)) hx hb dX1_rankOf_85 rfl ?_
    cases he
    exact g_iret E hM hret hlk dX1_rankOf_86
  rw [if_neg h9] at he
  by_cases h10 : a0 = (9 : Int32)
  · rw [if_pos h10] at he
    refine lv_tableIn (tgt := 85) (off := 84) hx hb dX1_rankOf_1 (by rw [h10]; decide) (by rw [h10]; decide) (by rw [h10]; rfl) (by decide) ?_
    refine lv_iconst (v := (4 : Int32)) hx hb dX1_rankOf_85 rfl ?_
    cases he
    exact g_iret E hM hret hlk dX1_rankOf_86
  rw [if_neg h10] at he
  by_cases h11 : a0 = (10 : Int32)
  · rw [if_pos h11] at he
    refine lv_tableIn (tgt := 76) (off := 75) hx hb dX1_rankOf_1 (by rw [h11]; decide) (by rw [h11]; decide) (by rw [h11]; rfl) (by decide) ?_
    refine lv_iconst (v := (2 : Int32)) hx hb dX1_rankOf_76 rfl ?_
    cases he
    exact g_iret E hM hret hlk dX1_rankOf_77
  rw [if_neg h11] at he
  by_cases h12 : a0 = (11 : Int32)
  · rw [if_pos h12] at he
    refine lv_tableIn (tgt := 74) (off := 73) hx hb dX1_rankOf_1 (by rw [h12]; decide) (by rw [h12]; decide) (by rw [h12]; rfl) (by decide) ?_
    refine lv_iconst (v := (1 : Int32)) hx hb dX1_rankOf_74 rfl ?_
    cases he
    exact g_iret E hM hret hlk dX1_rankOf_75
  rw [if_neg h12] at he
  by_cases h13 : a0 = (12 : Int32)
  · rw [if_pos h13] at he
    refine lv_tableIn (tgt := 78) (off := 77) hx hb dX1_rankOf_1 (by rw [h13]; decide) (by rw [h13]; decide) (by rw [h13]; rfl) (by decide) ?_
    refine lv_iconst (v := (3 : Int32)) hx hb dX1_rankOf_78 rfl ?_
    cases he
    exact g_iret E hM hret hlk dX1_rankOf_79
  rw [if_neg h13] at he
  by_cases h14 : a0 = (13 : Int32)
  · rw [if_pos h14] at he
    refine lv_tableIn (tgt := 72) (off := 71) hx hb dX1_rankOf_1 (by rw [h14]; decide) (by rw [h14]; decide) (by rw [h14]; rfl) (by decide) ?_
    refine lv_iconst (v := (0 : Int32)) hx hb dX1_rankOf_72 rfl ?_
    cases he
    exact g_iret E hM hret hlk dX1_rankOf_73
  rw [if_neg h14] at he
  refine lv_tableOut (tgt := 85) hx hb dX1_rankOf_1 (by have zh1 := lv_neT (a := 0) h1 rfl; have zh2 := lv_neT (a := 1) h2 rfl; have zh3 := lv_neT (a := 2) h3 rfl; have zh4 := lv_neT (a := 3) h4 rfl; have zh5 := lv_neT (a := 4) h5 rfl; have zh6 := lv_neT (a := 5) h6 rfl; have zh7 := lv_neT (a := 6) h7 rfl; have zh8 := lv_neT (a := 7) h8 rfl; have zh9 := lv_neT (a := 8) h9 rfl; have zh10 := lv_neT (a := 9) h10 rfl; have zh11 := lv_neT (a := 10) h11 rfl; have zh12 := lv_neT (a := 11) h12 rfl; have zh13 := lv_neT (a := 12) h13 rfl; have zh14 := lv_neT (a := 13) h14 rfl; omega) (by decide) ?_
  refine lv_iconst (v := (4 : Int32)) hx hb dX1_rankOf_85 rfl ?_
  cases he
  exact g_iret E hM hret hlk dX1_rankOf_86

set_option maxHeartbeats 4000000 in
set_option maxRecDepth 100000 in
theorem c1_takeKnot (l : Launch) (D : va_G) (aC : Nat → ClassId) (B : Nat) {F : Nat} {a1 : Int32} {mem : g_M} {q0 : Int32 × g_M} (he : f1_takeKnot F a1 mem = some q0) : g_Met l yX1_takeKnot cX1_takeKnot 2 (some .int) 2 D aC B yC 69 mem [.ref (B + 33), .int a1] (some (.int q0.1)) q0.2 := by
  refine g_ofW (by decide) (Nat.le_of_ble_eq_true rfl) ?_
  intro p e s m args below meth c ls E hml hret hlk hM hl
  have E : g_C p s m args c cX1_takeKnot RX1 D aC (g_Zs (g_A B 69)) := E
  have hx := E.1
  have hb := E.2.1
  have hown := E.2.2.1
  have hts := E.2.2.2.1
  have hl : lv_has ls 2 [(0, .ref (B + 33)), (1, .int a1)] := hl
  unfold f1_takeKnot at he
  refine lv_aload_n hx hb dX1_takeKnot_0 rfl (lv_at hl 0 rfl) ?_
  obtain ⟨q1, hqq1, hq1, hYq1, he⟩ := g_dr_some he
  refine g_getD E hM (o := 33) (Nat.le_of_ble_eq_true rfl) rfl fl_X1_35 rfl hqq1 dX1_takeKnot_1 ?_
  refine g_getI E hM (o := q1) hq1 hYq1 fl_X1_39 dX1_takeKnot_4 ?_
  refine lv_bipush (v := (64 : Int32)) hx hb dX1_takeKnot_7 rfl ?_
  refine lv_icmp_lt (tgt := 14) hx hb dX1_takeKnot_9 (by decide) (fun h2 => ?_) (fun h2 => ?_)
  · rw [if_neg (Int32.not_le.mpr h2)] at he
    refine lv_aload_n hx hb dX1_takeKnot_14 rfl (lv_at hl 0 rfl) ?_
    obtain ⟨q3, hqq3, hq3, hYq3, he⟩ := g_dr_some he
    refine g_getD E hM (o := 33) (Nat.le_of_ble_eq_true rfl) rfl fl_X1_35 rfl hqq3 dX1_takeKnot_15 ?_
    refine lv_dup hx hb dX1_takeKnot_18 rfl ?_
    refine g_getI E hM (o := q3) hq3 hYq3 fl_X1_39 dX1_takeKnot_19 ?_
    refine lv_iconst (v := (1 : Int32)) hx hb dX1_takeKnot_22 rfl ?_
    refine lv_iadd hx hb dX1_takeKnot_23 ?_
    refine g_putI E hM (o := q3) hq3 hYq3 fp_X1_39 dX1_takeKnot_24 (fun H locs hM => ?_)
    obtain ⟨m4, hm4, he⟩ := g_let_ex he
    rw [← hm4] at hM
    refine lv_aload_n hx hb dX1_takeKnot_27 rfl (lv_at hl 0 rfl) ?_
    refine lv_iload_n hx hb dX1_takeKnot_28 rfl (lv_at hl 1 rfl) ?_
    obtain ⟨r5, hcr5, he⟩ := g_bind he
    refine g_callV [.int a1] (rest := []) E hml hl.1 hM cv_X1_97 (c1_push l D aC B hcr5) (o := 33) (Nat.le_of_ble_eq_true rfl) rfl (by decide) rfl rfl (Nat.le_of_ble_eq_true rfl) dX1_takeKnot_29 (fun H locs hM => ?_)
    refine W.eq (g2 := F0 m 32 ls []) rfl ?_
    refine lv_iconst (v := (0 : Int32)) hx hb dX1_takeKnot_32 rfl ?_
    cases he
    exact g_iret E hM hret hlk dX1_takeKnot_33
  · rw [if_pos (Int32.not_lt.mp h2)] at he
    refine lv_iconst (v := (2 : Int32)) hx hb dX1_takeKnot_12 rfl ?_
    cases he
    exact g_iret E hM hret hlk dX1_takeKnot_13

set_option maxHeartbeats 4000000 in
set_option maxRecDepth 100000 in
theorem c1_write (l : Launch) (D : va_G) (aC : Nat → ClassId) (B : Nat) {F : Nat} {a1 : Int32} {mem : g_M} {q0 : g_M} (he : f1_write F a1 mem = some q0) : g_Met l yX1_write cX1_write 2 none 1 D aC B yC 69 mem [.ref (B + 33), .int a1] none q0 := by
  refine g_ofW (by decide) (Nat.le_of_ble_eq_true rfl) ?_
  intro p e s m args below meth c ls E hml hret hlk hM hl
  have E : g_C p s m args c cX1_write RX1 D aC (g_Zs (g_A B 69)) := E
  have hx := E.1
  have hb := E.2.1
  have hown := E.2.2.1
  have hts := E.2.2.2.1
  have hl : lv_has ls 2 [(0, .ref (B + 33)), (1, .int a1)] := hl
  unfold f1_write at he
  refine lv_aload_n hx hb dX1_write_0 rfl (lv_at hl 0 rfl) ?_
  refine g_getI E hM (o := 33) (Nat.le_of_ble_eq_true rfl) rfl fl_X1_24 dX1_write_1 ?_
  refine lv_bipush (v := (64 : Int32)) hx hb dX1_write_4 rfl ?_
  refine lv_icmp_ge (tgt := 32) hx hb dX1_write_6 (by decide) (fun h1 => ?_) (fun h1 => ?_)
  · rw [if_neg (Int32.not_lt.mpr h1)] at he
    cases he
    exact g_vret E hM hret hlk dX1_write_32
  · rw [if_pos (Int32.not_le.mp h1)] at he
    refine lv_aload_n hx hb dX1_write_9 rfl (lv_at hl 0 rfl) ?_
    obtain ⟨q2, hqq2, hq2, hYq2, he⟩ := g_dr_some he
    refine g_getD E hM (o := 33) (Nat.le_of_ble_eq_true rfl) rfl fl_X1_35 rfl hqq2 dX1_write_10 ?_
    refine g_getP E hM (o := q2) hq2 hYq2 fl_X1_112 (q := (q2 + 1)) (pt_2_0 q2 hq2 hYq2).1 dX1_write_13 ?_
    refine lv_aload_n hx hb dX1_write_16 rfl (lv_at hl 0 rfl) ?_
    refine g_getI E hM (o := 33) (Nat.le_of_ble_eq_true rfl) rfl fl_X1_24 dX1_write_17 ?_
    refine lv_iload_n hx hb dX1_write_20 rfl (lv_at hl 1 rfl) ?_
    obtain ⟨h3, he⟩ := g_ck_some he
    refine g_iast E hM (o := (q2 + 1)) (pt_2_0 q2 hq2 hYq2).2.1 (pt_2_0 q2 hq2 hYq2).2.2 h3 dX1_write_21 (fun H locs hM => ?_)
    obtain ⟨m4, hm4, he⟩ := g_let_ex he
    rw [← hm4] at hM
    refine lv_aload_n hx hb dX1_write_22 rfl (lv_at hl 0 rfl) ?_
    refine lv_dup hx hb dX1_write_23 rfl ?_
    refine g_getI E hM (o := 33) (Nat.le_of_ble_eq_true rfl) rfl fl_X1_24 dX1_write_24 ?_
    refine lv_iconst (v := (1 : Int32)) hx hb dX1_write_27 rfl ?_
    refine lv_iadd hx hb dX1_write_28 ?_
    refine g_putI E hM (o := 33) (Nat.le_of_ble_eq_true rfl) rfl fp_X1_24 dX1_write_29 (fun H locs hM => ?_)
    obtain ⟨m5, hm5, he⟩ := g_let_ex he
    rw [← hm5] at hM
    cases he
    exact g_vret E hM hret hlk dX1_write_32

set_option maxHeartbeats 4000000 in
set_option maxRecDepth 100000 in
theorem c1_takeLeaf (l : Launch) (D : va_G) (aC : Nat → ClassId) (B : Nat) {F : Nat} {a1 : Int32} {mem : g_M} {q0 : Int32 × g_M} (he : f1_takeLeaf F a1 mem = some q0) : g_Met l yX1_takeLeaf cX1_takeLeaf 2 (some .int) 2 D aC B yC 69 mem [.ref (B + 33), .int a1] (some (.int q0.1)) q0.2 := by
  refine g_ofW (by decide) (Nat.le_of_ble_eq_true rfl) ?_
  intro p e s m args below meth c ls E hml hret hlk hM hl
  have E : g_C p s m args c cX1_takeLeaf RX1 D aC (g_Zs (g_A B 69)) := E
  have hx := E.1
  have hb := E.2.1
  have hown := E.2.2.1
  have hts := E.2.2.2.1
  have hl : lv_has ls 2 [(0, .ref (B + 33)), (1, .int a1)] := hl
  unfold f1_takeLeaf at he
  refine lv_aload_n hx hb dX1_takeLeaf_0 rfl (lv_at hl 0 rfl) ?_
  obtain ⟨q1, hqq1, hq1, hYq1, he⟩ := g_dr_some he
  refine g_getD E hM (o := 33) (Nat.le_of_ble_eq_true rfl) rfl fl_X1_35 rfl hqq1 dX1_takeLeaf_1 ?_
  refine g_getI E hM (o := q1) hq1 hYq1 fl_X1_39 dX1_takeLeaf_4 ?_
  refine lv_bipush (v := (64 : Int32)) hx hb dX1_takeLeaf_7 rfl ?_
  refine lv_icmp_lt (tgt := 14) hx hb dX1_takeLeaf_9 (by decide) (fun h2 => ?_) (fun h2 => ?_)
  · rw [if_neg (Int32.not_le.mpr h2)] at he
    refine lv_aload_n hx hb dX1_takeLeaf_14 rfl (lv_at hl 0 rfl) ?_
    obtain ⟨q3, hqq3, hq3, hYq3, he⟩ := g_dr_some he
    refine g_getD E hM (o := 33) (Nat.le_of_ble_eq_true rfl) rfl fl_X1_35 rfl hqq3 dX1_takeLeaf_15 ?_
    refine lv_dup hx hb dX1_takeLeaf_18 rfl ?_
    refine g_getI E hM (o := q3) hq3 hYq3 fl_X1_39 dX1_takeLeaf_19 ?_
    refine lv_iconst (v := (1 : Int32)) hx hb dX1_takeLeaf_22 rfl ?_
    refine lv_iadd hx hb dX1_takeLeaf_23 ?_
    refine g_putI E hM (o := q3) hq3 hYq3 fp_X1_39 dX1_takeLeaf_24 (fun H locs hM => ?_)
    obtain ⟨m4, hm4, he⟩ := g_let_ex he
    rw [← hm4] at hM
    refine lv_aload_n hx hb dX1_takeLeaf_27 rfl (lv_at hl 0 rfl) ?_
    refine lv_iload_n hx hb dX1_takeLeaf_28 rfl (lv_at hl 1 rfl) ?_
    obtain ⟨r5, hcr5, he⟩ := g_bind he
    refine g_callV [.int a1] (rest := []) E hml hl.1 hM cv_X1_109 (c1_write l D aC B hcr5) (o := 33) (Nat.le_of_ble_eq_true rfl) rfl (by decide) rfl rfl (Nat.le_of_ble_eq_true rfl) dX1_takeLeaf_29 (fun H locs hM => ?_)
    refine W.eq (g2 := F0 m 32 ls []) rfl ?_
    refine lv_aload_n hx hb dX1_takeLeaf_32 rfl (lv_at hl 0 rfl) ?_
    refine lv_iconst (v := (0 : Int32)) hx hb dX1_takeLeaf_33 rfl ?_
    refine g_putZ E hM (o := 33) (Nat.le_of_ble_eq_true rfl) rfl fp_X1_27 (Or.inl rfl) dX1_takeLeaf_34 (fun H locs hM => ?_)
    obtain ⟨m6, hm6, he⟩ := g_let_ex he
    rw [← hm6] at hM
    refine lv_iconst (v := (0 : Int32)) hx hb dX1_takeLeaf_37 rfl ?_
    cases he
    exact g_iret E hM hret hlk dX1_takeLeaf_38
  · rw [if_pos (Int32.not_lt.mp h2)] at he
    refine lv_iconst (v := (2 : Int32)) hx hb dX1_takeLeaf_12 rfl ?_
    cases he
    exact g_iret E hM hret hlk dX1_takeLeaf_13

set_option maxHeartbeats 4000000 in
set_option maxRecDepth 100000 in
theorem w1_takeOperand_b59 (E : g_C p s m args c cX1_takeOperand RX1 D aC (g_Zs (g_A B 69))) (hml : c.maxLocals = 2) (hret : meth.sig.returnType = (some .int)) (hlk : meth.locks = false) {F : Nat} {q0 : Int32 × g_M} : ∀ (w0 : Int32) (mem : g_M) (H : Heap) (locs : List Loc) (ls : Array Slot), g_At D aC B yC 69 mem s.heap H locs → lv_has ls 2 [(0, .ref (B + 33))] → f1_takeOperand_b59 F w0 mem = some q0 → W p l e (g_rm 3) s m args below meth c H locs 0 0 (g_MQ below D aC B yC 69 args s (some (.int q0.1)) q0.2) (F0 m 59 ls [.int w0]) := by
  intro w0 mem H locs ls hM hl he
  unfold f1_takeOperand_b59 at he
  have hx := E.1
  have hb := E.2.1
  have hown := E.2.2.1
  have hts := E.2.2.2.1
  refine lv_istore_n (lv' := [(1, .int w0), (0, .ref (B + 33))]) hx hb dX1_takeOperand_59 rfl hl (by decide) rfl (fun ls hl => ?_)
  refine lv_iload_n hx hb dX1_takeOperand_60 rfl (lv_at hl 0 rfl) ?_
  refine lv_if_eq (tgt := 73) hx hb dX1_takeOperand_61 (by decide) (fun h1 => ?_) (fun h1 => ?_)
  · rw [if_pos h1] at he
    refine lv_iconst (v := (1 : Int32)) hx hb dX1_takeOperand_73 rfl ?_
    cases he
    exact g_iret E hM hret hlk dX1_takeOperand_74
  · rw [if_neg h1] at he
    refine lv_aload_n hx hb dX1_takeOperand_64 rfl (lv_at hl 1 rfl) ?_
    refine lv_bipush (v := (12 : Int32)) hx hb dX1_takeOperand_65 rfl ?_
    obtain ⟨r2, hcr2, he⟩ := g_bind he
    refine g_callV [.int (12 : Int32)] (rest := []) E hml hl.1 hM cv_X1_85 (c1_takeKnot l D aC B hcr2) (o := 33) (Nat.le_of_ble_eq_true rfl) rfl (by decide) rfl rfl (Nat.le_of_ble_eq_true rfl) dX1_takeOperand_67 (fun H locs hM => ?_)
    refine W.eq (g2 := F0 m 70 ls [.int r2.1]) rfl ?_
    refine lv_goto (tgt := 74) hx hb dX1_takeOperand_70 (by decide) ?_
    cases he
    exact g_iret E hM hret hlk dX1_takeOperand_74

set_option maxHeartbeats 4000000 in
set_option maxRecDepth 100000 in
theorem w1_takeOperand_b54 (E : g_C p s m args c cX1_takeOperand RX1 D aC (g_Zs (g_A B 69))) (hml : c.maxLocals = 2) (hret : meth.sig.returnType = (some .int)) (hlk : meth.locks = false) {F : Nat} {q0 : Int32 × g_M} : ∀ (mem : g_M) (H : Heap) (locs : List Loc) (ls : Array Slot), g_At D aC B yC 69 mem s.heap H locs → lv_has ls 2 [(0, .ref (B + 33))] → f1_takeOperand_b54 F mem = some q0 → W p l e (g_rm 3) s m args below meth c H locs 0 0 (g_MQ below D aC B yC 69 args s (some (.int q0.1)) q0.2) (F0 m 54 ls []) := by
  intro mem H locs ls hM hl he
  unfold f1_takeOperand_b54 at he
  have hx := E.1
  have hb := E.2.1
  have hown := E.2.2.1
  have hts := E.2.2.2.1
  refine lv_iconst (v := (1 : Int32)) hx hb dX1_takeOperand_54 rfl ?_
  refine lv_goto (tgt := 59) hx hb dX1_takeOperand_55 (by decide) ?_
  exact w1_takeOperand_b59 (F := F) E hml hret hlk _ _ _ _ _ hM (lv_sub hl [0] rfl) he

set_option maxHeartbeats 4000000 in
set_option maxRecDepth 100000 in
theorem c1_takeOperand (l : Launch) (D : va_G) (aC : Nat → ClassId) (B : Nat) {F : Nat} {mem : g_M} {q0 : Int32 × g_M} (he : f1_takeOperand F mem = some q0) : g_Met l yX1_takeOperand cX1_takeOperand 2 (some .int) 3 D aC B yC 69 mem [.ref (B + 33)] (some (.int q0.1)) q0.2 := by
  refine g_ofW (by decide) (Nat.le_of_ble_eq_true rfl) ?_
  intro p e s m args below meth c ls E hml hret hlk hM hl
  have E : g_C p s m args c cX1_takeOperand RX1 D aC (g_Zs (g_A B 69)) := E
  have hx := E.1
  have hb := E.2.1
  have hown := E.2.2.1
  have hts := E.2.2.2.1
  have hl : lv_has ls 2 [(0, .ref (B + 33))] := hl
  unfold f1_takeOperand at he
  refine lv_aload_n hx hb dX1_takeOperand_0 rfl (lv_at hl 0 rfl) ?_
  refine g_getP E hM (o := 33) (Nat.le_of_ble_eq_true rfl) rfl fl_X1_31 (q := 31) rfl dX1_takeOperand_1 ?_
  refine lv_bipush (v := (13 : Int32)) hx hb dX1_takeOperand_4 rfl ?_
  obtain ⟨r3, hcr3, he⟩ := g_bind he
  refine g_callV [.int (13 : Int32)] (rest := []) E hml hl.1 hM cv_X1_53 (c8_isSign l D aC B hcr3) (o := 31) (Nat.le_of_ble_eq_true rfl) rfl (by decide) rfl rfl (Nat.le_of_ble_eq_true rfl) dX1_takeOperand_6 (fun H locs hM => ?_)
  refine W.eq (g2 := F0 m 9 ls [.int r3]) rfl ?_
  refine lv_if_eq (tgt := 17) hx hb dX1_takeOperand_9 (by decide) (fun h4 => ?_) (fun h4 => ?_)
  · rw [if_pos h4] at he
    refine lv_aload_n hx hb dX1_takeOperand_17 rfl (lv_at hl 0 rfl) ?_
    refine g_getP E hM (o := 33) (Nat.le_of_ble_eq_true rfl) rfl fl_X1_31 (q := 31) rfl dX1_takeOperand_18 ?_
    refine lv_bipush (v := (14 : Int32)) hx hb dX1_takeOperand_21 rfl ?_
    obtain ⟨r6, hcr6, he⟩ := g_bind he
    refine g_callV [.int (14 : Int32)] (rest := []) E hml hl.1 hM cv_X1_78 (c8_isWord l D aC B hcr6) (o := 31) (Nat.le_of_ble_eq_true rfl) rfl (by decide) rfl rfl (Nat.le_of_ble_eq_true rfl) dX1_takeOperand_23 (fun H locs hM => ?_)
    refine W.eq (g2 := F0 m 26 ls [.int r6]) rfl ?_
    refine lv_if_eq (tgt := 75) hx hb dX1_takeOperand_26 (by decide) (fun h7 => ?_) (fun h7 => ?_)
    · rw [if_pos h7] at he
      refine lv_aload_n hx hb dX1_takeOperand_75 rfl (lv_at hl 0 rfl) ?_
      refine g_getP E hM (o := 33) (Nat.le_of_ble_eq_true rfl) rfl fl_X1_31 (q := 31) rfl dX1_takeOperand_76 ?_
      refine g_getI E hM (o := 31) (Nat.le_of_ble_eq_true rfl) rfl fl_X1_88 dX1_takeOperand_79 ?_
      refine lv_iconst (v := (1 : Int32)) hx hb dX1_takeOperand_82 rfl ?_
      refine lv_icmp_ne (tgt := 115) hx hb dX1_takeOperand_83 (by decide) (fun h12 => ?_) (fun h12 => ?_)
      · rw [if_neg h12] at he
        refine lv_aload_n hx hb dX1_takeOperand_115 rfl (lv_at hl 0 rfl) ?_
        refine g_getP E hM (o := 33) (Nat.le_of_ble_eq_true rfl) rfl fl_X1_31 (q := 31) rfl dX1_takeOperand_116 ?_
        refine g_getI E hM (o := 31) (Nat.le_of_ble_eq_true rfl) rfl fl_X1_88 dX1_takeOperand_119 ?_
        refine lv_iconst (v := (3 : Int32)) hx hb dX1_takeOperand_122 rfl ?_
        refine lv_icmp_ne (tgt := 157) hx hb dX1_takeOperand_123 (by decide) (fun h15 => ?_) (fun h15 => ?_)
        · rw [if_neg h15] at he
          refine lv_iconst (v := (1 : Int32)) hx hb dX1_takeOperand_157 rfl ?_
          cases he
          exact g_iret E hM hret hlk dX1_takeOperand_158
        · rw [if_pos h15] at he
          refine lv_aload_n hx hb dX1_takeOperand_126 rfl (lv_at hl 0 rfl) ?_
          refine g_getP E hM (o := 33) (Nat.le_of_ble_eq_true rfl) rfl fl_X1_31 (q := 31) rfl dX1_takeOperand_127 ?_
          refine g_getI E hM (o := 31) (Nat.le_of_ble_eq_true rfl) rfl fl_X1_91 dX1_takeOperand_130 ?_
          refine lv_bipush (v := (15 : Int32)) hx hb dX1_takeOperand_133 rfl ?_
          refine lv_icmp_lt (tgt := 157) hx hb dX1_takeOperand_135 (by decide) (fun h16 => ?_) (fun h16 => ?_)
          · rw [if_neg (Int32.not_le.mpr h16)] at he
            refine lv_iconst (v := (1 : Int32)) hx hb dX1_takeOperand_157 rfl ?_
            cases he
            exact g_iret E hM hret hlk dX1_takeOperand_158
          · rw [if_pos (Int32.not_lt.mp h16)] at he
            refine lv_aload_n hx hb dX1_takeOperand_138 rfl (lv_at hl 0 rfl) ?_
            refine lv_sipush (v := (10000 : Int32)) hx hb dX1_takeOperand_139 rfl ?_
            refine lv_aload_n hx hb dX1_takeOperand_142 rfl (lv_at hl 0 rfl) ?_
            refine g_getP E hM (o := 33) (Nat.le_of_ble_eq_true rfl) rfl fl_X1_31 (q := 31) rfl dX1_takeOperand_143 ?_
            refine g_getI E hM (o := 31) (Nat.le_of_ble_eq_true rfl) rfl fl_X1_91 dX1_takeOperand_146 ?_
            refine lv_iadd hx hb dX1_takeOperand_149 ?_
            refine lv_bipush (v := (15 : Int32)) hx hb dX1_takeOperand_150 rfl ?_
            refine lv_isub hx hb dX1_takeOperand_152 ?_
            obtain ⟨r17, hcr17, he⟩ := g_bind he
            refine g_callV [.int (((10000 : Int32) + (mem.1 31 2)) - (15 : Int32))] (rest := []) E hml hl.1 hM cv_X1_94 (c1_takeLeaf l D aC B hcr17) (o := 33) (Nat.le_of_ble_eq_true rfl) rfl (by decide) rfl rfl (Nat.le_of_ble_eq_true rfl) dX1_takeOperand_153 (fun H locs hM => ?_)
            refine W.eq (g2 := F0 m 156 ls [.int r17.1]) rfl ?_
            cases he
            exact g_iret E hM hret hlk dX1_takeOperand_156
      · rw [if_pos h12] at he
        refine lv_aload_n hx hb dX1_takeOperand_86 rfl (lv_at hl 0 rfl) ?_
        refine g_getP E hM (o := 33) (Nat.le_of_ble_eq_true rfl) rfl fl_X1_31 (q := 31) rfl dX1_takeOperand_87 ?_
        refine g_getI E hM (o := 31) (Nat.le_of_ble_eq_true rfl) rfl fl_X1_91 dX1_takeOperand_90 ?_
        refine lv_sipush (v := (9999 : Int32)) hx hb dX1_takeOperand_93 rfl ?_
        refine lv_icmp_le (tgt := 103) hx hb dX1_takeOperand_96 (by decide) (fun h13 => ?_) (fun h13 => ?_)
        · rw [if_neg (Int32.not_lt.mpr h13)] at he
          refine lv_aload_n hx hb dX1_takeOperand_103 rfl (lv_at hl 0 rfl) ?_
          refine lv_aload_n hx hb dX1_takeOperand_104 rfl (lv_at hl 0 rfl) ?_
          refine g_getP E hM (o := 33) (Nat.le_of_ble_eq_true rfl) rfl fl_X1_31 (q := 31) rfl dX1_takeOperand_105 ?_
          refine g_getI E hM (o := 31) (Nat.le_of_ble_eq_true rfl) rfl fl_X1_91 dX1_takeOperand_108 ?_
          obtain ⟨r14, hcr14, he⟩ := g_bind he
          refine g_callV [.int (mem.1 31 2)] (rest := []) E hml hl.1 hM cv_X1_94 (c1_takeLeaf l D aC B hcr14) (o := 33) (Nat.le_of_ble_eq_true rfl) rfl (by decide) rfl rfl (Nat.le_of_ble_eq_true rfl) dX1_takeOperand_111 (fun H locs hM => ?_)
          refine W.eq (g2 := F0 m 114 ls [.int r14.1]) rfl ?_
          cases he
          exact g_iret E hM hret hlk dX1_takeOperand_114
        · rw [if_pos (Int32.not_le.mp h13)] at he
          refine lv_iconst (v := (2 : Int32)) hx hb dX1_takeOperand_99 rfl ?_
          refine lv_goto (tgt := 114) hx hb dX1_takeOperand_100 (by decide) ?_
          cases he
          exact g_iret E hM hret hlk dX1_takeOperand_114
    · rw [if_neg h7] at he
      refine lv_aload_n hx hb dX1_takeOperand_29 rfl (lv_at hl 0 rfl) ?_
      refine g_getI E hM (o := 33) (Nat.le_of_ble_eq_true rfl) rfl fl_X1_17 dX1_takeOperand_30 ?_
      refine lv_if_eq (tgt := 54) hx hb dX1_takeOperand_33 (by decide) (fun h8 => ?_) (fun h8 => ?_)
      · rw [if_pos h8] at he
        exact w1_takeOperand_b54 (F := F) E hml hret hlk _ _ _ _ hM (lv_sub hl [0] rfl) he
      · rw [if_neg h8] at he
        refine lv_aload_n hx hb dX1_takeOperand_36 rfl (lv_at hl 0 rfl) ?_
        refine g_getP E hM (o := 33) (Nat.le_of_ble_eq_true rfl) rfl fl_X1_13 (q := 34) rfl dX1_takeOperand_37 ?_
        refine lv_aload_n hx hb dX1_takeOperand_40 rfl (lv_at hl 0 rfl) ?_
        refine g_getI E hM (o := 33) (Nat.le_of_ble_eq_true rfl) rfl fl_X1_17 dX1_takeOperand_41 ?_
        refine lv_iconst (v := (1 : Int32)) hx hb dX1_takeOperand_44 rfl ?_
        refine lv_isub hx hb dX1_takeOperand_45 ?_
        obtain ⟨h9, he⟩ := g_ck_some he
        refine g_iald E hM (o := 34) (Nat.le_of_ble_eq_true rfl) rfl h9 dX1_takeOperand_46 ?_
        obtain ⟨r10, hcr10, he⟩ := g_bind he
        refine g_callS [.int (mem.1 34 ((mem.1 33 1) - (1 : Int32)).toNatClampNeg)] (rest := []) E hml hl.1 hM cs_X1_81 (c1_rankOf l D aC B hcr10) (by decide) rfl rfl (Nat.le_of_ble_eq_true rfl) dX1_takeOperand_47 (fun H locs hM => ?_)
        refine W.eq (g2 := F0 m 50 ls [.int r10]) rfl ?_
        refine lv_iconst (v := (3 : Int32)) hx hb dX1_takeOperand_50 rfl ?_
        refine lv_icmp_gt (tgt := 58) hx hb dX1_takeOperand_51 (by decide) (fun h11 => ?_) (fun h11 => ?_)
        · rw [if_neg (Int32.not_le.mpr h11)] at he
          refine lv_iconst (v := (0 : Int32)) hx hb dX1_takeOperand_58 rfl ?_
          exact w1_takeOperand_b59 (F := F) E hml hret hlk _ _ _ _ _ hM (lv_sub hl [0] rfl) he
        · rw [if_pos (Int32.not_lt.mp h11)] at he
          exact w1_takeOperand_b54 (F := F) E hml hret hlk _ _ _ _ hM (lv_sub hl [0] rfl) he
  · rw [if_neg h4] at he
    refine lv_aload_n hx hb dX1_takeOperand_12 rfl (lv_at hl 0 rfl) ?_
    obtain ⟨r5, hcr5, he⟩ := g_bind he
    refine g_callV [] (rest := []) E hml hl.1 hM cv_X1_75 (c1_takeOpen l D aC B hcr5) (o := 33) (Nat.le_of_ble_eq_true rfl) rfl (by decide) rfl rfl (Nat.le_of_ble_eq_true rfl) dX1_takeOperand_13 (fun H locs hM => ?_)
    refine W.eq (g2 := F0 m 16 ls [.int r5.1]) rfl ?_
    cases he
    exact g_iret E hM hret hlk dX1_takeOperand_16

set_option maxHeartbeats 4000000 in
set_option maxRecDepth 100000 in
theorem w1_writeWaiting_b0_body (E : g_C p s m args c cX1_writeWaiting RX1 D aC (g_Zs (g_A B 69))) (hml : c.maxLocals = 2) (hret : meth.sig.returnType = none) (hlk : meth.locks = false) {F : Nat} {q0 : g_M} {a1 : Int32} {s0 : g_M → Option (g_M)} (hs0 : ∀ (mem : g_M) (H : Heap) (locs : List Loc) (ls : Array Slot), g_At D aC B yC 69 mem s.heap H locs → lv_has ls 2 [(0, .ref (B + 33)), (1, .int a1)] → s0 mem = some q0 → W p l e (g_rm 2) s m args below meth c H locs 0 0 (g_MQ below D aC B yC 69 args s none q0) (F0 m 0 ls [])) : ∀ (mem : g_M) (H : Heap) (locs : List Loc) (ls : Array Slot), g_At D aC B yC 69 mem s.heap H locs → lv_has ls 2 [(0, .ref (B + 33)), (1, .int a1)] → f1_writeWaiting_b0_body F a1 s0 mem = some q0 → W p l e (g_rm 2) s m args below meth c H locs 0 0 (g_MQ below D aC B yC 69 args s none q0) (F0 m 0 ls []) := by
  intro mem H locs ls hM hl he
  unfold f1_writeWaiting_b0_body at he
  have hx := E.1
  have hb := E.2.1
  have hown := E.2.2.1
  have hts := E.2.2.2.1
  refine lv_aload_n hx hb dX1_writeWaiting_0 rfl (lv_at hl 0 rfl) ?_
  refine g_getI E hM (o := 33) (Nat.le_of_ble_eq_true rfl) rfl fl_X1_17 dX1_writeWaiting_1 ?_
  refine lv_if_le (tgt := 55) hx hb dX1_writeWaiting_4 (by decide) (fun h1 => ?_) (fun h1 => ?_)
  · rw [if_neg (Int32.not_lt.mpr h1)] at he
    cases he
    exact g_vret E hM hret hlk dX1_writeWaiting_55
  · rw [if_pos (Int32.not_le.mp h1)] at he
    refine lv_aload_n hx hb dX1_writeWaiting_7 rfl (lv_at hl 0 rfl) ?_
    refine g_getP E hM (o := 33) (Nat.le_of_ble_eq_true rfl) rfl fl_X1_13 (q := 34) rfl dX1_writeWaiting_8 ?_
    refine lv_aload_n hx hb dX1_writeWaiting_11 rfl (lv_at hl 0 rfl) ?_
    refine g_getI E hM (o := 33) (Nat.le_of_ble_eq_true rfl) rfl fl_X1_17 dX1_writeWaiting_12 ?_
    refine lv_iconst (v := (1 : Int32)) hx hb dX1_writeWaiting_15 rfl ?_
    refine lv_isub hx hb dX1_writeWaiting_16 ?_
    obtain ⟨h2, he⟩ := g_ck_some he
    refine g_iald E hM (o := 34) (Nat.le_of_ble_eq_true rfl) rfl h2 dX1_writeWaiting_17 ?_
    obtain ⟨r3, hcr3, he⟩ := g_bind he
    refine g_callS [.int (mem.1 34 ((mem.1 33 1) - (1 : Int32)).toNatClampNeg)] (rest := []) E hml hl.1 hM cs_X1_81 (c1_rankOf l D aC B hcr3) (by decide) rfl rfl (Nat.le_of_ble_eq_true rfl) dX1_writeWaiting_18 (fun H locs hM => ?_)
    refine W.eq (g2 := F0 m 21 ls [.int r3]) rfl ?_
    refine lv_iload_n hx hb dX1_writeWaiting_21 rfl (lv_at hl 1 rfl) ?_
    refine lv_icmp_lt (tgt := 55) hx hb dX1_writeWaiting_22 (by decide) (fun h4 => ?_) (fun h4 => ?_)
    · rw [if_neg (Int32.not_le.mpr h4)] at he
      cases he
      exact g_vret E hM hret hlk dX1_writeWaiting_55
    · rw [if_pos (Int32.not_lt.mp h4)] at he
      refine lv_aload_n hx hb dX1_writeWaiting_25 rfl (lv_at hl 0 rfl) ?_
      refine lv_dup hx hb dX1_writeWaiting_26 rfl ?_
      refine g_getI E hM (o := 33) (Nat.le_of_ble_eq_true rfl) rfl fl_X1_17 dX1_writeWaiting_27 ?_
      refine lv_iconst (v := (1 : Int32)) hx hb dX1_writeWaiting_30 rfl ?_
      refine lv_isub hx hb dX1_writeWaiting_31 ?_
      refine g_putI E hM (o := 33) (Nat.le_of_ble_eq_true rfl) rfl fp_X1_17 dX1_writeWaiting_32 (fun H locs hM => ?_)
      obtain ⟨m5, hm5, he⟩ := g_let_ex he
      rw [← hm5] at hM
      refine lv_aload_n hx hb dX1_writeWaiting_35 rfl (lv_at hl 0 rfl) ?_
      refine lv_sipush (v := (10007 : Int32)) hx hb dX1_writeWaiting_36 rfl ?_
      refine lv_aload_n hx hb dX1_writeWaiting_39 rfl (lv_at hl 0 rfl) ?_
      refine g_getP E hM (o := 33) (Nat.le_of_ble_eq_true rfl) rfl fl_X1_13 (q := 34) rfl dX1_writeWaiting_40 ?_
      refine lv_aload_n hx hb dX1_writeWaiting_43 rfl (lv_at hl 0 rfl) ?_
      refine g_getI E hM (o := 33) (Nat.le_of_ble_eq_true rfl) rfl fl_X1_17 dX1_writeWaiting_44 ?_
      obtain ⟨h6, he⟩ := g_ck_some he
      refine g_iald E hM (o := 34) (Nat.le_of_ble_eq_true rfl) rfl h6 dX1_writeWaiting_47 ?_
      refine lv_iadd hx hb dX1_writeWaiting_48 ?_
      obtain ⟨r7, hcr7, he⟩ := g_bind he
      refine g_callV [.int ((10007 : Int32) + (m5.1 34 (m5.1 33 1).toNatClampNeg))] (rest := []) E hml hl.1 hM cv_X1_109 (c1_write l D aC B hcr7) (o := 33) (Nat.le_of_ble_eq_true rfl) rfl (by decide) rfl rfl (Nat.le_of_ble_eq_true rfl) dX1_writeWaiting_49 (fun H locs hM => ?_)
      refine W.eq (g2 := F0 m 52 ls []) rfl ?_
      refine lv_goto (tgt := 0) hx hb dX1_writeWaiting_52 (by decide) ?_
      exact hs0 _ _ _ _ hM (lv_sub hl [0, 1] rfl) he

set_option maxHeartbeats 4000000 in
set_option maxRecDepth 100000 in
theorem w1_writeWaiting_b0 (E : g_C p s m args c cX1_writeWaiting RX1 D aC (g_Zs (g_A B 69))) (hml : c.maxLocals = 2) (hret : meth.sig.returnType = none) (hlk : meth.locks = false) {F : Nat} {q0 : g_M} {a1 : Int32} : ∀ (mem : g_M) (H : Heap) (locs : List Loc) (ls : Array Slot), g_At D aC B yC 69 mem s.heap H locs → lv_has ls 2 [(0, .ref (B + 33)), (1, .int a1)] → f1_writeWaiting_b0 F a1 mem = some q0 → W p l e (g_rm 2) s m args below meth c H locs 0 0 (g_MQ below D aC B yC 69 args s none q0) (F0 m 0 ls []) := by
  have key : ∀ (nn : Nat) (x : g_M) (H : Heap) (locs : List Loc) (ls : Array Slot), g_At D aC B yC 69 x s.heap H locs → lv_has ls 2 [(0, .ref (B + 33)), (1, .int a1)] → g_fix (fun sf x => f1_writeWaiting_b0_body F a1 (fun mem => sf mem) x) nn x = some q0 → W p l e (g_rm 2) s m args below meth c H locs 0 0 (g_MQ below D aC B yC 69 args s none q0) (F0 m 0 ls []) := by
    intro nn
    induction nn with
    | zero => intro x H locs ls hM hl he; simp [g_fix] at he
    | succ nn ih =>
      intro x H locs ls hM hl he
      exact w1_writeWaiting_b0_body (F := F) (a1 := a1) E hml hret hlk (fun mem H locs ls hM hl he => ih mem H locs ls hM hl he) x H locs ls hM hl he
  intro mem H locs ls hM hl he
  exact key F mem H locs ls hM hl he

set_option maxHeartbeats 4000000 in
set_option maxRecDepth 100000 in
theorem c1_writeWaiting (l : Launch) (D : va_G) (aC : Nat → ClassId) (B : Nat) {F : Nat} {a1 : Int32} {mem : g_M} {q0 : g_M} (he : f1_writeWaiting F a1 mem = some q0) : g_Met l yX1_writeWaiting cX1_writeWaiting 2 none 2 D aC B yC 69 mem [.ref (B + 33), .int a1] none q0 := by
  refine g_ofW (by decide) (Nat.le_of_ble_eq_true rfl) ?_
  intro p e s m args below meth c ls E hml hret hlk hM hl
  have E : g_C p s m args c cX1_writeWaiting RX1 D aC (g_Zs (g_A B 69)) := E
  have hx := E.1
  have hb := E.2.1
  have hown := E.2.2.1
  have hts := E.2.2.2.1
  have hl : lv_has ls 2 [(0, .ref (B + 33)), (1, .int a1)] := hl
  unfold f1_writeWaiting at he
  exact w1_writeWaiting_b0 (F := F) (a1 := a1) E hml hret hlk _ _ _ _ hM (lv_sub hl [0, 1] rfl) he

set_option maxHeartbeats 4000000 in
set_option maxRecDepth 100000 in
theorem c1_takeClose (l : Launch) (D : va_G) (aC : Nat → ClassId) (B : Nat) {F : Nat} {mem : g_M} {q0 : Int32 × g_M} (he : f1_takeClose F mem = some q0) : g_Met l yX1_takeClose cX1_takeClose 1 (some .int) 3 D aC B yC 69 mem [.ref (B + 33)] (some (.int q0.1)) q0.2 := by
  refine g_ofW (by decide) (Nat.le_of_ble_eq_true rfl) ?_
  intro p e s m args below meth c ls E hml hret hlk hM hl
  have E : g_C p s m args c cX1_takeClose RX1 D aC (g_Zs (g_A B 69)) := E
  have hx := E.1
  have hb := E.2.1
  have hown := E.2.2.1
  have hts := E.2.2.2.1
  have hl : lv_has ls 1 [(0, .ref (B + 33))] := hl
  unfold f1_takeClose at he
  refine lv_aload_n hx hb dX1_takeClose_0 rfl (lv_at hl 0 rfl) ?_
  refine g_getI E hM (o := 33) (Nat.le_of_ble_eq_true rfl) rfl fl_X1_21 dX1_takeClose_1 ?_
  refine lv_iconst (v := (1 : Int32)) hx hb dX1_takeClose_4 rfl ?_
  refine lv_icmp_ge (tgt := 10) hx hb dX1_takeClose_5 (by decide) (fun h1 => ?_) (fun h1 => ?_)
  · rw [if_neg (Int32.not_lt.mpr h1)] at he
    refine lv_aload_n hx hb dX1_takeClose_10 rfl (lv_at hl 0 rfl) ?_
    refine lv_dup hx hb dX1_takeClose_11 rfl ?_
    refine g_getI E hM (o := 33) (Nat.le_of_ble_eq_true rfl) rfl fl_X1_21 dX1_takeClose_12 ?_
    refine lv_iconst (v := (1 : Int32)) hx hb dX1_takeClose_15 rfl ?_
    refine lv_isub hx hb dX1_takeClose_16 ?_
    refine g_putI E hM (o := 33) (Nat.le_of_ble_eq_true rfl) rfl fp_X1_21 dX1_takeClose_17 (fun H locs hM => ?_)
    obtain ⟨m2, hm2, he⟩ := g_let_ex he
    rw [← hm2] at hM
    refine lv_aload_n hx hb dX1_takeClose_20 rfl (lv_at hl 0 rfl) ?_
    refine lv_iconst (v := (1 : Int32)) hx hb dX1_takeClose_21 rfl ?_
    obtain ⟨r3, hcr3, he⟩ := g_bind he
    refine g_callV [.int (1 : Int32)] (rest := []) E hml hl.1 hM cv_X1_68 (c1_writeWaiting l D aC B hcr3) (o := 33) (Nat.le_of_ble_eq_true rfl) rfl (by decide) rfl rfl (Nat.le_of_ble_eq_true rfl) dX1_takeClose_22 (fun H locs hM => ?_)
    refine W.eq (g2 := F0 m 25 ls []) rfl ?_
    refine lv_aload_n hx hb dX1_takeClose_25 rfl (lv_at hl 0 rfl) ?_
    refine lv_iconst (v := (0 : Int32)) hx hb dX1_takeClose_26 rfl ?_
    refine lv_aload_n hx hb dX1_takeClose_27 rfl (lv_at hl 0 rfl) ?_
    refine g_getI E hM (o := 33) (Nat.le_of_ble_eq_true rfl) rfl fl_X1_17 dX1_takeClose_28 ?_
    refine lv_iconst (v := (1 : Int32)) hx hb dX1_takeClose_31 rfl ?_
    refine lv_isub hx hb dX1_takeClose_32 ?_
    refine va_mmax hx hb (hml.trans hl.1.symm) hown (hts _ mm_X1_103) (hts _ km_max.1) (hts _ ki_Math) (hts _ km_max.2) (Nat.le_of_ble_eq_true rfl) (Nat.le_of_ble_eq_true rfl) (Nat.zero_le _) (Nat.zero_le _) dX1_takeClose_33 ?_
    refine g_putI E hM (o := 33) (Nat.le_of_ble_eq_true rfl) rfl fp_X1_17 dX1_takeClose_36 (fun H locs hM => ?_)
    obtain ⟨m4, hm4, he⟩ := g_let_ex he
    rw [← hm4] at hM
    refine lv_iconst (v := (0 : Int32)) hx hb dX1_takeClose_39 rfl ?_
    cases he
    exact g_iret E hM hret hlk dX1_takeClose_40
  · rw [if_pos (Int32.not_le.mp h1)] at he
    refine lv_iconst (v := (1 : Int32)) hx hb dX1_takeClose_8 rfl ?_
    cases he
    exact g_iret E hM hret hlk dX1_takeClose_9

set_option maxHeartbeats 4000000 in
set_option maxRecDepth 100000 in
theorem w1_operatorHere_b31 (E : g_C p s m args c cX1_operatorHere RX1 D aC (g_Zs (g_A B 69))) (hml : c.maxLocals = 1) (hret : meth.sig.returnType = (some .int)) (hlk : meth.locks = false) {F : Nat} {q0 : Int32} {mem : g_M} : ∀ (H : Heap) (locs : List Loc) (ls : Array Slot), g_At D aC B yC 69 mem s.heap H locs → lv_has ls 1 [(0, .ref (B + 33))] → f1_operatorHere_b31 F mem = some q0 → W p l e (g_rm 2) s m args below meth c H locs 0 0 (g_MQ below D aC B yC 69 args s (some (.int q0)) mem) (F0 m 31 ls []) := by
  intro H locs ls hM hl he
  unfold f1_operatorHere_b31 at he
  have hx := E.1
  have hb := E.2.1
  have hown := E.2.2.1
  have hts := E.2.2.2.1
  refine lv_aload_n hx hb dX1_operatorHere_31 rfl (lv_at hl 0 rfl) ?_
  refine g_getP E hM (o := 33) (Nat.le_of_ble_eq_true rfl) rfl fl_X1_31 (q := 31) rfl dX1_operatorHere_32 ?_
  refine lv_bipush (v := (13 : Int32)) hx hb dX1_operatorHere_35 rfl ?_
  obtain ⟨r1, hcr1, he⟩ := g_bind he
  refine g_callV [.int (13 : Int32)] (rest := []) E hml hl.1 hM cv_X1_78 (c8_isWord l D aC B hcr1) (o := 31) (Nat.le_of_ble_eq_true rfl) rfl (by decide) rfl rfl (Nat.le_of_ble_eq_true rfl) dX1_operatorHere_37 (fun H locs hM => ?_)
  refine W.eq (g2 := F0 m 40 ls [.int r1]) rfl ?_
  refine lv_if_eq (tgt := 46) hx hb dX1_operatorHere_40 (by decide) (fun h2 => ?_) (fun h2 => ?_)
  · rw [if_pos h2] at he
    refine lv_aload_n hx hb dX1_operatorHere_46 rfl (lv_at hl 0 rfl) ?_
    refine g_getP E hM (o := 33) (Nat.le_of_ble_eq_true rfl) rfl fl_X1_31 (q := 31) rfl dX1_operatorHere_47 ?_
    refine lv_bipush (v := (12 : Int32)) hx hb dX1_operatorHere_50 rfl ?_
    obtain ⟨r3, hcr3, he⟩ := g_bind he
    refine g_callV [.int (12 : Int32)] (rest := []) E hml hl.1 hM cv_X1_78 (c8_isWord l D aC B hcr3) (o := 31) (Nat.le_of_ble_eq_true rfl) rfl (by decide) rfl rfl (Nat.le_of_ble_eq_true rfl) dX1_operatorHere_52 (fun H locs hM => ?_)
    refine W.eq (g2 := F0 m 55 ls [.int r3]) rfl ?_
    refine lv_if_eq (tgt := 63) hx hb dX1_operatorHere_55 (by decide) (fun h4 => ?_) (fun h4 => ?_)
    · rw [if_pos h4] at he
      refine lv_iconst (v := (-1 : Int32)) hx hb dX1_operatorHere_63 rfl ?_
      cases he
      exact g_iret E hM hret hlk dX1_operatorHere_64
    · rw [if_neg h4] at he
      refine lv_bipush (v := (11 : Int32)) hx hb dX1_operatorHere_58 rfl ?_
      refine lv_goto (tgt := 64) hx hb dX1_operatorHere_60 (by decide) ?_
      cases he
      exact g_iret E hM hret hlk dX1_operatorHere_64
  · rw [if_neg h2] at he
    refine lv_bipush (v := (10 : Int32)) hx hb dX1_operatorHere_43 rfl ?_
    cases he
    exact g_iret E hM hret hlk dX1_operatorHere_45

set_option maxHeartbeats 4000000 in
set_option maxRecDepth 100000 in
theorem c1_operatorHere (l : Launch) (D : va_G) (aC : Nat → ClassId) (B : Nat) {F : Nat} {mem : g_M} {q0 : Int32} (he : f1_operatorHere F mem = some q0) : g_Met l yX1_operatorHere cX1_operatorHere 1 (some .int) 2 D aC B yC 69 mem [.ref (B + 33)] (some (.int q0)) mem := by
  refine g_ofW (by decide) (Nat.le_of_ble_eq_true rfl) ?_
  intro p e s m args below meth c ls E hml hret hlk hM hl
  have E : g_C p s m args c cX1_operatorHere RX1 D aC (g_Zs (g_A B 69)) := E
  have hx := E.1
  have hb := E.2.1
  have hown := E.2.2.1
  have hts := E.2.2.2.1
  have hl : lv_has ls 1 [(0, .ref (B + 33))] := hl
  unfold f1_operatorHere at he
  refine lv_aload_n hx hb dX1_operatorHere_0 rfl (lv_at hl 0 rfl) ?_
  refine g_getP E hM (o := 33) (Nat.le_of_ble_eq_true rfl) rfl fl_X1_31 (q := 31) rfl dX1_operatorHere_1 ?_
  refine g_getI E hM (o := 31) (Nat.le_of_ble_eq_true rfl) rfl fl_X1_88 dX1_operatorHere_4 ?_
  refine lv_iconst (v := (4 : Int32)) hx hb dX1_operatorHere_7 rfl ?_
  refine lv_icmp_ne (tgt := 31) hx hb dX1_operatorHere_8 (by decide) (fun h5 => ?_) (fun h5 => ?_)
  · rw [if_neg h5] at he
    exact w1_operatorHere_b31 (F := F) E hml hret hlk _ _ _ hM (lv_sub hl [0] rfl) he
  · rw [if_pos h5] at he
    refine lv_aload_n hx hb dX1_operatorHere_11 rfl (lv_at hl 0 rfl) ?_
    refine g_getP E hM (o := 33) (Nat.le_of_ble_eq_true rfl) rfl fl_X1_31 (q := 31) rfl dX1_operatorHere_12 ?_
    refine g_getI E hM (o := 31) (Nat.le_of_ble_eq_true rfl) rfl fl_X1_91 dX1_operatorHere_15 ?_
    refine lv_bipush (v := (9 : Int32)) hx hb dX1_operatorHere_18 rfl ?_
    refine lv_icmp_gt (tgt := 31) hx hb dX1_operatorHere_20 (by decide) (fun h6 => ?_) (fun h6 => ?_)
    · rw [if_neg (Int32.not_le.mpr h6)] at he
      exact w1_operatorHere_b31 (F := F) E hml hret hlk _ _ _ hM (lv_sub hl [0] rfl) he
    · rw [if_pos (Int32.not_lt.mp h6)] at he
      refine lv_aload_n hx hb dX1_operatorHere_23 rfl (lv_at hl 0 rfl) ?_
      refine g_getP E hM (o := 33) (Nat.le_of_ble_eq_true rfl) rfl fl_X1_31 (q := 31) rfl dX1_operatorHere_24 ?_
      refine g_getI E hM (o := 31) (Nat.le_of_ble_eq_true rfl) rfl fl_X1_91 dX1_operatorHere_27 ?_
      cases he
      exact g_iret E hM hret hlk dX1_operatorHere_30

set_option maxHeartbeats 4000000 in
set_option maxRecDepth 100000 in
theorem w1_takeOperator_b64 (E : g_C p s m args c cX1_takeOperator RX1 D aC (g_Zs (g_A B 69))) (hml : c.maxLocals = 3) (hret : meth.sig.returnType = (some .int)) (hlk : meth.locks = false) {F : Nat} {q0 : Int32 × g_M} : ∀ (v1 : Int32) (mem : g_M) (H : Heap) (locs : List Loc) (ls : Array Slot), g_At D aC B yC 69 mem s.heap H locs → lv_has ls 3 [(0, .ref (B + 33)), (1, .int v1)] → f1_takeOperator_b64 F v1 mem = some q0 → W p l e (g_rm 3) s m args below meth c H locs 0 0 (g_MQ below D aC B yC 69 args s (some (.int q0.1)) q0.2) (F0 m 64 ls []) := by
  intro v1 mem H locs ls hM hl he
  unfold f1_takeOperator_b64 at he
  have hx := E.1
  have hb := E.2.1
  have hown := E.2.2.1
  have hts := E.2.2.2.1
  refine lv_aload_n hx hb dX1_takeOperator_64 rfl (lv_at hl 0 rfl) ?_
  refine lv_iconst (v := (1 : Int32)) hx hb dX1_takeOperator_65 rfl ?_
  refine g_putZ E hM (o := 33) (Nat.le_of_ble_eq_true rfl) rfl fp_X1_27 (Or.inr rfl) dX1_takeOperator_66 (fun H locs hM => ?_)
  obtain ⟨m1, hm1, he⟩ := g_let_ex he
  rw [← hm1] at hM
  refine lv_aload_n hx hb dX1_takeOperator_69 rfl (lv_at hl 0 rfl) ?_
  refine lv_iload_n hx hb dX1_takeOperator_70 rfl (lv_at hl 1 rfl) ?_
  obtain ⟨r2, hcr2, he⟩ := g_bind he
  refine g_callV [.int v1] (rest := []) E hml hl.1 hM cv_X1_85 (c1_takeKnot l D aC B hcr2) (o := 33) (Nat.le_of_ble_eq_true rfl) rfl (by decide) rfl rfl (Nat.le_of_ble_eq_true rfl) dX1_takeOperator_71 (fun H locs hM => ?_)
  refine W.eq (g2 := F0 m 74 ls [.int r2.1]) rfl ?_
  cases he
  exact g_iret E hM hret hlk dX1_takeOperator_74

set_option maxHeartbeats 4000000 in
set_option maxRecDepth 100000 in
theorem c1_takeOperator (l : Launch) (D : va_G) (aC : Nat → ClassId) (B : Nat) {F : Nat} {mem : g_M} {q0 : Int32 × g_M} (he : f1_takeOperator F mem = some q0) : g_Met l yX1_takeOperator cX1_takeOperator 3 (some .int) 3 D aC B yC 69 mem [.ref (B + 33)] (some (.int q0.1)) q0.2 := by
  refine g_ofW (by decide) (Nat.le_of_ble_eq_true rfl) ?_
  intro p e s m args below meth c ls E hml hret hlk hM hl
  have E : g_C p s m args c cX1_takeOperator RX1 D aC (g_Zs (g_A B 69)) := E
  have hx := E.1
  have hb := E.2.1
  have hown := E.2.2.1
  have hts := E.2.2.2.1
  have hl : lv_has ls 3 [(0, .ref (B + 33))] := hl
  unfold f1_takeOperator at he
  refine lv_aload_n hx hb dX1_takeOperator_0 rfl (lv_at hl 0 rfl) ?_
  obtain ⟨r3, hcr3, he⟩ := g_bind he
  refine g_callV [] (rest := []) E hml hl.1 hM cv_X1_100 (c1_operatorHere l D aC B hcr3) (o := 33) (Nat.le_of_ble_eq_true rfl) rfl (by decide) rfl rfl (Nat.le_of_ble_eq_true rfl) dX1_takeOperator_1 (fun H locs hM => ?_)
  refine W.eq (g2 := F0 m 4 ls [.int r3]) rfl ?_
  refine lv_istore_n (lv' := [(1, .int r3), (0, .ref (B + 33))]) hx hb dX1_takeOperator_4 rfl hl (by decide) rfl (fun ls hl => ?_)
  refine lv_iload_n hx hb dX1_takeOperator_5 rfl (lv_at hl 0 rfl) ?_
  refine lv_iconst (v := (-1 : Int32)) hx hb dX1_takeOperator_6 rfl ?_
  refine lv_icmp_ne (tgt := 12) hx hb dX1_takeOperator_7 (by decide) (fun h4 => ?_) (fun h4 => ?_)
  · rw [if_neg h4] at he
    refine lv_iload_n hx hb dX1_takeOperator_12 rfl (lv_at hl 0 rfl) ?_
    obtain ⟨r5, hcr5, he⟩ := g_bind he
    refine g_callS [.int r3] (rest := []) E hml hl.1 hM cs_X1_81 (c1_rankOf l D aC B hcr5) (by decide) rfl rfl (Nat.le_of_ble_eq_true rfl) dX1_takeOperator_13 (fun H locs hM => ?_)
    refine W.eq (g2 := F0 m 16 ls [.int r5]) rfl ?_
    refine lv_istore_n (lv' := [(2, .int r5), (1, .int r3), (0, .ref (B + 33))]) hx hb dX1_takeOperator_16 rfl hl (by decide) rfl (fun ls hl => ?_)
    refine lv_iload_n hx hb dX1_takeOperator_17 rfl (lv_at hl 0 rfl) ?_
    refine lv_iconst (v := (4 : Int32)) hx hb dX1_takeOperator_18 rfl ?_
    refine lv_icmp_eq (tgt := 30) hx hb dX1_takeOperator_19 (by decide) (fun h6 => ?_) (fun h6 => ?_)
    · rw [if_pos h6] at he
      refine lv_aload_n hx hb dX1_takeOperator_30 rfl (lv_at hl 2 rfl) ?_
      refine lv_iload_n hx hb dX1_takeOperator_31 rfl (lv_at hl 0 rfl) ?_
      refine lv_iconst (v := (1 : Int32)) hx hb dX1_takeOperator_32 rfl ?_
      refine lv_iadd hx hb dX1_takeOperator_33 ?_
      obtain ⟨r8, hcr8, he⟩ := g_bind he
      refine g_callV [.int (r5 + (1 : Int32))] (rest := []) E hml hl.1 hM cv_X1_68 (c1_writeWaiting l D aC B hcr8) (o := 33) (Nat.le_of_ble_eq_true rfl) rfl (by decide) rfl rfl (Nat.le_of_ble_eq_true rfl) dX1_takeOperator_34 (fun H locs hM => ?_)
      refine W.eq (g2 := F0 m 37 ls []) rfl ?_
      refine lv_aload_n hx hb dX1_takeOperator_37 rfl (lv_at hl 2 rfl) ?_
      refine g_getI E hM (o := 33) (Nat.le_of_ble_eq_true rfl) rfl fl_X1_17 dX1_takeOperator_38 ?_
      refine lv_if_le (tgt := 64) hx hb dX1_takeOperator_41 (by decide) (fun h9 => ?_) (fun h9 => ?_)
      · rw [if_neg (Int32.not_lt.mpr h9)] at he
        exact w1_takeOperator_b64 (F := F) E hml hret hlk _ _ _ _ _ hM (lv_sub hl [2, 1] rfl) he
      · rw [if_pos (Int32.not_le.mp h9)] at he
        refine lv_aload_n hx hb dX1_takeOperator_44 rfl (lv_at hl 2 rfl) ?_
        refine g_getP E hM (o := 33) (Nat.le_of_ble_eq_true rfl) rfl fl_X1_13 (q := 34) rfl dX1_takeOperator_45 ?_
        refine lv_aload_n hx hb dX1_takeOperator_48 rfl (lv_at hl 2 rfl) ?_
        refine g_getI E hM (o := 33) (Nat.le_of_ble_eq_true rfl) rfl fl_X1_17 dX1_takeOperator_49 ?_
        refine lv_iconst (v := (1 : Int32)) hx hb dX1_takeOperator_52 rfl ?_
        refine lv_isub hx hb dX1_takeOperator_53 ?_
        obtain ⟨h10, he⟩ := g_ck_some he
        refine g_iald E hM (o := 34) (Nat.le_of_ble_eq_true rfl) rfl h10 dX1_takeOperator_54 ?_
        obtain ⟨r11, hcr11, he⟩ := g_bind he
        refine g_callS [.int (r8.1 34 ((r8.1 33 1) - (1 : Int32)).toNatClampNeg)] (rest := []) E hml hl.1 hM cs_X1_81 (c1_rankOf l D aC B hcr11) (by decide) rfl rfl (Nat.le_of_ble_eq_true rfl) dX1_takeOperator_55 (fun H locs hM => ?_)
        refine W.eq (g2 := F0 m 58 ls [.int r11]) rfl ?_
        refine lv_iload_n hx hb dX1_takeOperator_58 rfl (lv_at hl 0 rfl) ?_
        refine lv_icmp_ne (tgt := 64) hx hb dX1_takeOperator_59 (by decide) (fun h12 => ?_) (fun h12 => ?_)
        · rw [if_neg h12] at he
          exact w1_takeOperator_b64 (F := F) E hml hret hlk _ _ _ _ _ hM (lv_sub hl [2, 1] rfl) he
        · rw [if_pos h12] at he
          refine lv_iconst (v := (1 : Int32)) hx hb dX1_takeOperator_62 rfl ?_
          cases he
          exact g_iret E hM hret hlk dX1_takeOperator_63
    · rw [if_neg h6] at he
      refine lv_aload_n hx hb dX1_takeOperator_22 rfl (lv_at hl 2 rfl) ?_
      refine lv_iload_n hx hb dX1_takeOperator_23 rfl (lv_at hl 0 rfl) ?_
      obtain ⟨r7, hcr7, he⟩ := g_bind he
      refine g_callV [.int r5] (rest := []) E hml hl.1 hM cv_X1_68 (c1_writeWaiting l D aC B hcr7) (o := 33) (Nat.le_of_ble_eq_true rfl) rfl (by decide) rfl rfl (Nat.le_of_ble_eq_true rfl) dX1_takeOperator_24 (fun H locs hM => ?_)
      refine W.eq (g2 := F0 m 27 ls []) rfl ?_
      refine lv_goto (tgt := 64) hx hb dX1_takeOperator_27 (by decide) ?_
      exact w1_takeOperator_b64 (F := F) E hml hret hlk _ _ _ _ _ hM (lv_sub hl [2, 1] rfl) he
  · rw [if_pos h4] at he
    refine lv_iconst (v := (1 : Int32)) hx hb dX1_takeOperator_10 rfl ?_
    cases he
    exact g_iret E hM hret hlk dX1_takeOperator_11

set_option maxHeartbeats 4000000 in
set_option maxRecDepth 100000 in
theorem c8_isLetter (l : Launch) (D : va_G) (aC : Nat → ClassId) (B : Nat) {F : Nat} {a0 : Int32} {mem : g_M} {q0 : Int32} (he : f8_isLetter F a0 mem = some q0) : g_Met l yX8_isLetter cX8_isLetter 1 (some .boolean) 1 D aC B yC 69 mem [.int a0] (some (.int q0)) mem := by
  refine g_ofW (by decide) (Nat.le_of_ble_eq_true rfl) ?_
  intro p e s m args below meth c ls E hml hret hlk hM hl
  have E : g_C p s m args c cX8_isLetter RX8 D aC (g_Zs (g_A B 69)) := E
  have hx := E.1
  have hb := E.2.1
  have hown := E.2.2.1
  have hts := E.2.2.2.1
  have hl : lv_has ls 1 [(0, .int a0)] := hl
  unfold f8_isLetter at he
  refine lv_iload_n hx hb dX8_isLetter_0 rfl (lv_at hl 0 rfl) ?_
  refine lv_bipush (v := (97 : Int32)) hx hb dX8_isLetter_1 rfl ?_
  refine lv_icmp_lt (tgt := 16) hx hb dX8_isLetter_3 (by decide) (fun h1 => ?_) (fun h1 => ?_)
  · rw [if_neg (Int32.not_le.mpr h1)] at he
    refine lv_iconst (v := (0 : Int32)) hx hb dX8_isLetter_16 rfl ?_
    cases he
    exact g_zret E hM hret hlk (Or.inl rfl) dX8_isLetter_17
  · rw [if_pos (Int32.not_lt.mp h1)] at he
    refine lv_iload_n hx hb dX8_isLetter_6 rfl (lv_at hl 0 rfl) ?_
    refine lv_bipush (v := (122 : Int32)) hx hb dX8_isLetter_7 rfl ?_
    refine lv_icmp_gt (tgt := 16) hx hb dX8_isLetter_9 (by decide) (fun h2 => ?_) (fun h2 => ?_)
    · rw [if_neg (Int32.not_le.mpr h2)] at he
      refine lv_iconst (v := (0 : Int32)) hx hb dX8_isLetter_16 rfl ?_
      cases he
      exact g_zret E hM hret hlk (Or.inl rfl) dX8_isLetter_17
    · rw [if_pos (Int32.not_lt.mp h2)] at he
      refine lv_iconst (v := (1 : Int32)) hx hb dX8_isLetter_12 rfl ?_
      refine lv_goto (tgt := 17) hx hb dX8_isLetter_13 (by decide) ?_
      cases he
      exact g_zret E hM hret hlk (Or.inr rfl) dX8_isLetter_17

end
