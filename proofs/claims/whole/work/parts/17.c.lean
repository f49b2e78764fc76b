theorem dX10_order_0 : decode cX10_order 0 = .ok (.iload_n 1, 1) := by decide +kernel
theorem dX10_order_1 : decode cX10_order 1 = .ok (.ifCond .lt 8, 3) := by decide +kernel
theorem dX10_order_4 : decode cX10_order 4 = .ok (.iload_n 1, 1) := by decide +kernel
theorem dX10_order_5 : decode cX10_order 5 = .ok (.iconst 4, 1) := by decide +kernel
theorem dX10_order_6 : decode cX10_order 6 = .ok (.if_icmp .le 7, 3) := by decide +kernel
theorem dX10_order_9 : decode cX10_order 9 = .ok (.ldc_w 275, 3) := by decide +kernel
theorem dX10_order_12 : decode cX10_order 12 = .ok (.ireturn, 1) := by decide +kernel
theorem dX10_order_13 : decode cX10_order 13 = .ok (.aload_n 0, 1) := by decide +kernel
theorem dX10_order_14 : decode cX10_order 14 = .ok (.getfield 77, 3) := by decide +kernel
theorem dX10_order_17 : decode cX10_order 17 = .ok (.aload_n 0, 1) := by decide +kernel
theorem dX10_order_18 : decode cX10_order 18 = .ok (.getfield 47, 3) := by decide +kernel
theorem dX10_order_21 : decode cX10_order 21 = .ok (.invokevirtual 276, 3) := by decide +kernel
theorem dX10_order_24 : decode cX10_order 24 = .ok (.iconst 0, 1) := by decide +kernel
theorem dX10_order_25 : decode cX10_order 25 = .ok (.istore_n 2, 1) := by decide +kernel
theorem dX10_order_26 : decode cX10_order 26 = .ok (.iload_n 2, 1) := by decide +kernel
theorem dX10_order_27 : decode cX10_order 27 = .ok (.sipush 256, 3) := by decide +kernel
theorem dX10_order_30 : decode cX10_order 30 = .ok (.if_icmp .ge 79, 3) := by decide +kernel
theorem dX10_order_33 : decode cX10_order 33 = .ok (.aload_n 0, 1) := by decide +kernel
theorem dX10_order_34 : decode cX10_order 34 = .ok (.getfield 77, 3) := by decide +kernel
theorem dX10_order_37 : decode cX10_order 37 = .ok (.iload_n 2, 1) := by decide +kernel
theorem dX10_order_38 : decode cX10_order 38 = .ok (.invokevirtual 279, 3) := by decide +kernel
theorem dX10_order_41 : decode cX10_order 41 = .ok (.ifCond .eq 62, 3) := by decide +kernel
theorem dX10_order_44 : decode cX10_order 44 = .ok (.aload_n 0, 1) := by decide +kernel
theorem dX10_order_45 : decode cX10_order 45 = .ok (.getfield 58, 3) := by decide +kernel
theorem dX10_order_48 : decode cX10_order 48 = .ok (.aload_n 0, 1) := by decide +kernel
theorem dX10_order_49 : decode cX10_order 49 = .ok (.getfield 47, 3) := by decide +kernel
theorem dX10_order_52 : decode cX10_order 52 = .ok (.invokevirtual 242, 3) := by decide +kernel
theorem dX10_order_55 : decode cX10_order 55 = .ok (.aload_n 0, 1) := by decide +kernel
theorem dX10_order_56 : decode cX10_order 56 = .ok (.getfield 77, 3) := by decide +kernel
theorem dX10_order_59 : decode cX10_order 59 = .ok (.iload_n 2, 1) := by decide +kernel
theorem dX10_order_60 : decode cX10_order 60 = .ok (.aload_n 0, 1) := by decide +kernel
theorem dX10_order_61 : decode cX10_order 61 = .ok (.getfield 58, 3) := by decide +kernel
theorem dX10_order_64 : decode cX10_order 64 = .ok (.invokevirtual 282, 3) := by decide +kernel
theorem dX10_order_67 : decode cX10_order 67 = .ok (.aload_n 0, 1) := by decide +kernel
theorem dX10_order_68 : decode cX10_order 68 = .ok (.getfield 66, 3) := by decide +kernel
theorem dX10_order_71 : decode cX10_order 71 = .ok (.aload_n 0, 1) := by decide +kernel
theorem dX10_order_72 : decode cX10_order 72 = .ok (.getfield 58, 3) := by decide +kernel
theorem dX10_order_75 : decode cX10_order 75 = .ok (.iconst 1, 1) := by decide +kernel
theorem dX10_order_76 : decode cX10_order 76 = .ok (.invokevirtual 196, 3) := by decide +kernel
theorem dX10_order_79 : decode cX10_order 79 = .ok (.aload_n 0, 1) := by decide +kernel
theorem dX10_order_80 : decode cX10_order 80 = .ok (.getfield 66, 3) := by decide +kernel
theorem dX10_order_83 : decode cX10_order 83 = .ok (.bipush 20, 2) := by decide +kernel
theorem dX10_order_85 : decode cX10_order 85 = .ok (.invokevirtual 239, 3) := by decide +kernel
theorem dX10_order_88 : decode cX10_order 88 = .ok (.aload_n 0, 1) := by decide +kernel
theorem dX10_order_89 : decode cX10_order 89 = .ok (.getfield 77, 3) := by decide +kernel
theorem dX10_order_92 : decode cX10_order 92 = .ok (.iload_n 2, 1) := by decide +kernel
theorem dX10_order_93 : decode cX10_order 93 = .ok (.aload_n 0, 1) := by decide +kernel
theorem dX10_order_94 : decode cX10_order 94 = .ok (.getfield 58, 3) := by decide +kernel
theorem dX10_order_97 : decode cX10_order 97 = .ok (.invokevirtual 286, 3) := by decide +kernel
theorem dX10_order_100 : decode cX10_order 100 = .ok (.invokevirtual 289, 3) := by decide +kernel
theorem dX10_order_103 : decode cX10_order 103 = .ok (.iinc 2 1, 3) := by decide +kernel
theorem dX10_order_106 : decode cX10_order 106 = .ok (.goto (-80), 3) := by decide +kernel
theorem dX10_order_109 : decode cX10_order 109 = .ok (.iload_n 1, 1) := by decide +kernel
theorem dX10_order_110 : decode cX10_order 110 = .ok (.iconst 4, 1) := by decide +kernel
theorem dX10_order_111 : decode cX10_order 111 = .ok (.if_icmp .ne 19, 3) := by decide +kernel
theorem dX10_order_114 : decode cX10_order 114 = .ok (.aload_n 0, 1) := by decide +kernel
theorem dX10_order_115 : decode cX10_order 115 = .ok (.getfield 77, 3) := by decide +kernel
theorem dX10_order_118 : decode cX10_order 118 = .ok (.getfield 293, 3) := by decide +kernel
theorem dX10_order_121 : decode cX10_order 121 = .ok (.aload_n 0, 1) := by decide +kernel
theorem dX10_order_122 : decode cX10_order 122 = .ok (.getfield 47, 3) := by decide +kernel
theorem dX10_order_125 : decode cX10_order 125 = .ok (.invokevirtual 286, 3) := by decide +kernel
theorem dX10_order_128 : decode cX10_order 128 = .ok (.isub, 1) := by decide +kernel
theorem dX10_order_129 : decode cX10_order 129 = .ok (.ireturn, 1) := by decide +kernel
theorem dX10_order_130 : decode cX10_order 130 = .ok (.iload_n 1, 1) := by decide +kernel
theorem dX10_order_131 : decode cX10_order 131 = .ok (.aload_n 0, 1) := by decide +kernel
theorem dX10_order_132 : decode cX10_order 132 = .ok (.getfield 77, 3) := by decide +kernel
theorem dX10_order_135 : decode cX10_order 135 = .ok (.getfield 296, 3) := by decide +kernel
theorem dX10_order_138 : decode cX10_order 138 = .ok (.if_icmp .ge 15, 3) := by decide +kernel
theorem dX10_order_141 : decode cX10_order 141 = .ok (.aload_n 0, 1) := by decide +kernel
theorem dX10_order_142 : decode cX10_order 142 = .ok (.getfield 77, 3) := by decide +kernel
theorem dX10_order_145 : decode cX10_order 145 = .ok (.getfield 299, 3) := by decide +kernel
theorem dX10_order_148 : decode cX10_order 148 = .ok (.iload_n 1, 1) := by decide +kernel
theorem dX10_order_149 : decode cX10_order 149 = .ok (.iaload, 1) := by decide +kernel
theorem dX10_order_150 : decode cX10_order 150 = .ok (.goto 5, 3) := by decide +kernel
theorem dX10_order_153 : decode cX10_order 153 = .ok (.bipush (-2), 2) := by decide +kernel
theorem dX10_order_155 : decode cX10_order 155 = .ok (.ireturn, 1) := by decide +kernel
theorem dX10_swaps_0 : decode cX10_swaps 0 = .ok (.iconst 0, 1) := by decide +kernel
theorem dX10_swaps_1 : decode cX10_swaps 1 = .ok (.istore_n 1, 1) := by decide +kernel
theorem dX10_swaps_2 : decode cX10_swaps 2 = .ok (.iconst 0, 1) := by decide +kernel
theorem dX10_swaps_3 : decode cX10_swaps 3 = .ok (.istore_n 2, 1) := by decide +kernel
theorem dX10_swaps_4 : decode cX10_swaps 4 = .ok (.iload_n 2, 1) := by decide +kernel
theorem dX10_swaps_5 : decode cX10_swaps 5 = .ok (.aload_n 0, 1) := by decide +kernel
theorem dX10_swaps_6 : decode cX10_swaps 6 = .ok (.getfield 20, 3) := by decide +kernel
theorem dX10_swaps_9 : decode cX10_swaps 9 = .ok (.getfield 302, 3) := by decide +kernel
theorem dX10_swaps_12 : decode cX10_swaps 12 = .ok (.iconst 1, 1) := by decide +kernel
theorem dX10_swaps_13 : decode cX10_swaps 13 = .ok (.iaload, 1) := by decide +kernel
theorem dX10_swaps_14 : decode cX10_swaps 14 = .ok (.if_icmp .ge 30, 3) := by decide +kernel
theorem dX10_swaps_17 : decode cX10_swaps 17 = .ok (.iload_n 1, 1) := by decide +kernel
theorem dX10_swaps_18 : decode cX10_swaps 18 = .ok (.aload_n 0, 1) := by decide +kernel
theorem dX10_swaps_19 : decode cX10_swaps 19 = .ok (.getfield 20, 3) := by decide +kernel
theorem dX10_swaps_22 : decode cX10_swaps 22 = .ok (.getfield 302, 3) := by decide +kernel
theorem dX10_swaps_25 : decode cX10_swaps 25 = .ok (.iconst 0, 1) := by decide +kernel
theorem dX10_swaps_26 : decode cX10_swaps 26 = .ok (.iaload, 1) := by decide +kernel
theorem dX10_swaps_27 : decode cX10_swaps 27 = .ok (.aload_n 0, 1) := by decide +kernel
theorem dX10_swaps_28 : decode cX10_swaps 28 = .ok (.getfield 47, 3) := by decide +kernel
theorem dX10_swaps_31 : decode cX10_swaps 31 = .ok (.iload_n 2, 1) := by decide +kernel
theorem dX10_swaps_32 : decode cX10_swaps 32 = .ok (.invokevirtual 305, 3) := by decide +kernel
theorem dX10_swaps_35 : decode cX10_swaps 35 = .ok (.isub, 1) := by decide +kernel
theorem dX10_swaps_36 : decode cX10_swaps 36 = .ok (.iadd, 1) := by decide +kernel
theorem dX10_swaps_37 : decode cX10_swaps 37 = .ok (.istore_n 1, 1) := by decide +kernel
theorem dX10_swaps_38 : decode cX10_swaps 38 = .ok (.iinc 2 1, 3) := by decide +kernel
theorem dX10_swaps_41 : decode cX10_swaps 41 = .ok (.goto (-37), 3) := by decide +kernel
theorem dX10_swaps_44 : decode cX10_swaps 44 = .ok (.iload_n 1, 1) := by decide +kernel
theorem dX10_swaps_45 : decode cX10_swaps 45 = .ok (.ireturn, 1) := by decide +kernel
theorem dX10_together_0 : decode cX10_together 0 = .ok (.iload_n 1, 1) := by decide +kernel
theorem dX10_together_1 : decode cX10_together 1 = .ok (.iload_n 2, 1) := by decide +kernel
theorem dX10_together_2 : decode cX10_together 2 = .ok (.if_icmp .eq 26, 3) := by decide +kernel
theorem dX10_together_5 : decode cX10_together 5 = .ok (.aload_n 0, 1) := by decide +kernel
theorem dX10_together_6 : decode cX10_together 6 = .ok (.iload_n 1, 1) := by decide +kernel
theorem dX10_together_7 : decode cX10_together 7 = .ok (.invokevirtual 119, 3) := by decide +kernel
theorem dX10_together_10 : decode cX10_together 10 = .ok (.ifCond .eq 18, 3) := by decide +kernel
theorem dX10_together_13 : decode cX10_together 13 = .ok (.aload_n 0, 1) := by decide +kernel
theorem dX10_together_14 : decode cX10_together 14 = .ok (.iload_n 2, 1) := by decide +kernel
theorem dX10_together_15 : decode cX10_together 15 = .ok (.invokevirtual 119, 3) := by decide +kernel
theorem dX10_together_18 : decode cX10_together 18 = .ok (.ifCond .eq 10, 3) := by decide +kernel
theorem dX10_together_21 : decode cX10_together 21 = .ok (.iload_n 3, 1) := by decide +kernel
theorem dX10_together_22 : decode cX10_together 22 = .ok (.invokestatic 308, 3) := by decide +kernel
theorem dX10_together_25 : decode cX10_together 25 = .ok (.ifCond .ne 5, 3) := by decide +kernel
theorem dX10_together_28 : decode cX10_together 28 = .ok (.iconst (-1), 1) := by decide +kernel
theorem dX10_together_29 : decode cX10_together 29 = .ok (.ireturn, 1) := by decide +kernel
theorem dX10_together_30 : decode cX10_together 30 = .ok (.iconst 0, 1) := by decide +kernel
theorem dX10_together_31 : decode cX10_together 31 = .ok (.istore 4, 2) := by decide +kernel
theorem dX10_together_33 : decode cX10_together 33 = .ok (.iconst 0, 1) := by decide +kernel
theorem dX10_together_34 : decode cX10_together 34 = .ok (.istore 5, 2) := by decide +kernel
theorem dX10_together_36 : decode cX10_together 36 = .ok (.iload 5, 2) := by decide +kernel
theorem dX10_together_38 : decode cX10_together 38 = .ok (.aload_n 0, 1) := by decide +kernel
theorem dX10_together_39 : decode cX10_together 39 = .ok (.getfield 20, 3) := by decide +kernel
theorem dX10_together_42 : decode cX10_together 42 = .ok (.getfield 302, 3) := by decide +kernel
theorem dX10_together_45 : decode cX10_together 45 = .ok (.iconst 2, 1) := by decide +kernel
theorem dX10_together_46 : decode cX10_together 46 = .ok (.iaload, 1) := by decide +kernel
theorem dX10_together_47 : decode cX10_together 47 = .ok (.if_icmp .ge 44, 3) := by decide +kernel
theorem dX10_together_50 : decode cX10_together 50 = .ok (.aload_n 0, 1) := by decide +kernel
theorem dX10_together_51 : decode cX10_together 51 = .ok (.getfield 47, 3) := by decide +kernel
theorem dX10_together_54 : decode cX10_together 54 = .ok (.iload_n 1, 1) := by decide +kernel
theorem dX10_together_55 : decode cX10_together 55 = .ok (.iload 5, 2) := by decide +kernel
theorem dX10_together_57 : decode cX10_together 57 = .ok (.iload_n 3, 1) := by decide +kernel
theorem dX10_together_58 : decode cX10_together 58 = .ok (.invokevirtual 192, 3) := by decide +kernel
theorem dX10_together_61 : decode cX10_together 61 = .ok (.aload_n 0, 1) := by decide +kernel
theorem dX10_together_62 : decode cX10_together 62 = .ok (.getfield 47, 3) := by decide +kernel
theorem dX10_together_65 : decode cX10_together 65 = .ok (.iload_n 2, 1) := by decide +kernel
theorem dX10_together_66 : decode cX10_together 66 = .ok (.iload 5, 2) := by decide +kernel
theorem dX10_together_68 : decode cX10_together 68 = .ok (.iload_n 3, 1) := by decide +kernel
theorem dX10_together_69 : decode cX10_together 69 = .ok (.invokevirtual 192, 3) := by decide +kernel
theorem dX10_together_72 : decode cX10_together 72 = .ok (.iand, 1) := by decide +kernel
theorem dX10_together_73 : decode cX10_together 73 = .ok (.ifCond .ne 12, 3) := by decide +kernel
theorem dX10_together_76 : decode cX10_together 76 = .ok (.iload 4, 2) := by decide +kernel
theorem dX10_together_78 : decode cX10_together 78 = .ok (.iconst 1, 1) := by decide +kernel
theorem dX10_together_79 : decode cX10_together 79 = .ok (.iload 5, 2) := by decide +kernel
theorem dX10_together_81 : decode cX10_together 81 = .ok (.ishl, 1) := by decide +kernel
theorem dX10_together_82 : decode cX10_together 82 = .ok (.ior, 1) := by decide +kernel
theorem dX10_together_83 : decode cX10_together 83 = .ok (.istore 4, 2) := by decide +kernel
theorem dX10_together_85 : decode cX10_together 85 = .ok (.iinc 5 1, 3) := by decide +kernel
theorem dX10_together_88 : decode cX10_together 88 = .ok (.goto (-52), 3) := by decide +kernel
theorem dX10_together_91 : decode cX10_together 91 = .ok (.iload 4, 2) := by decide +kernel
theorem dX10_together_93 : decode cX10_together 93 = .ok (.ireturn, 1) := by decide +kernel
theorem dX10_needs_0 : decode cX10_needs 0 = .ok (.aload_n 0, 1) := by decide +kernel
theorem dX10_needs_1 : decode cX10_needs 1 = .ok (.iload_n 1, 1) := by decide +kernel
theorem dX10_needs_2 : decode cX10_needs 2 = .ok (.iload_n 2, 1) := by decide +kernel
theorem dX10_needs_3 : decode cX10_needs 3 = .ok (.iload_n 3, 1) := by decide +kernel
theorem dX10_needs_4 : decode cX10_needs 4 = .ok (.invokevirtual 188, 3) := by decide +kernel
theorem dX10_needs_7 : decode cX10_needs 7 = .ok (.ifCond .eq 16, 3) := by decide +kernel
theorem dX10_needs_10 : decode cX10_needs 10 = .ok (.aload_n 0, 1) := by decide +kernel
theorem dX10_needs_11 : decode cX10_needs 11 = .ok (.getfield 47, 3) := by decide +kernel
theorem dX10_needs_14 : decode cX10_needs 14 = .ok (.iload_n 1, 1) := by decide +kernel
theorem dX10_needs_15 : decode cX10_needs 15 = .ok (.iload_n 2, 1) := by decide +kernel
theorem dX10_needs_16 : decode cX10_needs 16 = .ok (.iload_n 3, 1) := by decide +kernel
theorem dX10_needs_17 : decode cX10_needs 17 = .ok (.invokevirtual 192, 3) := by decide +kernel
theorem dX10_needs_20 : decode cX10_needs 20 = .ok (.goto 4, 3) := by decide +kernel
theorem dX10_needs_23 : decode cX10_needs 23 = .ok (.iconst (-1), 1) := by decide +kernel
theorem dX10_needs_24 : decode cX10_needs 24 = .ok (.ireturn, 1) := by decide +kernel
theorem dX10_cheap_0 : decode cX10_cheap 0 = .ok (.aload_n 0, 1) := by decide +kernel
theorem dX10_cheap_1 : decode cX10_cheap 1 = .ok (.iload_n 1, 1) := by decide +kernel
theorem dX10_cheap_2 : decode cX10_cheap 2 = .ok (.iload_n 2, 1) := by decide +kernel
theorem dX10_cheap_3 : decode cX10_cheap 3 = .ok (.iload_n 3, 1) := by decide +kernel
theorem dX10_cheap_4 : decode cX10_cheap 4 = .ok (.invokevirtual 188, 3) := by decide +kernel
theorem dX10_cheap_7 : decode cX10_cheap 7 = .ok (.ifCond .ne 5, 3) := by decide +kernel
theorem dX10_cheap_10 : decode cX10_cheap 10 = .ok (.iconst (-1), 1) := by decide +kernel
theorem dX10_cheap_11 : decode cX10_cheap 11 = .ok (.ireturn, 1) := by decide +kernel
theorem dX10_cheap_12 : decode cX10_cheap 12 = .ok (.aload_n 0, 1) := by decide +kernel
theorem dX10_cheap_13 : decode cX10_cheap 13 = .ok (.getfield 47, 3) := by decide +kernel
theorem dX10_cheap_16 : decode cX10_cheap 16 = .ok (.iload_n 1, 1) := by decide +kernel
theorem dX10_cheap_17 : decode cX10_cheap 17 = .ok (.iload_n 2, 1) := by decide +kernel
theorem dX10_cheap_18 : decode cX10_cheap 18 = .ok (.iload_n 3, 1) := by decide +kernel
theorem dX10_cheap_19 : decode cX10_cheap 19 = .ok (.invokevirtual 192, 3) := by decide +kernel
theorem dX10_cheap_22 : decode cX10_cheap 22 = .ok (.istore 4, 2) := by decide +kernel
theorem dX10_cheap_24 : decode cX10_cheap 24 = .ok (.iconst 0, 1) := by decide +kernel
theorem dX10_cheap_25 : decode cX10_cheap 25 = .ok (.istore 5, 2) := by decide +kernel
theorem dX10_cheap_27 : decode cX10_cheap 27 = .ok (.iconst 0, 1) := by decide +kernel
theorem dX10_cheap_28 : decode cX10_cheap 28 = .ok (.istore 6, 2) := by decide +kernel
theorem dX10_cheap_30 : decode cX10_cheap 30 = .ok (.iload 6, 2) := by decide +kernel
theorem dX10_cheap_32 : decode cX10_cheap 32 = .ok (.aload_n 0, 1) := by decide +kernel
theorem dX10_cheap_33 : decode cX10_cheap 33 = .ok (.getfield 20, 3) := by decide +kernel
theorem dX10_cheap_36 : decode cX10_cheap 36 = .ok (.getfield 302, 3) := by decide +kernel
theorem dX10_cheap_39 : decode cX10_cheap 39 = .ok (.iconst 1, 1) := by decide +kernel
theorem dX10_cheap_40 : decode cX10_cheap 40 = .ok (.iaload, 1) := by decide +kernel
theorem dX10_cheap_41 : decode cX10_cheap 41 = .ok (.if_icmp .ge 32, 3) := by decide +kernel
theorem dX10_cheap_44 : decode cX10_cheap 44 = .ok (.iload 5, 2) := by decide +kernel
theorem dX10_cheap_46 : decode cX10_cheap 46 = .ok (.iload 4, 2) := by decide +kernel
theorem dX10_cheap_48 : decode cX10_cheap 48 = .ok (.iload 6, 2) := by decide +kernel
theorem dX10_cheap_50 : decode cX10_cheap 50 = .ok (.ishr, 1) := by decide +kernel
theorem dX10_cheap_51 : decode cX10_cheap 51 = .ok (.iconst 1, 1) := by decide +kernel
theorem dX10_cheap_52 : decode cX10_cheap 52 = .ok (.iand, 1) := by decide +kernel
theorem dX10_cheap_53 : decode cX10_cheap 53 = .ok (.aload_n 0, 1) := by decide +kernel
theorem dX10_cheap_54 : decode cX10_cheap 54 = .ok (.getfield 20, 3) := by decide +kernel
theorem dX10_cheap_57 : decode cX10_cheap 57 = .ok (.getfield 154, 3) := by decide +kernel
theorem dX10_cheap_60 : decode cX10_cheap 60 = .ok (.iload 6, 2) := by decide +kernel
theorem dX10_cheap_62 : decode cX10_cheap 62 = .ok (.iaload, 1) := by decide +kernel
theorem dX10_cheap_63 : decode cX10_cheap 63 = .ok (.imul, 1) := by decide +kernel
theorem dX10_cheap_64 : decode cX10_cheap 64 = .ok (.iadd, 1) := by decide +kernel
theorem dX10_cheap_65 : decode cX10_cheap 65 = .ok (.istore 5, 2) := by decide +kernel
theorem dX10_cheap_67 : decode cX10_cheap 67 = .ok (.iinc 6 1, 3) := by decide +kernel
theorem dX10_cheap_70 : decode cX10_cheap 70 = .ok (.goto (-40), 3) := by decide +kernel
theorem dX10_cheap_73 : decode cX10_cheap 73 = .ok (.iload 5, 2) := by decide +kernel
theorem dX10_cheap_75 : decode cX10_cheap 75 = .ok (.ireturn, 1) := by decide +kernel
theorem dX10_meetGain_0 : decode cX10_meetGain 0 = .ok (.iload_n 3, 1) := by decide +kernel
theorem dX10_meetGain_1 : decode cX10_meetGain 1 = .ok (.iload 4, 2) := by decide +kernel
theorem dX10_meetGain_3 : decode cX10_meetGain 3 = .ok (.if_icmp .ne 17, 3) := by decide +kernel
theorem dX10_meetGain_6 : decode cX10_meetGain 6 = .ok (.aload_n 0, 1) := by decide +kernel
theorem dX10_meetGain_7 : decode cX10_meetGain 7 = .ok (.getfield 20, 3) := by decide +kernel
theorem dX10_meetGain_10 : decode cX10_meetGain 10 = .ok (.getfield 154, 3) := by decide +kernel
theorem dX10_meetGain_13 : decode cX10_meetGain 13 = .ok (.iload_n 2, 1) := by decide +kernel
theorem dX10_meetGain_14 : decode cX10_meetGain 14 = .ok (.iaload, 1) := by decide +kernel
theorem dX10_meetGain_15 : decode cX10_meetGain 15 = .ok (.iconst 3, 1) := by decide +kernel
theorem dX10_meetGain_16 : decode cX10_meetGain 16 = .ok (.idiv, 1) := by decide +kernel
theorem dX10_meetGain_17 : decode cX10_meetGain 17 = .ok (.goto 12, 3) := by decide +kernel
theorem dX10_meetGain_20 : decode cX10_meetGain 20 = .ok (.aload_n 0, 1) := by decide +kernel
theorem dX10_meetGain_21 : decode cX10_meetGain 21 = .ok (.getfield 20, 3) := by decide +kernel
theorem dX10_meetGain_24 : decode cX10_meetGain 24 = .ok (.getfield 154, 3) := by decide +kernel
theorem dX10_meetGain_27 : decode cX10_meetGain 27 = .ok (.iload_n 2, 1) := by decide +kernel
theorem dX10_meetGain_28 : decode cX10_meetGain 28 = .ok (.iaload, 1) := by decide +kernel
theorem dX10_meetGain_29 : decode cX10_meetGain 29 = .ok (.istore 5, 2) := by decide +kernel
theorem dX10_meetGain_31 : decode cX10_meetGain 31 = .ok (.iload_n 3, 1) := by decide +kernel
theorem dX10_meetGain_32 : decode cX10_meetGain 32 = .ok (.ifCond .ne 17, 3) := by decide +kernel
theorem dX10_meetGain_35 : decode cX10_meetGain 35 = .ok (.iload 5, 2) := by decide +kernel
theorem dX10_meetGain_37 : decode cX10_meetGain 37 = .ok (.aload_n 0, 1) := by decide +kernel
theorem dX10_meetGain_38 : decode cX10_meetGain 38 = .ok (.getfield 47, 3) := by decide +kernel
theorem dX10_meetGain_41 : decode cX10_meetGain 41 = .ok (.iload_n 1, 1) := by decide +kernel
theorem dX10_meetGain_42 : decode cX10_meetGain 42 = .ok (.invokevirtual 319, 3) := by decide +kernel
theorem dX10_meetGain_45 : decode cX10_meetGain 45 = .ok (.iadd, 1) := by decide +kernel
theorem dX10_meetGain_46 : decode cX10_meetGain 46 = .ok (.goto 5, 3) := by decide +kernel
theorem dX10_meetGain_49 : decode cX10_meetGain 49 = .ok (.iload 5, 2) := by decide +kernel
theorem dX10_meetGain_51 : decode cX10_meetGain 51 = .ok (.ireturn, 1) := by decide +kernel
theorem dX10_isRest_0 : decode cX10_isRest 0 = .ok (.iload 4, 2) := by decide +kernel
theorem dX10_isRest_2 : decode cX10_isRest 2 = .ok (.iconst 1, 1) := by decide +kernel
theorem dX10_isRest_3 : decode cX10_isRest 3 = .ok (.ishr, 1) := by decide +kernel
theorem dX10_isRest_4 : decode cX10_isRest 4 = .ok (.istore 5, 2) := by decide +kernel
theorem dX10_isRest_6 : decode cX10_isRest 6 = .ok (.iload 4, 2) := by decide +kernel
theorem dX10_isRest_8 : decode cX10_isRest 8 = .ok (.iconst 1, 1) := by decide +kernel
theorem dX10_isRest_9 : decode cX10_isRest 9 = .ok (.iand, 1) := by decide +kernel
theorem dX10_isRest_10 : decode cX10_isRest 10 = .ok (.istore 6, 2) := by decide +kernel
theorem dX10_isRest_12 : decode cX10_isRest 12 = .ok (.aload_n 0, 1) := by decide +kernel
theorem dX10_isRest_13 : decode cX10_isRest 13 = .ok (.iload_n 1, 1) := by decide +kernel
theorem dX10_isRest_14 : decode cX10_isRest 14 = .ok (.iload_n 3, 1) := by decide +kernel
theorem dX10_isRest_15 : decode cX10_isRest 15 = .ok (.iload 5, 2) := by decide +kernel
theorem dX10_isRest_17 : decode cX10_isRest 17 = .ok (.iload 6, 2) := by decide +kernel
theorem dX10_isRest_19 : decode cX10_isRest 19 = .ok (.invokevirtual 315, 3) := by decide +kernel
theorem dX10_isRest_22 : decode cX10_isRest 22 = .ok (.aload_n 0, 1) := by decide +kernel
theorem dX10_isRest_23 : decode cX10_isRest 23 = .ok (.iload_n 1, 1) := by decide +kernel
theorem dX10_isRest_24 : decode cX10_isRest 24 = .ok (.iload_n 3, 1) := by decide +kernel
theorem dX10_isRest_25 : decode cX10_isRest 25 = .ok (.iconst 1, 1) := by decide +kernel
theorem dX10_isRest_26 : decode cX10_isRest 26 = .ok (.iload 5, 2) := by decide +kernel
theorem dX10_isRest_28 : decode cX10_isRest 28 = .ok (.isub, 1) := by decide +kernel
theorem dX10_isRest_29 : decode cX10_isRest 29 = .ok (.iload 6, 2) := by decide +kernel
theorem dX10_isRest_31 : decode cX10_isRest 31 = .ok (.invokevirtual 315, 3) := by decide +kernel
theorem dX10_isRest_34 : decode cX10_isRest 34 = .ok (.if_icmp .lt 32, 3) := by decide +kernel
theorem dX10_isRest_37 : decode cX10_isRest 37 = .ok (.aload_n 0, 1) := by decide +kernel
theorem dX10_isRest_38 : decode cX10_isRest 38 = .ok (.iload_n 2, 1) := by decide +kernel
theorem dX10_isRest_39 : decode cX10_isRest 39 = .ok (.iload_n 3, 1) := by decide +kernel
theorem dX10_isRest_40 : decode cX10_isRest 40 = .ok (.iload 6, 2) := by decide +kernel
theorem dX10_isRest_42 : decode cX10_isRest 42 = .ok (.iload 5, 2) := by decide +kernel
theorem dX10_isRest_44 : decode cX10_isRest 44 = .ok (.invokevirtual 315, 3) := by decide +kernel
theorem dX10_isRest_47 : decode cX10_isRest 47 = .ok (.aload_n 0, 1) := by decide +kernel
theorem dX10_isRest_48 : decode cX10_isRest 48 = .ok (.iload_n 2, 1) := by decide +kernel
theorem dX10_isRest_49 : decode cX10_isRest 49 = .ok (.iload_n 3, 1) := by decide +kernel
theorem dX10_isRest_50 : decode cX10_isRest 50 = .ok (.iconst 1, 1) := by decide +kernel
theorem dX10_isRest_51 : decode cX10_isRest 51 = .ok (.iload 6, 2) := by decide +kernel
theorem dX10_isRest_53 : decode cX10_isRest 53 = .ok (.isub, 1) := by decide +kernel
theorem dX10_isRest_54 : decode cX10_isRest 54 = .ok (.iload 5, 2) := by decide +kernel
theorem dX10_isRest_56 : decode cX10_isRest 56 = .ok (.invokevirtual 315, 3) := by decide +kernel
theorem dX10_isRest_59 : decode cX10_isRest 59 = .ok (.if_icmp .lt 7, 3) := by decide +kernel
theorem dX10_isRest_62 : decode cX10_isRest 62 = .ok (.iconst 1, 1) := by decide +kernel
theorem dX10_isRest_63 : decode cX10_isRest 63 = .ok (.goto 4, 3) := by decide +kernel
theorem dX10_isRest_66 : decode cX10_isRest 66 = .ok (.iconst 0, 1) := by decide +kernel
theorem dX10_isRest_67 : decode cX10_isRest 67 = .ok (.ireturn, 1) := by decide +kernel
theorem dX10_rests_0 : decode cX10_rests 0 = .ok (.iload_n 1, 1) := by decide +kernel
theorem dX10_rests_1 : decode cX10_rests 1 = .ok (.iload_n 2, 1) := by decide +kernel
theorem dX10_rests_2 : decode cX10_rests 2 = .ok (.if_icmp .eq 21, 3) := by decide +kernel
theorem dX10_rests_5 : decode cX10_rests 5 = .ok (.aload_n 0, 1) := by decide +kernel
theorem dX10_rests_6 : decode cX10_rests 6 = .ok (.iload_n 1, 1) := by decide +kernel
theorem dX10_rests_7 : decode cX10_rests 7 = .ok (.iload_n 3, 1) := by decide +kernel
theorem dX10_rests_8 : decode cX10_rests 8 = .ok (.invokevirtual 178, 3) := by decide +kernel
theorem dX10_rests_11 : decode cX10_rests 11 = .ok (.ifCond .eq 12, 3) := by decide +kernel
theorem dX10_rests_14 : decode cX10_rests 14 = .ok (.aload_n 0, 1) := by decide +kernel
theorem dX10_rests_15 : decode cX10_rests 15 = .ok (.iload_n 2, 1) := by decide +kernel
theorem dX10_rests_16 : decode cX10_rests 16 = .ok (.iload_n 3, 1) := by decide +kernel
theorem dX10_rests_17 : decode cX10_rests 17 = .ok (.invokevirtual 178, 3) := by decide +kernel
theorem dX10_rests_20 : decode cX10_rests 20 = .ok (.ifCond .ne 5, 3) := by decide +kernel
theorem dX10_rests_23 : decode cX10_rests 23 = .ok (.iconst (-1), 1) := by decide +kernel
theorem dX10_rests_24 : decode cX10_rests 24 = .ok (.ireturn, 1) := by decide +kernel
theorem dX10_rests_25 : decode cX10_rests 25 = .ok (.iconst 0, 1) := by decide +kernel
theorem dX10_rests_26 : decode cX10_rests 26 = .ok (.istore 4, 2) := by decide +kernel
theorem dX10_rests_28 : decode cX10_rests 28 = .ok (.iconst 0, 1) := by decide +kernel
theorem dX10_rests_29 : decode cX10_rests 29 = .ok (.istore 5, 2) := by decide +kernel
theorem dX10_rests_31 : decode cX10_rests 31 = .ok (.iload 5, 2) := by decide +kernel
theorem dX10_rests_33 : decode cX10_rests 33 = .ok (.iconst 4, 1) := by decide +kernel
theorem dX10_rests_34 : decode cX10_rests 34 = .ok (.if_icmp .ge 31, 3) := by decide +kernel
theorem dX10_rests_37 : decode cX10_rests 37 = .ok (.iload 4, 2) := by decide +kernel
theorem dX10_rests_39 : decode cX10_rests 39 = .ok (.aload_n 0, 1) := by decide +kernel
theorem dX10_rests_40 : decode cX10_rests 40 = .ok (.iload_n 1, 1) := by decide +kernel
theorem dX10_rests_41 : decode cX10_rests 41 = .ok (.iload_n 2, 1) := by decide +kernel
theorem dX10_rests_42 : decode cX10_rests 42 = .ok (.iload_n 3, 1) := by decide +kernel
theorem dX10_rests_43 : decode cX10_rests 43 = .ok (.iload 5, 2) := by decide +kernel
theorem dX10_rests_45 : decode cX10_rests 45 = .ok (.invokevirtual 311, 3) := by decide +kernel
theorem dX10_rests_48 : decode cX10_rests 48 = .ok (.ifCond .eq 7, 3) := by decide +kernel
theorem dX10_rests_51 : decode cX10_rests 51 = .ok (.iconst 1, 1) := by decide +kernel
theorem dX10_rests_52 : decode cX10_rests 52 = .ok (.goto 4, 3) := by decide +kernel
theorem dX10_rests_55 : decode cX10_rests 55 = .ok (.iconst 0, 1) := by decide +kernel
theorem dX10_rests_56 : decode cX10_rests 56 = .ok (.iadd, 1) := by decide +kernel
theorem dX10_rests_57 : decode cX10_rests 57 = .ok (.istore 4, 2) := by decide +kernel
theorem dX10_rests_59 : decode cX10_rests 59 = .ok (.iinc 5 1, 3) := by decide +kernel
theorem dX10_rests_62 : decode cX10_rests 62 = .ok (.goto (-31), 3) := by decide +kernel
theorem dX10_rests_65 : decode cX10_rests 65 = .ok (.iload 4, 2) := by decide +kernel
theorem dX10_rests_67 : decode cX10_rests 67 = .ok (.ireturn, 1) := by decide +kernel
theorem dX10_rest_0 : decode cX10_rest 0 = .ok (.iload 4, 2) := by decide +kernel
theorem dX10_rest_2 : decode cX10_rest 2 = .ok (.ifCond .lt 26, 3) := by decide +kernel
theorem dX10_rest_5 : decode cX10_rest 5 = .ok (.iload_n 1, 1) := by decide +kernel
theorem dX10_rest_6 : decode cX10_rest 6 = .ok (.iload_n 2, 1) := by decide +kernel
theorem dX10_rest_7 : decode cX10_rest 7 = .ok (.if_icmp .eq 21, 3) := by decide +kernel
theorem dX10_rest_10 : decode cX10_rest 10 = .ok (.aload_n 0, 1) := by decide +kernel
theorem dX10_rest_11 : decode cX10_rest 11 = .ok (.iload_n 1, 1) := by decide +kernel
theorem dX10_rest_12 : decode cX10_rest 12 = .ok (.iload_n 3, 1) := by decide +kernel
theorem dX10_rest_13 : decode cX10_rest 13 = .ok (.invokevirtual 178, 3) := by decide +kernel
theorem dX10_rest_16 : decode cX10_rest 16 = .ok (.ifCond .eq 12, 3) := by decide +kernel
theorem dX10_rest_19 : decode cX10_rest 19 = .ok (.aload_n 0, 1) := by decide +kernel
theorem dX10_rest_20 : decode cX10_rest 20 = .ok (.iload_n 2, 1) := by decide +kernel
theorem dX10_rest_21 : decode cX10_rest 21 = .ok (.iload_n 3, 1) := by decide +kernel
theorem dX10_rest_22 : decode cX10_rest 22 = .ok (.invokevirtual 178, 3) := by decide +kernel
theorem dX10_rest_25 : decode cX10_rest 25 = .ok (.ifCond .ne 5, 3) := by decide +kernel
theorem dX10_rest_28 : decode cX10_rest 28 = .ok (.iconst (-1), 1) := by decide +kernel
theorem dX10_rest_29 : decode cX10_rest 29 = .ok (.ireturn, 1) := by decide +kernel
theorem dX10_rest_30 : decode cX10_rest 30 = .ok (.iload 4, 2) := by decide +kernel
theorem dX10_rest_32 : decode cX10_rest 32 = .ok (.istore 5, 2) := by decide +kernel
theorem dX10_rest_34 : decode cX10_rest 34 = .ok (.iconst 0, 1) := by decide +kernel
theorem dX10_rest_35 : decode cX10_rest 35 = .ok (.istore 6, 2) := by decide +kernel
theorem dX10_rest_37 : decode cX10_rest 37 = .ok (.iload 6, 2) := by decide +kernel
theorem dX10_rest_39 : decode cX10_rest 39 = .ok (.iconst 4, 1) := by decide +kernel
theorem dX10_rest_40 : decode cX10_rest 40 = .ok (.if_icmp .ge 42, 3) := by decide +kernel
theorem dX10_rest_43 : decode cX10_rest 43 = .ok (.aload_n 0, 1) := by decide +kernel
theorem dX10_rest_44 : decode cX10_rest 44 = .ok (.iload_n 1, 1) := by decide +kernel
theorem dX10_rest_45 : decode cX10_rest 45 = .ok (.iload_n 2, 1) := by decide +kernel
theorem dX10_rest_46 : decode cX10_rest 46 = .ok (.iload_n 3, 1) := by decide +kernel
theorem dX10_rest_47 : decode cX10_rest 47 = .ok (.iload 6, 2) := by decide +kernel
theorem dX10_rest_49 : decode cX10_rest 49 = .ok (.invokevirtual 311, 3) := by decide +kernel
theorem dX10_rest_52 : decode cX10_rest 52 = .ok (.ifCond .eq 24, 3) := by decide +kernel
theorem dX10_rest_55 : decode cX10_rest 55 = .ok (.iload 5, 2) := by decide +kernel
theorem dX10_rest_57 : decode cX10_rest 57 = .ok (.ifCond .ne 16, 3) := by decide +kernel
theorem dX10_rest_60 : decode cX10_rest 60 = .ok (.iload 6, 2) := by decide +kernel
theorem dX10_rest_62 : decode cX10_rest 62 = .ok (.iconst 1, 1) := by decide +kernel
theorem dX10_rest_63 : decode cX10_rest 63 = .ok (.ishr, 1) := by decide +kernel
theorem dX10_rest_64 : decode cX10_rest 64 = .ok (.bipush 10, 2) := by decide +kernel
theorem dX10_rest_66 : decode cX10_rest 66 = .ok (.imul, 1) := by decide +kernel
theorem dX10_rest_67 : decode cX10_rest 67 = .ok (.iload 6, 2) := by decide +kernel
theorem dX10_rest_69 : decode cX10_rest 69 = .ok (.iconst 1, 1) := by decide +kernel
theorem dX10_rest_70 : decode cX10_rest 70 = .ok (.iand, 1) := by decide +kernel
theorem dX10_rest_71 : decode cX10_rest 71 = .ok (.iadd, 1) := by decide +kernel
theorem dX10_rest_72 : decode cX10_rest 72 = .ok (.ireturn, 1) := by decide +kernel
theorem dX10_rest_73 : decode cX10_rest 73 = .ok (.iinc 5 (-1), 3) := by decide +kernel
theorem dX10_rest_76 : decode cX10_rest 76 = .ok (.iinc 6 1, 3) := by decide +kernel
theorem dX10_rest_79 : decode cX10_rest 79 = .ok (.goto (-42), 3) := by decide +kernel
theorem dX10_rest_82 : decode cX10_rest 82 = .ok (.bipush (-2), 2) := by decide +kernel
theorem dX10_rest_84 : decode cX10_rest 84 = .ok (.ireturn, 1) := by decide +kernel
theorem dX10_commonFactor_0 : decode cX10_commonFactor 0 = .ok (.iconst 1, 1) := by decide +kernel
theorem dX10_commonFactor_1 : decode cX10_commonFactor 1 = .ok (.istore_n 2, 1) := by decide +kernel
theorem dX10_commonFactor_2 : decode cX10_commonFactor 2 = .ok (.iconst 2, 1) := by decide +kernel
theorem dX10_commonFactor_3 : decode cX10_commonFactor 3 = .ok (.istore_n 3, 1) := by decide +kernel
theorem dX10_commonFactor_4 : decode cX10_commonFactor 4 = .ok (.iload_n 3, 1) := by decide +kernel
theorem dX10_commonFactor_5 : decode cX10_commonFactor 5 = .ok (.iload_n 1, 1) := by decide +kernel
theorem dX10_commonFactor_6 : decode cX10_commonFactor 6 = .ok (.if_icmp .gt 23, 3) := by decide +kernel
theorem dX10_commonFactor_9 : decode cX10_commonFactor 9 = .ok (.iload_n 0, 1) := by decide +kernel
theorem dX10_commonFactor_10 : decode cX10_commonFactor 10 = .ok (.iload_n 3, 1) := by decide +kernel
theorem dX10_commonFactor_11 : decode cX10_commonFactor 11 = .ok (.irem, 1) := by decide +kernel
theorem dX10_commonFactor_12 : decode cX10_commonFactor 12 = .ok (.ifCond .ne 11, 3) := by decide +kernel
theorem dX10_commonFactor_15 : decode cX10_commonFactor 15 = .ok (.iload_n 1, 1) := by decide +kernel
theorem dX10_commonFactor_16 : decode cX10_commonFactor 16 = .ok (.iload_n 3, 1) := by decide +kernel
theorem dX10_commonFactor_17 : decode cX10_commonFactor 17 = .ok (.irem, 1) := by decide +kernel
theorem dX10_commonFactor_18 : decode cX10_commonFactor 18 = .ok (.ifCond .ne 5, 3) := by decide +kernel
theorem dX10_commonFactor_21 : decode cX10_commonFactor 21 = .ok (.iload_n 3, 1) := by decide +kernel
theorem dX10_commonFactor_22 : decode cX10_commonFactor 22 = .ok (.istore_n 2, 1) := by decide +kernel
theorem dX10_commonFactor_23 : decode cX10_commonFactor 23 = .ok (.iinc 3 1, 3) := by decide +kernel
theorem dX10_commonFactor_26 : decode cX10_commonFactor 26 = .ok (.goto (-22), 3) := by decide +kernel
theorem dX10_commonFactor_29 : decode cX10_commonFactor 29 = .ok (.iload_n 2, 1) := by decide +kernel
theorem dX10_commonFactor_30 : decode cX10_commonFactor 30 = .ok (.ireturn, 1) := by decide +kernel
theorem dX10_calm_0 : decode cX10_calm 0 = .ok (.iload_n 1, 1) := by decide +kernel
theorem dX10_calm_1 : decode cX10_calm 1 = .ok (.ifCond .lt 18, 3) := by decide +kernel
theorem dX10_calm_4 : decode cX10_calm 4 = .ok (.iload_n 1, 1) := by decide +kernel
theorem dX10_calm_5 : decode cX10_calm 5 = .ok (.bipush 6, 2) := by decide +kernel
theorem dX10_calm_7 : decode cX10_calm 7 = .ok (.if_icmp .gt 12, 3) := by decide +kernel
theorem dX10_calm_10 : decode cX10_calm 10 = .ok (.iload_n 2, 1) := by decide +kernel
theorem dX10_calm_11 : decode cX10_calm 11 = .ok (.ifCond .eq 12, 3) := by decide +kernel
theorem dX10_calm_14 : decode cX10_calm 14 = .ok (.iload_n 2, 1) := by decide +kernel
theorem dX10_calm_15 : decode cX10_calm 15 = .ok (.iconst 1, 1) := by decide +kernel
theorem dX10_calm_16 : decode cX10_calm 16 = .ok (.if_icmp .eq 7, 3) := by decide +kernel
theorem dX10_calm_19 : decode cX10_calm 19 = .ok (.ldc2_w 322, 3) := by decide +kernel
theorem dX10_calm_22 : decode cX10_calm 22 = .ok (.lreturn, 1) := by decide +kernel
theorem dX10_calm_23 : decode cX10_calm 23 = .ok (.bipush 100, 2) := by decide +kernel
theorem dX10_calm_25 : decode cX10_calm 25 = .ok (.aload_n 0, 1) := by decide +kernel
theorem dX10_calm_26 : decode cX10_calm 26 = .ok (.getfield 20, 3) := by decide +kernel
theorem dX10_calm_29 : decode cX10_calm 29 = .ok (.getfield 324, 3) := by decide +kernel
theorem dX10_calm_32 : decode cX10_calm 32 = .ok (.isub, 1) := by decide +kernel
theorem dX10_calm_33 : decode cX10_calm 33 = .ok (.istore_n 3, 1) := by decide +kernel
theorem dX10_calm_34 : decode cX10_calm 34 = .ok (.iload_n 3, 1) := by decide +kernel
theorem dX10_calm_35 : decode cX10_calm 35 = .ok (.bipush 100, 2) := by decide +kernel
theorem dX10_calm_37 : decode cX10_calm 37 = .ok (.invokestatic 327, 3) := by decide +kernel
theorem dX10_calm_40 : decode cX10_calm 40 = .ok (.istore 4, 2) := by decide +kernel
theorem dX10_calm_42 : decode cX10_calm 42 = .ok (.iload 4, 2) := by decide +kernel
theorem dX10_calm_44 : decode cX10_calm 44 = .ok (.iconst 1, 1) := by decide +kernel
theorem dX10_calm_45 : decode cX10_calm 45 = .ok (.if_icmp .ge 7, 3) := by decide +kernel
theorem dX10_calm_48 : decode cX10_calm 48 = .ok (.ldc2_w 322, 3) := by decide +kernel
theorem dX10_calm_51 : decode cX10_calm 51 = .ok (.lreturn, 1) := by decide +kernel
theorem dX10_calm_52 : decode cX10_calm 52 = .ok (.iload_n 2, 1) := by decide +kernel
theorem dX10_calm_53 : decode cX10_calm 53 = .ok (.ifCond .ne 10, 3) := by decide +kernel
theorem dX10_calm_56 : decode cX10_calm 56 = .ok (.iload_n 3, 1) := by decide +kernel
theorem dX10_calm_57 : decode cX10_calm 57 = .ok (.iload 4, 2) := by decide +kernel
theorem dX10_calm_59 : decode cX10_calm 59 = .ok (.idiv, 1) := by decide +kernel
theorem dX10_calm_60 : decode cX10_calm 60 = .ok (.goto 8, 3) := by decide +kernel
theorem dX10_calm_63 : decode cX10_calm 63 = .ok (.bipush 100, 2) := by decide +kernel
theorem dX10_calm_65 : decode cX10_calm 65 = .ok (.iload 4, 2) := by decide +kernel
theorem dX10_calm_67 : decode cX10_calm 67 = .ok (.idiv, 1) := by decide +kernel
theorem dX10_calm_68 : decode cX10_calm 68 = .ok (.istore 5, 2) := by decide +kernel
theorem dX10_calm_70 : decode cX10_calm 70 = .ok (.lconst 1, 1) := by decide +kernel
theorem dX10_calm_71 : decode cX10_calm 71 = .ok (.lstore 6, 2) := by decide +kernel
theorem dX10_calm_73 : decode cX10_calm 73 = .ok (.iconst 0, 1) := by decide +kernel
theorem dX10_calm_74 : decode cX10_calm 74 = .ok (.istore 8, 2) := by decide +kernel
theorem dX10_calm_76 : decode cX10_calm 76 = .ok (.iload 8, 2) := by decide +kernel
theorem dX10_calm_78 : decode cX10_calm 78 = .ok (.iload_n 1, 1) := by decide +kernel
theorem dX10_calm_79 : decode cX10_calm 79 = .ok (.if_icmp .ge 17, 3) := by decide +kernel
theorem dX10_calm_82 : decode cX10_calm 82 = .ok (.lload 6, 2) := by decide +kernel
theorem dX10_calm_84 : decode cX10_calm 84 = .ok (.iload 5, 2) := by decide +kernel
theorem dX10_calm_86 : decode cX10_calm 86 = .ok (.i2l, 1) := by decide +kernel
theorem dX10_calm_87 : decode cX10_calm 87 = .ok (.lmul, 1) := by decide +kernel
theorem dX10_calm_88 : decode cX10_calm 88 = .ok (.lstore 6, 2) := by decide +kernel
theorem dX10_calm_90 : decode cX10_calm 90 = .ok (.iinc 8 1, 3) := by decide +kernel
theorem dX10_calm_93 : decode cX10_calm 93 = .ok (.goto (-17), 3) := by decide +kernel
theorem dX10_calm_96 : decode cX10_calm 96 = .ok (.lload 6, 2) := by decide +kernel
theorem dX10_calm_98 : decode cX10_calm 98 = .ok (.lreturn, 1) := by decide +kernel
theorem dX10_whose_0 : decode cX10_whose 0 = .ok (.aload_n 0, 1) := by decide +kernel
theorem dX10_whose_1 : decode cX10_whose 1 = .ok (.iload_n 1, 1) := by decide +kernel
theorem dX10_whose_2 : decode cX10_whose 2 = .ok (.iload_n 2, 1) := by decide +kernel
theorem dX10_whose_3 : decode cX10_whose 3 = .ok (.invokevirtual 178, 3) := by decide +kernel
theorem dX10_whose_6 : decode cX10_whose 6 = .ok (.ifCond .eq 15, 3) := by decide +kernel
theorem dX10_whose_9 : decode cX10_whose 9 = .ok (.aload_n 0, 1) := by decide +kernel
theorem dX10_whose_10 : decode cX10_whose 10 = .ok (.getfield 47, 3) := by decide +kernel
theorem dX10_whose_13 : decode cX10_whose 13 = .ok (.iload_n 1, 1) := by decide +kernel
theorem dX10_whose_14 : decode cX10_whose 14 = .ok (.iload_n 2, 1) := by decide +kernel
theorem dX10_whose_15 : decode cX10_whose 15 = .ok (.invokevirtual 330, 3) := by decide +kernel
theorem dX10_whose_18 : decode cX10_whose 18 = .ok (.goto 4, 3) := by decide +kernel
theorem dX10_whose_21 : decode cX10_whose 21 = .ok (.iconst (-1), 1) := by decide +kernel
theorem dX10_whose_22 : decode cX10_whose 22 = .ok (.ireturn, 1) := by decide +kernel
theorem dX10_those_0 : decode cX10_those 0 = .ok (.iload_n 1, 1) := by decide +kernel
theorem dX10_those_1 : decode cX10_those 1 = .ok (.tableswitch 51 0 2 #[27, 35, 43], 27) := by decide +kernel
theorem dX10_those_28 : decode cX10_those 28 = .ok (.aload_n 0, 1) := by decide +kernel
theorem dX10_those_29 : decode cX10_those 29 = .ok (.getfield 47, 3) := by decide +kernel
theorem dX10_those_32 : decode cX10_those 32 = .ok (.invokevirtual 333, 3) := by decide +kernel
theorem dX10_those_35 : decode cX10_those 35 = .ok (.ireturn, 1) := by decide +kernel
theorem dX10_those_36 : decode cX10_those 36 = .ok (.aload_n 0, 1) := by decide +kernel
theorem dX10_those_37 : decode cX10_those 37 = .ok (.getfield 47, 3) := by decide +kernel
theorem dX10_those_40 : decode cX10_those 40 = .ok (.invokevirtual 336, 3) := by decide +kernel
theorem dX10_those_43 : decode cX10_those 43 = .ok (.ireturn, 1) := by decide +kernel
theorem dX10_those_44 : decode cX10_those 44 = .ok (.aload_n 0, 1) := by decide +kernel
theorem dX10_those_45 : decode cX10_those 45 = .ok (.getfield 47, 3) := by decide +kernel
theorem dX10_those_48 : decode cX10_those 48 = .ok (.invokevirtual 339, 3) := by decide +kernel
theorem dX10_those_51 : decode cX10_those 51 = .ok (.ireturn, 1) := by decide +kernel
theorem dX10_those_52 : decode cX10_those 52 = .ok (.iconst (-1), 1) := by decide +kernel
theorem dX10_those_53 : decode cX10_those 53 = .ok (.ireturn, 1) := by decide +kernel
theorem dX10_see_0 : decode cX10_see 0 = .ok (.iload_n 1, 1) := by decide +kernel
theorem dX10_see_1 : decode cX10_see 1 = .ok (.iconst 1, 1) := by decide +kernel
theorem dX10_see_2 : decode cX10_see 2 = .ok (.if_icmp .lt 30, 3) := by decide +kernel
theorem dX10_see_5 : decode cX10_see 5 = .ok (.iload_n 1, 1) := by decide +kernel
theorem dX10_see_6 : decode cX10_see 6 = .ok (.bipush 40, 2) := by decide +kernel
theorem dX10_see_8 : decode cX10_see 8 = .ok (.if_icmp .gt 24, 3) := by decide +kernel
theorem dX10_see_11 : decode cX10_see 11 = .ok (.aload_n 0, 1) := by decide +kernel
theorem dX10_see_12 : decode cX10_see 12 = .ok (.iload_n 2, 1) := by decide +kernel
theorem dX10_see_13 : decode cX10_see 13 = .ok (.iload_n 3, 1) := by decide +kernel
theorem dX10_see_14 : decode cX10_see 14 = .ok (.invokevirtual 178, 3) := by decide +kernel
theorem dX10_see_17 : decode cX10_see 17 = .ok (.ifCond .eq 15, 3) := by decide +kernel
theorem dX10_see_20 : decode cX10_see 20 = .ok (.aload_n 0, 1) := by decide +kernel
theorem dX10_see_21 : decode cX10_see 21 = .ok (.getfield 84, 3) := by decide +kernel
theorem dX10_see_24 : decode cX10_see 24 = .ok (.getfield 342, 3) := by decide +kernel
theorem dX10_see_27 : decode cX10_see 27 = .ok (.bipush 24, 2) := by decide +kernel
theorem dX10_see_29 : decode cX10_see 29 = .ok (.if_icmp .lt 5, 3) := by decide +kernel
theorem dX10_see_32 : decode cX10_see 32 = .ok (.iconst (-1), 1) := by decide +kernel
theorem dX10_see_33 : decode cX10_see 33 = .ok (.ireturn, 1) := by decide +kernel
theorem dX10_see_34 : decode cX10_see 34 = .ok (.aload_n 0, 1) := by decide +kernel
theorem dX10_see_35 : decode cX10_see 35 = .ok (.getfield 84, 3) := by decide +kernel
theorem dX10_see_38 : decode cX10_see 38 = .ok (.iload_n 1, 1) := by decide +kernel
theorem dX10_see_39 : decode cX10_see 39 = .ok (.iload_n 2, 1) := by decide +kernel
theorem dX10_see_40 : decode cX10_see 40 = .ok (.iload_n 3, 1) := by decide +kernel
theorem dX10_see_41 : decode cX10_see 41 = .ok (.iload 4, 2) := by decide +kernel
theorem dX10_see_43 : decode cX10_see 43 = .ok (.invokevirtual 344, 3) := by decide +kernel
theorem dX10_see_46 : decode cX10_see 46 = .ok (.ireturn, 1) := by decide +kernel
theorem dX10_out_0 : decode cX10_out 0 = .ok (.iload_n 1, 1) := by decide +kernel
theorem dX10_out_1 : decode cX10_out 1 = .ok (.ifCond .lt 26, 3) := by decide +kernel
theorem dX10_out_4 : decode cX10_out 4 = .ok (.iload_n 1, 1) := by decide +kernel
theorem dX10_out_5 : decode cX10_out 5 = .ok (.aload_n 0, 1) := by decide +kernel
theorem dX10_out_6 : decode cX10_out 6 = .ok (.getfield 84, 3) := by decide +kernel
theorem dX10_out_9 : decode cX10_out 9 = .ok (.getfield 342, 3) := by decide +kernel
theorem dX10_out_12 : decode cX10_out 12 = .ok (.if_icmp .ge 15, 3) := by decide +kernel
theorem dX10_out_15 : decode cX10_out 15 = .ok (.aload_n 0, 1) := by decide +kernel
theorem dX10_out_16 : decode cX10_out 16 = .ok (.getfield 84, 3) := by decide +kernel
theorem dX10_out_19 : decode cX10_out 19 = .ok (.getfield 342, 3) := by decide +kernel
theorem dX10_out_22 : decode cX10_out 22 = .ok (.bipush 24, 2) := by decide +kernel
theorem dX10_out_24 : decode cX10_out 24 = .ok (.if_icmp .lt 5, 3) := by decide +kernel
theorem dX10_out_27 : decode cX10_out 27 = .ok (.iconst (-1), 1) := by decide +kernel
theorem dX10_out_28 : decode cX10_out 28 = .ok (.ireturn, 1) := by decide +kernel
theorem dX10_out_29 : decode cX10_out 29 = .ok (.aload_n 0, 1) := by decide +kernel
theorem dX10_out_30 : decode cX10_out 30 = .ok (.getfield 84, 3) := by decide +kernel
theorem dX10_out_33 : decode cX10_out 33 = .ok (.iload_n 1, 1) := by decide +kernel
theorem dX10_out_34 : decode cX10_out 34 = .ok (.invokevirtual 348, 3) := by decide +kernel
theorem dX10_out_37 : decode cX10_out 37 = .ok (.ireturn, 1) := by decide +kernel
theorem dX10_known_0 : decode cX10_known 0 = .ok (.iload_n 1, 1) := by decide +kernel
theorem dX10_known_1 : decode cX10_known 1 = .ok (.iconst (-1), 1) := by decide +kernel
theorem dX10_known_2 : decode cX10_known 2 = .ok (.if_icmp .lt 14, 3) := by decide +kernel
theorem dX10_known_5 : decode cX10_known 5 = .ok (.iload_n 1, 1) := by decide +kernel
theorem dX10_known_6 : decode cX10_known 6 = .ok (.aload_n 0, 1) := by decide +kernel
theorem dX10_known_7 : decode cX10_known 7 = .ok (.getfield 84, 3) := by decide +kernel
theorem dX10_known_10 : decode cX10_known 10 = .ok (.getfield 342, 3) := by decide +kernel
theorem dX10_known_13 : decode cX10_known 13 = .ok (.if_icmp .le 5, 3) := by decide +kernel
theorem dX10_known_16 : decode cX10_known 16 = .ok (.iconst 0, 1) := by decide +kernel
theorem dX10_known_17 : decode cX10_known 17 = .ok (.ireturn, 1) := by decide +kernel
theorem dX10_known_18 : decode cX10_known 18 = .ok (.aload_n 0, 1) := by decide +kernel
theorem dX10_known_19 : decode cX10_known 19 = .ok (.getfield 84, 3) := by decide +kernel
theorem dX10_known_22 : decode cX10_known 22 = .ok (.iload_n 1, 1) := by decide +kernel
theorem dX10_known_23 : decode cX10_known 23 = .ok (.putfield 351, 3) := by decide +kernel
theorem dX10_known_26 : decode cX10_known 26 = .ok (.iconst 1, 1) := by decide +kernel
theorem dX10_known_27 : decode cX10_known 27 = .ok (.ireturn, 1) := by decide +kernel
theorem dX10_rooms_0 : decode cX10_rooms 0 = .ok (.aload_n 0, 1) := by decide +kernel
theorem dX10_rooms_1 : decode cX10_rooms 1 = .ok (.getfield 84, 3) := by decide +kernel
theorem dX10_rooms_4 : decode cX10_rooms 4 = .ok (.invokevirtual 354, 3) := by decide +kernel
theorem dX10_rooms_7 : decode cX10_rooms 7 = .ok (.istore_n 1, 1) := by decide +kernel
theorem dX10_rooms_8 : decode cX10_rooms 8 = .ok (.iconst 0, 1) := by decide +kernel
theorem dX10_rooms_9 : decode cX10_rooms 9 = .ok (.istore_n 2, 1) := by decide +kernel
theorem dX10_rooms_10 : decode cX10_rooms 10 = .ok (.iconst 1, 1) := by decide +kernel
theorem dX10_rooms_11 : decode cX10_rooms 11 = .ok (.istore_n 3, 1) := by decide +kernel
theorem dX10_rooms_12 : decode cX10_rooms 12 = .ok (.iload_n 3, 1) := by decide +kernel
theorem dX10_rooms_13 : decode cX10_rooms 13 = .ok (.bipush 10, 2) := by decide +kernel
theorem dX10_rooms_15 : decode cX10_rooms 15 = .ok (.if_icmp .gt 99, 3) := by decide +kernel
theorem dX10_rooms_18 : decode cX10_rooms 18 = .ok (.aload_n 0, 1) := by decide +kernel
theorem dX10_rooms_19 : decode cX10_rooms 19 = .ok (.getfield 58, 3) := by decide +kernel
theorem dX10_rooms_22 : decode cX10_rooms 22 = .ok (.aload_n 0, 1) := by decide +kernel
theorem dX10_rooms_23 : decode cX10_rooms 23 = .ok (.getfield 20, 3) := by decide +kernel
theorem dX10_rooms_26 : decode cX10_rooms 26 = .ok (.invokevirtual 105, 3) := by decide +kernel
theorem dX10_rooms_29 : decode cX10_rooms 29 = .ok (.aload_n 0, 1) := by decide +kernel
theorem dX10_rooms_30 : decode cX10_rooms 30 = .ok (.getfield 66, 3) := by decide +kernel
theorem dX10_rooms_33 : decode cX10_rooms 33 = .ok (.aload_n 0, 1) := by decide +kernel
theorem dX10_rooms_34 : decode cX10_rooms 34 = .ok (.getfield 58, 3) := by decide +kernel
theorem dX10_rooms_37 : decode cX10_rooms 37 = .ok (.iconst 1, 1) := by decide +kernel
theorem dX10_rooms_38 : decode cX10_rooms 38 = .ok (.invokevirtual 196, 3) := by decide +kernel
theorem dX10_rooms_41 : decode cX10_rooms 41 = .ok (.aload_n 0, 1) := by decide +kernel
theorem dX10_rooms_42 : decode cX10_rooms 42 = .ok (.getfield 66, 3) := by decide +kernel
theorem dX10_rooms_45 : decode cX10_rooms 45 = .ok (.iload_n 3, 1) := by decide +kernel
theorem dX10_rooms_46 : decode cX10_rooms 46 = .ok (.putfield 356, 3) := by decide +kernel
theorem dX10_rooms_49 : decode cX10_rooms 49 = .ok (.iconst 1, 1) := by decide +kernel
theorem dX10_rooms_50 : decode cX10_rooms 50 = .ok (.istore 4, 2) := by decide +kernel
theorem dX10_rooms_52 : decode cX10_rooms 52 = .ok (.iconst 1, 1) := by decide +kernel
theorem dX10_rooms_53 : decode cX10_rooms 53 = .ok (.istore 5, 2) := by decide +kernel
theorem dX10_rooms_55 : decode cX10_rooms 55 = .ok (.iload 5, 2) := by decide +kernel
theorem dX10_rooms_57 : decode cX10_rooms 57 = .ok (.iload_n 1, 1) := by decide +kernel
theorem dX10_rooms_58 : decode cX10_rooms 58 = .ok (.if_icmp .gt 37, 3) := by decide +kernel
theorem dX10_rooms_61 : decode cX10_rooms 61 = .ok (.iload 4, 2) := by decide +kernel
theorem dX10_rooms_63 : decode cX10_rooms 63 = .ok (.ifCond .eq 32, 3) := by decide +kernel
theorem dX10_rooms_66 : decode cX10_rooms 66 = .ok (.aload_n 0, 1) := by decide +kernel
theorem dX10_rooms_67 : decode cX10_rooms 67 = .ok (.getfield 66, 3) := by decide +kernel
theorem dX10_rooms_70 : decode cX10_rooms 70 = .ok (.iconst 1, 1) := by decide +kernel
theorem dX10_rooms_71 : decode cX10_rooms 71 = .ok (.invokevirtual 239, 3) := by decide +kernel
theorem dX10_rooms_74 : decode cX10_rooms 74 = .ok (.aload_n 0, 1) := by decide +kernel
theorem dX10_rooms_75 : decode cX10_rooms 75 = .ok (.getfield 84, 3) := by decide +kernel
theorem dX10_rooms_78 : decode cX10_rooms 78 = .ok (.iload 5, 2) := by decide +kernel
theorem dX10_rooms_80 : decode cX10_rooms 80 = .ok (.aload_n 0, 1) := by decide +kernel
theorem dX10_rooms_81 : decode cX10_rooms 81 = .ok (.getfield 58, 3) := by decide +kernel
theorem dX10_rooms_84 : decode cX10_rooms 84 = .ok (.invokevirtual 357, 3) := by decide +kernel
theorem dX10_rooms_87 : decode cX10_rooms 87 = .ok (.istore 4, 2) := by decide +kernel
theorem dX10_rooms_89 : decode cX10_rooms 89 = .ok (.iinc 5 1, 3) := by decide +kernel
theorem dX10_rooms_92 : decode cX10_rooms 92 = .ok (.goto (-37), 3) := by decide +kernel
theorem dX10_rooms_95 : decode cX10_rooms 95 = .ok (.iload 4, 2) := by decide +kernel
theorem dX10_rooms_97 : decode cX10_rooms 97 = .ok (.ifCond .eq 11, 3) := by decide +kernel
theorem dX10_rooms_100 : decode cX10_rooms 100 = .ok (.iload_n 2, 1) := by decide +kernel
theorem dX10_rooms_101 : decode cX10_rooms 101 = .ok (.iconst 1, 1) := by decide +kernel
theorem dX10_rooms_102 : decode cX10_rooms 102 = .ok (.iload_n 3, 1) := by decide +kernel
theorem dX10_rooms_103 : decode cX10_rooms 103 = .ok (.iconst 1, 1) := by decide +kernel
theorem dX10_rooms_104 : decode cX10_rooms 104 = .ok (.isub, 1) := by decide +kernel
theorem dX10_rooms_105 : decode cX10_rooms 105 = .ok (.ishl, 1) := by decide +kernel
theorem dX10_rooms_106 : decode cX10_rooms 106 = .ok (.ior, 1) := by decide +kernel
theorem dX10_rooms_107 : decode cX10_rooms 107 = .ok (.istore_n 2, 1) := by decide +kernel
theorem dX10_rooms_108 : decode cX10_rooms 108 = .ok (.iinc 3 1, 3) := by decide +kernel
theorem dX10_rooms_111 : decode cX10_rooms 111 = .ok (.goto (-99), 3) := by decide +kernel
theorem dX10_rooms_114 : decode cX10_rooms 114 = .ok (.iload_n 2, 1) := by decide +kernel
theorem dX10_rooms_115 : decode cX10_rooms 115 = .ok (.ireturn, 1) := by decide +kernel
theorem dX10_chance_0 : decode cX10_chance 0 = .ok (.iload_n 1, 1) := by decide +kernel
theorem dX10_chance_1 : decode cX10_chance 1 = .ok (.ifCond .lt 24, 3) := by decide +kernel
theorem dX10_chance_4 : decode cX10_chance 4 = .ok (.iload_n 2, 1) := by decide +kernel
theorem dX10_chance_5 : decode cX10_chance 5 = .ok (.iconst 1, 1) := by decide +kernel
theorem dX10_chance_6 : decode cX10_chance 6 = .ok (.if_icmp .lt 19, 3) := by decide +kernel
theorem dX10_chance_9 : decode cX10_chance 9 = .ok (.iload_n 2, 1) := by decide +kernel
theorem dX10_chance_10 : decode cX10_chance 10 = .ok (.bipush 99, 2) := by decide +kernel
theorem dX10_chance_12 : decode cX10_chance 12 = .ok (.if_icmp .gt 13, 3) := by decide +kernel
theorem dX10_chance_15 : decode cX10_chance 15 = .ok (.iload_n 3, 1) := by decide +kernel
theorem dX10_chance_16 : decode cX10_chance 16 = .ok (.ifCond .lt 9, 3) := by decide +kernel
theorem dX10_chance_19 : decode cX10_chance 19 = .ok (.iload_n 3, 1) := by decide +kernel
theorem dX10_chance_20 : decode cX10_chance 20 = .ok (.bipush 25, 2) := by decide +kernel
theorem dX10_chance_22 : decode cX10_chance 22 = .ok (.if_icmp .le 5, 3) := by decide +kernel
theorem dX10_chance_25 : decode cX10_chance 25 = .ok (.iconst (-1), 1) := by decide +kernel
theorem dX10_chance_26 : decode cX10_chance 26 = .ok (.ireturn, 1) := by decide +kernel
theorem dX10_chance_27 : decode cX10_chance 27 = .ok (.iload_n 1, 1) := by decide +kernel
theorem dX10_chance_28 : decode cX10_chance 28 = .ok (.istore 4, 2) := by decide +kernel
theorem dX10_chance_30 : decode cX10_chance 30 = .ok (.iconst 0, 1) := by decide +kernel
theorem dX10_chance_31 : decode cX10_chance 31 = .ok (.istore 5, 2) := by decide +kernel
theorem dX10_chance_33 : decode cX10_chance 33 = .ok (.iconst 0, 1) := by decide +kernel
theorem dX10_chance_34 : decode cX10_chance 34 = .ok (.istore 6, 2) := by decide +kernel
theorem dX10_chance_36 : decode cX10_chance 36 = .ok (.iload 6, 2) := by decide +kernel
theorem dX10_chance_38 : decode cX10_chance 38 = .ok (.bipush 10, 2) := by decide +kernel
theorem dX10_chance_40 : decode cX10_chance 40 = .ok (.if_icmp .ge 79, 3) := by decide +kernel
theorem dX10_chance_43 : decode cX10_chance 43 = .ok (.aload_n 0, 1) := by decide +kernel
theorem dX10_chance_44 : decode cX10_chance 44 = .ok (.getfield 58, 3) := by decide +kernel
theorem dX10_chance_47 : decode cX10_chance 47 = .ok (.aload_n 0, 1) := by decide +kernel
theorem dX10_chance_48 : decode cX10_chance 48 = .ok (.getfield 47, 3) := by decide +kernel
theorem dX10_chance_51 : decode cX10_chance 51 = .ok (.invokevirtual 242, 3) := by decide +kernel
theorem dX10_chance_54 : decode cX10_chance 54 = .ok (.aload_n 0, 1) := by decide +kernel
theorem dX10_chance_55 : decode cX10_chance 55 = .ok (.getfield 58, 3) := by decide +kernel
theorem dX10_chance_58 : decode cX10_chance 58 = .ok (.iload 4, 2) := by decide +kernel
theorem dX10_chance_60 : decode cX10_chance 60 = .ok (.putfield 361, 3) := by decide +kernel
theorem dX10_chance_63 : decode cX10_chance 63 = .ok (.aload_n 0, 1) := by decide +kernel
theorem dX10_chance_64 : decode cX10_chance 64 = .ok (.getfield 66, 3) := by decide +kernel
theorem dX10_chance_67 : decode cX10_chance 67 = .ok (.aload_n 0, 1) := by decide +kernel
theorem dX10_chance_68 : decode cX10_chance 68 = .ok (.getfield 58, 3) := by decide +kernel
theorem dX10_chance_71 : decode cX10_chance 71 = .ok (.iconst 0, 1) := by decide +kernel
theorem dX10_chance_72 : decode cX10_chance 72 = .ok (.invokevirtual 196, 3) := by decide +kernel
theorem dX10_chance_75 : decode cX10_chance 75 = .ok (.aload_n 0, 1) := by decide +kernel
theorem dX10_chance_76 : decode cX10_chance 76 = .ok (.getfield 66, 3) := by decide +kernel
theorem dX10_chance_79 : decode cX10_chance 79 = .ok (.iload_n 2, 1) := by decide +kernel
theorem dX10_chance_80 : decode cX10_chance 80 = .ok (.invokevirtual 239, 3) := by decide +kernel
theorem dX10_chance_83 : decode cX10_chance 83 = .ok (.aload_n 0, 1) := by decide +kernel
theorem dX10_chance_84 : decode cX10_chance 84 = .ok (.getfield 58, 3) := by decide +kernel
theorem dX10_chance_87 : decode cX10_chance 87 = .ok (.getfield 361, 3) := by decide +kernel
theorem dX10_chance_90 : decode cX10_chance 90 = .ok (.istore 4, 2) := by decide +kernel
theorem dX10_chance_92 : decode cX10_chance 92 = .ok (.iload 5, 2) := by decide +kernel
theorem dX10_chance_94 : decode cX10_chance 94 = .ok (.aload_n 0, 1) := by decide +kernel
theorem dX10_chance_95 : decode cX10_chance 95 = .ok (.getfield 58, 3) := by decide +kernel
theorem dX10_chance_98 : decode cX10_chance 98 = .ok (.invokevirtual 252, 3) := by decide +kernel
theorem dX10_chance_101 : decode cX10_chance 101 = .ok (.iload_n 3, 1) := by decide +kernel
theorem dX10_chance_102 : decode cX10_chance 102 = .ok (.if_icmp .lt 7, 3) := by decide +kernel
theorem dX10_chance_105 : decode cX10_chance 105 = .ok (.iconst 1, 1) := by decide +kernel
theorem dX10_chance_106 : decode cX10_chance 106 = .ok (.goto 4, 3) := by decide +kernel
theorem dX10_chance_109 : decode cX10_chance 109 = .ok (.iconst 0, 1) := by decide +kernel
theorem dX10_chance_110 : decode cX10_chance 110 = .ok (.iadd, 1) := by decide +kernel
theorem dX10_chance_111 : decode cX10_chance 111 = .ok (.istore 5, 2) := by decide +kernel
theorem dX10_chance_113 : decode cX10_chance 113 = .ok (.iinc 6 1, 3) := by decide +kernel
theorem dX10_chance_116 : decode cX10_chance 116 = .ok (.goto (-80), 3) := by decide +kernel
theorem dX10_chance_119 : decode cX10_chance 119 = .ok (.iload 5, 2) := by decide +kernel
theorem dX10_chance_121 : decode cX10_chance 121 = .ok (.ireturn, 1) := by decide +kernel
theorem dX10_tried_0 : decode cX10_tried 0 = .ok (.iload_n 1, 1) := by decide +kernel
theorem dX10_tried_1 : decode cX10_tried 1 = .ok (.iconst 2, 1) := by decide +kernel
theorem dX10_tried_2 : decode cX10_tried 2 = .ok (.if_icmp .ne 11, 3) := by decide +kernel
theorem dX10_tried_5 : decode cX10_tried 5 = .ok (.aload_n 0, 1) := by decide +kernel
theorem dX10_tried_6 : decode cX10_tried 6 = .ok (.iload_n 2, 1) := by decide +kernel
theorem dX10_tried_7 : decode cX10_tried 7 = .ok (.invokevirtual 119, 3) := by decide +kernel
theorem dX10_tried_10 : decode cX10_tried 10 = .ok (.goto 21, 3) := by decide +kernel
theorem dX10_tried_13 : decode cX10_tried 13 = .ok (.iload_n 1, 1) := by decide +kernel
theorem dX10_tried_14 : decode cX10_tried 14 = .ok (.ifCond .lt 16, 3) := by decide +kernel
theorem dX10_tried_17 : decode cX10_tried 17 = .ok (.iload_n 1, 1) := by decide +kernel
theorem dX10_tried_18 : decode cX10_tried 18 = .ok (.iconst 5, 1) := by decide +kernel
theorem dX10_tried_19 : decode cX10_tried 19 = .ok (.if_icmp .gt 11, 3) := by decide +kernel
theorem dX10_tried_22 : decode cX10_tried 22 = .ok (.iload_n 2, 1) := by decide +kernel
theorem dX10_tried_23 : decode cX10_tried 23 = .ok (.ifCond .ne 7, 3) := by decide +kernel
theorem dX10_tried_26 : decode cX10_tried 26 = .ok (.iconst 1, 1) := by decide +kernel
theorem dX10_tried_27 : decode cX10_tried 27 = .ok (.goto 4, 3) := by decide +kernel
theorem dX10_tried_30 : decode cX10_tried 30 = .ok (.iconst 0, 1) := by decide +kernel
theorem dX10_tried_31 : decode cX10_tried 31 = .ok (.istore 4, 2) := by decide +kernel
theorem dX10_tried_33 : decode cX10_tried 33 = .ok (.iload 4, 2) := by decide +kernel
theorem dX10_tried_35 : decode cX10_tried 35 = .ok (.ifCond .eq 10, 3) := by decide +kernel
theorem dX10_tried_38 : decode cX10_tried 38 = .ok (.iload_n 3, 1) := by decide +kernel
theorem dX10_tried_39 : decode cX10_tried 39 = .ok (.invokestatic 236, 3) := by decide +kernel
theorem dX10_tried_42 : decode cX10_tried 42 = .ok (.ifCond .ne 5, 3) := by decide +kernel
theorem dX10_tried_45 : decode cX10_tried 45 = .ok (.iconst (-1), 1) := by decide +kernel
theorem dX10_tried_46 : decode cX10_tried 46 = .ok (.ireturn, 1) := by decide +kernel
theorem dX10_tried_47 : decode cX10_tried 47 = .ok (.aload_n 0, 1) := by decide +kernel
theorem dX10_tried_48 : decode cX10_tried 48 = .ok (.getfield 58, 3) := by decide +kernel
theorem dX10_tried_51 : decode cX10_tried 51 = .ok (.aload_n 0, 1) := by decide +kernel
theorem dX10_tried_52 : decode cX10_tried 52 = .ok (.getfield 47, 3) := by decide +kernel
theorem dX10_tried_55 : decode cX10_tried 55 = .ok (.invokevirtual 242, 3) := by decide +kernel
theorem dX10_tried_58 : decode cX10_tried 58 = .ok (.aload_n 0, 1) := by decide +kernel
theorem dX10_tried_59 : decode cX10_tried 59 = .ok (.getfield 66, 3) := by decide +kernel
theorem dX10_tried_62 : decode cX10_tried 62 = .ok (.aload_n 0, 1) := by decide +kernel
theorem dX10_tried_63 : decode cX10_tried 63 = .ok (.getfield 58, 3) := by decide +kernel
theorem dX10_tried_66 : decode cX10_tried 66 = .ok (.iload_n 1, 1) := by decide +kernel
theorem dX10_tried_67 : decode cX10_tried 67 = .ok (.iconst 1, 1) := by decide +kernel
theorem dX10_tried_68 : decode cX10_tried 68 = .ok (.if_icmp .ne 7, 3) := by decide +kernel
theorem dX10_tried_71 : decode cX10_tried 71 = .ok (.iconst 2, 1) := by decide +kernel
theorem dX10_tried_72 : decode cX10_tried 72 = .ok (.goto 4, 3) := by decide +kernel
theorem dX10_tried_75 : decode cX10_tried 75 = .ok (.iconst 1, 1) := by decide +kernel
theorem dX10_tried_76 : decode cX10_tried 76 = .ok (.invokevirtual 196, 3) := by decide +kernel
theorem dX10_tried_79 : decode cX10_tried 79 = .ok (.iload_n 1, 1) := by decide +kernel
theorem dX10_tried_80 : decode cX10_tried 80 = .ok (.iconst 2, 1) := by decide +kernel
theorem dX10_tried_81 : decode cX10_tried 81 = .ok (.if_icmp .ne 14, 3) := by decide +kernel
theorem dX10_tried_84 : decode cX10_tried 84 = .ok (.aload_n 0, 1) := by decide +kernel
theorem dX10_tried_85 : decode cX10_tried 85 = .ok (.getfield 66, 3) := by decide +kernel
theorem dX10_tried_88 : decode cX10_tried 88 = .ok (.iload_n 2, 1) := by decide +kernel
theorem dX10_tried_89 : decode cX10_tried 89 = .ok (.putfield 364, 3) := by decide +kernel
theorem dX10_tried_92 : decode cX10_tried 92 = .ok (.goto 48, 3) := by decide +kernel
theorem dX10_tried_95 : decode cX10_tried 95 = .ok (.iload_n 1, 1) := by decide +kernel
theorem dX10_tried_96 : decode cX10_tried 96 = .ok (.iconst 3, 1) := by decide +kernel
theorem dX10_tried_97 : decode cX10_tried 97 = .ok (.if_icmp .ne 15, 3) := by decide +kernel
theorem dX10_tried_100 : decode cX10_tried 100 = .ok (.aload_n 0, 1) := by decide +kernel
theorem dX10_tried_101 : decode cX10_tried 101 = .ok (.getfield 66, 3) := by decide +kernel
theorem dX10_tried_104 : decode cX10_tried 104 = .ok (.bipush 99, 2) := by decide +kernel
theorem dX10_tried_106 : decode cX10_tried 106 = .ok (.putfield 356, 3) := by decide +kernel
theorem dX10_tried_109 : decode cX10_tried 109 = .ok (.goto 31, 3) := by decide +kernel
theorem dX10_tried_112 : decode cX10_tried 112 = .ok (.iload_n 1, 1) := by decide +kernel
theorem dX10_tried_113 : decode cX10_tried 113 = .ok (.iconst 4, 1) := by decide +kernel
theorem dX10_tried_114 : decode cX10_tried 114 = .ok (.if_icmp .ne 14, 3) := by decide +kernel
theorem dX10_tried_117 : decode cX10_tried 117 = .ok (.aload_n 0, 1) := by decide +kernel
theorem dX10_tried_118 : decode cX10_tried 118 = .ok (.getfield 66, 3) := by decide +kernel
theorem dX10_tried_121 : decode cX10_tried 121 = .ok (.iconst 1, 1) := by decide +kernel
theorem dX10_tried_122 : decode cX10_tried 122 = .ok (.putfield 367, 3) := by decide +kernel
theorem dX10_tried_125 : decode cX10_tried 125 = .ok (.goto 15, 3) := by decide +kernel
theorem dX10_tried_128 : decode cX10_tried 128 = .ok (.iload_n 1, 1) := by decide +kernel
theorem dX10_tried_129 : decode cX10_tried 129 = .ok (.iconst 5, 1) := by decide +kernel
theorem dX10_tried_130 : decode cX10_tried 130 = .ok (.if_icmp .ne 10, 3) := by decide +kernel
theorem dX10_tried_133 : decode cX10_tried 133 = .ok (.aload_n 0, 1) := by decide +kernel
theorem dX10_tried_134 : decode cX10_tried 134 = .ok (.getfield 58, 3) := by decide +kernel
theorem dX10_tried_137 : decode cX10_tried 137 = .ok (.invokevirtual 370, 3) := by decide +kernel
theorem dX10_tried_140 : decode cX10_tried 140 = .ok (.aload_n 0, 1) := by decide +kernel
theorem dX10_tried_141 : decode cX10_tried 141 = .ok (.getfield 66, 3) := by decide +kernel
theorem dX10_tried_144 : decode cX10_tried 144 = .ok (.iload_n 3, 1) := by decide +kernel
theorem dX10_tried_145 : decode cX10_tried 145 = .ok (.invokevirtual 239, 3) := by decide +kernel
theorem dX10_tried_148 : decode cX10_tried 148 = .ok (.aload_n 0, 1) := by decide +kernel
theorem dX10_tried_149 : decode cX10_tried 149 = .ok (.getfield 58, 3) := by decide +kernel
theorem dX10_tried_152 : decode cX10_tried 152 = .ok (.iconst 1, 1) := by decide +kernel
theorem dX10_tried_153 : decode cX10_tried 153 = .ok (.invokevirtual 245, 3) := by decide +kernel
theorem dX10_tried_156 : decode cX10_tried 156 = .ok (.aload_n 0, 1) := by decide +kernel
theorem dX10_tried_157 : decode cX10_tried 157 = .ok (.getfield 47, 3) := by decide +kernel
theorem dX10_tried_160 : decode cX10_tried 160 = .ok (.iconst 1, 1) := by decide +kernel
theorem dX10_tried_161 : decode cX10_tried 161 = .ok (.invokevirtual 245, 3) := by decide +kernel
theorem dX10_tried_164 : decode cX10_tried 164 = .ok (.isub, 1) := by decide +kernel
theorem dX10_tried_165 : decode cX10_tried 165 = .ok (.ireturn, 1) := by decide +kernel
theorem dX10_undo_0 : decode cX10_undo 0 = .ok (.aload_n 0, 1) := by decide +kernel
theorem dX10_undo_1 : decode cX10_undo 1 = .ok (.getfield 91, 3) := by decide +kernel
theorem dX10_undo_4 : decode cX10_undo 4 = .ok (.getfield 373, 3) := by decide +kernel
theorem dX10_undo_7 : decode cX10_undo 7 = .ok (.iconst 1, 1) := by decide +kernel
theorem dX10_undo_8 : decode cX10_undo 8 = .ok (.if_icmp .ge 5, 3) := by decide +kernel
theorem dX10_undo_11 : decode cX10_undo 11 = .ok (.iconst (-1), 1) := by decide +kernel
theorem dX10_undo_12 : decode cX10_undo 12 = .ok (.ireturn, 1) := by decide +kernel
theorem dX10_undo_13 : decode cX10_undo 13 = .ok (.aload_n 0, 1) := by decide +kernel
theorem dX10_undo_14 : decode cX10_undo 14 = .ok (.getfield 91, 3) := by decide +kernel
theorem dX10_undo_17 : decode cX10_undo 17 = .ok (.dup, 1) := by decide +kernel
theorem dX10_undo_18 : decode cX10_undo 18 = .ok (.getfield 373, 3) := by decide +kernel
theorem dX10_undo_21 : decode cX10_undo 21 = .ok (.iconst 1, 1) := by decide +kernel
theorem dX10_undo_22 : decode cX10_undo 22 = .ok (.isub, 1) := by decide +kernel
theorem dX10_undo_23 : decode cX10_undo 23 = .ok (.putfield 373, 3) := by decide +kernel
theorem dX10_undo_26 : decode cX10_undo 26 = .ok (.aload_n 0, 1) := by decide +kernel
theorem dX10_undo_27 : decode cX10_undo 27 = .ok (.getfield 91, 3) := by decide +kernel
theorem dX10_undo_30 : decode cX10_undo 30 = .ok (.aload_n 0, 1) := by decide +kernel
theorem dX10_undo_31 : decode cX10_undo 31 = .ok (.getfield 91, 3) := by decide +kernel
theorem dX10_undo_34 : decode cX10_undo 34 = .ok (.getfield 373, 3) := by decide +kernel
theorem dX10_undo_37 : decode cX10_undo 37 = .ok (.iconst 1, 1) := by decide +kernel
theorem dX10_undo_38 : decode cX10_undo 38 = .ok (.invokevirtual 374, 3) := by decide +kernel
theorem dX10_undo_41 : decode cX10_undo 41 = .ok (.istore_n 1, 1) := by decide +kernel
theorem dX10_undo_42 : decode cX10_undo 42 = .ok (.aload_n 0, 1) := by decide +kernel
theorem dX10_undo_43 : decode cX10_undo 43 = .ok (.getfield 91, 3) := by decide +kernel
theorem dX10_undo_46 : decode cX10_undo 46 = .ok (.aload_n 0, 1) := by decide +kernel
theorem dX10_undo_47 : decode cX10_undo 47 = .ok (.getfield 91, 3) := by decide +kernel
theorem dX10_undo_50 : decode cX10_undo 50 = .ok (.getfield 373, 3) := by decide +kernel
theorem dX10_undo_53 : decode cX10_undo 53 = .ok (.iconst 2, 1) := by decide +kernel
theorem dX10_undo_54 : decode cX10_undo 54 = .ok (.invokevirtual 374, 3) := by decide +kernel
theorem dX10_undo_57 : decode cX10_undo 57 = .ok (.istore_n 2, 1) := by decide +kernel
theorem dX10_undo_58 : decode cX10_undo 58 = .ok (.aload_n 0, 1) := by decide +kernel
theorem dX10_undo_59 : decode cX10_undo 59 = .ok (.getfield 91, 3) := by decide +kernel
theorem dX10_undo_62 : decode cX10_undo 62 = .ok (.aload_n 0, 1) := by decide +kernel
theorem dX10_undo_63 : decode cX10_undo 63 = .ok (.getfield 91, 3) := by decide +kernel
theorem dX10_undo_66 : decode cX10_undo 66 = .ok (.getfield 373, 3) := by decide +kernel
theorem dX10_undo_69 : decode cX10_undo 69 = .ok (.iconst 0, 1) := by decide +kernel
theorem dX10_undo_70 : decode cX10_undo 70 = .ok (.invokevirtual 374, 3) := by decide +kernel
theorem dX10_undo_73 : decode cX10_undo 73 = .ok (.tableswitch 83 0 2 #[27, 43, 56], 27) := by decide +kernel
theorem dX10_undo_100 : decode cX10_undo 100 = .ok (.aload_n 0, 1) := by decide +kernel
theorem dX10_undo_101 : decode cX10_undo 101 = .ok (.getfield 47, 3) := by decide +kernel
theorem dX10_undo_104 : decode cX10_undo 104 = .ok (.dup, 1) := by decide +kernel
theorem dX10_undo_105 : decode cX10_undo 105 = .ok (.getfield 218, 3) := by decide +kernel
theorem dX10_undo_108 : decode cX10_undo 108 = .ok (.iconst 1, 1) := by decide +kernel
theorem dX10_undo_109 : decode cX10_undo 109 = .ok (.isub, 1) := by decide +kernel
theorem dX10_undo_110 : decode cX10_undo 110 = .ok (.putfield 218, 3) := by decide +kernel
theorem dX10_undo_113 : decode cX10_undo 113 = .ok (.goto 56, 3) := by decide +kernel
theorem dX10_undo_116 : decode cX10_undo 116 = .ok (.aload_n 0, 1) := by decide +kernel
theorem dX10_undo_117 : decode cX10_undo 117 = .ok (.getfield 47, 3) := by decide +kernel
theorem dX10_undo_120 : decode cX10_undo 120 = .ok (.iload_n 1, 1) := by decide +kernel
theorem dX10_undo_121 : decode cX10_undo 121 = .ok (.iconst 3, 1) := by decide +kernel
theorem dX10_undo_122 : decode cX10_undo 122 = .ok (.iconst 0, 1) := by decide +kernel
theorem dX10_undo_123 : decode cX10_undo 123 = .ok (.invokevirtual 229, 3) := by decide +kernel
theorem dX10_undo_126 : decode cX10_undo 126 = .ok (.goto 43, 3) := by decide +kernel
theorem dX10_undo_129 : decode cX10_undo 129 = .ok (.aload_n 0, 1) := by decide +kernel
theorem dX10_undo_130 : decode cX10_undo 130 = .ok (.getfield 47, 3) := by decide +kernel
theorem dX10_undo_133 : decode cX10_undo 133 = .ok (.iload_n 1, 1) := by decide +kernel
theorem dX10_undo_134 : decode cX10_undo 134 = .ok (.iload_n 2, 1) := by decide +kernel
theorem dX10_undo_135 : decode cX10_undo 135 = .ok (.aload_n 0, 1) := by decide +kernel
theorem dX10_undo_136 : decode cX10_undo 136 = .ok (.getfield 91, 3) := by decide +kernel
theorem dX10_undo_139 : decode cX10_undo 139 = .ok (.aload_n 0, 1) := by decide +kernel
theorem dX10_undo_140 : decode cX10_undo 140 = .ok (.getfield 91, 3) := by decide +kernel
theorem dX10_undo_143 : decode cX10_undo 143 = .ok (.getfield 373, 3) := by decide +kernel
theorem dX10_undo_146 : decode cX10_undo 146 = .ok (.iconst 3, 1) := by decide +kernel
theorem dX10_undo_147 : decode cX10_undo 147 = .ok (.invokevirtual 374, 3) := by decide +kernel
theorem dX10_undo_150 : decode cX10_undo 150 = .ok (.invokevirtual 232, 3) := by decide +kernel
theorem dX10_undo_153 : decode cX10_undo 153 = .ok (.goto 16, 3) := by decide +kernel
theorem dX10_undo_156 : decode cX10_undo 156 = .ok (.aload_n 0, 1) := by decide +kernel
theorem dX10_undo_157 : decode cX10_undo 157 = .ok (.getfield 47, 3) := by decide +kernel
theorem dX10_undo_160 : decode cX10_undo 160 = .ok (.getfield 130, 3) := by decide +kernel
theorem dX10_undo_163 : decode cX10_undo 163 = .ok (.iload_n 1, 1) := by decide +kernel
theorem dX10_undo_164 : decode cX10_undo 164 = .ok (.dup2, 1) := by decide +kernel
theorem dX10_undo_165 : decode cX10_undo 165 = .ok (.iaload, 1) := by decide +kernel
theorem dX10_undo_166 : decode cX10_undo 166 = .ok (.iload_n 2, 1) := by decide +kernel
theorem dX10_undo_167 : decode cX10_undo 167 = .ok (.isub, 1) := by decide +kernel
theorem dX10_undo_168 : decode cX10_undo 168 = .ok (.iastore, 1) := by decide +kernel
theorem dX10_undo_169 : decode cX10_undo 169 = .ok (.aload_n 0, 1) := by decide +kernel
theorem dX10_undo_170 : decode cX10_undo 170 = .ok (.getfield 91, 3) := by decide +kernel
theorem dX10_undo_173 : decode cX10_undo 173 = .ok (.getfield 373, 3) := by decide +kernel
theorem dX10_undo_176 : decode cX10_undo 176 = .ok (.ireturn, 1) := by decide +kernel
theorem dX10_keep_0 : decode cX10_keep 0 = .ok (.aload_n 0, 1) := by decide +kernel
theorem dX10_keep_1 : decode cX10_keep 1 = .ok (.getfield 51, 3) := by decide +kernel
theorem dX10_keep_4 : decode cX10_keep 4 = .ok (.aload_n 0, 1) := by decide +kernel
theorem dX10_keep_5 : decode cX10_keep 5 = .ok (.getfield 47, 3) := by decide +kernel
theorem dX10_keep_8 : decode cX10_keep 8 = .ok (.invokevirtual 242, 3) := by decide +kernel
theorem dX10_keep_11 : decode cX10_keep 11 = .ok (.aload_n 0, 1) := by decide +kernel
theorem dX10_keep_12 : decode cX10_keep 12 = .ok (.iconst 1, 1) := by decide +kernel
theorem dX10_keep_13 : decode cX10_keep 13 = .ok (.putfield 54, 3) := by decide +kernel
theorem dX10_keep_16 : decode cX10_keep 16 = .ok (.aload_n 0, 1) := by decide +kernel
theorem dX10_keep_17 : decode cX10_keep 17 = .ok (.getfield 47, 3) := by decide +kernel
theorem dX10_keep_20 : decode cX10_keep 20 = .ok (.getfield 215, 3) := by decide +kernel
theorem dX10_keep_23 : decode cX10_keep 23 = .ok (.ireturn, 1) := by decide +kernel
theorem dX10_back_0 : decode cX10_back 0 = .ok (.aload_n 0, 1) := by decide +kernel
theorem dX10_back_1 : decode cX10_back 1 = .ok (.getfield 54, 3) := by decide +kernel
theorem dX10_back_4 : decode cX10_back 4 = .ok (.ifCond .ne 5, 3) := by decide +kernel
theorem dX10_back_7 : decode cX10_back 7 = .ok (.iconst (-1), 1) := by decide +kernel
theorem dX10_back_8 : decode cX10_back 8 = .ok (.ireturn, 1) := by decide +kernel
theorem dX10_back_9 : decode cX10_back 9 = .ok (.aload_n 0, 1) := by decide +kernel
theorem dX10_back_10 : decode cX10_back 10 = .ok (.getfield 47, 3) := by decide +kernel
theorem dX10_back_13 : decode cX10_back 13 = .ok (.aload_n 0, 1) := by decide +kernel
theorem dX10_back_14 : decode cX10_back 14 = .ok (.getfield 51, 3) := by decide +kernel
theorem dX10_back_17 : decode cX10_back 17 = .ok (.invokevirtual 242, 3) := by decide +kernel
theorem dX10_back_20 : decode cX10_back 20 = .ok (.aload_n 0, 1) := by decide +kernel
theorem dX10_back_21 : decode cX10_back 21 = .ok (.getfield 91, 3) := by decide +kernel
theorem dX10_back_24 : decode cX10_back 24 = .ok (.invokevirtual 111, 3) := by decide +kernel
theorem dX10_back_27 : decode cX10_back 27 = .ok (.aload_n 0, 1) := by decide +kernel
theorem dX10_back_28 : decode cX10_back 28 = .ok (.getfield 47, 3) := by decide +kernel
theorem dX10_back_31 : decode cX10_back 31 = .ok (.getfield 215, 3) := by decide +kernel
theorem dX10_back_34 : decode cX10_back 34 = .ok (.ireturn, 1) := by decide +kernel
theorem dX10_count_0 : decode cX10_count 0 = .ok (.iload_n 1, 1) := by decide +kernel
theorem dX10_count_1 : decode cX10_count 1 = .ok (.tableswitch 198 0 15 #[79, 79, 79, 89, 97, 105, 116, 124, 133, 142, 150, 158, 166, 174, 182, 190], 79) := by decide +kernel
theorem dX10_count_80 : decode cX10_count 80 = .ok (.aload_n 0, 1) := by decide +kernel
theorem dX10_count_81 : decode cX10_count 81 = .ok (.getfield 20, 3) := by decide +kernel
theorem dX10_count_84 : decode cX10_count 84 = .ok (.getfield 302, 3) := by decide +kernel
theorem dX10_count_87 : decode cX10_count 87 = .ok (.iload_n 1, 1) := by decide +kernel
theorem dX10_count_88 : decode cX10_count 88 = .ok (.iaload, 1) := by decide +kernel
theorem dX10_count_89 : decode cX10_count 89 = .ok (.ireturn, 1) := by decide +kernel
theorem dX10_count_90 : decode cX10_count 90 = .ok (.aload_n 0, 1) := by decide +kernel
theorem dX10_count_91 : decode cX10_count 91 = .ok (.getfield 47, 3) := by decide +kernel
theorem dX10_count_94 : decode cX10_count 94 = .ok (.getfield 218, 3) := by decide +kernel
theorem dX10_count_97 : decode cX10_count 97 = .ok (.ireturn, 1) := by decide +kernel
theorem dX10_count_98 : decode cX10_count 98 = .ok (.aload_n 0, 1) := by decide +kernel
theorem dX10_count_99 : decode cX10_count 99 = .ok (.getfield 20, 3) := by decide +kernel
theorem dX10_count_102 : decode cX10_count 102 = .ok (.getfield 377, 3) := by decide +kernel
theorem dX10_count_105 : decode cX10_count 105 = .ok (.ireturn, 1) := by decide +kernel
theorem dX10_count_106 : decode cX10_count 106 = .ok (.aload_n 0, 1) := by decide +kernel
theorem dX10_count_107 : decode cX10_count 107 = .ok (.getfield 20, 3) := by decide +kernel
theorem dX10_count_110 : decode cX10_count 110 = .ok (.getfield 380, 3) := by decide +kernel
theorem dX10_count_113 : decode cX10_count 113 = .ok (.getfield 384, 3) := by decide +kernel
theorem dX10_count_116 : decode cX10_count 116 = .ok (.ireturn, 1) := by decide +kernel
theorem dX10_count_117 : decode cX10_count 117 = .ok (.aload_n 0, 1) := by decide +kernel
theorem dX10_count_118 : decode cX10_count 118 = .ok (.getfield 47, 3) := by decide +kernel
theorem dX10_count_121 : decode cX10_count 121 = .ok (.getfield 215, 3) := by decide +kernel
theorem dX10_count_124 : decode cX10_count 124 = .ok (.ireturn, 1) := by decide +kernel
theorem dX10_count_125 : decode cX10_count 125 = .ok (.aload_n 0, 1) := by decide +kernel
theorem dX10_count_126 : decode cX10_count 126 = .ok (.getfield 47, 3) := by decide +kernel
theorem dX10_count_129 : decode cX10_count 129 = .ok (.iconst 1, 1) := by decide +kernel
theorem dX10_count_130 : decode cX10_count 130 = .ok (.invokevirtual 245, 3) := by decide +kernel
theorem dX10_count_133 : decode cX10_count 133 = .ok (.ireturn, 1) := by decide +kernel
theorem dX10_count_134 : decode cX10_count 134 = .ok (.aload_n 0, 1) := by decide +kernel
theorem dX10_count_135 : decode cX10_count 135 = .ok (.getfield 47, 3) := by decide +kernel
theorem dX10_count_138 : decode cX10_count 138 = .ok (.iconst 2, 1) := by decide +kernel
theorem dX10_count_139 : decode cX10_count 139 = .ok (.invokevirtual 245, 3) := by decide +kernel
theorem dX10_count_142 : decode cX10_count 142 = .ok (.ireturn, 1) := by decide +kernel
theorem dX10_count_143 : decode cX10_count 143 = .ok (.aload_n 0, 1) := by decide +kernel
theorem dX10_count_144 : decode cX10_count 144 = .ok (.getfield 47, 3) := by decide +kernel
theorem dX10_count_147 : decode cX10_count 147 = .ok (.invokevirtual 248, 3) := by decide +kernel
theorem dX10_count_150 : decode cX10_count 150 = .ok (.ireturn, 1) := by decide +kernel
theorem dX10_count_151 : decode cX10_count 151 = .ok (.aload_n 0, 1) := by decide +kernel
theorem dX10_count_152 : decode cX10_count 152 = .ok (.getfield 47, 3) := by decide +kernel
theorem dX10_count_155 : decode cX10_count 155 = .ok (.invokevirtual 286, 3) := by decide +kernel
theorem dX10_count_158 : decode cX10_count 158 = .ok (.ireturn, 1) := by decide +kernel
theorem dX10_count_159 : decode cX10_count 159 = .ok (.aload_n 0, 1) := by decide +kernel
theorem dX10_count_160 : decode cX10_count 160 = .ok (.getfield 47, 3) := by decide +kernel
theorem dX10_count_163 : decode cX10_count 163 = .ok (.invokevirtual 252, 3) := by decide +kernel
theorem dX10_count_166 : decode cX10_count 166 = .ok (.ireturn, 1) := by decide +kernel
theorem dX10_count_167 : decode cX10_count 167 = .ok (.aload_n 0, 1) := by decide +kernel
theorem dX10_count_168 : decode cX10_count 168 = .ok (.getfield 47, 3) := by decide +kernel
theorem dX10_count_171 : decode cX10_count 171 = .ok (.getfield 387, 3) := by decide +kernel
theorem dX10_count_174 : decode cX10_count 174 = .ok (.ireturn, 1) := by decide +kernel
theorem dX10_count_175 : decode cX10_count 175 = .ok (.aload_n 0, 1) := by decide +kernel
theorem dX10_count_176 : decode cX10_count 176 = .ok (.getfield 84, 3) := by decide +kernel
theorem dX10_count_179 : decode cX10_count 179 = .ok (.getfield 342, 3) := by decide +kernel
theorem dX10_count_182 : decode cX10_count 182 = .ok (.ireturn, 1) := by decide +kernel
theorem dX10_count_183 : decode cX10_count 183 = .ok (.aload_n 0, 1) := by decide +kernel
theorem dX10_count_184 : decode cX10_count 184 = .ok (.getfield 84, 3) := by decide +kernel
theorem dX10_count_187 : decode cX10_count 187 = .ok (.invokevirtual 390, 3) := by decide +kernel
theorem dX10_count_190 : decode cX10_count 190 = .ok (.ireturn, 1) := by decide +kernel
theorem dX10_count_191 : decode cX10_count 191 = .ok (.aload_n 0, 1) := by decide +kernel
theorem dX10_count_192 : decode cX10_count 192 = .ok (.getfield 91, 3) := by decide +kernel
theorem dX10_count_195 : decode cX10_count 195 = .ok (.getfield 373, 3) := by decide +kernel
theorem dX10_count_198 : decode cX10_count 198 = .ok (.ireturn, 1) := by decide +kernel
theorem dX10_count_199 : decode cX10_count 199 = .ok (.iconst (-1), 1) := by decide +kernel
theorem dX10_count_200 : decode cX10_count 200 = .ok (.ireturn, 1) := by decide +kernel
section
variable {p : Program} {l : Launch} {e : Env} {s : State} {m : MethodId} {args : Array Value} {below : List Frame} {meth : Method} {c : Code} {D : va_G} {aC : Nat → ClassId} {B : Nat}
set_option maxHeartbeats 4000000 in
set_option maxRecDepth 100000 in
theorem w10_order_b9 (E : g_C p s m args c cX10_order RX10 D aC (g_Zs (g_A B 69))) (hml : c.maxLocals = 3) (hret : meth.sig.returnType = (some .int)) (hlk : meth.locks = false) {F : Nat} {q0 : Int32 × g_M} {a1 : Int32} : ∀ (mem : g_M) (H : Heap) (locs : List Loc) (ls : Array Slot), g_At D aC B yC 69 mem s.heap H locs → lv_has ls 3 [] → f10_order_b9 F a1 mem = some q0 → W p l e (g_rm 8) s m args below meth c H locs 0 0 (g_MQ below D aC B yC 69 args s (some (.int q0.1)) q0.2) (F0 m 9 ls []) := by
  intro mem H locs ls hM hl he
  unfold f10_order_b9 at he
  have hx := E.1
  have hb := E.2.1
  have hown := E.2.2.1
  have hts := E.2.2.2.1
  refine lv_ldcw (v := (-2147483648 : Int32)) hx hb hown (hts _ kc_X10_275) dX10_order_9 ?_
  cases he
  exact g_iret E hM hret hlk dX10_order_12

set_option maxHeartbeats 4000000 in
set_option maxRecDepth 100000 in
theorem w10_order_b103 (E : g_C p s m args c cX10_order RX10 D aC (g_Zs (g_A B 69))) (hml : c.maxLocals = 3) (hret : meth.sig.returnType = (some .int)) (hlk : meth.locks = false) {F : Nat} {q0 : Int32 × g_M} {a1 : Int32} {s26 : Int32 → g_M → Option (Int32 × g_M)} (hs26 : ∀ (v2 : Int32) (mem : g_M) (H : Heap) (locs : List Loc) (ls : Array Slot), g_At D aC B yC 69 mem s.heap H locs → lv_has ls 3 [(0, .ref (B + 0)), (1, .int a1), (2, .int v2)] → s26 v2 mem = some q0 → W p l e (g_rm 8) s m args below meth c H locs 0 0 (g_MQ below D aC B yC 69 args s (some (.int q0.1)) q0.2) (F0 m 26 ls [])) : ∀ (v2 : Int32) (mem : g_M) (H : Heap) (locs : List Loc) (ls : Array Slot), g_At D aC B yC 69 mem s.heap H locs → lv_has ls 3 [(0, .ref (B + 0)), (1, .int a1), (2, .int v2)] → f10_order_b103 F a1 s26 v2 mem = some q0 → W p l e (g_rm 8) s m args below meth c H locs 0 0 (g_MQ below D aC B yC 69 args s (some (.int q0.1)) q0.2) (F0 m 103 ls []) := by
  intro v2 mem H locs ls hM hl he
  unfold f10_order_b103 at he
  have hx := E.1
  have hb := E.2.1
  have hown := E.2.2.1
  have hts := E.2.2.2.1
  obtain ⟨x1, hx1, he⟩ := g_let_ex he
  refine lv_iinc (v := x1) (lv' := [(2, .int x1), (0, .ref (B + 0)), (1, .int a1)]) hx hb dX10_order_103 hl (k := 2) rfl (by rw [hx1]; rfl) (by decide) rfl (fun ls hl => ?_)
  refine lv_goto (tgt := 26) hx hb dX10_order_106 (by decide) ?_
  exact hs26 _ _ _ _ _ hM (lv_sub hl [1, 2, 0] rfl) he

set_option maxHeartbeats 4000000 in
set_option maxRecDepth 100000 in
theorem w10_order_b26_body (E : g_C p s m args c cX10_order RX10 D aC (g_Zs (g_A B 69))) (hml : c.maxLocals = 3) (hret : meth.sig.returnType = (some .int)) (hlk : meth.locks = false) {F : Nat} {q0 : Int32 × g_M} {a1 : Int32} {s26 : Int32 → g_M → Option (Int32 × g_M)} (hs26 : ∀ (v2 : Int32) (mem : g_M) (H : Heap) (locs : List Loc) (ls : Array Slot), g_At D aC B yC 69 mem s.heap H locs → lv_has ls 3 [(0, .ref (B + 0)), (1, .int a1), (2, .int v2)] → s26 v2 mem = some q0 → W p l e (g_rm 8) s m args below meth c H locs 0 0 (g_MQ below D aC B yC 69 args s (some (.int q0.1)) q0.2) (F0 m 26 ls [])) : ∀ (v2 : Int32) (mem : g_M) (H : Heap) (locs : List Loc) (ls : Array Slot), g_At D aC B yC 69 mem s.heap H locs → lv_has ls 3 [(0, .ref (B + 0)), (1, .int a1), (2, .int v2)] → f10_order_b26_body F a1 s26 v2 mem = some q0 → W p l e (g_rm 8) s m args below meth c H locs 0 0 (g_MQ below D aC B yC 69 args s (some (.int q0.1)) q0.2) (F0 m 26 ls []) := by
  intro v2 mem H locs ls hM hl he
  unfold f10_order_b26_body at he
  have hx := E.1
  have hb := E.2.1
  have hown := E.2.2.1
  have hts := E.2.2.2.1
  refine lv_iload_n hx hb dX10_order_26 rfl (lv_at hl 2 rfl) ?_
  refine lv_sipush (v := (256 : Int32)) hx hb dX10_order_27 rfl ?_
  refine lv_icmp_ge (tgt := 109) hx hb dX10_order_30 (by decide) (fun h2 => ?_) (fun h2 => ?_)
  · rw [if_neg (Int32.not_lt.mpr h2)] at he
    refine lv_iload_n hx hb dX10_order_109 rfl (lv_at hl 1 rfl) ?_
    refine lv_iconst (v := (4 : Int32)) hx hb dX10_order_110 rfl ?_
    refine lv_icmp_ne (tgt := 130) hx hb dX10_order_111 (by decide) (fun h11 => ?_) (fun h11 => ?_)
    · rw [if_neg h11] at he
      refine lv_iload_n hx hb dX10_order_130 rfl (lv_at hl 1 rfl) ?_
      refine lv_aload_n hx hb dX10_order_131 rfl (lv_at hl 0 rfl) ?_
      refine g_getP E hM (o := 0) (Nat.le_of_ble_eq_true rfl) rfl fl_X10_77 (q := 57) rfl dX10_order_132 ?_
      refine g_getI E hM (o := 57) (Nat.le_of_ble_eq_true rfl) rfl fl_X10_296 dX10_order_135 ?_
      refine lv_icmp_ge (tgt := 153) hx hb dX10_order_138 (by decide) (fun h13 => ?_) (fun h13 => ?_)
      · rw [if_neg (Int32.not_lt.mpr h13)] at he
        refine lv_bipush (v := (-2 : Int32)) hx hb dX10_order_153 rfl ?_
        cases he
        exact g_iret E hM hret hlk dX10_order_155
      · rw [if_pos (Int32.not_le.mp h13)] at he
        refine lv_aload_n hx hb dX10_order_141 rfl (lv_at hl 0 rfl) ?_
        refine g_getP E hM (o := 0) (Nat.le_of_ble_eq_true rfl) rfl fl_X10_77 (q := 57) rfl dX10_order_142 ?_
        refine g_getP E hM (o := 57) (Nat.le_of_ble_eq_true rfl) rfl fl_X10_299 (q := 58) rfl dX10_order_145 ?_
        refine lv_iload_n hx hb dX10_order_148 rfl (lv_at hl 1 rfl) ?_
        obtain ⟨h14, he⟩ := g_ck_some he
        refine g_iald E hM (o := 58) (Nat.le_of_ble_eq_true rfl) rfl h14 dX10_order_149 ?_
        refine lv_goto (tgt := 155) hx hb dX10_order_150 (by decide) ?_
        cases he
        exact g_iret E hM hret hlk dX10_order_155
    · rw [if_pos h11] at he
      refine lv_aload_n hx hb dX10_order_114 rfl (lv_at hl 0 rfl) ?_
      refine g_getP E hM (o := 0) (Nat.le_of_ble_eq_true rfl) rfl fl_X10_77 (q := 57) rfl dX10_order_115 ?_
      refine g_getI E hM (o := 57) (Nat.le_of_ble_eq_true rfl) rfl fl_X10_293 dX10_order_118 ?_
      refine lv_aload_n hx hb dX10_order_121 rfl (lv_at hl 0 rfl) ?_
      refine g_getP E hM (o := 0) (Nat.le_of_ble_eq_true rfl) rfl fl_X10_47 (q := 35) rfl dX10_order_122 ?_
      obtain ⟨r12, hcr12, he⟩ := g_bind he
      refine g_callV [] (rest := [.int (mem.1 57 1)]) E hml hl.1 hM cv_X10_286 (c7_allPence l D aC B (Nat.le_of_ble_eq_true rfl) rfl hcr12) (o := 35) (Nat.le_of_ble_eq_true rfl) rfl (by decide) rfl rfl (Nat.le_of_ble_eq_true rfl) dX10_order_125 (fun H locs hM => ?_)
      refine W.eq (g2 := F0 m 128 ls [.int r12, .int (mem.1 57 1)]) rfl ?_
      refine lv_isub hx hb dX10_order_128 ?_
      cases he
      exact g_iret E hM hret hlk dX10_order_129
  · rw [if_pos (Int32.not_le.mp h2)] at he
    refine lv_aload_n hx hb dX10_order_33 rfl (lv_at hl 0 rfl) ?_
    refine g_getP E hM (o := 0) (Nat.le_of_ble_eq_true rfl) rfl fl_X10_77 (q := 57) rfl dX10_order_34 ?_
    refine lv_iload_n hx hb dX10_order_37 rfl (lv_at hl 2 rfl) ?_
    obtain ⟨r3, hcr3, he⟩ := g_bind he
    refine g_callV [.int v2] (rest := []) E hml hl.1 hM cv_X10_279 (c4_isRow l D aC B hcr3) (o := 57) (Nat.le_of_ble_eq_true rfl) rfl (by decide) rfl rfl (Nat.le_of_ble_eq_true rfl) dX10_order_38 (fun H locs hM => ?_)
    refine W.eq (g2 := F0 m 41 ls [.int r3]) rfl ?_
    refine lv_if_eq (tgt := 103) hx hb dX10_order_41 (by decide) (fun h4 => ?_) (fun h4 => ?_)
    · rw [if_pos h4] at he
      exact w10_order_b103 (F := F) (a1 := a1) E hml hret hlk hs26 _ _ _ _ _ hM (lv_sub hl [0, 1, 2] rfl) he
    · rw [if_neg h4] at he
      refine lv_aload_n hx hb dX10_order_44 rfl (lv_at hl 0 rfl) ?_
      refine g_getP E hM (o := 0) (Nat.le_of_ble_eq_true rfl) rfl fl_X10_58 (q := 47) rfl dX10_order_45 ?_
      refine lv_aload_n hx hb dX10_order_48 rfl (lv_at hl 0 rfl) ?_
      refine g_getP E hM (o := 0) (Nat.le_of_ble_eq_true rfl) rfl fl_X10_47 (q := 35) rfl dX10_order_49 ?_
      obtain ⟨r5, hcr5, he⟩ := g_bind he
      refine g_callV [.ref (B + 35)] (rest := []) E hml hl.1 hM cv_X10_242 (c7_copy l D aC B (Nat.le_of_ble_eq_true rfl) rfl (Nat.le_of_ble_eq_true rfl) rfl hcr5) (o := 47) (Nat.le_of_ble_eq_true rfl) rfl (by decide) rfl rfl (Nat.le_of_ble_eq_true rfl) dX10_order_52 (fun H locs hM => ?_)
      refine W.eq (g2 := F0 m 55 ls []) rfl ?_
      refine lv_aload_n hx hb dX10_order_55 rfl (lv_at hl 0 rfl) ?_
      refine g_getP E hM (o := 0) (Nat.le_of_ble_eq_true rfl) rfl fl_X10_77 (q := 57) rfl dX10_order_56 ?_
      refine lv_iload_n hx hb dX10_order_59 rfl (lv_at hl 2 rfl) ?_
      refine lv_aload_n hx hb dX10_order_60 rfl (lv_at hl 0 rfl) ?_
      refine g_getP E hM (o := 0) (Nat.le_of_ble_eq_true rfl) rfl fl_X10_58 (q := 47) rfl dX10_order_61 ?_
      obtain ⟨r6, hcr6, he⟩ := g_bind he
      refine g_callV [.int v2, .ref (B + 47)] (rest := []) E hml hl.1 hM cv_X10_282 (c4_layOut l D aC B (Nat.le_of_ble_eq_true rfl) rfl hcr6) (o := 57) (Nat.le_of_ble_eq_true rfl) rfl (by decide) rfl rfl (Nat.le_of_ble_eq_true rfl) dX10_order_64 (fun H locs hM => ?_)
      refine W.eq (g2 := F0 m 67 ls []) rfl ?_
      refine lv_aload_n hx hb dX10_order_67 rfl (lv_at hl 0 rfl) ?_
      refine g_getP E hM (o := 0) (Nat.le_of_ble_eq_true rfl) rfl fl_X10_66 (q := 53) rfl dX10_order_68 ?_
      refine lv_aload_n hx hb dX10_order_71 rfl (lv_at hl 0 rfl) ?_
      refine g_getP E hM (o := 0) (Nat.le_of_ble_eq_true rfl) rfl fl_X10_58 (q := 47) rfl dX10_order_72 ?_
      refine lv_iconst (v := (1 : Int32)) hx hb dX10_order_75 rfl ?_
      obtain ⟨r7, hcr7, he⟩ := g_bind he
      refine g_callV [.ref (B + 47), .int (1 : Int32)] (rest := []) E hml hl.1 hM cv_X10_196 (c0_start l D aC B (Nat.le_of_ble_eq_true rfl) rfl hcr7) (o := 53) (Nat.le_of_ble_eq_true rfl) rfl (by decide) rfl rfl (Nat.le_of_ble_eq_true rfl) dX10_order_76 (fun H locs hM => ?_)
      refine W.eq (g2 := F0 m 79 ls []) rfl ?_
      refine lv_aload_n hx hb dX10_order_79 rfl (lv_at hl 0 rfl) ?_
      refine g_getP E hM (o := 0) (Nat.le_of_ble_eq_true rfl) rfl fl_X10_66 (q := 53) rfl dX10_order_80 ?_
      refine lv_bipush (v := (20 : Int32)) hx hb dX10_order_83 rfl ?_
      obtain ⟨r8, hcr8, he⟩ := g_bind he
      refine g_callV [.int (20 : Int32)] (rest := []) E hml hl.1 hM cv_X10_239 (c0_pass l D aC B hcr8) (o := 53) (Nat.le_of_ble_eq_true rfl) rfl (by decide) rfl rfl (Nat.le_of_ble_eq_true rfl) dX10_order_85 (fun H locs hM => ?_)
      refine W.eq (g2 := F0 m 88 ls []) rfl ?_
      refine lv_aload_n hx hb dX10_order_88 rfl (lv_at hl 0 rfl) ?_
      refine g_getP E hM (o := 0) (Nat.le_of_ble_eq_true rfl) rfl fl_X10_77 (q := 57) rfl dX10_order_89 ?_
      refine lv_iload_n hx hb dX10_order_92 rfl (lv_at hl 2 rfl) ?_
      refine lv_aload_n hx hb dX10_order_93 rfl (lv_at hl 0 rfl) ?_
      refine g_getP E hM (o := 0) (Nat.le_of_ble_eq_true rfl) rfl fl_X10_58 (q := 47) rfl dX10_order_94 ?_
      obtain ⟨r9, hcr9, he⟩ := g_bind he
      refine g_callV [] (rest := [.int v2, .ref (B + 57)]) E hml hl.1 hM cv_X10_286 (c7_allPence l D aC B (Nat.le_of_ble_eq_true rfl) rfl hcr9) (o := 47) (Nat.le_of_ble_eq_true rfl) rfl (by decide) rfl rfl (Nat.le_of_ble_eq_true rfl) dX10_order_97 (fun H locs hM => ?_)
      refine W.eq (g2 := F0 m 100 ls [.int r9, .int v2, .ref (B + 57)]) rfl ?_
      obtain ⟨r10, hcr10, he⟩ := g_bind he
      refine g_callV [.int v2, .int r9] (rest := []) E hml hl.1 hM cv_X10_289 (c4_weigh l D aC B hcr10) (o := 57) (Nat.le_of_ble_eq_true rfl) rfl (by decide) rfl rfl (Nat.le_of_ble_eq_true rfl) dX10_order_100 (fun H locs hM => ?_)
      refine W.eq (g2 := F0 m 103 ls []) rfl ?_
      exact w10_order_b103 (F := F) (a1 := a1) E hml hret hlk hs26 _ _ _ _ _ hM (lv_sub hl [0, 1, 2] rfl) he

set_option maxHeartbeats 4000000 in
set_option maxRecDepth 100000 in
theorem w10_order_b26 (E : g_C p s m args c cX10_order RX10 D aC (g_Zs (g_A B 69))) (hml : c.maxLocals = 3) (hret : meth.sig.returnType = (some .int)) (hlk : meth.locks = false) {F : Nat} {q0 : Int32 × g_M} {a1 : Int32} : ∀ (v2 : Int32) (mem : g_M) (H : Heap) (locs : List Loc) (ls : Array Slot), g_At D aC B yC 69 mem s.heap H locs → lv_has ls 3 [(0, .ref (B + 0)), (1, .int a1), (2, .int v2)] → f10_order_b26 F a1 v2 mem = some q0 → W p l e (g_rm 8) s m args below meth c H locs 0 0 (g_MQ below D aC B yC 69 args s (some (.int q0.1)) q0.2) (F0 m 26 ls []) := by
  have key : ∀ (nn : Nat) (x : Int32 × g_M) (H : Heap) (locs : List Loc) (ls : Array Slot), g_At D aC B yC 69 x.2 s.heap H locs → lv_has ls 3 [(0, .ref (B + 0)), (1, .int a1), (2, .int x.1)] → g_fix (fun sf x => f10_order_b26_body F a1 (fun v2 mem => sf (v2, mem)) x.1 x.2) nn x = some q0 → W p l e (g_rm 8) s m args below meth c H locs 0 0 (g_MQ below D aC B yC 69 args s (some (.int q0.1)) q0.2) (F0 m 26 ls []) := by
    intro nn
    induction nn with
    | zero => intro x H locs ls hM hl he; simp [g_fix] at he
    | succ nn ih =>
      intro x H locs ls hM hl he
      exact w10_order_b26_body (F := F) (a1 := a1) E hml hret hlk (fun v2 mem H locs ls hM hl he => ih (v2, mem) H locs ls hM hl he) x.1 x.2 H locs ls hM hl he
  intro v2 mem H locs ls hM hl he
  exact key F (v2, mem) H locs ls hM hl he

set_option maxHeartbeats 4000000 in
set_option maxRecDepth 100000 in
theorem c10_order (l : Launch) (D : va_G) (aC : Nat → ClassId) (B : Nat) {F : Nat} {a1 : Int32} {mem : g_M} {q0 : Int32 × g_M} (he : f10_order F a1 mem = some q0) : g_Met l yX10_order cX10_order 3 (some .int) 8 D aC B yC 69 mem [.ref (B + 0), .int a1] (some (.int q0.1)) q0.2 := by
  refine g_ofW (by decide) (Nat.le_of_ble_eq_true rfl) ?_
  intro p e s m args below meth c ls E hml hret hlk hM hl
  have E : g_C p s m args c cX10_order RX10 D aC (g_Zs (g_A B 69)) := E
  have hx := E.1
  have hb := E.2.1
  have hown := E.2.2.1
  have hts := E.2.2.2.1
  have hl : lv_has ls 3 [(0, .ref (B + 0)), (1, .int a1)] := hl
  unfold f10_order at he
  refine lv_iload_n hx hb dX10_order_0 rfl (lv_at hl 1 rfl) ?_
  refine lv_if_lt (tgt := 9) hx hb dX10_order_1 (by decide) (fun h15 => ?_) (fun h15 => ?_)
  · rw [if_neg (Int32.not_le.mpr h15)] at he
    exact w10_order_b9 (F := F) (a1 := a1) E hml hret hlk _ _ _ _ hM (lv_sub hl [] rfl) he
  · rw [if_pos (Int32.not_lt.mp h15)] at he
    refine lv_iload_n hx hb dX10_order_4 rfl (lv_at hl 1 rfl) ?_
    refine lv_iconst (v := (4 : Int32)) hx hb dX10_order_5 rfl ?_
    refine lv_icmp_le (tgt := 13) hx hb dX10_order_6 (by decide) (fun h16 => ?_) (fun h16 => ?_)
    · rw [if_neg (Int32.not_lt.mpr h16)] at he
      refine lv_aload_n hx hb dX10_order_13 rfl (lv_at hl 0 rfl) ?_
      refine g_getP E hM (o := 0) (Nat.le_of_ble_eq_true rfl) rfl fl_X10_77 (q := 57) rfl dX10_order_14 ?_
      refine lv_aload_n hx hb dX10_order_17 rfl (lv_at hl 0 rfl) ?_
      refine g_getP E hM (o := 0) (Nat.le_of_ble_eq_true rfl) rfl fl_X10_47 (q := 35) rfl dX10_order_18 ?_
      obtain ⟨r17, hcr17, he⟩ := g_bind he
      refine g_callV [.ref (B + 35)] (rest := []) E hml hl.1 hM cv_X10_276 (c4_choose l D aC B (Nat.le_of_ble_eq_true rfl) rfl hcr17) (o := 57) (Nat.le_of_ble_eq_true rfl) rfl (by decide) rfl rfl (Nat.le_of_ble_eq_true rfl) dX10_order_21 (fun H locs hM => ?_)
      refine W.eq (g2 := F0 m 24 ls []) rfl ?_
      refine lv_iconst (v := (0 : Int32)) hx hb dX10_order_24 rfl ?_
      refine lv_istore_n (lv' := [(2, .int (0 : Int32)), (0, .ref (B + 0)), (1, .int a1)]) hx hb dX10_order_25 rfl hl (by decide) rfl (fun ls hl => ?_)
      exact w10_order_b26 (F := F) (a1 := a1) E hml hret hlk _ _ _ _ _ hM (lv_sub hl [1, 2, 0] rfl) he
    · rw [if_pos (Int32.not_le.mp h16)] at he
      exact w10_order_b9 (F := F) (a1 := a1) E hml hret hlk _ _ _ _ hM (lv_sub hl [] rfl) he

set_option maxHeartbeats 4000000 in
set_option maxRecDepth 100000 in
theorem w10_swaps_b4_body (E : g_C p s m args c cX10_swaps RX10 D aC (g_Zs (g_A B 69))) (hml : c.maxLocals = 3) (hret : meth.sig.returnType = (some .int)) (hlk : meth.locks = false) {F : Nat} {q0 : Int32} {mem : g_M} {s4 : Int32 → Int32 → Option (Int32)} (hs4 : ∀ (v1 : Int32) (v2 : Int32) (H : Heap) (locs : List Loc) (ls : Array Slot), g_At D aC B yC 69 mem s.heap H locs → lv_has ls 3 [(0, .ref (B + 0)), (1, .int v1), (2, .int v2)] → s4 v1 v2 = some q0 → W p l e (g_rm 2) s m args below meth c H locs 0 0 (g_MQ below D aC B yC 69 args s (some (.int q0)) mem) (F0 m 4 ls [])) : ∀ (v1 : Int32) (v2 : Int32) (H : Heap) (locs : List Loc) (ls : Array Slot), g_At D aC B yC 69 mem s.heap H locs → lv_has ls 3 [(0, .ref (B + 0)), (1, .int v1), (2, .int v2)] → f10_swaps_b4_body F s4 mem v1 v2 = some q0 → W p l e (g_rm 2) s m args below meth c H locs 0 0 (g_MQ below D aC B yC 69 args s (some (.int q0)) mem) (F0 m 4 ls []) := by
  intro v1 v2 H locs ls hM hl he
  unfold f10_swaps_b4_body at he
  have hx := E.1
  have hb := E.2.1
  have hown := E.2.2.1
  have hts := E.2.2.2.1
  refine lv_iload_n hx hb dX10_swaps_4 rfl (lv_at hl 2 rfl) ?_
  refine lv_aload_n hx hb dX10_swaps_5 rfl (lv_at hl 0 rfl) ?_
  obtain ⟨q1, hqq1, hq1, hYq1, he⟩ := g_dr_some he
  refine g_getD E hM (o := 0) (Nat.le_of_ble_eq_true rfl) rfl fl_X10_20 rfl hqq1 dX10_swaps_6 ?_
  refine g_getP E hM (o := q1) hq1 hYq1 fl_X10_302 (q := (q1 + 1)) (pt_9_0 q1 hq1 hYq1).1 dX10_swaps_9 ?_
  refine lv_iconst (v := (1 : Int32)) hx hb dX10_swaps_12 rfl ?_
  obtain ⟨h2, he⟩ := g_ck_some he
  refine g_iald E hM (o := (q1 + 1)) (pt_9_0 q1 hq1 hYq1).2.1 (pt_9_0 q1 hq1 hYq1).2.2 h2 dX10_swaps_13 ?_
  refine lv_icmp_ge (tgt := 44) hx hb dX10_swaps_14 (by decide) (fun h3 => ?_) (fun h3 => ?_)
  · rw [if_neg (Int32.not_lt.mpr h3)] at he
    refine lv_iload_n hx hb dX10_swaps_44 rfl (lv_at hl 1 rfl) ?_
    cases he
    exact g_iret E hM hret hlk dX10_swaps_45
  · rw [if_pos (Int32.not_le.mp h3)] at he
    refine lv_iload_n hx hb dX10_swaps_17 rfl (lv_at hl 1 rfl) ?_
    refine lv_aload_n hx hb dX10_swaps_18 rfl (lv_at hl 0 rfl) ?_
    obtain ⟨q4, hqq4, hq4, hYq4, he⟩ := g_dr_some he
    refine g_getD E hM (o := 0) (Nat.le_of_ble_eq_true rfl) rfl fl_X10_20 rfl hqq4 dX10_swaps_19 ?_
    refine g_getP E hM (o := q4) hq4 hYq4 fl_X10_302 (q := (q4 + 1)) (pt_9_0 q4 hq4 hYq4).1 dX10_swaps_22 ?_
    refine lv_iconst (v := (0 : Int32)) hx hb dX10_swaps_25 rfl ?_
    obtain ⟨h5, he⟩ := g_ck_some he
    refine g_iald E hM (o := (q4 + 1)) (pt_9_0 q4 hq4 hYq4).2.1 (pt_9_0 q4 hq4 hYq4).2.2 h5 dX10_swaps_26 ?_
    refine lv_aload_n hx hb dX10_swaps_27 rfl (lv_at hl 0 rfl) ?_
    refine g_getP E hM (o := 0) (Nat.le_of_ble_eq_true rfl) rfl fl_X10_47 (q := 35) rfl dX10_swaps_28 ?_
    refine lv_iload_n hx hb dX10_swaps_31 rfl (lv_at hl 2 rfl) ?_
    obtain ⟨r6, hcr6, he⟩ := g_bind he
    refine g_callV [.int v2] (rest := [.int (mem.1 (q4 + 1) (0 : Int32).toNatClampNeg), .int v1]) E hml hl.1 hM cv_X10_305 (c7_rings l D aC B (Nat.le_of_ble_eq_true rfl) rfl hcr6) (o := 35) (Nat.le_of_ble_eq_true rfl) rfl (by decide) rfl rfl (Nat.le_of_ble_eq_true rfl) dX10_swaps_32 (fun H locs hM => ?_)
    refine W.eq (g2 := F0 m 35 ls [.int r6, .int (mem.1 (q4 + 1) (0 : Int32).toNatClampNeg), .int v1]) rfl ?_
    refine lv_isub hx hb dX10_swaps_35 ?_
    refine lv_iadd hx hb dX10_swaps_36 ?_
    obtain ⟨x7, hx7, he⟩ := g_let_ex he
    refine g_topI hx7 ?_
    refine lv_istore_n (lv' := [(1, .int x7), (0, .ref (B + 0)), (2, .int v2)]) hx hb dX10_swaps_37 rfl hl (by decide) rfl (fun ls hl => ?_)
    obtain ⟨x8, hx8, he⟩ := g_let_ex he
    refine lv_iinc (v := x8) (lv' := [(2, .int x8), (1, .int x7), (0, .ref (B + 0))]) hx hb dX10_swaps_38 hl (k := 2) rfl (by rw [hx8]; rfl) (by decide) rfl (fun ls hl => ?_)
    refine lv_goto (tgt := 4) hx hb dX10_swaps_41 (by decide) ?_
    exact hs4 _ _ _ _ _ hM (lv_sub hl [2, 1, 0] rfl) he

set_option maxHeartbeats 4000000 in
set_option maxRecDepth 100000 in
theorem w10_swaps_b4 (E : g_C p s m args c cX10_swaps RX10 D aC (g_Zs (g_A B 69))) (hml : c.maxLocals = 3) (hret : meth.sig.returnType = (some .int)) (hlk : meth.locks = false) {F : Nat} {q0 : Int32} {mem : g_M} : ∀ (v1 : Int32) (v2 : Int32) (H : Heap) (locs : List Loc) (ls : Array Slot), g_At D aC B yC 69 mem s.heap H locs → lv_has ls 3 [(0, .ref (B + 0)), (1, .int v1), (2, .int v2)] → f10_swaps_b4 F mem v1 v2 = some q0 → W p l e (g_rm 2) s m args below meth c H locs 0 0 (g_MQ below D aC B yC 69 args s (some (.int q0)) mem) (F0 m 4 ls []) := by
  have key : ∀ (nn : Nat) (x : Int32 × Int32) (H : Heap) (locs : List Loc) (ls : Array Slot), g_At D aC B yC 69 mem s.heap H locs → lv_has ls 3 [(0, .ref (B + 0)), (1, .int x.1), (2, .int x.2)] → g_fix (fun sf x => f10_swaps_b4_body F (fun v1 v2 => sf (v1, v2)) mem x.1 x.2) nn x = some q0 → W p l e (g_rm 2) s m args below meth c H locs 0 0 (g_MQ below D aC B yC 69 args s (some (.int q0)) mem) (F0 m 4 ls []) := by
    intro nn
    induction nn with
    | zero => intro x H locs ls hM hl he; simp [g_fix] at he
    | succ nn ih =>
      intro x H locs ls hM hl he
      exact w10_swaps_b4_body (F := F) E hml hret hlk (fun v1 v2 H locs ls hM hl he => ih (v1, v2) H locs ls hM hl he) x.1 x.2 H locs ls hM hl he
  intro v1 v2 H locs ls hM hl he
  exact key F (v1, v2) H locs ls hM hl he

set_option maxHeartbeats 4000000 in
set_option maxRecDepth 100000 in
theorem c10_swaps (l : Launch) (D : va_G) (aC : Nat → ClassId) (B : Nat) {F : Nat} {mem : g_M} {q0 : Int32} (he : f10_swaps F mem = some q0) : g_Met l yX10_swaps cX10_swaps 3 (some .int) 2 D aC B yC 69 mem [.ref (B + 0)] (some (.int q0)) mem := by
  refine g_ofW (by decide) (Nat.le_of_ble_eq_true rfl) ?_
  intro p e s m args below meth c ls E hml hret hlk hM hl
  have E : g_C p s m args c cX10_swaps RX10 D aC (g_Zs (g_A B 69)) := E
  have hx := E.1
  have hb := E.2.1
  have hown := E.2.2.1
  have hts := E.2.2.2.1
  have hl : lv_has ls 3 [(0, .ref (B + 0))] := hl
  unfold f10_swaps at he
  refine lv_iconst (v := (0 : Int32)) hx hb dX10_swaps_0 rfl ?_
  refine lv_istore_n (lv' := [(1, .int (0 : Int32)), (0, .ref (B + 0))]) hx hb dX10_swaps_1 rfl hl (by decide) rfl (fun ls hl => ?_)
  refine lv_iconst (v := (0 : Int32)) hx hb dX10_swaps_2 rfl ?_
  refine lv_istore_n (lv' := [(2, .int (0 : Int32)), (1, .int (0 : Int32)), (0, .ref (B + 0))]) hx hb dX10_swaps_3 rfl hl (by decide) rfl (fun ls hl => ?_)
  exact w10_swaps_b4 (F := F) E hml hret hlk _ _ _ _ _ hM (lv_sub hl [2, 1, 0] rfl) he

set_option maxHeartbeats 4000000 in
set_option maxRecDepth 100000 in
theorem w10_together_b85 (E : g_C p s m args c cX10_together RX10 D aC (g_Zs (g_A B 69))) (hml : c.maxLocals = 6) (hret : meth.sig.returnType = (some .int)) (hlk : meth.locks = false) {F : Nat} {q0 : Int32} {a1 : Int32} {a2 : Int32} {a3 : Int32} {mem : g_M} {s36 : Int32 → Int32 → Option (Int32)} (hs36 : ∀ (v4 : Int32) (v5 : Int32) (H : Heap) (locs : List Loc) (ls : Array Slot), g_At D aC B yC 69 mem s.heap H locs → lv_has ls 6 [(0, .ref (B + 0)), (1, .int a1), (2, .int a2), (3, .int a3), (4, .int v4), (5, .int v5)] → s36 v4 v5 = some q0 → W p l e (g_rm 3) s m args below meth c H locs 0 0 (g_MQ below D aC B yC 69 args s (some (.int q0)) mem) (F0 m 36 ls [])) : ∀ (v4 : Int32) (v5 : Int32) (H : Heap) (locs : List Loc) (ls : Array Slot), g_At D aC B yC 69 mem s.heap H locs → lv_has ls 6 [(0, .ref (B + 0)), (1, .int a1), (2, .int a2), (3, .int a3), (4, .int v4), (5, .int v5)] → f10_together_b85 F a1 a2 a3 s36 mem v4 v5 = some q0 → W p l e (g_rm 3) s m args below meth c H locs 0 0 (g_MQ below D aC B yC 69 args s (some (.int q0)) mem) (F0 m 85 ls []) := by
  intro v4 v5 H locs ls hM hl he
  unfold f10_together_b85 at he
  have hx := E.1
  have hb := E.2.1
  have hown := E.2.2.1
  have hts := E.2.2.2.1
  obtain ⟨x1, hx1, he⟩ := g_let_ex he
  refine lv_iinc (v := x1) (lv' := [(5, .int x1), (0, .ref (B + 0)), (1, .int a1), (2, .int a2), (3, .int a3), (4, .int v4)]) hx hb dX10_together_85 hl (k := 5) rfl (by rw [hx1]; rfl) (by decide) rfl (fun ls hl => ?_)
  refine lv_goto (tgt := 36) hx hb dX10_together_88 (by decide) ?_
  exact hs36 _ _ _ _ _ hM (lv_sub hl [1, 2, 3, 4, 5, 0] rfl) he

set_option maxHeartbeats 4000000 in
set_option maxRecDepth 100000 in
theorem w10_together_b36_body (E : g_C p s m args c cX10_together RX10 D aC (g_Zs (g_A B 69))) (hml : c.maxLocals = 6) (hret : meth.sig.returnType = (some .int)) (hlk : meth.locks = false) {F : Nat} {q0 : Int32} {a1 : Int32} {a2 : Int32} {a3 : Int32} {mem : g_M} {s36 : Int32 → Int32 → Option (Int32)} (hs36 : ∀ (v4 : Int32) (v5 : Int32) (H : Heap) (locs : List Loc) (ls : Array Slot), g_At D aC B yC 69 mem s.heap H locs → lv_has ls 6 [(0, .ref (B + 0)), (1, .int a1), (2, .int a2), (3, .int a3), (4, .int v4), (5, .int v5)] → s36 v4 v5 = some q0 → W p l e (g_rm 3) s m args below meth c H locs 0 0 (g_MQ below D aC B yC 69 args s (some (.int q0)) mem) (F0 m 36 ls [])) : ∀ (v4 : Int32) (v5 : Int32) (H : Heap) (locs : List Loc) (ls : Array Slot), g_At D aC B yC 69 mem s.heap H locs → lv_has ls 6 [(0, .ref (B + 0)), (1, .int a1), (2, .int a2), (3, .int a3), (4, .int v4), (5, .int v5)] → f10_together_b36_body F a1 a2 a3 s36 mem v4 v5 = some q0 → W p l e (g_rm 3) s m args below meth c H locs 0 0 (g_MQ below D aC B yC 69 args s (some (.int q0)) mem) (F0 m 36 ls []) := by
  intro v4 v5 H locs ls hM hl he
  unfold f10_together_b36_body at he
  have hx := E.1
  have hb := E.2.1
  have hown := E.2.2.1
  have hts := E.2.2.2.1
  refine lv_iload hx hb dX10_together_36 (lv_at hl 5 rfl) ?_
  refine lv_aload_n hx hb dX10_together_38 rfl (lv_at hl 0 rfl) ?_
  obtain ⟨q2, hqq2, hq2, hYq2, he⟩ := g_dr_some he
  refine g_getD E hM (o := 0) (Nat.le_of_ble_eq_true rfl) rfl fl_X10_20 rfl hqq2 dX10_together_39 ?_
  refine g_getP E hM (o := q2) hq2 hYq2 fl_X10_302 (q := (q2 + 1)) (pt_9_0 q2 hq2 hYq2).1 dX10_together_42 ?_
  refine lv_iconst (v := (2 : Int32)) hx hb dX10_together_45 rfl ?_
  obtain ⟨h3, he⟩ := g_ck_some he
  refine g_iald E hM (o := (q2 + 1)) (pt_9_0 q2 hq2 hYq2).2.1 (pt_9_0 q2 hq2 hYq2).2.2 h3 dX10_together_46 ?_
  refine lv_icmp_ge (tgt := 91) hx hb dX10_together_47 (by decide) (fun h4 => ?_) (fun h4 => ?_)
  · rw [if_neg (Int32.not_lt.mpr h4)] at he
    refine lv_iload hx hb dX10_together_91 (lv_at hl 4 rfl) ?_
    cases he
    exact g_iret E hM hret hlk dX10_together_93
  · rw [if_pos (Int32.not_le.mp h4)] at he
    refine lv_aload_n hx hb dX10_together_50 rfl (lv_at hl 0 rfl) ?_
    refine g_getP E hM (o := 0) (Nat.le_of_ble_eq_true rfl) rfl fl_X10_47 (q := 35) rfl dX10_together_51 ?_
    refine lv_iload_n hx hb dX10_together_54 rfl (lv_at hl 1 rfl) ?_
    refine lv_iload hx hb dX10_together_55 (lv_at hl 5 rfl) ?_
    refine lv_iload_n hx hb dX10_together_57 rfl (lv_at hl 3 rfl) ?_
    obtain ⟨r5, hcr5, he⟩ := g_bind he
    refine g_callV [.int a1, .int v5, .int a3] (rest := []) E hml hl.1 hM cv_X10_192 (c7_lacks l D aC B (Nat.le_of_ble_eq_true rfl) rfl hcr5) (o := 35) (Nat.le_of_ble_eq_true rfl) rfl (by decide) rfl rfl (Nat.le_of_ble_eq_true rfl) dX10_together_58 (fun H locs hM => ?_)
    refine W.eq (g2 := F0 m 61 ls [.int r5]) rfl ?_
    refine lv_aload_n hx hb dX10_together_61 rfl (lv_at hl 0 rfl) ?_
    refine g_getP E hM (o := 0) (Nat.le_of_ble_eq_true rfl) rfl fl_X10_47 (q := 35) rfl dX10_together_62 ?_
    refine lv_iload_n hx hb dX10_together_65 rfl (lv_at hl 2 rfl) ?_
    refine lv_iload hx hb dX10_together_66 (lv_at hl 5 rfl) ?_
    refine lv_iload_n hx hb dX10_together_68 rfl (lv_at hl 3 rfl) ?_
    obtain ⟨r6, hcr6, he⟩ := g_bind he
    refine g_callV [.int a2, .int v5, .int a3] (rest := [.int r5]) E hml hl.1 hM cv_X10_192 (c7_lacks l D aC B (Nat.le_of_ble_eq_true rfl) rfl hcr6) (o := 35) (Nat.le_of_ble_eq_true rfl) rfl (by decide) rfl rfl (Nat.le_of_ble_eq_true rfl) dX10_together_69 (fun H locs hM => ?_)
    refine W.eq (g2 := F0 m 72 ls [.int r6, .int r5]) rfl ?_
    refine lv_iand hx hb dX10_together_72 ?_
    refine lv_if_ne (tgt := 85) hx hb dX10_together_73 (by decide) (fun h7 => ?_) (fun h7 => ?_)
    · rw [if_neg h7] at he
      exact w10_together_b85 (F := F) (a1 := a1) (a2 := a2) (a3 := a3) E hml hret hlk hs36 _ _ _ _ _ hM (lv_sub hl [0, 1, 2, 3, 4, 5] rfl) he
    · rw [if_pos h7] at he
      refine lv_iload hx hb dX10_together_76 (lv_at hl 4 rfl) ?_
      refine lv_iconst (v := (1 : Int32)) hx hb dX10_together_78 rfl ?_
      refine lv_iload hx hb dX10_together_79 (lv_at hl 5 rfl) ?_
      refine lv_ishl hx hb dX10_together_81 ?_
      refine lv_ior hx hb dX10_together_82 ?_
      obtain ⟨x8, hx8, he⟩ := g_let_ex he
      refine g_topI hx8 ?_
      refine lv_istore (lv' := [(4, .int x8), (0, .ref (B + 0)), (1, .int a1), (2, .int a2), (3, .int a3), (5, .int v5)]) hx hb dX10_together_83 hl (by decide) rfl (fun ls hl => ?_)
      exact w10_together_b85 (F := F) (a1 := a1) (a2 := a2) (a3 := a3) E hml hret hlk hs36 _ _ _ _ _ hM (lv_sub hl [1, 2, 3, 4, 0, 5] rfl) he

set_option maxHeartbeats 4000000 in
set_option maxRecDepth 100000 in
theorem w10_together_b36 (E : g_C p s m args c cX10_together RX10 D aC (g_Zs (g_A B 69))) (hml : c.maxLocals = 6) (hret : meth.sig.returnType = (some .int)) (hlk : meth.locks = false) {F : Nat} {q0 : Int32} {a1 : Int32} {a2 : Int32} {a3 : Int32} {mem : g_M} : ∀ (v4 : Int32) (v5 : Int32) (H : Heap) (locs : List Loc) (ls : Array Slot), g_At D aC B yC 69 mem s.heap H locs → lv_has ls 6 [(0, .ref (B + 0)), (1, .int a1), (2, .int a2), (3, .int a3), (4, .int v4), (5, .int v5)] → f10_together_b36 F a1 a2 a3 mem v4 v5 = some q0 → W p l e (g_rm 3) s m args below meth c H locs 0 0 (g_MQ below D aC B yC 69 args s (some (.int q0)) mem) (F0 m 36 ls []) := by
  have key : ∀ (nn : Nat) (x : Int32 × Int32) (H : Heap) (locs : List Loc) (ls : Array Slot), g_At D aC B yC 69 mem s.heap H locs → lv_has ls 6 [(0, .ref (B + 0)), (1, .int a1), (2, .int a2), (3, .int a3), (4, .int x.1), (5, .int x.2)] → g_fix (fun sf x => f10_together_b36_body F a1 a2 a3 (fun v4 v5 => sf (v4, v5)) mem x.1 x.2) nn x = some q0 → W p l e (g_rm 3) s m args below meth c H locs 0 0 (g_MQ below D aC B yC 69 args s (some (.int q0)) mem) (F0 m 36 ls []) := by
    intro nn
    induction nn with
    | zero => intro x H locs ls hM hl he; simp [g_fix] at he
    | succ nn ih =>
      intro x H locs ls hM hl he
      exact w10_together_b36_body (F := F) (a1 := a1) (a2 := a2) (a3 := a3) E hml hret hlk (fun v4 v5 H locs ls hM hl he => ih (v4, v5) H locs ls hM hl he) x.1 x.2 H locs ls hM hl he
  intro v4 v5 H locs ls hM hl he
  exact key F (v4, v5) H locs ls hM hl he

set_option maxHeartbeats 4000000 in
set_option maxRecDepth 100000 in
theorem c10_together (l : Launch) (D : va_G) (aC : Nat → ClassId) (B : Nat) {F : Nat} {a1 : Int32} {a2 : Int32} {a3 : Int32} {mem : g_M} {q0 : Int32} (he : f10_together F a1 a2 a3 mem = some q0) : g_Met l yX10_together cX10_together 6 (some .int) 3 D aC B yC 69 mem [.ref (B + 0), .int a1, .int a2, .int a3] (some (.int q0)) mem := by
  refine g_ofW (by decide) (Nat.le_of_ble_eq_true rfl) ?_
  intro p e s m args below meth c ls E hml hret hlk hM hl
  have E : g_C p s m args c cX10_together RX10 D aC (g_Zs (g_A B 69)) := E
  have hx := E.1
  have hb := E.2.1
  have hown := E.2.2.1
  have hts := E.2.2.2.1
  have hl : lv_has ls 6 [(0, .ref (B + 0)), (1, .int a1), (2, .int a2), (3, .int a3)] := hl
  unfold f10_together at he
  refine lv_iload_n hx hb dX10_together_0 rfl (lv_at hl 1 rfl) ?_
  refine lv_iload_n hx hb dX10_together_1 rfl (lv_at hl 2 rfl) ?_
  refine lv_icmp_eq (tgt := 28) hx hb dX10_together_2 (by decide) (fun h9 => ?_) (fun h9 => ?_)
  · rw [if_pos h9] at he
    refine lv_iconst (v := (-1 : Int32)) hx hb dX10_together_28 rfl ?_
    cases he
    exact g_iret E hM hret hlk dX10_together_29
  · rw [if_neg h9] at he
    refine lv_aload_n hx hb dX10_together_5 rfl (lv_at hl 0 rfl) ?_
    refine lv_iload_n hx hb dX10_together_6 rfl (lv_at hl 1 rfl) ?_
    obtain ⟨r10, hcr10, he⟩ := g_bind he
    refine g_callV [.int a1] (rest := []) E hml hl.1 hM cv_X10_119 (c10_isMan l D aC B hcr10) (o := 0) (Nat.le_of_ble_eq_true rfl) rfl (by decide) rfl rfl (Nat.le_of_ble_eq_true rfl) dX10_together_7 (fun H locs hM => ?_)
    refine W.eq (g2 := F0 m 10 ls [.int r10]) rfl ?_
    refine lv_if_eq (tgt := 28) hx hb dX10_together_10 (by decide) (fun h11 => ?_) (fun h11 => ?_)
    · rw [if_pos h11] at he
      refine lv_iconst (v := (-1 : Int32)) hx hb dX10_together_28 rfl ?_
      cases he
      exact g_iret E hM hret hlk dX10_together_29
    · rw [if_neg h11] at he
      refine lv_aload_n hx hb dX10_together_13 rfl (lv_at hl 0 rfl) ?_
      refine lv_iload_n hx hb dX10_together_14 rfl (lv_at hl 2 rfl) ?_
      obtain ⟨r12, hcr12, he⟩ := g_bind he
      refine g_callV [.int a2] (rest := []) E hml hl.1 hM cv_X10_119 (c10_isMan l D aC B hcr12) (o := 0) (Nat.le_of_ble_eq_true rfl) rfl (by decide) rfl rfl (Nat.le_of_ble_eq_true rfl) dX10_together_15 (fun H locs hM => ?_)
      refine W.eq (g2 := F0 m 18 ls [.int r12]) rfl ?_
      refine lv_if_eq (tgt := 28) hx hb dX10_together_18 (by decide) (fun h13 => ?_) (fun h13 => ?_)
      · rw [if_pos h13] at he
        refine lv_iconst (v := (-1 : Int32)) hx hb dX10_together_28 rfl ?_
        cases he
        exact g_iret E hM hret hlk dX10_together_29
      · rw [if_neg h13] at he
        refine lv_iload_n hx hb dX10_together_21 rfl (lv_at hl 3 rfl) ?_
        obtain ⟨r14, hcr14, he⟩ := g_bind he
        refine g_callS [.int a3] (rest := []) E hml hl.1 hM cs_X10_308 (c10_isPort l D aC B hcr14) (by decide) rfl rfl (Nat.le_of_ble_eq_true rfl) dX10_together_22 (fun H locs hM => ?_)
        refine W.eq (g2 := F0 m 25 ls [.int r14]) rfl ?_
        refine lv_if_ne (tgt := 30) hx hb dX10_together_25 (by decide) (fun h15 => ?_) (fun h15 => ?_)
        · rw [if_neg h15] at he
          refine lv_iconst (v := (0 : Int32)) hx hb dX10_together_30 rfl ?_
          refine lv_istore (lv' := [(4, .int (0 : Int32)), (0, .ref (B + 0)), (1, .int a1), (2, .int a2), (3, .int a3)]) hx hb dX10_together_31 hl (by decide) rfl (fun ls hl => ?_)
          refine lv_iconst (v := (0 : Int32)) hx hb dX10_together_33 rfl ?_
          refine lv_istore (lv' := [(5, .int (0 : Int32)), (4, .int (0 : Int32)), (0, .ref (B + 0)), (1, .int a1), (2, .int a2), (3, .int a3)]) hx hb dX10_together_34 hl (by decide) rfl (fun ls hl => ?_)
          exact w10_together_b36 (F := F) (a1 := a1) (a2 := a2) (a3 := a3) E hml hret hlk _ _ _ _ _ hM (lv_sub hl [2, 3, 4, 5, 1, 0] rfl) he
        · rw [if_pos h15] at he
          refine lv_iconst (v := (-1 : Int32)) hx hb dX10_together_28 rfl ?_
          cases he
          exact g_iret E hM hret hlk dX10_together_29

set_option maxHeartbeats 4000000 in
set_option maxRecDepth 100000 in
theorem c10_needs (l : Launch) (D : va_G) (aC : Nat → ClassId) (B : Nat) {F : Nat} {a1 : Int32} {a2 : Int32} {a3 : Int32} {mem : g_M} {q0 : Int32} (he : f10_needs F a1 a2 a3 mem = some q0) : g_Met l yX10_needs cX10_needs 4 (some .int) 3 D aC B yC 69 mem [.ref (B + 0), .int a1, .int a2, .int a3] (some (.int q0)) mem := by
  refine g_ofW (by decide) (Nat.le_of_ble_eq_true rfl) ?_
  intro p e s m args below meth c ls E hml hret hlk hM hl
  have E : g_C p s m args c cX10_needs RX10 D aC (g_Zs (g_A B 69)) := E
  have hx := E.1
  have hb := E.2.1
  have hown := E.2.2.1
  have hts := E.2.2.2.1
  have hl : lv_has ls 4 [(0, .ref (B + 0)), (1, .int a1), (2, .int a2), (3, .int a3)] := hl
  unfold f10_needs at he
  refine lv_aload_n hx hb dX10_needs_0 rfl (lv_at hl 0 rfl) ?_
  refine lv_iload_n hx hb dX10_needs_1 rfl (lv_at hl 1 rfl) ?_
  refine lv_iload_n hx hb dX10_needs_2 rfl (lv_at hl 2 rfl) ?_
  refine lv_iload_n hx hb dX10_needs_3 rfl (lv_at hl 3 rfl) ?_
  obtain ⟨r1, hcr1, he⟩ := g_bind he
  refine g_callV [.int a1, .int a2, .int a3] (rest := []) E hml hl.1 hM cv_X10_188 (c10_isTask l D aC B hcr1) (o := 0) (Nat.le_of_ble_eq_true rfl) rfl (by decide) rfl rfl (Nat.le_of_ble_eq_true rfl) dX10_needs_4 (fun H locs hM => ?_)
  refine W.eq (g2 := F0 m 7 ls [.int r1]) rfl ?_
  refine lv_if_eq (tgt := 23) hx hb dX10_needs_7 (by decide) (fun h2 => ?_) (fun h2 => ?_)
  · rw [if_pos h2] at he
    refine lv_iconst (v := (-1 : Int32)) hx hb dX10_needs_23 rfl ?_
    cases he
    exact g_iret E hM hret hlk dX10_needs_24
  · rw [if_neg h2] at he
    refine lv_aload_n hx hb dX10_needs_10 rfl (lv_at hl 0 rfl) ?_
    refine g_getP E hM (o := 0) (Nat.le_of_ble_eq_true rfl) rfl fl_X10_47 (q := 35) rfl dX10_needs_11 ?_
    refine lv_iload_n hx hb dX10_needs_14 rfl (lv_at hl 1 rfl) ?_
    refine lv_iload_n hx hb dX10_needs_15 rfl (lv_at hl 2 rfl) ?_
    refine lv_iload_n hx hb dX10_needs_16 rfl (lv_at hl 3 rfl) ?_
    obtain ⟨r3, hcr3, he⟩ := g_bind he
    refine g_callV [.int a1, .int a2, .int a3] (rest := []) E hml hl.1 hM cv_X10_192 (c7_lacks l D aC B (Nat.le_of_ble_eq_true rfl) rfl hcr3) (o := 35) (Nat.le_of_ble_eq_true rfl) rfl (by decide) rfl rfl (Nat.le_of_ble_eq_true rfl) dX10_needs_17 (fun H locs hM => ?_)
    refine W.eq (g2 := F0 m 20 ls [.int r3]) rfl ?_
    refine lv_goto (tgt := 24) hx hb dX10_needs_20 (by decide) ?_
    cases he
    exact g_iret E hM hret hlk dX10_needs_24

set_option maxHeartbeats 4000000 in
set_option maxRecDepth 100000 in
theorem w10_cheap_b30_body (E : g_C p s m args c cX10_cheap RX10 D aC (g_Zs (g_A B 69))) (hml : c.maxLocals = 7) (hret : meth.sig.returnType = (some .int)) (hlk : meth.locks = false) {F : Nat} {q0 : Int32} {a1 : Int32} {a2 : Int32} {a3 : Int32} {mem : g_M} {s30 : Int32 → Int32 → Int32 → Option (Int32)} (hs30 : ∀ (v4 : Int32) (v5 : Int32) (v6 : Int32) (H : Heap) (locs : List Loc) (ls : Array Slot), g_At D aC B yC 69 mem s.heap H locs → lv_has ls 7 [(0, .ref (B + 0)), (4, .int v4), (5, .int v5), (6, .int v6)] → s30 v4 v5 v6 = some q0 → W p l e (g_rm 3) s m args below meth c H locs 0 0 (g_MQ below D aC B yC 69 args s (some (.int q0)) mem) (F0 m 30 ls [])) : ∀ (v4 : Int32) (v5 : Int32) (v6 : Int32) (H : Heap) (locs : List Loc) (ls : Array Slot), g_At D aC B yC 69 mem s.heap H locs → lv_has ls 7 [(0, .ref (B + 0)), (4, .int v4), (5, .int v5), (6, .int v6)] → f10_cheap_b30_body F a1 a2 a3 s30 mem v4 v5 v6 = some q0 → W p l e (g_rm 3) s m args below meth c H locs 0 0 (g_MQ below D aC B yC 69 args s (some (.int q0)) mem) (F0 m 30 ls []) := by
  intro v4 v5 v6 H locs ls hM hl he
  unfold f10_cheap_b30_body at he
  have hx := E.1
  have hb := E.2.1
  have hown := E.2.2.1
  have hts := E.2.2.2.1
  refine lv_iload hx hb dX10_cheap_30 (lv_at hl 3 rfl) ?_
  refine lv_aload_n hx hb dX10_cheap_32 rfl (lv_at hl 0 rfl) ?_
  obtain ⟨q1, hqq1, hq1, hYq1, he⟩ := g_dr_some he
  refine g_getD E hM (o := 0) (Nat.le_of_ble_eq_true rfl) rfl fl_X10_20 rfl hqq1 dX10_cheap_33 ?_
  refine g_getP E hM (o := q1) hq1 hYq1 fl_X10_302 (q := (q1 + 1)) (pt_9_0 q1 hq1 hYq1).1 dX10_cheap_36 ?_
  refine lv_iconst (v := (1 : Int32)) hx hb dX10_cheap_39 rfl ?_
  obtain ⟨h2, he⟩ := g_ck_some he
  refine g_iald E hM (o := (q1 + 1)) (pt_9_0 q1 hq1 hYq1).2.1 (pt_9_0 q1 hq1 hYq1).2.2 h2 dX10_cheap_40 ?_
  refine lv_icmp_ge (tgt := 73) hx hb dX10_cheap_41 (by decide) (fun h3 => ?_) (fun h3 => ?_)
  · rw [if_neg (Int32.not_lt.mpr h3)] at he
    refine lv_iload hx hb dX10_cheap_73 (lv_at hl 2 rfl) ?_
    cases he
    exact g_iret E hM hret hlk dX10_cheap_75
  · rw [if_pos (Int32.not_le.mp h3)] at he
    refine lv_iload hx hb dX10_cheap_44 (lv_at hl 2 rfl) ?_
    refine lv_iload hx hb dX10_cheap_46 (lv_at hl 1 rfl) ?_
    refine lv_iload hx hb dX10_cheap_48 (lv_at hl 3 rfl) ?_
    refine lv_ishr hx hb dX10_cheap_50 ?_
    refine lv_iconst (v := (1 : Int32)) hx hb dX10_cheap_51 rfl ?_
    refine lv_iand hx hb dX10_cheap_52 ?_
    refine lv_aload_n hx hb dX10_cheap_53 rfl (lv_at hl 0 rfl) ?_
    obtain ⟨q4, hqq4, hq4, hYq4, he⟩ := g_dr_some he
    refine g_getD E hM (o := 0) (Nat.le_of_ble_eq_true rfl) rfl fl_X10_20 rfl hqq4 dX10_cheap_54 ?_
    refine g_getP E hM (o := q4) hq4 hYq4 fl_X10_154 (q := (q4 + 5)) (pt_9_4 q4 hq4 hYq4).1 dX10_cheap_57 ?_
    refine lv_iload hx hb dX10_cheap_60 (lv_at hl 3 rfl) ?_
    obtain ⟨h5, he⟩ := g_ck_some he
    refine g_iald E hM (o := (q4 + 5)) (pt_9_4 q4 hq4 hYq4).2.1 (pt_9_4 q4 hq4 hYq4).2.2 h5 dX10_cheap_62 ?_
    refine lv_imul hx hb dX10_cheap_63 ?_
    refine lv_iadd hx hb dX10_cheap_64 ?_
    obtain ⟨x6, hx6, he⟩ := g_let_ex he
    refine g_topI hx6 ?_
    refine lv_istore (lv' := [(5, .int x6), (0, .ref (B + 0)), (4, .int v4), (6, .int v6)]) hx hb dX10_cheap_65 hl (by decide) rfl (fun ls hl => ?_)
    obtain ⟨x7, hx7, he⟩ := g_let_ex he
    refine lv_iinc (v := x7) (lv' := [(6, .int x7), (5, .int x6), (0, .ref (B + 0)), (4, .int v4)]) hx hb dX10_cheap_67 hl (k := 3) rfl (by rw [hx7]; rfl) (by decide) rfl (fun ls hl => ?_)
    refine lv_goto (tgt := 30) hx hb dX10_cheap_70 (by decide) ?_
    exact hs30 _ _ _ _ _ _ hM (lv_sub hl [2, 3, 1, 0] rfl) he

set_option maxHeartbeats 4000000 in
set_option maxRecDepth 100000 in
theorem w10_cheap_b30 (E : g_C p s m args c cX10_cheap RX10 D aC (g_Zs (g_A B 69))) (hml : c.maxLocals = 7) (hret : meth.sig.returnType = (some .int)) (hlk : meth.locks = false) {F : Nat} {q0 : Int32} {a1 : Int32} {a2 : Int32} {a3 : Int32} {mem : g_M} : ∀ (v4 : Int32) (v5 : Int32) (v6 : Int32) (H : Heap) (locs : List Loc) (ls : Array Slot), g_At D aC B yC 69 mem s.heap H locs → lv_has ls 7 [(0, .ref (B + 0)), (4, .int v4), (5, .int v5), (6, .int v6)] → f10_cheap_b30 F a1 a2 a3 mem v4 v5 v6 = some q0 → W p l e (g_rm 3) s m args below meth c H locs 0 0 (g_MQ below D aC B yC 69 args s (some (.int q0)) mem) (F0 m 30 ls []) := by
  have key : ∀ (nn : Nat) (x : Int32 × Int32 × Int32) (H : Heap) (locs : List Loc) (ls : Array Slot), g_At D aC B yC 69 mem s.heap H locs → lv_has ls 7 [(0, .ref (B + 0)), (4, .int x.1), (5, .int x.2.1), (6, .int x.2.2)] → g_fix (fun sf x => f10_cheap_b30_body F a1 a2 a3 (fun v4 v5 v6 => sf (v4, v5, v6)) mem x.1 x.2.1 x.2.2) nn x = some q0 → W p l e (g_rm 3) s m args below meth c H locs 0 0 (g_MQ below D aC B yC 69 args s (some (.int q0)) mem) (F0 m 30 ls []) := by
    intro nn
    induction nn with
    | zero => intro x H locs ls hM hl he; simp [g_fix] at he
    | succ nn ih =>
      intro x H locs ls hM hl he
      exact w10_cheap_b30_body (F := F) (a1 := a1) (a2 := a2) (a3 := a3) E hml hret hlk (fun v4 v5 v6 H locs ls hM hl he => ih (v4, v5, v6) H locs ls hM hl he) x.1 x.2.1 x.2.2 H locs ls hM hl he
  intro v4 v5 v6 H locs ls hM hl he
  exact key F (v4, v5, v6) H locs ls hM hl he

set_option maxHeartbeats 4000000 in
set_option maxRecDepth 100000 in
theorem c10_cheap (l : Launch) (D : va_G) (aC : Nat → ClassId) (B : Nat) {F : Nat} {a1 : Int32} {a2 : Int32} {a3 : Int32} {mem : g_M} {q0 : Int32} (he : f10_cheap F a1 a2 a3 mem = some q0) : g_Met l yX10_cheap cX10_cheap 7 (some .int) 3 D aC B yC 69 mem [.ref (B + 0), .int a1, .int a2, .int a3] (some (.int q0)) mem := by
  refine g_ofW (by decide) (Nat.le_of_ble_eq_true rfl) ?_
  intro p e s m args below meth c ls E hml hret hlk hM hl
  have E : g_C p s m args c cX10_cheap RX10 D aC (g_Zs (g_A B 69)) := E
  have hx := E.1
  have hb := E.2.1
  have hown := E.2.2.1
  have hts := E.2.2.2.1
  have hl : lv_has ls 7 [(0, .ref (B + 0)), (1, .int a1), (2, .int a2), (3, .int a3)] := hl
  unfold f10_cheap at he
  refine lv_aload_n hx hb dX10_cheap_0 rfl (lv_at hl 0 rfl) ?_
  refine lv_iload_n hx hb dX10_cheap_1 rfl (lv_at hl 1 rfl) ?_
  refine lv_iload_n hx hb dX10_cheap_2 rfl (lv_at hl 2 rfl) ?_
  refine lv_iload_n hx hb dX10_cheap_3 rfl (lv_at hl 3 rfl) ?_
  obtain ⟨r8, hcr8, he⟩ := g_bind he
  refine g_callV [.int a1, .int a2, .int a3] (rest := []) E hml hl.1 hM cv_X10_188 (c10_isTask l D aC B hcr8) (o := 0) (Nat.le_of_ble_eq_true rfl) rfl (by decide) rfl rfl (Nat.le_of_ble_eq_true rfl) dX10_cheap_4 (fun H locs hM => ?_)
  refine W.eq (g2 := F0 m 7 ls [.int r8]) rfl ?_
  refine lv_if_ne (tgt := 12) hx hb dX10_cheap_7 (by decide) (fun h9 => ?_) (fun h9 => ?_)
  · rw [if_neg h9] at he
    refine lv_aload_n hx hb dX10_cheap_12 rfl (lv_at hl 0 rfl) ?_
    refine g_getP E hM (o := 0) (Nat.le_of_ble_eq_true rfl) rfl fl_X10_47 (q := 35) rfl dX10_cheap_13 ?_
    refine lv_iload_n hx hb dX10_cheap_16 rfl (lv_at hl 1 rfl) ?_
    refine lv_iload_n hx hb dX10_cheap_17 rfl (lv_at hl 2 rfl) ?_
    refine lv_iload_n hx hb dX10_cheap_18 rfl (lv_at hl 3 rfl) ?_
    obtain ⟨r10, hcr10, he⟩ := g_bind he
    refine g_callV [.int a1, .int a2, .int a3] (rest := []) E hml hl.1 hM cv_X10_192 (c7_lacks l D aC B (Nat.le_of_ble_eq_true rfl) rfl hcr10) (o := 35) (Nat.le_of_ble_eq_true rfl) rfl (by decide) rfl rfl (Nat.le_of_ble_eq_true rfl) dX10_cheap_19 (fun H locs hM => ?_)
    refine W.eq (g2 := F0 m 22 ls [.int r10]) rfl ?_
    refine lv_istore (lv' := [(4, .int r10), (0, .ref (B + 0)), (1, .int a1), (2, .int a2), (3, .int a3)]) hx hb dX10_cheap_22 hl (by decide) rfl (fun ls hl => ?_)
    refine lv_iconst (v := (0 : Int32)) hx hb dX10_cheap_24 rfl ?_
    refine lv_istore (lv' := [(5, .int (0 : Int32)), (4, .int r10), (0, .ref (B + 0)), (1, .int a1), (2, .int a2), (3, .int a3)]) hx hb dX10_cheap_25 hl (by decide) rfl (fun ls hl => ?_)
    refine lv_iconst (v := (0 : Int32)) hx hb dX10_cheap_27 rfl ?_
    refine lv_istore (lv' := [(6, .int (0 : Int32)), (5, .int (0 : Int32)), (4, .int r10), (0, .ref (B + 0)), (1, .int a1), (2, .int a2), (3, .int a3)]) hx hb dX10_cheap_28 hl (by decide) rfl (fun ls hl => ?_)
    exact w10_cheap_b30 (F := F) (a1 := a1) (a2 := a2) (a3 := a3) E hml hret hlk _ _ _ _ _ _ hM (lv_sub hl [3, 2, 1, 0] rfl) he
  · rw [if_pos h9] at he
    refine lv_iconst (v := (-1 : Int32)) hx hb dX10_cheap_10 rfl ?_
    cases he
    exact g_iret E hM hret hlk dX10_cheap_11

set_option maxHeartbeats 4000000 in
set_option maxRecDepth 100000 in
theorem w10_meetGain_b29 (E : g_C p s m args c cX10_meetGain RX10 D aC (g_Zs (g_A B 69))) (hml : c.maxLocals = 6) (hret : meth.sig.returnType = (some .int)) (hlk : meth.locks = false) {F : Nat} {q0 : Int32} {a1 : Int32} {a2 : Int32} {a3 : Int32} {a4 : Int32} {mem : g_M} : ∀ (w0 : Int32) (H : Heap) (locs : List Loc) (ls : Array Slot), g_At D aC B yC 69 mem s.heap H locs → lv_has ls 6 [(0, .ref (B + 0)), (1, .int a1), (3, .int a3)] → f10_meetGain_b29 F a1 a2 a3 a4 mem w0 = some q0 → W p l e (g_rm 3) s m args below meth c H locs 0 0 (g_MQ below D aC B yC 69 args s (some (.int q0)) mem) (F0 m 29 ls [.int w0]) := by
  intro w0 H locs ls hM hl he
  unfold f10_meetGain_b29 at he
  have hx := E.1
  have hb := E.2.1
  have hown := E.2.2.1
  have hts := E.2.2.2.1
  refine lv_istore (lv' := [(5, .int w0), (0, .ref (B + 0)), (1, .int a1), (3, .int a3)]) hx hb dX10_meetGain_29 hl (by decide) rfl (fun ls hl => ?_)
  refine lv_iload_n hx hb dX10_meetGain_31 rfl (lv_at hl 3 rfl) ?_
  refine lv_if_ne (tgt := 49) hx hb dX10_meetGain_32 (by decide) (fun h1 => ?_) (fun h1 => ?_)
  · rw [if_neg h1] at he
    refine lv_iload hx hb dX10_meetGain_49 (lv_at hl 0 rfl) ?_
    cases he
    exact g_iret E hM hret hlk dX10_meetGain_51
  · rw [if_pos h1] at he
    refine lv_iload hx hb dX10_meetGain_35 (lv_at hl 0 rfl) ?_
    refine lv_aload_n hx hb dX10_meetGain_37 rfl (lv_at hl 1 rfl) ?_
    refine g_getP E hM (o := 0) (Nat.le_of_ble_eq_true rfl) rfl fl_X10_47 (q := 35) rfl dX10_meetGain_38 ?_
    refine lv_iload_n hx hb dX10_meetGain_41 rfl (lv_at hl 2 rfl) ?_
    obtain ⟨r2, hcr2, he⟩ := g_bind he
    refine g_callV [.int a1] (rest := [.int w0]) E hml hl.1 hM cv_X10_319 (c7_away l D aC B (Nat.le_of_ble_eq_true rfl) rfl hcr2) (o := 35) (Nat.le_of_ble_eq_true rfl) rfl (by decide) rfl rfl (Nat.le_of_ble_eq_true rfl) dX10_meetGain_42 (fun H locs hM => ?_)
    refine W.eq (g2 := F0 m 45 ls [.int r2, .int w0]) rfl ?_
    refine lv_iadd hx hb dX10_meetGain_45 ?_
    refine lv_goto (tgt := 51) hx hb dX10_meetGain_46 (by decide) ?_
    cases he
    exact g_iret E hM hret hlk dX10_meetGain_51

set_option maxHeartbeats 4000000 in
set_option maxRecDepth 100000 in
theorem c10_meetGain (l : Launch) (D : va_G) (aC : Nat → ClassId) (B : Nat) {F : Nat} {a1 : Int32} {a2 : Int32} {a3 : Int32} {a4 : Int32} {mem : g_M} {q0 : Int32} (he : f10_meetGain F a1 a2 a3 a4 mem = some q0) : g_Met l yX10_meetGain cX10_meetGain 6 (some .int) 3 D aC B yC 69 mem [.ref (B + 0), .int a1, .int a2, .int a3, .int a4] (some (.int q0)) mem := by
  refine g_ofW (by decide) (Nat.le_of_ble_eq_true rfl) ?_
  intro p e s m args below meth c ls E hml hret hlk hM hl
  have E : g_C p s m args c cX10_meetGain RX10 D aC (g_Zs (g_A B 69)) := E
  have hx := E.1
  have hb := E.2.1
  have hown := E.2.2.1
  have hts := E.2.2.2.1
  have hl : lv_has ls 6 [(0, .ref (B + 0)), (1, .int a1), (2, .int a2), (3, .int a3), (4, .int a4)] := hl
  unfold f10_meetGain at he
  refine lv_iload_n hx hb dX10_meetGain_0 rfl (lv_at hl 3 rfl) ?_
  refine lv_iload hx hb dX10_meetGain_1 (lv_at hl 4 rfl) ?_
  refine lv_icmp_ne (tgt := 20) hx hb dX10_meetGain_3 (by decide) (fun h3 => ?_) (fun h3 => ?_)
  · rw [if_neg h3] at he
    refine lv_aload_n hx hb dX10_meetGain_20 rfl (lv_at hl 0 rfl) ?_
    obtain ⟨q6, hqq6, hq6, hYq6, he⟩ := g_dr_some he
    refine g_getD E hM (o := 0) (Nat.le_of_ble_eq_true rfl) rfl fl_X10_20 rfl hqq6 dX10_meetGain_21 ?_
    refine g_getP E hM (o := q6) hq6 hYq6 fl_X10_154 (q := (q6 + 5)) (pt_9_4 q6 hq6 hYq6).1 dX10_meetGain_24 ?_
    refine lv_iload_n hx hb dX10_meetGain_27 rfl (lv_at hl 2 rfl) ?_
    obtain ⟨h7, he⟩ := g_ck_some he
    refine g_iald E hM (o := (q6 + 5)) (pt_9_4 q6 hq6 hYq6).2.1 (pt_9_4 q6 hq6 hYq6).2.2 h7 dX10_meetGain_28 ?_
    exact w10_meetGain_b29 (F := F) (a1 := a1) (a2 := a2) (a3 := a3) (a4 := a4) E hml hret hlk _ _ _ _ hM (lv_sub hl [0, 1, 3] rfl) he
  · rw [if_pos h3] at he
    refine lv_aload_n hx hb dX10_meetGain_6 rfl (lv_at hl 0 rfl) ?_
    obtain ⟨q4, hqq4, hq4, hYq4, he⟩ := g_dr_some he
    refine g_getD E hM (o := 0) (Nat.le_of_ble_eq_true rfl) rfl fl_X10_20 rfl hqq4 dX10_meetGain_7 ?_
    refine g_getP E hM (o := q4) hq4 hYq4 fl_X10_154 (q := (q4 + 5)) (pt_9_4 q4 hq4 hYq4).1 dX10_meetGain_10 ?_
    refine lv_iload_n hx hb dX10_meetGain_13 rfl (lv_at hl 2 rfl) ?_
    obtain ⟨h5, he⟩ := g_ck_some he
    refine g_iald E hM (o := (q4 + 5)) (pt_9_4 q4 hq4 hYq4).2.1 (pt_9_4 q4 hq4 hYq4).2.2 h5 dX10_meetGain_14 ?_
    refine lv_iconst (v := (3 : Int32)) hx hb dX10_meetGain_15 rfl ?_
    refine lv_idiv hx hb dX10_meetGain_16 (by decide) ?_
    refine lv_goto (tgt := 29) hx hb dX10_meetGain_17 (by decide) ?_
    exact w10_meetGain_b29 (F := F) (a1 := a1) (a2 := a2) (a3 := a3) (a4 := a4) E hml hret hlk _ _ _ _ hM (lv_sub hl [0, 1, 3] rfl) he

set_option maxHeartbeats 4000000 in
set_option maxRecDepth 100000 in
theorem c10_isRest (l : Launch) (D : va_G) (aC : Nat → ClassId) (B : Nat) {F : Nat} {a1 : Int32} {a2 : Int32} {a3 : Int32} {a4 : Int32} {mem : g_M} {q0 : Int32} (he : f10_isRest F a1 a2 a3 a4 mem = some q0) : g_Met l yX10_isRest cX10_isRest 7 (some .boolean) 4 D aC B yC 69 mem [.ref (B + 0), .int a1, .int a2, .int a3, .int a4] (some (.int q0)) mem := by
  refine g_ofW (by decide) (Nat.le_of_ble_eq_true rfl) ?_
  intro p e s m args below meth c ls E hml hret hlk hM hl
  have E : g_C p s m args c cX10_isRest RX10 D aC (g_Zs (g_A B 69)) := E
  have hx := E.1
  have hb := E.2.1
  have hown := E.2.2.1
  have hts := E.2.2.2.1
  have hl : lv_has ls 7 [(0, .ref (B + 0)), (1, .int a1), (2, .int a2), (3, .int a3), (4, .int a4)] := hl
  unfold f10_isRest at he
  refine lv_iload hx hb dX10_isRest_0 (lv_at hl 4 rfl) ?_
  refine lv_iconst (v := (1 : Int32)) hx hb dX10_isRest_2 rfl ?_
  refine lv_ishr hx hb dX10_isRest_3 ?_
  obtain ⟨x1, hx1, he⟩ := g_let_ex he
  refine g_topI hx1 ?_
  refine lv_istore (lv' := [(5, .int x1), (0, .ref (B + 0)), (1, .int a1), (2, .int a2), (3, .int a3), (4, .int a4)]) hx hb dX10_isRest_4 hl (by decide) rfl (fun ls hl => ?_)
  refine lv_iload hx hb dX10_isRest_6 (lv_at hl 5 rfl) ?_
  refine lv_iconst (v := (1 : Int32)) hx hb dX10_isRest_8 rfl ?_
  refine lv_iand hx hb dX10_isRest_9 ?_
  obtain ⟨x2, hx2, he⟩ := g_let_ex he
  refine g_topI hx2 ?_
  refine lv_istore (lv' := [(6, .int x2), (5, .int x1), (0, .ref (B + 0)), (1, .int a1), (2, .int a2), (3, .int a3), (4, .int a4)]) hx hb dX10_isRest_10 hl (by decide) rfl (fun ls hl => ?_)
  refine lv_aload_n hx hb dX10_isRest_12 rfl (lv_at hl 2 rfl) ?_
  refine lv_iload_n hx hb dX10_isRest_13 rfl (lv_at hl 3 rfl) ?_
  refine lv_iload_n hx hb dX10_isRest_14 rfl (lv_at hl 5 rfl) ?_
  refine lv_iload hx hb dX10_isRest_15 (lv_at hl 1 rfl) ?_
  refine lv_iload hx hb dX10_isRest_17 (lv_at hl 0 rfl) ?_
  obtain ⟨r3, hcr3, he⟩ := g_bind he
  refine g_callV [.int a1, .int a3, .int x1, .int x2] (rest := []) E hml hl.1 hM cv_X10_315 (c10_meetGain l D aC B hcr3) (o := 0) (Nat.le_of_ble_eq_true rfl) rfl (by decide) rfl rfl (Nat.le_of_ble_eq_true rfl) dX10_isRest_19 (fun H locs hM => ?_)
  refine W.eq (g2 := F0 m 22 ls [.int r3]) rfl ?_
  refine lv_aload_n hx hb dX10_isRest_22 rfl (lv_at hl 2 rfl) ?_
  refine lv_iload_n hx hb dX10_isRest_23 rfl (lv_at hl 3 rfl) ?_
  refine lv_iload_n hx hb dX10_isRest_24 rfl (lv_at hl 5 rfl) ?_
  refine lv_iconst (v := (1 : Int32)) hx hb dX10_isRest_25 rfl ?_
  refine lv_iload hx hb dX10_isRest_26 (lv_at hl 1 rfl) ?_
  refine lv_isub hx hb dX10_isRest_28 ?_
  refine lv_iload hx hb dX10_isRest_29 (lv_at hl 0 rfl) ?_
  obtain ⟨r4, hcr4, he⟩ := g_bind he
  refine g_callV [.int a1, .int a3, .int ((1 : Int32) - x1), .int x2] (rest := [.int r3]) E hml hl.1 hM cv_X10_315 (c10_meetGain l D aC B hcr4) (o := 0) (Nat.le_of_ble_eq_true rfl) rfl (by decide) rfl rfl (Nat.le_of_ble_eq_true rfl) dX10_isRest_31 (fun H locs hM => ?_)
  refine W.eq (g2 := F0 m 34 ls [.int r4, .int r3]) rfl ?_
  refine lv_icmp_lt (tgt := 66) hx hb dX10_isRest_34 (by decide) (fun h5 => ?_) (fun h5 => ?_)
  · rw [if_neg (Int32.not_le.mpr h5)] at he
    refine lv_iconst (v := (0 : Int32)) hx hb dX10_isRest_66 rfl ?_
    cases he
    exact g_zret E hM hret hlk (Or.inl rfl) dX10_isRest_67
  · rw [if_pos (Int32.not_lt.mp h5)] at he
    refine lv_aload_n hx hb dX10_isRest_37 rfl (lv_at hl 2 rfl) ?_
    refine lv_iload_n hx hb dX10_isRest_38 rfl (lv_at hl 4 rfl) ?_
    refine lv_iload_n hx hb dX10_isRest_39 rfl (lv_at hl 5 rfl) ?_
    refine lv_iload hx hb dX10_isRest_40 (lv_at hl 0 rfl) ?_
    refine lv_iload hx hb dX10_isRest_42 (lv_at hl 1 rfl) ?_
    obtain ⟨r6, hcr6, he⟩ := g_bind he
    refine g_callV [.int a2, .int a3, .int x2, .int x1] (rest := []) E hml hl.1 hM cv_X10_315 (c10_meetGain l D aC B hcr6) (o := 0) (Nat.le_of_ble_eq_true rfl) rfl (by decide) rfl rfl (Nat.le_of_ble_eq_true rfl) dX10_isRest_44 (fun H locs hM => ?_)
    refine W.eq (g2 := F0 m 47 ls [.int r6]) rfl ?_
    refine lv_aload_n hx hb dX10_isRest_47 rfl (lv_at hl 2 rfl) ?_
    refine lv_iload_n hx hb dX10_isRest_48 rfl (lv_at hl 4 rfl) ?_
    refine lv_iload_n hx hb dX10_isRest_49 rfl (lv_at hl 5 rfl) ?_
    refine lv_iconst (v := (1 : Int32)) hx hb dX10_isRest_50 rfl ?_
    refine lv_iload hx hb dX10_isRest_51 (lv_at hl 0 rfl) ?_
    refine lv_isub hx hb dX10_isRest_53 ?_
    refine lv_iload hx hb dX10_isRest_54 (lv_at hl 1 rfl) ?_
    obtain ⟨r7, hcr7, he⟩ := g_bind he
    refine g_callV [.int a2, .int a3, .int ((1 : Int32) - x2), .int x1] (rest := [.int r6]) E hml hl.1 hM cv_X10_315 (c10_meetGain l D aC B hcr7) (o := 0) (Nat.le_of_ble_eq_true rfl) rfl (by decide) rfl rfl (Nat.le_of_ble_eq_true rfl) dX10_isRest_56 (fun H locs hM => ?_)
    refine W.eq (g2 := F0 m 59 ls [.int r7, .int r6]) rfl ?_
    refine lv_icmp_lt (tgt := 66) hx hb dX10_isRest_59 (by decide) (fun h8 => ?_) (fun h8 => ?_)
    · rw [if_neg (Int32.not_le.mpr h8)] at he
      refine lv_iconst (v := (0 : Int32)) hx hb dX10_isRest_66 rfl ?_
      cases he
      exact g_zret E hM hret hlk (Or.inl rfl) dX10_isRest_67
    · rw [if_pos (Int32.not_lt.mp h8)] at he
      refine lv_iconst (v := (1 : Int32)) hx hb dX10_isRest_62 rfl ?_
      refine lv_goto (tgt := 67) hx hb dX10_isRest_63 (by decide) ?_
      cases he
      exact g_zret E hM hret hlk (Or.inr rfl) dX10_isRest_67

set_option maxHeartbeats 4000000 in
set_option maxRecDepth 100000 in
theorem w10_rests_b56 (E : g_C p s m args c cX10_rests RX10 D aC (g_Zs (g_A B 69))) (hml : c.maxLocals = 6) (hret : meth.sig.returnType = (some .int)) (hlk : meth.locks = false) {F : Nat} {q0 : Int32} {a1 : Int32} {a2 : Int32} {a3 : Int32} {mem : g_M} {s31 : Int32 → Int32 → Option (Int32)} (hs31 : ∀ (v4 : Int32) (v5 : Int32) (H : Heap) (locs : List Loc) (ls : Array Slot), g_At D aC B yC 69 mem s.heap H locs → lv_has ls 6 [(0, .ref (B + 0)), (1, .int a1), (2, .int a2), (3, .int a3), (4, .int v4), (5, .int v5)] → s31 v4 v5 = some q0 → W p l e (g_rm 5) s m args below meth c H locs 0 0 (g_MQ below D aC B yC 69 args s (some (.int q0)) mem) (F0 m 31 ls [])) : ∀ (v5 : Int32) (w0 : Int32) (w1 : Int32) (H : Heap) (locs : List Loc) (ls : Array Slot), g_At D aC B yC 69 mem s.heap H locs → lv_has ls 6 [(0, .ref (B + 0)), (1, .int a1), (2, .int a2), (3, .int a3), (5, .int v5)] → f10_rests_b56 F a1 a2 a3 s31 mem v5 w0 w1 = some q0 → W p l e (g_rm 5) s m args below meth c H locs 0 0 (g_MQ below D aC B yC 69 args s (some (.int q0)) mem) (F0 m 56 ls [.int w1, .int w0]) := by
  intro v5 w0 w1 H locs ls hM hl he
  unfold f10_rests_b56 at he
  have hx := E.1
  have hb := E.2.1
  have hown := E.2.2.1
  have hts := E.2.2.2.1
  refine lv_iadd hx hb dX10_rests_56 ?_
  obtain ⟨x1, hx1, he⟩ := g_let_ex he
  refine g_topI hx1 ?_
  refine lv_istore (lv' := [(4, .int x1), (0, .ref (B + 0)), (1, .int a1), (2, .int a2), (3, .int a3), (5, .int v5)]) hx hb dX10_rests_57 hl (by decide) rfl (fun ls hl => ?_)
  obtain ⟨x2, hx2, he⟩ := g_let_ex he
  refine lv_iinc (v := x2) (lv' := [(5, .int x2), (4, .int x1), (0, .ref (B + 0)), (1, .int a1), (2, .int a2), (3, .int a3)]) hx hb dX10_rests_59 hl (k := 5) rfl (by rw [hx2]; rfl) (by decide) rfl (fun ls hl => ?_)
  refine lv_goto (tgt := 31) hx hb dX10_rests_62 (by decide) ?_
  exact hs31 _ _ _ _ _ hM (lv_sub hl [2, 3, 4, 5, 1, 0] rfl) he

set_option maxHeartbeats 4000000 in
set_option maxRecDepth 100000 in
theorem w10_rests_b31_body (E : g_C p s m args c cX10_rests RX10 D aC (g_Zs (g_A B 69))) (hml : c.maxLocals = 6) (hret : meth.sig.returnType = (some .int)) (hlk : meth.locks = false) {F : Nat} {q0 : Int32} {a1 : Int32} {a2 : Int32} {a3 : Int32} {mem : g_M} {s31 : Int32 → Int32 → Option (Int32)} (hs31 : ∀ (v4 : Int32) (v5 : Int32) (H : Heap) (locs : List Loc) (ls : Array Slot), g_At D aC B yC 69 mem s.heap H locs → lv_has ls 6 [(0, .ref (B + 0)), (1, .int a1), (2, .int a2), (3, .int a3), (4, .int v4), (5, .int v5)] → s31 v4 v5 = some q0 → W p l e (g_rm 5) s m args below meth c H locs 0 0 (g_MQ below D aC B yC 69 args s (some (.int q0)) mem) (F0 m 31 ls [])) : ∀ (v4 : Int32) (v5 : Int32) (H : Heap) (locs : List Loc) (ls : Array Slot), g_At D aC B yC 69 mem s.heap H locs → lv_has ls 6 [(0, .ref (B + 0)), (1, .int a1), (2, .int a2), (3, .int a3), (4, .int v4), (5, .int v5)] → f10_rests_b31_body F a1 a2 a3 s31 mem v4 v5 = some q0 → W p l e (g_rm 5) s m args below meth c H locs 0 0 (g_MQ below D aC B yC 69 args s (some (.int q0)) mem) (F0 m 31 ls []) := by
  intro v4 v5 H locs ls hM hl he
  unfold f10_rests_b31_body at he
  have hx := E.1
  have hb := E.2.1
  have hown := E.2.2.1
  have hts := E.2.2.2.1
  refine lv_iload hx hb dX10_rests_31 (lv_at hl 5 rfl) ?_
  refine lv_iconst (v := (4 : Int32)) hx hb dX10_rests_33 rfl ?_
  refine lv_icmp_ge (tgt := 65) hx hb dX10_rests_34 (by decide) (fun h3 => ?_) (fun h3 => ?_)
  · rw [if_neg (Int32.not_lt.mpr h3)] at he
    refine lv_iload hx hb dX10_rests_65 (lv_at hl 4 rfl) ?_
    cases he
    exact g_iret E hM hret hlk dX10_rests_67
  · rw [if_pos (Int32.not_le.mp h3)] at he
    refine lv_iload hx hb dX10_rests_37 (lv_at hl 4 rfl) ?_
    refine lv_aload_n hx hb dX10_rests_39 rfl (lv_at hl 0 rfl) ?_
    refine lv_iload_n hx hb dX10_rests_40 rfl (lv_at hl 1 rfl) ?_
    refine lv_iload_n hx hb dX10_rests_41 rfl (lv_at hl 2 rfl) ?_
    refine lv_iload_n hx hb dX10_rests_42 rfl (lv_at hl 3 rfl) ?_
    refine lv_iload hx hb dX10_rests_43 (lv_at hl 5 rfl) ?_
    obtain ⟨r4, hcr4, he⟩ := g_bind he
    refine g_callV [.int a1, .int a2, .int a3, .int v5] (rest := [.int v4]) E hml hl.1 hM cv_X10_311 (c10_isRest l D aC B hcr4) (o := 0) (Nat.le_of_ble_eq_true rfl) rfl (by decide) rfl rfl (Nat.le_of_ble_eq_true rfl) dX10_rests_45 (fun H locs hM => ?_)
    refine W.eq (g2 := F0 m 48 ls [.int r4, .int v4]) rfl ?_
    refine lv_if_eq (tgt := 55) hx hb dX10_rests_48 (by decide) (fun h5 => ?_) (fun h5 => ?_)
    · rw [if_pos h5] at he
      refine lv_iconst (v := (0 : Int32)) hx hb dX10_rests_55 rfl ?_
      exact w10_rests_b56 (F := F) (a1 := a1) (a2 := a2) (a3 := a3) E hml hret hlk hs31 _ _ _ _ _ _ hM (lv_sub hl [0, 1, 2, 3, 5] rfl) he
    · rw [if_neg h5] at he
      refine lv_iconst (v := (1 : Int32)) hx hb dX10_rests_51 rfl ?_
      refine lv_goto (tgt := 56) hx hb dX10_rests_52 (by decide) ?_
      exact w10_rests_b56 (F := F) (a1 := a1) (a2 := a2) (a3 := a3) E hml hret hlk hs31 _ _ _ _ _ _ hM (lv_sub hl [0, 1, 2, 3, 5] rfl) he

set_option maxHeartbeats 4000000 in
set_option maxRecDepth 100000 in
theorem w10_rests_b31 (E : g_C p s m args c cX10_rests RX10 D aC (g_Zs (g_A B 69))) (hml : c.maxLocals = 6) (hret : meth.sig.returnType = (some .int)) (hlk : meth.locks = false) {F : Nat} {q0 : Int32} {a1 : Int32} {a2 : Int32} {a3 : Int32} {mem : g_M} : ∀ (v4 : Int32) (v5 : Int32) (H : Heap) (locs : List Loc) (ls : Array Slot), g_At D aC B yC 69 mem s.heap H locs → lv_has ls 6 [(0, .ref (B + 0)), (1, .int a1), (2, .int a2), (3, .int a3), (4, .int v4), (5, .int v5)] → f10_rests_b31 F a1 a2 a3 mem v4 v5 = some q0 → W p l e (g_rm 5) s m args below meth c H locs 0 0 (g_MQ below D aC B yC 69 args s (some (.int q0)) mem) (F0 m 31 ls []) := by
  have key : ∀ (nn : Nat) (x : Int32 × Int32) (H : Heap) (locs : List Loc) (ls : Array Slot), g_At D aC B yC 69 mem s.heap H locs → lv_has ls 6 [(0, .ref (B + 0)), (1, .int a1), (2, .int a2), (3, .int a3), (4, .int x.1), (5, .int x.2)] → g_fix (fun sf x => f10_rests_b31_body F a1 a2 a3 (fun v4 v5 => sf (v4, v5)) mem x.1 x.2) nn x = some q0 → W p l e (g_rm 5) s m args below meth c H locs 0 0 (g_MQ below D aC B yC 69 args s (some (.int q0)) mem) (F0 m 31 ls []) := by
    intro nn
    induction nn with
    | zero => intro x H locs ls hM hl he; simp [g_fix] at he
    | succ nn ih =>
      intro x H locs ls hM hl he
      exact w10_rests_b31_body (F := F) (a1 := a1) (a2 := a2) (a3 := a3) E hml hret hlk (fun v4 v5 H locs ls hM hl he => ih (v4, v5) H locs ls hM hl he) x.1 x.2 H locs ls hM hl he
  intro v4 v5 H locs ls hM hl he
  exact key F (v4, v5) H locs ls hM hl he

set_option maxHeartbeats 4000000 in
set_option maxRecDepth 100000 in
theorem c10_rests (l : Launch) (D : va_G) (aC : Nat → ClassId) (B : Nat) {F : Nat} {a1 : Int32} {a2 : Int32} {a3 : Int32} {mem : g_M} {q0 : Int32} (he : f10_rests F a1 a2 a3 mem = some q0) : g_Met l yX10_rests cX10_rests 6 (some .int) 5 D aC B yC 69 mem [.ref (B + 0), .int a1, .int a2, .int a3] (some (.int q0)) mem := by
  refine g_ofW (by decide) (Nat.le_of_ble_eq_true rfl) ?_
  intro p e s m args below meth c ls E hml hret hlk hM hl
  have E : g_C p s m args c cX10_rests RX10 D aC (g_Zs (g_A B 69)) := E
  have hx := E.1
  have hb := E.2.1
  have hown := E.2.2.1
  have hts := E.2.2.2.1
  have hl : lv_has ls 6 [(0, .ref (B + 0)), (1, .int a1), (2, .int a2), (3, .int a3)] := hl
  unfold f10_rests at he
  refine lv_iload_n hx hb dX10_rests_0 rfl (lv_at hl 1 rfl) ?_
  refine lv_iload_n hx hb dX10_rests_1 rfl (lv_at hl 2 rfl) ?_
  refine lv_icmp_eq (tgt := 23) hx hb dX10_rests_2 (by decide) (fun h6 => ?_) (fun h6 => ?_)
  · rw [if_pos h6] at he
    refine lv_iconst (v := (-1 : Int32)) hx hb dX10_rests_23 rfl ?_
    cases he
    exact g_iret E hM hret hlk dX10_rests_24
  · rw [if_neg h6] at he
    refine lv_aload_n hx hb dX10_rests_5 rfl (lv_at hl 0 rfl) ?_
    refine lv_iload_n hx hb dX10_rests_6 rfl (lv_at hl 1 rfl) ?_
    refine lv_iload_n hx hb dX10_rests_7 rfl (lv_at hl 3 rfl) ?_
    obtain ⟨r7, hcr7, he⟩ := g_bind he
    refine g_callV [.int a1, .int a3] (rest := []) E hml hl.1 hM cv_X10_178 (c10_isPart l D aC B hcr7) (o := 0) (Nat.le_of_ble_eq_true rfl) rfl (by decide) rfl rfl (Nat.le_of_ble_eq_true rfl) dX10_rests_8 (fun H locs hM => ?_)
    refine W.eq (g2 := F0 m 11 ls [.int r7]) rfl ?_
    refine lv_if_eq (tgt := 23) hx hb dX10_rests_11 (by decide) (fun h8 => ?_) (fun h8 => ?_)
    · rw [if_pos h8] at he
      refine lv_iconst (v := (-1 : Int32)) hx hb dX10_rests_23 rfl ?_
      cases he
      exact g_iret E hM hret hlk dX10_rests_24
    · rw [if_neg h8] at he
      refine lv_aload_n hx hb dX10_rests_14 rfl (lv_at hl 0 rfl) ?_
      refine lv_iload_n hx hb dX10_rests_15 rfl (lv_at hl 2 rfl) ?_
      refine lv_iload_n hx hb dX10_rests_16 rfl (lv_at hl 3 rfl) ?_
      obtain ⟨r9, hcr9, he⟩ := g_bind he
      refine g_callV [.int a2, .int a3] (rest := []) E hml hl.1 hM cv_X10_178 (c10_isPart l D aC B hcr9) (o := 0) (Nat.le_of_ble_eq_true rfl) rfl (by decide) rfl rfl (Nat.le_of_ble_eq_true rfl) dX10_rests_17 (fun H locs hM => ?_)
      refine W.eq (g2 := F0 m 20 ls [.int r9]) rfl ?_
      refine lv_if_ne (tgt := 25) hx hb dX10_rests_20 (by decide) (fun h10 => ?_) (fun h10 => ?_)
      · rw [if_neg h10] at he
        refine lv_iconst (v := (0 : Int32)) hx hb dX10_rests_25 rfl ?_
        refine lv_istore (lv' := [(4, .int (0 : Int32)), (0, .ref (B + 0)), (1, .int a1), (2, .int a2), (3, .int a3)]) hx hb dX10_rests_26 hl (by decide) rfl (fun ls hl => ?_)
        refine lv_iconst (v := (0 : Int32)) hx hb dX10_rests_28 rfl ?_
        refine lv_istore (lv' := [(5, .int (0 : Int32)), (4, .int (0 : Int32)), (0, .ref (B + 0)), (1, .int a1), (2, .int a2), (3, .int a3)]) hx hb dX10_rests_29 hl (by decide) rfl (fun ls hl => ?_)
        exact w10_rests_b31 (F := F) (a1 := a1) (a2 := a2) (a3 := a3) E hml hret hlk _ _ _ _ _ hM (lv_sub hl [2, 3, 4, 5, 1, 0] rfl) he
      · rw [if_pos h10] at he
        refine lv_iconst (v := (-1 : Int32)) hx hb dX10_rests_23 rfl ?_
        cases he
        exact g_iret E hM hret hlk dX10_rests_24

set_option maxHeartbeats 4000000 in
set_option maxRecDepth 100000 in
theorem w10_rest_b76 (E : g_C p s m args c cX10_rest RX10 D aC (g_Zs (g_A B 69))) (hml : c.maxLocals = 7) (hret : meth.sig.returnType = (some .int)) (hlk : meth.locks = false) {F : Nat} {q0 : Int32} {a1 : Int32} {a2 : Int32} {a3 : Int32} {a4 : Int32} {mem : g_M} {s37 : Int32 → Int32 → Option (Int32)} (hs37 : ∀ (v5 : Int32) (v6 : Int32) (H : Heap) (locs : List Loc) (ls : Array Slot), g_At D aC B yC 69 mem s.heap H locs → lv_has ls 7 [(0, .ref (B + 0)), (1, .int a1), (2, .int a2), (3, .int a3), (5, .int v5), (6, .int v6)] → s37 v5 v6 = some q0 → W p l e (g_rm 5) s m args below meth c H locs 0 0 (g_MQ below D aC B yC 69 args s (some (.int q0)) mem) (F0 m 37 ls [])) : ∀ (v5 : Int32) (v6 : Int32) (H : Heap) (locs : List Loc) (ls : Array Slot), g_At D aC B yC 69 mem s.heap H locs → lv_has ls 7 [(0, .ref (B + 0)), (1, .int a1), (2, .int a2), (3, .int a3), (5, .int v5), (6, .int v6)] → f10_rest_b76 F a1 a2 a3 a4 s37 mem v5 v6 = some q0 → W p l e (g_rm 5) s m args below meth c H locs 0 0 (g_MQ below D aC B yC 69 args s (some (.int q0)) mem) (F0 m 76 ls []) := by
  intro v5 v6 H locs ls hM hl he
  unfold f10_rest_b76 at he
  have hx := E.1
  have hb := E.2.1
  have hown := E.2.2.1
  have hts := E.2.2.2.1
  obtain ⟨x1, hx1, he⟩ := g_let_ex he
  refine lv_iinc (v := x1) (lv' := [(6, .int x1), (0, .ref (B + 0)), (1, .int a1), (2, .int a2), (3, .int a3), (5, .int v5)]) hx hb dX10_rest_76 hl (k := 5) rfl (by rw [hx1]; rfl) (by decide) rfl (fun ls hl => ?_)
  refine lv_goto (tgt := 37) hx hb dX10_rest_79 (by decide) ?_
  exact hs37 _ _ _ _ _ hM (lv_sub hl [1, 2, 3, 4, 5, 0] rfl) he

set_option maxHeartbeats 4000000 in
set_option maxRecDepth 100000 in
theorem w10_rest_b37_body (E : g_C p s m args c cX10_rest RX10 D aC (g_Zs (g_A B 69))) (hml : c.maxLocals = 7) (hret : meth.sig.returnType = (some .int)) (hlk : meth.locks = false) {F : Nat} {q0 : Int32} {a1 : Int32} {a2 : Int32} {a3 : Int32} {a4 : Int32} {mem : g_M} {s37 : Int32 → Int32 → Option (Int32)} (hs37 : ∀ (v5 : Int32) (v6 : Int32) (H : Heap) (locs : List Loc) (ls : Array Slot), g_At D aC B yC 69 mem s.heap H locs → lv_has ls 7 [(0, .ref (B + 0)), (1, .int a1), (2, .int a2), (3, .int a3), (5, .int v5), (6, .int v6)] → s37 v5 v6 = some q0 → W p l e (g_rm 5) s m args below meth c H locs 0 0 (g_MQ below D aC B yC 69 args s (some (.int q0)) mem) (F0 m 37 ls [])) : ∀ (v5 : Int32) (v6 : Int32) (H : Heap) (locs : List Loc) (ls : Array Slot), g_At D aC B yC 69 mem s.heap H locs → lv_has ls 7 [(0, .ref (B + 0)), (1, .int a1), (2, .int a2), (3, .int a3), (5, .int v5), (6, .int v6)] → f10_rest_b37_body F a1 a2 a3 a4 s37 mem v5 v6 = some q0 → W p l e (g_rm 5) s m args below meth c H locs 0 0 (g_MQ below D aC B yC 69 args s (some (.int q0)) mem) (F0 m 37 ls []) := by
  intro v5 v6 H locs ls hM hl he
  unfold f10_rest_b37_body at he
  have hx := E.1
  have hb := E.2.1
  have hown := E.2.2.1
  have hts := E.2.2.2.1
  refine lv_iload hx hb dX10_rest_37 (lv_at hl 5 rfl) ?_
  refine lv_iconst (v := (4 : Int32)) hx hb dX10_rest_39 rfl ?_
  refine lv_icmp_ge (tgt := 82) hx hb dX10_rest_40 (by decide) (fun h2 => ?_) (fun h2 => ?_)
  · rw [if_neg (Int32.not_lt.mpr h2)] at he
    refine lv_bipush (v := (-2 : Int32)) hx hb dX10_rest_82 rfl ?_
    cases he
    exact g_iret E hM hret hlk dX10_rest_84
  · rw [if_pos (Int32.not_le.mp h2)] at he
    refine lv_aload_n hx hb dX10_rest_43 rfl (lv_at hl 0 rfl) ?_
    refine lv_iload_n hx hb dX10_rest_44 rfl (lv_at hl 1 rfl) ?_
    refine lv_iload_n hx hb dX10_rest_45 rfl (lv_at hl 2 rfl) ?_
    refine lv_iload_n hx hb dX10_rest_46 rfl (lv_at hl 3 rfl) ?_
    refine lv_iload hx hb dX10_rest_47 (lv_at hl 5 rfl) ?_
    obtain ⟨r3, hcr3, he⟩ := g_bind he
    refine g_callV [.int a1, .int a2, .int a3, .int v6] (rest := []) E hml hl.1 hM cv_X10_311 (c10_isRest l D aC B hcr3) (o := 0) (Nat.le_of_ble_eq_true rfl) rfl (by decide) rfl rfl (Nat.le_of_ble_eq_true rfl) dX10_rest_49 (fun H locs hM => ?_)
    refine W.eq (g2 := F0 m 52 ls [.int r3]) rfl ?_
    refine lv_if_eq (tgt := 76) hx hb dX10_rest_52 (by decide) (fun h4 => ?_) (fun h4 => ?_)
    · rw [if_pos h4] at he
      exact w10_rest_b76 (F := F) (a1 := a1) (a2 := a2) (a3 := a3) (a4 := a4) E hml hret hlk hs37 _ _ _ _ _ hM (lv_sub hl [0, 1, 2, 3, 4, 5] rfl) he
    · rw [if_neg h4] at he
      refine lv_iload hx hb dX10_rest_55 (lv_at hl 4 rfl) ?_
      refine lv_if_ne (tgt := 73) hx hb dX10_rest_57 (by decide) (fun h5 => ?_) (fun h5 => ?_)
      · rw [if_neg h5] at he
        obtain ⟨x6, hx6, he⟩ := g_let_ex he
        refine lv_iinc (v := x6) (lv' := [(5, .int x6), (0, .ref (B + 0)), (1, .int a1), (2, .int a2), (3, .int a3), (6, .int v6)]) hx hb dX10_rest_73 hl (k := 4) rfl (by rw [hx6]; rfl) (by decide) rfl (fun ls hl => ?_)
        exact w10_rest_b76 (F := F) (a1 := a1) (a2 := a2) (a3 := a3) (a4 := a4) E hml hret hlk hs37 _ _ _ _ _ hM (lv_sub hl [1, 2, 3, 4, 0, 5] rfl) he
      · rw [if_pos h5] at he
        refine lv_iload hx hb dX10_rest_60 (lv_at hl 5 rfl) ?_
        refine lv_iconst (v := (1 : Int32)) hx hb dX10_rest_62 rfl ?_
        refine lv_ishr hx hb dX10_rest_63 ?_
        refine lv_bipush (v := (10 : Int32)) hx hb dX10_rest_64 rfl ?_
        refine lv_imul hx hb dX10_rest_66 ?_
        refine lv_iload hx hb dX10_rest_67 (lv_at hl 5 rfl) ?_
        refine lv_iconst (v := (1 : Int32)) hx hb dX10_rest_69 rfl ?_
        refine lv_iand hx hb dX10_rest_70 ?_
        refine lv_iadd hx hb dX10_rest_71 ?_
        cases he
        exact g_iret E hM hret hlk dX10_rest_72

set_option maxHeartbeats 4000000 in
set_option maxRecDepth 100000 in
theorem w10_rest_b37 (E : g_C p s m args c cX10_rest RX10 D aC (g_Zs (g_A B 69))) (hml : c.maxLocals = 7) (hret : meth.sig.returnType = (some .int)) (hlk : meth.locks = false) {F : Nat} {q0 : Int32} {a1 : Int32} {a2 : Int32} {a3 : Int32} {a4 : Int32} {mem : g_M} : ∀ (v5 : Int32) (v6 : Int32) (H : Heap) (locs : List Loc) (ls : Array Slot), g_At D aC B yC 69 mem s.heap H locs → lv_has ls 7 [(0, .ref (B + 0)), (1, .int a1), (2, .int a2), (3, .int a3), (5, .int v5), (6, .int v6)] → f10_rest_b37 F a1 a2 a3 a4 mem v5 v6 = some q0 → W p l e (g_rm 5) s m args below meth c H locs 0 0 (g_MQ below D aC B yC 69 args s (some (.int q0)) mem) (F0 m 37 ls []) := by
  have key : ∀ (nn : Nat) (x : Int32 × Int32) (H : Heap) (locs : List Loc) (ls : Array Slot), g_At D aC B yC 69 mem s.heap H locs → lv_has ls 7 [(0, .ref (B + 0)), (1, .int a1), (2, .int a2), (3, .int a3), (5, .int x.1), (6, .int x.2)] → g_fix (fun sf x => f10_rest_b37_body F a1 a2 a3 a4 (fun v5 v6 => sf (v5, v6)) mem x.1 x.2) nn x = some q0 → W p l e (g_rm 5) s m args below meth c H locs 0 0 (g_MQ below D aC B yC 69 args s (some (.int q0)) mem) (F0 m 37 ls []) := by
    intro nn
    induction nn with
    | zero => intro x H locs ls hM hl he; simp [g_fix] at he
    | succ nn ih =>
      intro x H locs ls hM hl he
      exact w10_rest_b37_body (F := F) (a1 := a1) (a2 := a2) (a3 := a3) (a4 := a4) E hml hret hlk (fun v5 v6 H locs ls hM hl he => ih (v5, v6) H locs ls hM hl he) x.1 x.2 H locs ls hM hl he
  intro v5 v6 H locs ls hM hl he
  exact key F (v5, v6) H locs ls hM hl he

set_option maxHeartbeats 4000000 in
set_option maxRecDepth 100000 in
theorem c10_rest (l : Launch) (D : va_G) (aC : Nat → ClassId) (B : Nat) {F : Nat} {a1 : Int32} {a2 : Int32} {a3 : Int32} {a4 : Int32} {mem : g_M} {q0 : Int32} (he : f10_rest F a1 a2 a3 a4 mem = some q0) : g_Met l yX10_rest cX10_rest 7 (some .int) 5 D aC B yC 69 mem [.ref (B + 0), .int a1, .int a2, .int a3, .int a4] (some (.int q0)) mem := by
  refine g_ofW (by decide) (Nat.le_of_ble_eq_true rfl) ?_
  intro p e s m args below meth c ls E hml hret hlk hM hl
  have E : g_C p s m args c cX10_rest RX10 D aC (g_Zs (g_A B 69)) := E
  have hx := E.1
  have hb := E.2.1
  have hown := E.2.2.1
  have hts := E.2.2.2.1
  have hl : lv_has ls 7 [(0, .ref (B + 0)), (1, .int a1), (2, .int a2), (3, .int a3), (4, .int a4)] := hl
  unfold f10_rest at he
  refine lv_iload hx hb dX10_rest_0 (lv_at hl 4 rfl) ?_
  refine lv_if_lt (tgt := 28) hx hb dX10_rest_2 (by decide) (fun h7 => ?_) (fun h7 => ?_)
  · rw [if_neg (Int32.not_le.mpr h7)] at he
    refine lv_iconst (v := (-1 : Int32)) hx hb dX10_rest_28 rfl ?_
    cases he
    exact g_iret E hM hret hlk dX10_rest_29
  · rw [if_pos (Int32.not_lt.mp h7)] at he
    refine lv_iload_n hx hb dX10_rest_5 rfl (lv_at hl 1 rfl) ?_
    refine lv_iload_n hx hb dX10_rest_6 rfl (lv_at hl 2 rfl) ?_
    refine lv_icmp_eq (tgt := 28) hx hb dX10_rest_7 (by decide) (fun h8 => ?_) (fun h8 => ?_)
    · rw [if_pos h8] at he
      refine lv_iconst (v := (-1 : Int32)) hx hb dX10_rest_28 rfl ?_
      cases he
      exact g_iret E hM hret hlk dX10_rest_29
    · rw [if_neg h8] at he
      refine lv_aload_n hx hb dX10_rest_10 rfl (lv_at hl 0 rfl) ?_
      refine lv_iload_n hx hb dX10_rest_11 rfl (lv_at hl 1 rfl) ?_
      refine lv_iload_n hx hb dX10_rest_12 rfl (lv_at hl 3 rfl) ?_
      obtain ⟨r9, hcr9, he⟩ := g_bind he
      refine g_callV [.int a1, .int a3] (rest := []) E hml hl.1 hM cv_X10_178 (c10_isPart l D aC B hcr9) (o := 0) (Nat.le_of_ble_eq_true rfl) rfl (by decide) rfl rfl (Nat.le_of_ble_eq_true rfl) dX10_rest_13 (fun H locs hM => ?_)
      refine W.eq (g2 := F0 m 16 ls [.int r9]) rfl ?_
      refine lv_if_eq (tgt := 28) hx hb dX10_rest_16 (by decide) (fun h10 => ?_) (fun h10 => ?_)
      · rw [if_pos h10] at he
        refine lv_iconst (v := (-1 : Int32)) hx hb dX10_rest_28 rfl ?_
        cases he
        exact g_iret E hM hret hlk dX10_rest_29
      · rw [if_neg h10] at he
        refine lv_aload_n hx hb dX10_rest_19 rfl (lv_at hl 0 rfl) ?_
        refine lv_iload_n hx hb dX10_rest_20 rfl (lv_at hl 2 rfl) ?_
        refine lv_iload_n hx hb dX10_rest_21 rfl (lv_at hl 3 rfl) ?_
        obtain ⟨r11, hcr11, he⟩ := g_bind he
        refine g_callV [.int a2, .int a3] (rest := []) E hml hl.1 hM cv_X10_178 (c10_isPart l D aC B hcr11) (o := 0) (Nat.le_of_ble_eq_true rfl) rfl (by decide) rfl rfl (Nat.le_of_ble_eq_true rfl) dX10_rest_22 (fun H locs hM => ?_)
        refine W.eq (g2 := F0 m 25 ls [.int r11]) rfl ?_
        refine lv_if_ne (tgt := 30) hx hb dX10_rest_25 (by decide) (fun h12 => ?_) (fun h12 => ?_)
        · rw [if_neg h12] at he
          refine lv_iload hx hb dX10_rest_30 (lv_at hl 4 rfl) ?_
          refine lv_istore (lv' := [(5, .int a4), (0, .ref (B + 0)), (1, .int a1), (2, .int a2), (3, .int a3), (4, .int a4)]) hx hb dX10_rest_32 hl (by decide) rfl (fun ls hl => ?_)
          refine lv_iconst (v := (0 : Int32)) hx hb dX10_rest_34 rfl ?_
          refine lv_istore (lv' := [(6, .int (0 : Int32)), (5, .int a4), (0, .ref (B + 0)), (1, .int a1), (2, .int a2), (3, .int a3), (4, .int a4)]) hx hb dX10_rest_35 hl (by decide) rfl (fun ls hl => ?_)
          exact w10_rest_b37 (F := F) (a1 := a1) (a2 := a2) (a3 := a3) (a4 := a4) E hml hret hlk _ _ _ _ _ hM (lv_sub hl [2, 3, 4, 5, 1, 0] rfl) he
        · rw [if_pos h12] at he
          refine lv_iconst (v := (-1 : Int32)) hx hb dX10_rest_28 rfl ?_
          cases he
          exact g_iret E hM hret hlk dX10_rest_29

set_option maxHeartbeats 4000000 in
set_option maxRecDepth 100000 in
theorem w10_commonFactor_b23 (E : g_C p s m args c cX10_commonFactor RX10 D aC (g_Zs (g_A B 69))) (hml : c.maxLocals = 4) (hret : meth.sig.returnType = (some .int)) (hlk : meth.locks = false) {F : Nat} {q0 : Int32} {a0 : Int32} {a1 : Int32} {mem : g_M} {s4 : Int32 → Int32 → Option (Int32)} (hs4 : ∀ (v2 : Int32) (v3 : Int32) (H : Heap) (locs : List Loc) (ls : Array Slot), g_At D aC B yC 69 mem s.heap H locs → lv_has ls 4 [(0, .int a0), (1, .int a1), (2, .int v2), (3, .int v3)] → s4 v2 v3 = some q0 → W p l e (g_rm 1) s m args below meth c H locs 0 0 (g_MQ below D aC B yC 69 args s (some (.int q0)) mem) (F0 m 4 ls [])) : ∀ (v2 : Int32) (v3 : Int32) (H : Heap) (locs : List Loc) (ls : Array Slot), g_At D aC B yC 69 mem s.heap H locs → lv_has ls 4 [(0, .int a0), (1, .int a1), (2, .int v2), (3, .int v3)] → f10_commonFactor_b23 F a0 a1 s4 mem v2 v3 = some q0 → W p l e (g_rm 1) s m args below meth c H locs 0 0 (g_MQ below D aC B yC 69 args s (some (.int q0)) mem) (F0 m 23 ls []) := by
  intro v2 v3 H locs ls hM hl he
  unfold f10_commonFactor_b23 at he
  have hx := E.1
  have hb := E.2.1
  have hown := E.2.2.1
  have hts := E.2.2.2.1
  obtain ⟨x1, hx1, he⟩ := g_let_ex he
  refine lv_iinc (v := x1) (lv' := [(3, .int x1), (0, .int a0), (1, .int a1), (2, .int v2)]) hx hb dX10_commonFactor_23 hl (k := 3) rfl (by rw [hx1]; rfl) (by decide) rfl (fun ls hl => ?_)
  refine lv_goto (tgt := 4) hx hb dX10_commonFactor_26 (by decide) ?_
  exact hs4 _ _ _ _ _ hM (lv_sub hl [1, 2, 3, 0] rfl) he

set_option maxHeartbeats 4000000 in
set_option maxRecDepth 100000 in
theorem w10_commonFactor_b4_body (E : g_C p s m args c cX10_commonFactor RX10 D aC (g_Zs (g_A B 69))) (hml : c.maxLocals = 4) (hret : meth.sig.returnType = (some .int)) (hlk : meth.locks = false) {F : Nat} {q0 : Int32} {a0 : Int32} {a1 : Int32} {mem : g_M} {s4 : Int32 → Int32 → Option (Int32)} (hs4 : ∀ (v2 : Int32) (v3 : Int32) (H : Heap) (locs : List Loc) (ls : Array Slot), g_At D aC B yC 69 mem s.heap H locs → lv_has ls 4 [(0, .int a0), (1, .int a1), (2, .int v2), (3, .int v3)] → s4 v2 v3 = some q0 → W p l e (g_rm 1) s m args below meth c H locs 0 0 (g_MQ below D aC B yC 69 args s (some (.int q0)) mem) (F0 m 4 ls [])) : ∀ (v2 : Int32) (v3 : Int32) (H : Heap) (locs : List Loc) (ls : Array Slot), g_At D aC B yC 69 mem s.heap H locs → lv_has ls 4 [(0, .int a0), (1, .int a1), (2, .int v2), (3, .int v3)] → f10_commonFactor_b4_body F a0 a1 s4 mem v2 v3 = some q0 → W p l e (g_rm 1) s m args below meth c H locs 0 0 (g_MQ below D aC B yC 69 args s (some (.int q0)) mem) (F0 m 4 ls []) := by
  intro v2 v3 H locs ls hM hl he
  unfold f10_commonFactor_b4_body at he
  have hx := E.1
  have hb := E.2.1
  have hown := E.2.2.1
  have hts := E.2.2.2.1
  refine lv_iload_n hx hb dX10_commonFactor_4 rfl (lv_at hl 3 rfl) ?_
  refine lv_iload_n hx hb dX10_commonFactor_5 rfl (lv_at hl 1 rfl) ?_
  refine lv_icmp_gt (tgt := 29) hx hb dX10_commonFactor_6 (by decide) (fun h2 => ?_) (fun h2 => ?_)
  · rw [if_neg (Int32.not_le.mpr h2)] at he
    refine lv_iload_n hx hb dX10_commonFactor_29 rfl (lv_at hl 2 rfl) ?_
    cases he
    exact g_iret E hM hret hlk dX10_commonFactor_30
  · rw [if_pos (Int32.not_lt.mp h2)] at he
    refine lv_iload_n hx hb dX10_commonFactor_9 rfl (lv_at hl 0 rfl) ?_
    refine lv_iload_n hx hb dX10_commonFactor_10 rfl (lv_at hl 3 rfl) ?_
    obtain ⟨h3, he⟩ := g_nz_some he
    refine lv_irem hx hb dX10_commonFactor_11 h3 ?_
    refine lv_if_ne (tgt := 23) hx hb dX10_commonFactor_12 (by decide) (fun h4 => ?_) (fun h4 => ?_)
    · rw [if_neg h4] at he
      exact w10_commonFactor_b23 (F := F) (a0 := a0) (a1 := a1) E hml hret hlk hs4 _ _ _ _ _ hM (lv_sub hl [0, 1, 2, 3] rfl) he
    · rw [if_pos h4] at he
      refine lv_iload_n hx hb dX10_commonFactor_15 rfl (lv_at hl 1 rfl) ?_
      refine lv_iload_n hx hb dX10_commonFactor_16 rfl (lv_at hl 3 rfl) ?_
      obtain ⟨h5, he⟩ := g_nz_some he
      refine lv_irem hx hb dX10_commonFactor_17 h5 ?_
      refine lv_if_ne (tgt := 23) hx hb dX10_commonFactor_18 (by decide) (fun h6 => ?_) (fun h6 => ?_)
      · rw [if_neg h6] at he
        exact w10_commonFactor_b23 (F := F) (a0 := a0) (a1 := a1) E hml hret hlk hs4 _ _ _ _ _ hM (lv_sub hl [0, 1, 2, 3] rfl) he
      · rw [if_pos h6] at he
        refine lv_iload_n hx hb dX10_commonFactor_21 rfl (lv_at hl 3 rfl) ?_
        refine lv_istore_n (lv' := [(2, .int v3), (0, .int a0), (1, .int a1), (3, .int v3)]) hx hb dX10_commonFactor_22 rfl hl (by decide) rfl (fun ls hl => ?_)
        exact w10_commonFactor_b23 (F := F) (a0 := a0) (a1 := a1) E hml hret hlk hs4 _ _ _ _ _ hM (lv_sub hl [1, 2, 0, 3] rfl) he

set_option maxHeartbeats 4000000 in
set_option maxRecDepth 100000 in
theorem w10_commonFactor_b4 (E : g_C p s m args c cX10_commonFactor RX10 D aC (g_Zs (g_A B 69))) (hml : c.maxLocals = 4) (hret : meth.sig.returnType = (some .int)) (hlk : meth.locks = false) {F : Nat} {q0 : Int32} {a0 : Int32} {a1 : Int32} {mem : g_M} : ∀ (v2 : Int32) (v3 : Int32) (H : Heap) (locs : List Loc) (ls : Array Slot), g_At D aC B yC 69 mem s.heap H locs → lv_has ls 4 [(0, .int a0), (1, .int a1), (2, .int v2), (3, .int v3)] → f10_commonFactor_b4 F a0 a1 mem v2 v3 = some q0 → W p l e (g_rm 1) s m args below meth c H locs 0 0 (g_MQ below D aC B yC 69 args s (some (.int q0)) mem) (F0 m 4 ls []) := by
  have key : ∀ (nn : Nat) (x : Int32 × Int32) (H : Heap) (locs : List Loc) (ls : Array Slot), g_At D aC B yC 69 mem s.heap H locs → lv_has ls 4 [(0, .int a0), (1, .int a1), (2, .int x.1), (3, .int x.2)] → g_fix (fun sf x => f10_commonFactor_b4_body F a0 a1 (fun v2 v3 => sf (v2, v3)) mem x.1 x.2) nn x = some q0 → W p l e (g_rm 1) s m args below meth c H locs 0 0 (g_MQ below D aC B yC 69 args s (some (.int q0)) mem) (F0 m 4 ls []) := by
    intro nn
    induction nn with
    | zero => intro x H locs ls hM hl he; simp [g_fix] at he
    | succ nn ih =>
      intro x H locs ls hM hl he
      exact w10_commonFactor_b4_body (F := F) (a0 := a0) (a1 := a1) E hml hret hlk (fun v2 v3 H locs ls hM hl he => ih (v2, v3) H locs ls hM hl he) x.1 x.2 H locs ls hM hl he
  intro v2 v3 H locs ls hM hl he
  exact key F (v2, v3) H locs ls hM hl he

set_option maxHeartbeats 4000000 in
set_option maxRecDepth 100000 in
theorem c10_commonFactor (l : Launch) (D : va_G) (aC : Nat → ClassId) (B : Nat) {F : Nat} {a0 : Int32} {a1 : Int32} {mem : g_M} {q0 : Int32} (he : f10_commonFactor F a0 a1 mem = some q0) : g_Met l yX10_commonFactor cX10_commonFactor 4 (some .int) 1 D aC B yC 69 mem [.int a0, .int a1] (some (.int q0)) mem := by
  refine g_ofW (by decide) (Nat.le_of_ble_eq_true rfl) ?_
  intro p e s m args below meth c ls E hml hret hlk hM hl
  have E : g_C p s m args c cX10_commonFactor RX10 D aC (g_Zs (g_A B 69)) := E
  have hx := E.1
  have hb := E.2.1
  have hown := E.2.2.1
  have hts := E.2.2.2.1
  have hl : lv_has ls 4 [(0, .int a0), (1, .int a1)] := hl
  unfold f10_commonFactor at he
  refine lv_iconst (v := (1 : Int32)) hx hb dX10_commonFactor_0 rfl ?_
  refine lv_istore_n (lv' := [(2, .int (1 : Int32)), (0, .int a0), (1, .int a1)]) hx hb dX10_commonFactor_1 rfl hl (by decide) rfl (fun ls hl => ?_)
  refine lv_iconst (v := (2 : Int32)) hx hb dX10_commonFactor_2 rfl ?_
  refine lv_istore_n (lv' := [(3, .int (2 : Int32)), (2, .int (1 : Int32)), (0, .int a0), (1, .int a1)]) hx hb dX10_commonFactor_3 rfl hl (by decide) rfl (fun ls hl => ?_)
  exact w10_commonFactor_b4 (F := F) (a0 := a0) (a1 := a1) E hml hret hlk _ _ _ _ _ hM (lv_sub hl [2, 3, 1, 0] rfl) he

set_option maxHeartbeats 4000000 in
set_option maxRecDepth 100000 in
theorem w10_calm_b76_body (E : g_C p s m args c cX10_calm RX10 D aC (g_Zs (g_A B 69))) (hml : c.maxLocals = 9) (hret : meth.sig.returnType = (some .long)) (hlk : meth.locks = false) {F : Nat} {q0 : Int64} {a1 : Int32} {a2 : Int32} {mem : g_M} {s76 : Int32 → Int64 → Int32 → Option (Int64)} (hs76 : ∀ (v5 : Int32) (v6 : Int64) (v8 : Int32) (H : Heap) (locs : List Loc) (ls : Array Slot), g_At D aC B yC 69 mem s.heap H locs → lv_has ls 9 [(1, .int a1), (5, .int v5), (6, .long v6), (8, .int v8)] → s76 v5 v6 v8 = some q0 → W p l e (g_rm 2) s m args below meth c H locs 0 0 (g_MQ below D aC B yC 69 args s (some (.long q0)) mem) (F0 m 76 ls [])) : ∀ (v5 : Int32) (v6 : Int64) (v8 : Int32) (H : Heap) (locs : List Loc) (ls : Array Slot), g_At D aC B yC 69 mem s.heap H locs → lv_has ls 9 [(1, .int a1), (5, .int v5), (6, .long v6), (8, .int v8)] → f10_calm_b76_body F a1 a2 s76 mem v5 v6 v8 = some q0 → W p l e (g_rm 2) s m args below meth c H locs 0 0 (g_MQ below D aC B yC 69 args s (some (.long q0)) mem) (F0 m 76 ls []) := by
  intro v5 v6 v8 H locs ls hM hl he
  unfold f10_calm_b76_body at he
  have hx := E.1
  have hb := E.2.1
  have hown := E.2.2.1
  have hts := E.2.2.2.1
  refine lv_iload hx hb dX10_calm_76 (lv_at hl 3 rfl) ?_
  refine lv_iload_n hx hb dX10_calm_78 rfl (lv_at hl 0 rfl) ?_
  refine lv_icmp_ge (tgt := 96) hx hb dX10_calm_79 (by decide) (fun h1 => ?_) (fun h1 => ?_)
  · rw [if_neg (Int32.not_lt.mpr h1)] at he
    refine lv_lload hx hb dX10_calm_96 (lv_at hl 2 rfl) ?_
    cases he
    exact g_lret E hM hret hlk dX10_calm_98
  · rw [if_pos (Int32.not_le.mp h1)] at he
    refine lv_lload hx hb dX10_calm_82 (lv_at hl 2 rfl) ?_
    refine lv_iload hx hb dX10_calm_84 (lv_at hl 1 rfl) ?_
    refine lv_i2l hx hb dX10_calm_86 rfl ?_
    refine lv_lmul hx hb dX10_calm_87 ?_
    obtain ⟨x2, hx2, he⟩ := g_let_ex he
    refine g_topJ hx2 ?_
    refine lv_lstore (lv' := [(6, .long x2), (1, .int a1), (5, .int v5), (8, .int v8)]) hx hb dX10_calm_88 hl (by decide) rfl (fun ls hl => ?_)
    obtain ⟨x3, hx3, he⟩ := g_let_ex he
    refine lv_iinc (v := x3) (lv' := [(8, .int x3), (6, .long x2), (1, .int a1), (5, .int v5)]) hx hb dX10_calm_90 hl (k := 3) rfl (by rw [hx3]; rfl) (by decide) rfl (fun ls hl => ?_)
    refine lv_goto (tgt := 76) hx hb dX10_calm_93 (by decide) ?_
    exact hs76 _ _ _ _ _ _ hM (lv_sub hl [2, 3, 1, 0] rfl) he

set_option maxHeartbeats 4000000 in
set_option maxRecDepth 100000 in
theorem w10_calm_b76 (E : g_C p s m args c cX10_calm RX10 D aC (g_Zs (g_A B 69))) (hml : c.maxLocals = 9) (hret : meth.sig.returnType = (some .long)) (hlk : meth.locks = false) {F : Nat} {q0 : Int64} {a1 : Int32} {a2 : Int32} {mem : g_M} : ∀ (v5 : Int32) (v6 : Int64) (v8 : Int32) (H : Heap) (locs : List Loc) (ls : Array Slot), g_At D aC B yC 69 mem s.heap H locs → lv_has ls 9 [(1, .int a1), (5, .int v5), (6, .long v6), (8, .int v8)] → f10_calm_b76 F a1 a2 mem v5 v6 v8 = some q0 → W p l e (g_rm 2) s m args below meth c H locs 0 0 (g_MQ below D aC B yC 69 args s (some (.long q0)) mem) (F0 m 76 ls []) := by
  have key : ∀ (nn : Nat) (x : Int32 × Int64 × Int32) (H : Heap) (locs : List Loc) (ls : Array Slot), g_At D aC B yC 69 mem s.heap H locs → lv_has ls 9 [(1, .int a1), (5, .int x.1), (6, .long x.2.1), (8, .int x.2.2)] → g_fix (fun sf x => f10_calm_b76_body F a1 a2 (fun v5 v6 v8 => sf (v5, v6, v8)) mem x.1 x.2.1 x.2.2) nn x = some q0 → W p l e (g_rm 2) s m args below meth c H locs 0 0 (g_MQ below D aC B yC 69 args s (some (.long q0)) mem) (F0 m 76 ls []) := by
    intro nn
    induction nn with
    | zero => intro x H locs ls hM hl he; simp [g_fix] at he
    | succ nn ih =>
      intro x H locs ls hM hl he
      exact w10_calm_b76_body (F := F) (a1 := a1) (a2 := a2) E hml hret hlk (fun v5 v6 v8 H locs ls hM hl he => ih (v5, v6, v8) H locs ls hM hl he) x.1 x.2.1 x.2.2 H locs ls hM hl he
  intro v5 v6 v8 H locs ls hM hl he
  exact key F (v5, v6, v8) H locs ls hM hl he

set_option maxHeartbeats 4000000 in
set_option maxRecDepth 100000 in
theorem w10_calm_b68 (E : g_C p s m args c cX10_calm RX10 D aC (g_Zs (g_A B 69))) (hml : c.maxLocals = 9) (hret : meth.sig.returnType = (some .long)) (hlk : meth.locks = false) {F : Nat} {q0 : Int64} {a1 : Int32} {a2 : Int32} {mem : g_M} : ∀ (w0 : Int32) (H : Heap) (locs : List Loc) (ls : Array Slot), g_At D aC B yC 69 mem s.heap H locs → lv_has ls 9 [(1, .int a1)] → f10_calm_b68 F a1 a2 mem w0 = some q0 → W p l e (g_rm 2) s m args below meth c H locs 0 0 (g_MQ below D aC B yC 69 args s (some (.long q0)) mem) (F0 m 68 ls [.int w0]) := by
  intro w0 H locs ls hM hl he
  unfold f10_calm_b68 at he
  have hx := E.1
  have hb := E.2.1
  have hown := E.2.2.1
  have hts := E.2.2.2.1
  refine lv_istore (lv' := [(5, .int w0), (1, .int a1)]) hx hb dX10_calm_68 hl (by decide) rfl (fun ls hl => ?_)
  refine lv_lconst (v := (1 : Int64)) hx hb dX10_calm_70 rfl ?_
  refine lv_lstore (lv' := [(6, .long (1 : Int64)), (5, .int w0), (1, .int a1)]) hx hb dX10_calm_71 hl (by decide) rfl (fun ls hl => ?_)
  refine lv_iconst (v := (0 : Int32)) hx hb dX10_calm_73 rfl ?_
  refine lv_istore (lv' := [(8, .int (0 : Int32)), (6, .long (1 : Int64)), (5, .int w0), (1, .int a1)]) hx hb dX10_calm_74 hl (by decide) rfl (fun ls hl => ?_)
  exact w10_calm_b76 (F := F) (a1 := a1) (a2 := a2) E hml hret hlk _ _ _ _ _ _ hM (lv_sub hl [3, 2, 1, 0] rfl) he

set_option maxHeartbeats 4000000 in
set_option maxRecDepth 100000 in
theorem w10_calm_b23 (E : g_C p s m args c cX10_calm RX10 D aC (g_Zs (g_A B 69))) (hml : c.maxLocals = 9) (hret : meth.sig.returnType = (some .long)) (hlk : meth.locks = false) {F : Nat} {q0 : Int64} {a1 : Int32} {a2 : Int32} {mem : g_M} : ∀ (H : Heap) (locs : List Loc) (ls : Array Slot), g_At D aC B yC 69 mem s.heap H locs → lv_has ls 9 [(0, .ref (B + 0)), (1, .int a1), (2, .int a2)] → f10_calm_b23 F a1 a2 mem = some q0 → W p l e (g_rm 2) s m args below meth c H locs 0 0 (g_MQ below D aC B yC 69 args s (some (.long q0)) mem) (F0 m 23 ls []) := by
  intro H locs ls hM hl he
  unfold f10_calm_b23 at he
  have hx := E.1
  have hb := E.2.1
  have hown := E.2.2.1
  have hts := E.2.2.2.1
  refine lv_bipush (v := (100 : Int32)) hx hb dX10_calm_23 rfl ?_
  refine lv_aload_n hx hb dX10_calm_25 rfl (lv_at hl 0 rfl) ?_
  obtain ⟨q4, hqq4, hq4, hYq4, he⟩ := g_dr_some he
  refine g_getD E hM (o := 0) (Nat.le_of_ble_eq_true rfl) rfl fl_X10_20 rfl hqq4 dX10_calm_26 ?_
  refine g_getI E hM (o := q4) hq4 hYq4 fl_X10_324 dX10_calm_29 ?_
  refine lv_isub hx hb dX10_calm_32 ?_
  obtain ⟨x5, hx5, he⟩ := g_let_ex he
  refine g_topI hx5 ?_
  refine lv_istore_n (lv' := [(3, .int x5), (0, .ref (B + 0)), (1, .int a1), (2, .int a2)]) hx hb dX10_calm_33 rfl hl (by decide) rfl (fun ls hl => ?_)
  refine lv_iload_n hx hb dX10_calm_34 rfl (lv_at hl 0 rfl) ?_
  refine lv_bipush (v := (100 : Int32)) hx hb dX10_calm_35 rfl ?_
  obtain ⟨r6, hcr6, he⟩ := g_bind he
  refine g_callS [.int x5, .int (100 : Int32)] (rest := []) E hml hl.1 hM cs_X10_327 (c10_commonFactor l D aC B hcr6) (by decide) rfl rfl (Nat.le_of_ble_eq_true rfl) dX10_calm_37 (fun H locs hM => ?_)
  refine W.eq (g2 := F0 m 40 ls [.int r6]) rfl ?_
  refine lv_istore (lv' := [(4, .int r6), (3, .int x5), (0, .ref (B + 0)), (1, .int a1), (2, .int a2)]) hx hb dX10_calm_40 hl (by decide) rfl (fun ls hl => ?_)
  refine lv_iload hx hb dX10_calm_42 (lv_at hl 0 rfl) ?_
  refine lv_iconst (v := (1 : Int32)) hx hb dX10_calm_44 rfl ?_
  refine lv_icmp_ge (tgt := 52) hx hb dX10_calm_45 (by decide) (fun h7 => ?_) (fun h7 => ?_)
  · rw [if_neg (Int32.not_lt.mpr h7)] at he
    refine lv_iload_n hx hb dX10_calm_52 rfl (lv_at hl 4 rfl) ?_
    refine lv_if_ne (tgt := 63) hx hb dX10_calm_53 (by decide) (fun h8 => ?_) (fun h8 => ?_)
    · rw [if_neg h8] at he
      refine lv_bipush (v := (100 : Int32)) hx hb dX10_calm_63 rfl ?_
      refine lv_iload hx hb dX10_calm_65 (lv_at hl 0 rfl) ?_
      obtain ⟨h10, he⟩ := g_nz_some he
      refine lv_idiv hx hb dX10_calm_67 h10 ?_
      exact w10_calm_b68 (F := F) (a1 := a1) (a2 := a2) E hml hret hlk _ _ _ _ hM (lv_sub hl [3] rfl) he
    · rw [if_pos h8] at he
      refine lv_iload_n hx hb dX10_calm_56 rfl (lv_at hl 1 rfl) ?_
      refine lv_iload hx hb dX10_calm_57 (lv_at hl 0 rfl) ?_
      obtain ⟨h9, he⟩ := g_nz_some he
      refine lv_idiv hx hb dX10_calm_59 h9 ?_
      refine lv_goto (tgt := 68) hx hb dX10_calm_60 (by decide) ?_
      exact w10_calm_b68 (F := F) (a1 := a1) (a2 := a2) E hml hret hlk _ _ _ _ hM (lv_sub hl [3] rfl) he
  · rw [if_pos (Int32.not_le.mp h7)] at he
    refine lv_ldc2 (v := (-1 : Int64)) hx hb hown (hts _ kc_X10_322) dX10_calm_48 ?_
    cases he
    exact g_lret E hM hret hlk dX10_calm_51

set_option maxHeartbeats 4000000 in
set_option maxRecDepth 100000 in
theorem c10_calm (l : Launch) (D : va_G) (aC : Nat → ClassId) (B : Nat) {F : Nat} {a1 : Int32} {a2 : Int32} {mem : g_M} {q0 : Int64} (he : f10_calm F a1 a2 mem = some q0) : g_Met l yX10_calm cX10_calm 9 (some .long) 2 D aC B yC 69 mem [.ref (B + 0), .int a1, .int a2] (some (.long q0)) mem := by
  refine g_ofW (by decide) (Nat.le_of_ble_eq_true rfl) ?_
  intro p e s m args below meth c ls E hml hret hlk hM hl
  have E : g_C p s m args c cX10_calm RX10 D aC (g_Zs (g_A B 69)) := E
  have hx := E.1
  have hb := E.2.1
  have hown := E.2.2.1
  have hts := E.2.2.2.1
  have hl : lv_has ls 9 [(0, .ref (B + 0)), (1, .int a1), (2, .int a2)] := hl
  unfold f10_calm at he
  refine lv_iload_n hx hb dX10_calm_0 rfl (lv_at hl 1 rfl) ?_
  refine lv_if_lt (tgt := 19) hx hb dX10_calm_1 (by decide) (fun h11 => ?_) (fun h11 => ?_)
  · rw [if_neg (Int32.not_le.mpr h11)] at he
    refine lv_ldc2 (v := (-1 : Int64)) hx hb hown (hts _ kc_X10_322) dX10_calm_19 ?_
    cases he
    exact g_lret E hM hret hlk dX10_calm_22
  · rw [if_pos (Int32.not_lt.mp h11)] at he
    refine lv_iload_n hx hb dX10_calm_4 rfl (lv_at hl 1 rfl) ?_
    refine lv_bipush (v := (6 : Int32)) hx hb dX10_calm_5 rfl ?_
    refine lv_icmp_gt (tgt := 19) hx hb dX10_calm_7 (by decide) (fun h12 => ?_) (fun h12 => ?_)
    · rw [if_neg (Int32.not_le.mpr h12)] at he
      refine lv_ldc2 (v := (-1 : Int64)) hx hb hown (hts _ kc_X10_322) dX10_calm_19 ?_
      cases he
      exact g_lret E hM hret hlk dX10_calm_22
    · rw [if_pos (Int32.not_lt.mp h12)] at he
      refine lv_iload_n hx hb dX10_calm_10 rfl (lv_at hl 2 rfl) ?_
      refine lv_if_eq (tgt := 23) hx hb dX10_calm_11 (by decide) (fun h13 => ?_) (fun h13 => ?_)
      · rw [if_pos h13] at he
        exact w10_calm_b23 (F := F) (a1 := a1) (a2 := a2) E hml hret hlk _ _ _ hM (lv_sub hl [0, 1, 2] rfl) he
      · rw [if_neg h13] at he
        refine lv_iload_n hx hb dX10_calm_14 rfl (lv_at hl 2 rfl) ?_
        refine lv_iconst (v := (1 : Int32)) hx hb dX10_calm_15 rfl ?_
        refine lv_icmp_eq (tgt := 23) hx hb dX10_calm_16 (by decide) (fun h14 => ?_) (fun h14 => ?_)
        · rw [if_pos h14] at he
          exact w10_calm_b23 (F := F) (a1 := a1) (a2 := a2) E hml hret hlk _ _ _ hM (lv_sub hl [0, 1, 2] rfl) he
        · rw [if_neg h14] at he
          refine lv_ldc2 (v := (-1 : Int64)) hx hb hown (hts _ kc_X10_322) dX10_calm_19 ?_
          cases he
          exact g_lret E hM hret hlk dX10_calm_22

set_option maxHeartbeats 4000000 in
set_option maxRecDepth 100000 in
theorem c10_whose (l : Launch) (D : va_G) (aC : Nat → ClassId) (B : Nat) {F : Nat} {a1 : Int32} {a2 : Int32} {mem : g_M} {q0 : Int32} (he : f10_whose F a1 a2 mem = some q0) : g_Met l yX10_whose cX10_whose 3 (some .int) 3 D aC B yC 69 mem [.ref (B + 0), .int a1, .int a2] (some (.int q0)) mem := by
  refine g_ofW (by decide) (Nat.le_of_ble_eq_true rfl) ?_
  intro p e s m args below meth c ls E hml hret hlk hM hl
  have E : g_C p s m args c cX10_whose RX10 D aC (g_Zs (g_A B 69)) := E
  have hx := E.1
  have hb := E.2.1
  have hown := E.2.2.1
  have hts := E.2.2.2.1
  have hl : lv_has ls 3 [(0, .ref (B + 0)), (1, .int a1), (2, .int a2)] := hl
  unfold f10_whose at he
  refine lv_aload_n hx hb dX10_whose_0 rfl (lv_at hl 0 rfl) ?_
  refine lv_iload_n hx hb dX10_whose_1 rfl (lv_at hl 1 rfl) ?_
  refine lv_iload_n hx hb dX10_whose_2 rfl (lv_at hl 2 rfl) ?_
  obtain ⟨r1, hcr1, he⟩ := g_bind he
  refine g_callV [.int a1, .int a2] (rest := []) E hml hl.1 hM cv_X10_178 (c10_isPart l D aC B hcr1) (o := 0) (Nat.le_of_ble_eq_true rfl) rfl (by decide) rfl rfl (Nat.le_of_ble_eq_true rfl) dX10_whose_3 (fun H locs hM => ?_)
  refine W.eq (g2 := F0 m 6 ls [.int r1]) rfl ?_
  refine lv_if_eq (tgt := 21) hx hb dX10_whose_6 (by decide) (fun h2 => ?_) (fun h2 => ?_)
  · rw [if_pos h2] at he
    refine lv_iconst (v := (-1 : Int32)) hx hb dX10_whose_21 rfl ?_
    cases he
    exact g_iret E hM hret hlk dX10_whose_22
  · rw [if_neg h2] at he
    refine lv_aload_n hx hb dX10_whose_9 rfl (lv_at hl 0 rfl) ?_
    refine g_getP E hM (o := 0) (Nat.le_of_ble_eq_true rfl) rfl fl_X10_47 (q := 35) rfl dX10_whose_10 ?_
    refine lv_iload_n hx hb dX10_whose_13 rfl (lv_at hl 1 rfl) ?_
    refine lv_iload_n hx hb dX10_whose_14 rfl (lv_at hl 2 rfl) ?_
    obtain ⟨r3, hcr3, he⟩ := g_bind he
    refine g_callV [.int a1, .int a2] (rest := []) E hml hl.1 hM cv_X10_330 (c7_holderOf l D aC B (Nat.le_of_ble_eq_true rfl) rfl hcr3) (o := 35) (Nat.le_of_ble_eq_true rfl) rfl (by decide) rfl rfl (Nat.le_of_ble_eq_true rfl) dX10_whose_15 (fun H locs hM => ?_)
    refine W.eq (g2 := F0 m 18 ls [.int r3]) rfl ?_
    refine lv_goto (tgt := 22) hx hb dX10_whose_18 (by decide) ?_
    cases he
    exact g_iret E hM hret hlk dX10_whose_22

set_option maxHeartbeats 4000000 in
set_option maxRecDepth 100000 in
theorem c10_those (l : Launch) (D : va_G) (aC : Nat → ClassId) (B : Nat) {F : Nat} {a1 : Int32} {mem : g_M} {q0 : Int32} (he : f10_those F a1 mem = some q0) : g_Met l yX10_those cX10_those 2 (some .int) 4 D aC B yC 69 mem [.ref (B + 0), .int a1] (some (.int q0)) mem := by
  refine g_ofW (by decide) (Nat.le_of_ble_eq_true rfl) ?_
  intro p e s m args below meth c ls E hml hret hlk hM hl
  have E : g_C p s m args c cX10_those RX10 D aC (g_Zs (g_A B 69)) := E
  have hx := E.1
  have hb := E.2.1
  have hown := E.2.2.1
  have hts := E.2.2.2.1
  have hl : lv_has ls 2 [(0, .ref (B + 0)), (1, .int a1)] := hl
  unfold f10_those at he
  refine lv_iload_n hx hb dX10_those_0 rfl (lv_at hl 1 rfl) ?_
  by_cases h1 : a1 = (0 : Int32)
  · rw [if_pos h1] at he
    refine lv_tableIn (tgt := 28) (off := 27) hx hb dX10_those_1 (by rw [h1]; decide) (by rw [h1]; decide) (by rw [h1]; rfl) (by decide) ?_
    refine lv_aload_n hx hb dX10_those_28 rfl (lv_at hl 0 rfl) ?_
    refine g_getP E hM (o := 0) (Nat.le_of_ble_eq_true rfl) rfl fl_X10_47 (q := 35) rfl dX10_those_29 ?_
    obtain ⟨r2, hcr2, he⟩ := g_bind he
    refine g_callV [] (rest := []) E hml hl.1 hM cv_X10_333 (c7_lost l D aC B (Nat.le_of_ble_eq_true rfl) rfl hcr2) (o := 35) (Nat.le_of_ble_eq_true rfl) rfl (by decide) rfl rfl (Nat.le_of_ble_eq_true rfl) dX10_those_32 (fun H locs hM => ?_)
    refine W.eq (g2 := F0 m 35 ls [.int r2]) rfl ?_
    cases he
    exact g_iret E hM hret hlk dX10_those_35
  rw [if_neg h1] at he
  by_cases h3 : a1 = (1 : Int32)
  · rw [if_pos h3] at he
    refine lv_tableIn (tgt := 36) (off := 35) hx hb dX10_those_1 (by rw [h3]; decide) (by rw [h3]; decide) (by rw [h3]; rfl) (by decide) ?_
    refine lv_aload_n hx hb dX10_those_36 rfl (lv_at hl 0 rfl) ?_
    refine g_getP E hM (o := 0) (Nat.le_of_ble_eq_true rfl) rfl fl_X10_47 (q := 35) rfl dX10_those_37 ?_
    obtain ⟨r4, hcr4, he⟩ := g_bind he
    refine g_callV [] (rest := []) E hml hl.1 hM cv_X10_336 (c7_halves l D aC B (Nat.le_of_ble_eq_true rfl) rfl hcr4) (o := 35) (Nat.le_of_ble_eq_true rfl) rfl (by decide) rfl rfl (Nat.le_of_ble_eq_true rfl) dX10_those_40 (fun H locs hM => ?_)
    refine W.eq (g2 := F0 m 43 ls [.int r4]) rfl ?_
    cases he
    exact g_iret E hM hret hlk dX10_those_43
  rw [if_neg h3] at he
  by_cases h5 : a1 = (2 : Int32)
  · rw [if_pos h5] at he
    refine lv_tableIn (tgt := 44) (off := 43) hx hb dX10_those_1 (by rw [h5]; decide) (by rw [h5]; decide) (by rw [h5]; rfl) (by decide) ?_
    refine lv_aload_n hx hb dX10_those_44 rfl (lv_at hl 0 rfl) ?_
    refine g_getP E hM (o := 0) (Nat.le_of_ble_eq_true rfl) rfl fl_X10_47 (q := 35) rfl dX10_those_45 ?_
    obtain ⟨r6, hcr6, he⟩ := g_bind he
    refine g_callV [] (rest := []) E hml hl.1 hM cv_X10_339 (c7_dueSendings l D aC B (Nat.le_of_ble_eq_true rfl) rfl hcr6) (o := 35) (Nat.le_of_ble_eq_true rfl) rfl (by decide) rfl rfl (Nat.le_of_ble_eq_true rfl) dX10_those_48 (fun H locs hM => ?_)
    refine W.eq (g2 := F0 m 51 ls [.int r6]) rfl ?_
    cases he
    exact g_iret E hM hret hlk dX10_those_51
  rw [if_neg h5] at he
  refine lv_tableOut (tgt := 52) hx hb dX10_those_1 (by have zh1 := lv_neT (a := 0) h1 rfl; have zh3 := lv_neT (a := 1) h3 rfl; have zh5 := lv_neT (a := 2) h5 rfl; omega) (by decide) ?_
  refine lv_iconst (v := (-1 : Int32)) hx hb dX10_those_52 rfl ?_
  cases he
  exact g_iret E hM hret hlk dX10_those_53

set_option maxHeartbeats 4000000 in
set_option maxRecDepth 100000 in
theorem c10_see (l : Launch) (D : va_G) (aC : Nat → ClassId) (B : Nat) {F : Nat} {a1 : Int32} {a2 : Int32} {a3 : Int32} {a4 : Int32} {mem : g_M} {q0 : Int32 × g_M} (he : f10_see F a1 a2 a3 a4 mem = some q0) : g_Met l yX10_see cX10_see 5 (some .int) 3 D aC B yC 69 mem [.ref (B + 0), .int a1, .int a2, .int a3, .int a4] (some (.int q0.1)) q0.2 := by
  refine g_ofW (by decide) (Nat.le_of_ble_eq_true rfl) ?_
  intro p e s m args below meth c ls E hml hret hlk hM hl
  have E : g_C p s m args c cX10_see RX10 D aC (g_Zs (g_A B 69)) := E
  have hx := E.1
  have hb := E.2.1
  have hown := E.2.2.1
  have hts := E.2.2.2.1
  have hl : lv_has ls 5 [(0, .ref (B + 0)), (1, .int a1), (2, .int a2), (3, .int a3), (4, .int a4)] := hl
  unfold f10_see at he
  refine lv_iload_n hx hb dX10_see_0 rfl (lv_at hl 1 rfl) ?_
  refine lv_iconst (v := (1 : Int32)) hx hb dX10_see_1 rfl ?_
  refine lv_icmp_lt (tgt := 32) hx hb dX10_see_2 (by decide) (fun h1 => ?_) (fun h1 => ?_)
  · rw [if_neg (Int32.not_le.mpr h1)] at he
    refine lv_iconst (v := (-1 : Int32)) hx hb dX10_see_32 rfl ?_
    cases he
    exact g_iret E hM hret hlk dX10_see_33
  · rw [if_pos (Int32.not_lt.mp h1)] at he
    refine lv_iload_n hx hb dX10_see_5 rfl (lv_at hl 1 rfl) ?_
    refine lv_bipush (v := (40 : Int32)) hx hb dX10_see_6 rfl ?_
    refine lv_icmp_gt (tgt := 32) hx hb dX10_see_8 (by decide) (fun h2 => ?_) (fun h2 => ?_)
    · rw [if_neg (Int32.not_le.mpr h2)] at he
      refine lv_iconst (v := (-1 : Int32)) hx hb dX10_see_32 rfl ?_
      cases he
      exact g_iret E hM hret hlk dX10_see_33
    · rw [if_pos (Int32.not_lt.mp h2)] at he
      refine lv_aload_n hx hb dX10_see_11 rfl (lv_at hl 0 rfl) ?_
      refine lv_iload_n hx hb dX10_see_12 rfl (lv_at hl 2 rfl) ?_
      refine lv_iload_n hx hb dX10_see_13 rfl (lv_at hl 3 rfl) ?_
      obtain ⟨r3, hcr3, he⟩ := g_bind he
      refine g_callV [.int a2, .int a3] (rest := []) E hml hl.1 hM cv_X10_178 (c10_isPart l D aC B hcr3) (o := 0) (Nat.le_of_ble_eq_true rfl) rfl (by decide) rfl rfl (Nat.le_of_ble_eq_true rfl) dX10_see_14 (fun H locs hM => ?_)
      refine W.eq (g2 := F0 m 17 ls [.int r3]) rfl ?_
      refine lv_if_eq (tgt := 32) hx hb dX10_see_17 (by decide) (fun h4 => ?_) (fun h4 => ?_)
      · rw [if_pos h4] at he
        refine lv_iconst (v := (-1 : Int32)) hx hb dX10_see_32 rfl ?_
        cases he
        exact g_iret E hM hret hlk dX10_see_33
      · rw [if_neg h4] at he
        refine lv_aload_n hx hb dX10_see_20 rfl (lv_at hl 0 rfl) ?_
        refine g_getP E hM (o := 0) (Nat.le_of_ble_eq_true rfl) rfl fl_X10_84 (q := 60) rfl dX10_see_21 ?_
        refine g_getI E hM (o := 60) (Nat.le_of_ble_eq_true rfl) rfl fl_X10_342 dX10_see_24 ?_
        refine lv_bipush (v := (24 : Int32)) hx hb dX10_see_27 rfl ?_
        refine lv_icmp_lt (tgt := 34) hx hb dX10_see_29 (by decide) (fun h5 => ?_) (fun h5 => ?_)
        · rw [if_neg (Int32.not_le.mpr h5)] at he
          refine lv_aload_n hx hb dX10_see_34 rfl (lv_at hl 0 rfl) ?_
          refine g_getP E hM (o := 0) (Nat.le_of_ble_eq_true rfl) rfl fl_X10_84 (q := 60) rfl dX10_see_35 ?_
          refine lv_iload_n hx hb dX10_see_38 rfl (lv_at hl 1 rfl) ?_
          refine lv_iload_n hx hb dX10_see_39 rfl (lv_at hl 2 rfl) ?_
          refine lv_iload_n hx hb dX10_see_40 rfl (lv_at hl 3 rfl) ?_
          refine lv_iload hx hb dX10_see_41 (lv_at hl 4 rfl) ?_
          obtain ⟨r6, hcr6, he⟩ := g_bind he
          refine g_callV [.int a1, .int a2, .int a3, .int a4] (rest := []) E hml hl.1 hM cv_X10_344 (c6_put l D aC B hcr6) (o := 60) (Nat.le_of_ble_eq_true rfl) rfl (by decide) rfl rfl (Nat.le_of_ble_eq_true rfl) dX10_see_43 (fun H locs hM => ?_)
          refine W.eq (g2 := F0 m 46 ls [.int r6.1]) rfl ?_
          cases he
          exact g_iret E hM hret hlk dX10_see_46
        · rw [if_pos (Int32.not_lt.mp h5)] at he
          refine lv_iconst (v := (-1 : Int32)) hx hb dX10_see_32 rfl ?_
          cases he
          exact g_iret E hM hret hlk dX10_see_33

set_option maxHeartbeats 4000000 in
set_option maxRecDepth 100000 in
theorem c10_out (l : Launch) (D : va_G) (aC : Nat → ClassId) (B : Nat) {F : Nat} {a1 : Int32} {mem : g_M} {q0 : Int32 × g_M} (he : f10_out F a1 mem = some q0) : g_Met l yX10_out cX10_out 2 (some .int) 3 D aC B yC 69 mem [.ref (B + 0), .int a1] (some (.int q0.1)) q0.2 := by
  refine g_ofW (by decide) (Nat.le_of_ble_eq_true rfl) ?_
  intro p e s m args below meth c ls E hml hret hlk hM hl
  have E : g_C p s m args c cX10_out RX10 D aC (g_Zs (g_A B 69)) := E
  have hx := E.1
  have hb := E.2.1
  have hown := E.2.2.1
  have hts := E.2.2.2.1
  have hl : lv_has ls 2 [(0, .ref (B + 0)), (1, .int a1)] := hl
  unfold f10_out at he
  refine lv_iload_n hx hb dX10_out_0 rfl (lv_at hl 1 rfl) ?_
  refine lv_if_lt (tgt := 27) hx hb dX10_out_1 (by decide) (fun h1 => ?_) (fun h1 => ?_)
  · rw [if_neg (Int32.not_le.mpr h1)] at he
    refine lv_iconst (v := (-1 : Int32)) hx hb dX10_out_27 rfl ?_
    cases he
    exact g_iret E hM hret hlk dX10_out_28
  · rw [if_pos (Int32.not_lt.mp h1)] at he
    refine lv_iload_n hx hb dX10_out_4 rfl (lv_at hl 1 rfl) ?_
    refine lv_aload_n hx hb dX10_out_5 rfl (lv_at hl 0 rfl) ?_
    refine g_getP E hM (o := 0) (Nat.le_of_ble_eq_true rfl) rfl fl_X10_84 (q := 60) rfl dX10_out_6 ?_
    refine g_getI E hM (o := 60) (Nat.le_of_ble_eq_true rfl) rfl fl_X10_342 dX10_out_9 ?_
    refine lv_icmp_ge (tgt := 27) hx hb dX10_out_12 (by decide) (fun h2 => ?_) (fun h2 => ?_)
    · rw [if_neg (Int32.not_lt.mpr h2)] at he
      refine lv_iconst (v := (-1 : Int32)) hx hb dX10_out_27 rfl ?_
      cases he
      exact g_iret E hM hret hlk dX10_out_28
    · rw [if_pos (Int32.not_le.mp h2)] at he
      refine lv_aload_n hx hb dX10_out_15 rfl (lv_at hl 0 rfl) ?_
      refine g_getP E hM (o := 0) (Nat.le_of_ble_eq_true rfl) rfl fl_X10_84 (q := 60) rfl dX10_out_16 ?_
      refine g_getI E hM (o := 60) (Nat.le_of_ble_eq_true rfl) rfl fl_X10_342 dX10_out_19 ?_
      refine lv_bipush (v := (24 : Int32)) hx hb dX10_out_22 rfl ?_
      refine lv_icmp_lt (tgt := 29) hx hb dX10_out_24 (by decide) (fun h3 => ?_) (fun h3 => ?_)
      · rw [if_neg (Int32.not_le.mpr h3)] at he
        refine lv_aload_n hx hb dX10_out_29 rfl (lv_at hl 0 rfl) ?_
        refine g_getP E hM (o := 0) (Nat.le_of_ble_eq_true rfl) rfl fl_X10_84 (q := 60) rfl dX10_out_30 ?_
        refine lv_iload_n hx hb dX10_out_33 rfl (lv_at hl 1 rfl) ?_
        obtain ⟨r4, hcr4, he⟩ := g_bind he
        refine g_callV [.int a1] (rest := []) E hml hl.1 hM cv_X10_348 (c6_putStrike l D aC B hcr4) (o := 60) (Nat.le_of_ble_eq_true rfl) rfl (by decide) rfl rfl (Nat.le_of_ble_eq_true rfl) dX10_out_34 (fun H locs hM => ?_)
        refine W.eq (g2 := F0 m 37 ls [.int r4.1]) rfl ?_
        cases he
        exact g_iret E hM hret hlk dX10_out_37
      · rw [if_pos (Int32.not_lt.mp h3)] at he
        refine lv_iconst (v := (-1 : Int32)) hx hb dX10_out_27 rfl ?_
        cases he
        exact g_iret E hM hret hlk dX10_out_28

set_option maxHeartbeats 4000000 in
set_option maxRecDepth 100000 in
theorem c10_known (l : Launch) (D : va_G) (aC : Nat → ClassId) (B : Nat) {F : Nat} {a1 : Int32} {mem : g_M} {q0 : Int32 × g_M} (he : f10_known F a1 mem = some q0) : g_Met l yX10_known cX10_known 2 (some .boolean) 1 D aC B yC 69 mem [.ref (B + 0), .int a1] (some (.int q0.1)) q0.2 := by
  refine g_ofW (by decide) (Nat.le_of_ble_eq_true rfl) ?_
  intro p e s m args below meth c ls E hml hret hlk hM hl
  have E : g_C p s m args c cX10_known RX10 D aC (g_Zs (g_A B 69)) := E
  have hx := E.1
  have hb := E.2.1
  have hown := E.2.2.1
  have hts := E.2.2.2.1
  have hl : lv_has ls 2 [(0, .ref (B + 0)), (1, .int a1)] := hl
  unfold f10_known at he
  refine lv_iload_n hx hb dX10_known_0 rfl (lv_at hl 1 rfl) ?_
  refine lv_iconst (v := (-1 : Int32)) hx hb dX10_known_1 rfl ?_
  refine lv_icmp_lt (tgt := 16) hx hb dX10_known_2 (by decide) (fun h1 => ?_) (fun h1 => ?_)
  · rw [if_neg (Int32.not_le.mpr h1)] at he
    refine lv_iconst (v := (0 : Int32)) hx hb dX10_known_16 rfl ?_
    cases he
    exact g_zret E hM hret hlk (Or.inl rfl) dX10_known_17
  · rw [if_pos (Int32.not_lt.mp h1)] at he
    refine lv_iload_n hx hb dX10_known_5 rfl (lv_at hl 1 rfl) ?_
    refine lv_aload_n hx hb dX10_known_6 rfl (lv_at hl 0 rfl) ?_
    refine g_getP E hM (o := 0) (Nat.le_of_ble_eq_true rfl) rfl fl_X10_84 (q := 60) rfl dX10_known_7 ?_
    refine g_getI E hM (o := 60) (Nat.le_of_ble_eq_true rfl) rfl fl_X10_342 dX10_known_10 ?_
    refine lv_icmp_le (tgt := 18) hx hb dX10_known_13 (by decide) (fun h2 => ?_) (fun h2 => ?_)
    · rw [if_neg (Int32.not_lt.mpr h2)] at he
      refine lv_aload_n hx hb dX10_known_18 rfl (lv_at hl 0 rfl) ?_
      refine g_getP E hM (o := 0) (Nat.le_of_ble_eq_true rfl) rfl fl_X10_84 (q := 60) rfl dX10_known_19 ?_
      refine lv_iload_n hx hb dX10_known_22 rfl (lv_at hl 1 rfl) ?_
      refine g_putI E hM (o := 60) (Nat.le_of_ble_eq_true rfl) rfl fp_X10_351 dX10_known_23 (fun H locs hM => ?_)
      obtain ⟨m3, hm3, he⟩ := g_let_ex he
      rw [← hm3] at hM
      refine lv_iconst (v := (1 : Int32)) hx hb dX10_known_26 rfl ?_
      cases he
      exact g_zret E hM hret hlk (Or.inr rfl) dX10_known_27
    · rw [if_pos (Int32.not_le.mp h2)] at he
      refine lv_iconst (v := (0 : Int32)) hx hb dX10_known_16 rfl ?_
      cases he
      exact g_zret E hM hret hlk (Or.inl rfl) dX10_known_17

set_option maxHeartbeats 4000000 in
set_option maxRecDepth 100000 in
theorem w10_rooms_b108 (E : g_C p s m args c cX10_rooms RX10 D aC (g_Zs (g_A B 69))) (hml : c.maxLocals = 6) (hret : meth.sig.returnType = (some .int)) (hlk : meth.locks = false) {F : Nat} {q0 : Int32 × g_M} {s12 : Int32 → Int32 → Int32 → g_M → Option (Int32 × g_M)} (hs12 : ∀ (v1 : Int32) (v2 : Int32) (v3 : Int32) (mem : g_M) (H : Heap) (locs : List Loc) (ls : Array Slot), g_At D aC B yC 69 mem s.heap H locs → lv_has ls 6 [(0, .ref (B + 0)), (1, .int v1), (2, .int v2), (3, .int v3)] → s12 v1 v2 v3 mem = some q0 → W p l e (g_rm 8) s m args below meth c H locs 0 0 (g_MQ below D aC B yC 69 args s (some (.int q0.1)) q0.2) (F0 m 12 ls [])) : ∀ (v1 : Int32) (v2 : Int32) (v3 : Int32) (mem : g_M) (H : Heap) (locs : List Loc) (ls : Array Slot), g_At D aC B yC 69 mem s.heap H locs → lv_has ls 6 [(0, .ref (B + 0)), (1, .int v1), (2, .int v2), (3, .int v3)] → f10_rooms_b108 F s12 v1 v2 v3 mem = some q0 → W p l e (g_rm 8) s m args below meth c H locs 0 0 (g_MQ below D aC B yC 69 args s (some (.int q0.1)) q0.2) (F0 m 108 ls []) := by
  intro v1 v2 v3 mem H locs ls hM hl he
  unfold f10_rooms_b108 at he
  have hx := E.1
  have hb := E.2.1
  have hown := E.2.2.1
  have hts := E.2.2.2.1
  obtain ⟨x1, hx1, he⟩ := g_let_ex he
  refine lv_iinc (v := x1) (lv' := [(3, .int x1), (0, .ref (B + 0)), (1, .int v1), (2, .int v2)]) hx hb dX10_rooms_108 hl (k := 3) rfl (by rw [hx1]; rfl) (by decide) rfl (fun ls hl => ?_)
  refine lv_goto (tgt := 12) hx hb dX10_rooms_111 (by decide) ?_
  exact hs12 _ _ _ _ _ _ _ hM (lv_sub hl [1, 2, 3, 0] rfl) he

set_option maxHeartbeats 4000000 in
set_option maxRecDepth 100000 in
theorem w10_rooms_b95 (E : g_C p s m args c cX10_rooms RX10 D aC (g_Zs (g_A B 69))) (hml : c.maxLocals = 6) (hret : meth.sig.returnType = (some .int)) (hlk : meth.locks = false) {F : Nat} {q0 : Int32 × g_M} {s12 : Int32 → Int32 → Int32 → g_M → Option (Int32 × g_M)} (hs12 : ∀ (v1 : Int32) (v2 : Int32) (v3 : Int32) (mem : g_M) (H : Heap) (locs : List Loc) (ls : Array Slot), g_At D aC B yC 69 mem s.heap H locs → lv_has ls 6 [(0, .ref (B + 0)), (1, .int v1), (2, .int v2), (3, .int v3)] → s12 v1 v2 v3 mem = some q0 → W p l e (g_rm 8) s m args below meth c H locs 0 0 (g_MQ below D aC B yC 69 args s (some (.int q0.1)) q0.2) (F0 m 12 ls [])) : ∀ (v1 : Int32) (v2 : Int32) (v3 : Int32) (v4 : Int32) (mem : g_M) (H : Heap) (locs : List Loc) (ls : Array Slot), g_At D aC B yC 69 mem s.heap H locs → lv_has ls 6 [(0, .ref (B + 0)), (1, .int v1), (2, .int v2), (3, .int v3), (4, .int v4)] → f10_rooms_b95 F s12 v1 v2 v3 v4 mem = some q0 → W p l e (g_rm 8) s m args below meth c H locs 0 0 (g_MQ below D aC B yC 69 args s (some (.int q0.1)) q0.2) (F0 m 95 ls []) := by
  intro v1 v2 v3 v4 mem H locs ls hM hl he
  unfold f10_rooms_b95 at he
  have hx := E.1
  have hb := E.2.1
  have hown := E.2.2.1
  have hts := E.2.2.2.1
  refine lv_iload hx hb dX10_rooms_95 (lv_at hl 4 rfl) ?_
  refine lv_if_eq (tgt := 108) hx hb dX10_rooms_97 (by decide) (fun h2 => ?_) (fun h2 => ?_)
  · rw [if_pos h2] at he
    exact w10_rooms_b108 (F := F) E hml hret hlk hs12 _ _ _ _ _ _ _ hM (lv_sub hl [0, 1, 2, 3] rfl) he
  · rw [if_neg h2] at he
    refine lv_iload_n hx hb dX10_rooms_100 rfl (lv_at hl 2 rfl) ?_
    refine lv_iconst (v := (1 : Int32)) hx hb dX10_rooms_101 rfl ?_
    refine lv_iload_n hx hb dX10_rooms_102 rfl (lv_at hl 3 rfl) ?_
    refine lv_iconst (v := (1 : Int32)) hx hb dX10_rooms_103 rfl ?_
    refine lv_isub hx hb dX10_rooms_104 ?_
    refine lv_ishl hx hb dX10_rooms_105 ?_
    refine lv_ior hx hb dX10_rooms_106 ?_
    obtain ⟨x3, hx3, he⟩ := g_let_ex he
    refine g_topI hx3 ?_
    refine lv_istore_n (lv' := [(2, .int x3), (0, .ref (B + 0)), (1, .int v1), (3, .int v3), (4, .int v4)]) hx hb dX10_rooms_107 rfl hl (by decide) rfl (fun ls hl => ?_)
    exact w10_rooms_b108 (F := F) E hml hret hlk hs12 _ _ _ _ _ _ _ hM (lv_sub hl [1, 2, 0, 3] rfl) he

set_option maxHeartbeats 4000000 in
set_option maxRecDepth 100000 in
theorem w10_rooms_b55_body (E : g_C p s m args c cX10_rooms RX10 D aC (g_Zs (g_A B 69))) (hml : c.maxLocals = 6) (hret : meth.sig.returnType = (some .int)) (hlk : meth.locks = false) {F : Nat} {q0 : Int32 × g_M} {s12 : Int32 → Int32 → Int32 → g_M → Option (Int32 × g_M)} (hs12 : ∀ (v1 : Int32) (v2 : Int32) (v3 : Int32) (mem : g_M) (H : Heap) (locs : List Loc) (ls : Array Slot), g_At D aC B yC 69 mem s.heap H locs → lv_has ls 6 [(0, .ref (B + 0)), (1, .int v1), (2, .int v2), (3, .int v3)] → s12 v1 v2 v3 mem = some q0 → W p l e (g_rm 8) s m args below meth c H locs 0 0 (g_MQ below D aC B yC 69 args s (some (.int q0.1)) q0.2) (F0 m 12 ls [])) {s55 : Int32 → Int32 → Int32 → Int32 → Int32 → g_M → Option (Int32 × g_M)} (hs55 : ∀ (v1 : Int32) (v2 : Int32) (v3 : Int32) (v4 : Int32) (v5 : Int32) (mem : g_M) (H : Heap) (locs : List Loc) (ls : Array Slot), g_At D aC B yC 69 mem s.heap H locs → lv_has ls 6 [(0, .ref (B + 0)), (1, .int v1), (2, .int v2), (3, .int v3), (4, .int v4), (5, .int v5)] → s55 v1 v2 v3 v4 v5 mem = some q0 → W p l e (g_rm 8) s m args below meth c H locs 0 0 (g_MQ below D aC B yC 69 args s (some (.int q0.1)) q0.2) (F0 m 55 ls [])) : ∀ (v1 : Int32) (v2 : Int32) (v3 : Int32) (v4 : Int32) (v5 : Int32) (mem : g_M) (H : Heap) (locs : List Loc) (ls : Array Slot), g_At D aC B yC 69 mem s.heap H locs → lv_has ls 6 [(0, .ref (B + 0)), (1, .int v1), (2, .int v2), (3, .int v3), (4, .int v4), (5, .int v5)] → f10_rooms_b55_body F s12 s55 v1 v2 v3 v4 v5 mem = some q0 → W p l e (g_rm 8) s m args below meth c H locs 0 0 (g_MQ below D aC B yC 69 args s (some (.int q0.1)) q0.2) (F0 m 55 ls []) := by
  intro v1 v2 v3 v4 v5 mem H locs ls hM hl he
  unfold f10_rooms_b55_body at he
  have hx := E.1
  have hb := E.2.1
  have hown := E.2.2.1
  have hts := E.2.2.2.1
  refine lv_iload hx hb dX10_rooms_55 (lv_at hl 5 rfl) ?_
  refine lv_iload_n hx hb dX10_rooms_57 rfl (lv_at hl 1 rfl) ?_
  refine lv_icmp_gt (tgt := 95) hx hb dX10_rooms_58 (by decide) (fun h4 => ?_) (fun h4 => ?_)
  · rw [if_neg (Int32.not_le.mpr h4)] at he
    exact w10_rooms_b95 (F := F) E hml hret hlk hs12 _ _ _ _ _ _ _ _ hM (lv_sub hl [0, 1, 2, 3, 4] rfl) he
  · rw [if_pos (Int32.not_lt.mp h4)] at he
    refine lv_iload hx hb dX10_rooms_61 (lv_at hl 4 rfl) ?_
    refine lv_if_eq (tgt := 95) hx hb dX10_rooms_63 (by decide) (fun h5 => ?_) (fun h5 => ?_)
    · rw [if_pos h5] at he
      exact w10_rooms_b95 (F := F) E hml hret hlk hs12 _ _ _ _ _ _ _ _ hM (lv_sub hl [0, 1, 2, 3, 4] rfl) he
    · rw [if_neg h5] at he
      refine lv_aload_n hx hb dX10_rooms_66 rfl (lv_at hl 0 rfl) ?_
      refine g_getP E hM (o := 0) (Nat.le_of_ble_eq_true rfl) rfl fl_X10_66 (q := 53) rfl dX10_rooms_67 ?_
      refine lv_iconst (v := (1 : Int32)) hx hb dX10_rooms_70 rfl ?_
      obtain ⟨r6, hcr6, he⟩ := g_bind he
      refine g_callV [.int (1 : Int32)] (rest := []) E hml hl.1 hM cv_X10_239 (c0_pass l D aC B hcr6) (o := 53) (Nat.le_of_ble_eq_true rfl) rfl (by decide) rfl rfl (Nat.le_of_ble_eq_true rfl) dX10_rooms_71 (fun H locs hM => ?_)
      refine W.eq (g2 := F0 m 74 ls []) rfl ?_
      refine lv_aload_n hx hb dX10_rooms_74 rfl (lv_at hl 0 rfl) ?_
      refine g_getP E hM (o := 0) (Nat.le_of_ble_eq_true rfl) rfl fl_X10_84 (q := 60) rfl dX10_rooms_75 ?_
      refine lv_iload hx hb dX10_rooms_78 (lv_at hl 5 rfl) ?_
      refine lv_aload_n hx hb dX10_rooms_80 rfl (lv_at hl 0 rfl) ?_
      refine g_getP E hM (o := 0) (Nat.le_of_ble_eq_true rfl) rfl fl_X10_58 (q := 47) rfl dX10_rooms_81 ?_
      obtain ⟨r7, hcr7, he⟩ := g_bind he
      refine g_callV [.int v5, .ref (B + 47)] (rest := []) E hml hl.1 hM cv_X10_357 (c6_agrees l D aC B (Nat.le_of_ble_eq_true rfl) rfl hcr7) (o := 60) (Nat.le_of_ble_eq_true rfl) rfl (by decide) rfl rfl (Nat.le_of_ble_eq_true rfl) dX10_rooms_84 (fun H locs hM => ?_)
      refine W.eq (g2 := F0 m 87 ls [.int r7]) rfl ?_
      refine lv_istore (lv' := [(4, .int r7), (0, .ref (B + 0)), (1, .int v1), (2, .int v2), (3, .int v3), (5, .int v5)]) hx hb dX10_rooms_87 hl (by decide) rfl (fun ls hl => ?_)
      obtain ⟨x8, hx8, he⟩ := g_let_ex he
      refine lv_iinc (v := x8) (lv' := [(5, .int x8), (4, .int r7), (0, .ref (B + 0)), (1, .int v1), (2, .int v2), (3, .int v3)]) hx hb dX10_rooms_89 hl (k := 5) rfl (by rw [hx8]; rfl) (by decide) rfl (fun ls hl => ?_)
      refine lv_goto (tgt := 55) hx hb dX10_rooms_92 (by decide) ?_
      exact hs55 _ _ _ _ _ _ _ _ _ hM (lv_sub hl [2, 3, 4, 5, 1, 0] rfl) he

set_option maxHeartbeats 4000000 in
set_option maxRecDepth 100000 in
theorem w10_rooms_b55 (E : g_C p s m args c cX10_rooms RX10 D aC (g_Zs (g_A B 69))) (hml : c.maxLocals = 6) (hret : meth.sig.returnType = (some .int)) (hlk : meth.locks = false) {F : Nat} {q0 : Int32 × g_M} {s12 : Int32 → Int32 → Int32 → g_M → Option (Int32 × g_M)} (hs12 : ∀ (v1 : Int32) (v2 : Int32) (v3 : Int32) (mem : g_M) (H : Heap) (locs : List Loc) (ls : Array Slot), g_At D aC B yC 69 mem s.heap H locs → lv_has ls 6 [(0, .ref (B + 0)), (1, .int v1), (2, .int v2), (3, .int v3)] → s12 v1 v2 v3 mem = some q0 → W p l e (g_rm 8) s m args below meth c H locs 0 0 (g_MQ below D aC B yC 69 args s (some (.int q0.1)) q0.2) (F0 m 12 ls [])) : ∀ (v1 : Int32) (v2 : Int32) (v3 : Int32) (v4 : Int32) (v5 : Int32) (mem : g_M) (H : Heap) (locs : List Loc) (ls : Array Slot), g_At D aC B yC 69 mem s.heap H locs → lv_has ls 6 [(0, .ref (B + 0)), (1, .int v1), (2, .int v2), (3, .int v3), (4, .int v4), (5, .int v5)] → f10_rooms_b55 F s12 v1 v2 v3 v4 v5 mem = some q0 → W p l e (g_rm 8) s m args below meth c H locs 0 0 (g_MQ below D aC B yC 69 args s (some (.int q0.1)) q0.2) (F0 m 55 ls []) := by
  have key : ∀ (nn : Nat) (x : Int32 × Int32 × Int32 × Int32 × Int32 × g_M) (H : Heap) (locs : List Loc) (ls : Array Slot), g_At D aC B yC 69 x.2.2.2.2.2 s.heap H locs → lv_has ls 6 [(0, .ref (B + 0)), (1, .int x.1), (2, .int x.2.1), (3, .int x.2.2.1), (4, .int x.2.2.2.1), (5, .int x.2.2.2.2.1)] → g_fix (fun sf x => f10_rooms_b55_body F s12 (fun v1 v2 v3 v4 v5 mem => sf (v1, v2, v3, v4, v5, mem)) x.1 x.2.1 x.2.2.1 x.2.2.2.1 x.2.2.2.2.1 x.2.2.2.2.2) nn x = some q0 → W p l e (g_rm 8) s m args below meth c H locs 0 0 (g_MQ below D aC B yC 69 args s (some (.int q0.1)) q0.2) (F0 m 55 ls []) := by
    intro nn
    induction nn with
    | zero => intro x H locs ls hM hl he; simp [g_fix] at he
    | succ nn ih =>
      intro x H locs ls hM hl he
      exact w10_rooms_b55_body (F := F) E hml hret hlk hs12 (fun v1 v2 v3 v4 v5 mem H locs ls hM hl he => ih (v1, v2, v3, v4, v5, mem) H locs ls hM hl he) x.1 x.2.1 x.2.2.1 x.2.2.2.1 x.2.2.2.2.1 x.2.2.2.2.2 H locs ls hM hl he
  intro v1 v2 v3 v4 v5 mem H locs ls hM hl he
  exact key F (v1, v2, v3, v4, v5, mem) H locs ls hM hl he

set_option maxHeartbeats 4000000 in
set_option maxRecDepth 100000 in
theorem w10_rooms_b12_body (E : g_C p s m args c cX10_rooms RX10 D aC (g_Zs (g_A B 69))) (hml : c.maxLocals = 6) (hret : meth.sig.returnType = (some .int)) (hlk : meth.locks = false) {F : Nat} {q0 : Int32 × g_M} {s12 : Int32 → Int32 → Int32 → g_M → Option (Int32 × g_M)} (hs12 : ∀ (v1 : Int32) (v2 : Int32) (v3 : Int32) (mem : g_M) (H : Heap) (locs : List Loc) (ls : Array Slot), g_At D aC B yC 69 mem s.heap H locs → lv_has ls 6 [(0, .ref (B + 0)), (1, .int v1), (2, .int v2), (3, .int v3)] → s12 v1 v2 v3 mem = some q0 → W p l e (g_rm 8) s m args below meth c H locs 0 0 (g_MQ below D aC B yC 69 args s (some (.int q0.1)) q0.2) (F0 m 12 ls [])) : ∀ (v1 : Int32) (v2 : Int32) (v3 : Int32) (mem : g_M) (H : Heap) (locs : List Loc) (ls : Array Slot), g_At D aC B yC 69 mem s.heap H locs → lv_has ls 6 [(0, .ref (B + 0)), (1, .int v1), (2, .int v2), (3, .int v3)] → f10_rooms_b12_body F s12 v1 v2 v3 mem = some q0 → W p l e (g_rm 8) s m args below meth c H locs 0 0 (g_MQ below D aC B yC 69 args s (some (.int q0.1)) q0.2) (F0 m 12 ls []) := by
  intro v1 v2 v3 mem H locs ls hM hl he
  unfold f10_rooms_b12_body at he
  have hx := E.1
  have hb := E.2.1
  have hown := E.2.2.1
  have hts := E.2.2.2.1
  refine lv_iload_n hx hb dX10_rooms_12 rfl (lv_at hl 3 rfl) ?_
  refine lv_bipush (v := (10 : Int32)) hx hb dX10_rooms_13 rfl ?_
  refine lv_icmp_gt (tgt := 114) hx hb dX10_rooms_15 (by decide) (fun h9 => ?_) (fun h9 => ?_)
  · rw [if_neg (Int32.not_le.mpr h9)] at he
    refine lv_iload_n hx hb dX10_rooms_114 rfl (lv_at hl 2 rfl) ?_
    cases he
    exact g_iret E hM hret hlk dX10_rooms_115
  · rw [if_pos (Int32.not_lt.mp h9)] at he
    refine lv_aload_n hx hb dX10_rooms_18 rfl (lv_at hl 0 rfl) ?_
    refine g_getP E hM (o := 0) (Nat.le_of_ble_eq_true rfl) rfl fl_X10_58 (q := 47) rfl dX10_rooms_19 ?_
    refine lv_aload_n hx hb dX10_rooms_22 rfl (lv_at hl 0 rfl) ?_
    obtain ⟨q10, hqq10, hq10, hYq10, he⟩ := g_dr_some he
    refine g_getD E hM (o := 0) (Nat.le_of_ble_eq_true rfl) rfl fl_X10_20 rfl hqq10 dX10_rooms_23 ?_
    obtain ⟨r11, hcr11, he⟩ := g_bind he
    refine g_callV [.ref (B + q10)] (rest := []) E hml hl.1 hM cv_X10_105 (c7_begin l D aC B (Nat.le_of_ble_eq_true rfl) rfl hq10 hYq10 hcr11) (o := 47) (Nat.le_of_ble_eq_true rfl) rfl (by decide) rfl rfl (Nat.le_of_ble_eq_true rfl) dX10_rooms_26 (fun H locs hM => ?_)
    refine W.eq (g2 := F0 m 29 ls []) rfl ?_
    refine lv_aload_n hx hb dX10_rooms_29 rfl (lv_at hl 0 rfl) ?_
    refine g_getP E hM (o := 0) (Nat.le_of_ble_eq_true rfl) rfl fl_X10_66 (q := 53) rfl dX10_rooms_30 ?_
    refine lv_aload_n hx hb dX10_rooms_33 rfl (lv_at hl 0 rfl) ?_
    refine g_getP E hM (o := 0) (Nat.le_of_ble_eq_true rfl) rfl fl_X10_58 (q := 47) rfl dX10_rooms_34 ?_
    refine lv_iconst (v := (1 : Int32)) hx hb dX10_rooms_37 rfl ?_
    obtain ⟨r12, hcr12, he⟩ := g_bind he
    refine g_callV [.ref (B + 47), .int (1 : Int32)] (rest := []) E hml hl.1 hM cv_X10_196 (c0_start l D aC B (Nat.le_of_ble_eq_true rfl) rfl hcr12) (o := 53) (Nat.le_of_ble_eq_true rfl) rfl (by decide) rfl rfl (Nat.le_of_ble_eq_true rfl) dX10_rooms_38 (fun H locs hM => ?_)
    refine W.eq (g2 := F0 m 41 ls []) rfl ?_
    refine lv_aload_n hx hb dX10_rooms_41 rfl (lv_at hl 0 rfl) ?_
    refine g_getP E hM (o := 0) (Nat.le_of_ble_eq_true rfl) rfl fl_X10_66 (q := 53) rfl dX10_rooms_42 ?_
    refine lv_iload_n hx hb dX10_rooms_45 rfl (lv_at hl 3 rfl) ?_
    refine g_putI E hM (o := 53) (Nat.le_of_ble_eq_true rfl) rfl fp_X10_356 dX10_rooms_46 (fun H locs hM => ?_)
    obtain ⟨m13, hm13, he⟩ := g_let_ex he
    rw [← hm13] at hM
    refine lv_iconst (v := (1 : Int32)) hx hb dX10_rooms_49 rfl ?_
    refine lv_istore (lv' := [(4, .int (1 : Int32)), (0, .ref (B + 0)), (1, .int v1), (2, .int v2), (3, .int v3)]) hx hb dX10_rooms_50 hl (by decide) rfl (fun ls hl => ?_)
    refine lv_iconst (v := (1 : Int32)) hx hb dX10_rooms_52 rfl ?_
    refine lv_istore (lv' := [(5, .int (1 : Int32)), (4, .int (1 : Int32)), (0, .ref (B + 0)), (1, .int v1), (2, .int v2), (3, .int v3)]) hx hb dX10_rooms_53 hl (by decide) rfl (fun ls hl => ?_)
    exact w10_rooms_b55 (F := F) E hml hret hlk hs12 _ _ _ _ _ _ _ _ _ hM (lv_sub hl [2, 3, 4, 5, 1, 0] rfl) he

set_option maxHeartbeats 4000000 in
set_option maxRecDepth 100000 in
theorem w10_rooms_b12 (E : g_C p s m args c cX10_rooms RX10 D aC (g_Zs (g_A B 69))) (hml : c.maxLocals = 6) (hret : meth.sig.returnType = (some .int)) (hlk : meth.locks = false) {F : Nat} {q0 : Int32 × g_M} : ∀ (v1 : Int32) (v2 : Int32) (v3 : Int32) (mem : g_M) (H : Heap) (locs : List Loc) (ls : Array Slot), g_At D aC B yC 69 mem s.heap H locs → lv_has ls 6 [(0, .ref (B + 0)), (1, .int v1), (2, .int v2), (3, .int v3)] → f10_rooms_b12 F v1 v2 v3 mem = some q0 → W p l e (g_rm 8) s m args below meth c H locs 0 0 (g_MQ below D aC B yC 69 args s (some (.int q0.1)) q0.2) (F0 m 12 ls []) := by
  have key : ∀ (nn : Nat) (x : Int32 × Int32 × Int32 × g_M) (H : Heap) (locs : List Loc) (ls : Array Slot), g_At D aC B yC 69 x.2.2.2 s.heap H locs → lv_has ls 6 [(0, .ref (B + 0)), (1, .int x.1), (2, .int x.2.1), (3, .int x.2.2.1)] → g_fix (fun sf x => f10_rooms_b12_body F (fun v1 v2 v3 mem => sf (v1, v2, v3, mem)) x.1 x.2.1 x.2.2.1 x.2.2.2) nn x = some q0 → W p l e (g_rm 8) s m args below meth c H locs 0 0 (g_MQ below D aC B yC 69 args s (some (.int q0.1)) q0.2) (F0 m 12 ls []) := by
    intro nn
    induction nn with
    | zero => intro x H locs ls hM hl he; simp [g_fix] at he
    | succ nn ih =>
      intro x H locs ls hM hl he
      exact w10_rooms_b12_body (F := F) E hml hret hlk (fun v1 v2 v3 mem H locs ls hM hl he => ih (v1, v2, v3, mem) H locs ls hM hl he) x.1 x.2.1 x.2.2.1 x.2.2.2 H locs ls hM hl he
  intro v1 v2 v3 mem H locs ls hM hl he
  exact key F (v1, v2, v3, mem) H locs ls hM hl he

set_option maxHeartbeats 4000000 in
set_option maxRecDepth 100000 in
theorem c10_rooms (l : Launch) (D : va_G) (aC : Nat → ClassId) (B : Nat) {F : Nat} {mem : g_M} {q0 : Int32 × g_M} (he : f10_rooms F mem = some q0) : g_Met l yX10_rooms cX10_rooms 6 (some .int) 8 D aC B yC 69 mem [.ref (B + 0)] (some (.int q0.1)) q0.2 := by
  refine g_ofW (by decide) (Nat.le_of_ble_eq_true rfl) ?_
  intro p e s m args below meth c ls E hml hret hlk hM hl
  have E : g_C p s m args c cX10_rooms RX10 D aC (g_Zs (g_A B 69)) := E
  have hx := E.1
  have hb := E.2.1
  have hown := E.2.2.1
  have hts := E.2.2.2.1
  have hl : lv_has ls 6 [(0, .ref (B + 0))] := hl
  unfold f10_rooms at he
  refine lv_aload_n hx hb dX10_rooms_0 rfl (lv_at hl 0 rfl) ?_
  refine g_getP E hM (o := 0) (Nat.le_of_ble_eq_true rfl) rfl fl_X10_84 (q := 60) rfl dX10_rooms_1 ?_
  obtain ⟨r14, hcr14, he⟩ := g_bind he
  refine g_callV [] (rest := []) E hml hl.1 hM cv_X10_354 (c6_weigh l D aC B hcr14) (o := 60) (Nat.le_of_ble_eq_true rfl) rfl (by decide) rfl rfl (Nat.le_of_ble_eq_true rfl) dX10_rooms_4 (fun H locs hM => ?_)
  refine W.eq (g2 := F0 m 7 ls [.int r14.1]) rfl ?_
  obtain ⟨x15, hx15, he⟩ := g_let_ex he
  refine g_topI hx15 ?_
  refine lv_istore_n (lv' := [(1, .int x15), (0, .ref (B + 0))]) hx hb dX10_rooms_7 rfl hl (by decide) rfl (fun ls hl => ?_)
  refine lv_iconst (v := (0 : Int32)) hx hb dX10_rooms_8 rfl ?_
  refine lv_istore_n (lv' := [(2, .int (0 : Int32)), (1, .int x15), (0, .ref (B + 0))]) hx hb dX10_rooms_9 rfl hl (by decide) rfl (fun ls hl => ?_)
  refine lv_iconst (v := (1 : Int32)) hx hb dX10_rooms_10 rfl ?_
  refine lv_istore_n (lv' := [(3, .int (1 : Int32)), (2, .int (0 : Int32)), (1, .int x15), (0, .ref (B + 0))]) hx hb dX10_rooms_11 rfl hl (by decide) rfl (fun ls hl => ?_)
  exact w10_rooms_b12 (F := F) E hml hret hlk _ _ _ _ _ _ _ hM (lv_sub hl [3, 2, 1, 0] rfl) he

set_option maxHeartbeats 4000000 in
set_option maxRecDepth 100000 in
theorem w10_chance_b110 (E : g_C p s m args c cX10_chance RX10 D aC (g_Zs (g_A B 69))) (hml : c.maxLocals = 7) (hret : meth.sig.returnType = (some .int)) (hlk : meth.locks = false) {F : Nat} {q0 : Int32 × g_M} {a1 : Int32} {a2 : Int32} {a3 : Int32} {s36 : Int32 → Int32 → Int32 → g_M → Option (Int32 × g_M)} (hs36 : ∀ (v4 : Int32) (v5 : Int32) (v6 : Int32) (mem : g_M) (H : Heap) (locs : List Loc) (ls : Array Slot), g_At D aC B yC 69 mem s.heap H locs → lv_has ls 7 [(0, .ref (B + 0)), (2, .int a2), (3, .int a3), (4, .int v4), (5, .int v5), (6, .int v6)] → s36 v4 v5 v6 mem = some q0 → W p l e (g_rm 8) s m args below meth c H locs 0 0 (g_MQ below D aC B yC 69 args s (some (.int q0.1)) q0.2) (F0 m 36 ls [])) : ∀ (v4 : Int32) (v6 : Int32) (w0 : Int32) (w1 : Int32) (mem : g_M) (H : Heap) (locs : List Loc) (ls : Array Slot), g_At D aC B yC 69 mem s.heap H locs → lv_has ls 7 [(0, .ref (B + 0)), (2, .int a2), (3, .int a3), (4, .int v4), (6, .int v6)] → f10_chance_b110 F a1 a2 a3 s36 v4 v6 w0 w1 mem = some q0 → W p l e (g_rm 8) s m args below meth c H locs 0 0 (g_MQ below D aC B yC 69 args s (some (.int q0.1)) q0.2) (F0 m 110 ls [.int w1, .int w0]) := by
  intro v4 v6 w0 w1 mem H locs ls hM hl he
  unfold f10_chance_b110 at he
  have hx := E.1
  have hb := E.2.1
  have hown := E.2.2.1
  have hts := E.2.2.2.1
  refine lv_iadd hx hb dX10_chance_110 ?_
  obtain ⟨x1, hx1, he⟩ := g_let_ex he
  refine g_topI hx1 ?_
  refine lv_istore (lv' := [(5, .int x1), (0, .ref (B + 0)), (2, .int a2), (3, .int a3), (4, .int v4), (6, .int v6)]) hx hb dX10_chance_111 hl (by decide) rfl (fun ls hl => ?_)
  obtain ⟨x2, hx2, he⟩ := g_let_ex he
  refine lv_iinc (v := x2) (lv' := [(6, .int x2), (5, .int x1), (0, .ref (B + 0)), (2, .int a2), (3, .int a3), (4, .int v4)]) hx hb dX10_chance_113 hl (k := 5) rfl (by rw [hx2]; rfl) (by decide) rfl (fun ls hl => ?_)
  refine lv_goto (tgt := 36) hx hb dX10_chance_116 (by decide) ?_
  exact hs36 _ _ _ _ _ _ _ hM (lv_sub hl [2, 3, 4, 5, 1, 0] rfl) he

set_option maxHeartbeats 4000000 in
set_option maxRecDepth 100000 in
theorem w10_chance_b36_body (E : g_C p s m args c cX10_chance RX10 D aC (g_Zs (g_A B 69))) (hml : c.maxLocals = 7) (hret : meth.sig.returnType = (some .int)) (hlk : meth.locks = false) {F : Nat} {q0 : Int32 × g_M} {a1 : Int32} {a2 : Int32} {a3 : Int32} {s36 : Int32 → Int32 → Int32 → g_M → Option (Int32 × g_M)} (hs36 : ∀ (v4 : Int32) (v5 : Int32) (v6 : Int32) (mem : g_M) (H : Heap) (locs : List Loc) (ls : Array Slot), g_At D aC B yC 69 mem s.heap H locs → lv_has ls 7 [(0, .ref (B + 0)), (2, .int a2), (3, .int a3), (4, .int v4), (5, .int v5), (6, .int v6)] → s36 v4 v5 v6 mem = some q0 → W p l e (g_rm 8) s m args below meth c H locs 0 0 (g_MQ below D aC B yC 69 args s (some (.int q0.1)) q0.2) (F0 m 36 ls [])) : ∀ (v4 : Int32) (v5 : Int32) (v6 : Int32) (mem : g_M) (H : Heap) (locs : List Loc) (ls : Array Slot), g_At D aC B yC 69 mem s.heap H locs → lv_has ls 7 [(0, .ref (B + 0)), (2, .int a2), (3, .int a3), (4, .int v4), (5, .int v5), (6, .int v6)] → f10_chance_b36_body F a1 a2 a3 s36 v4 v5 v6 mem = some q0 → W p l e (g_rm 8) s m args below meth c H locs 0 0 (g_MQ below D aC B yC 69 args s (some (.int q0.1)) q0.2) (F0 m 36 ls []) := by
  intro v4 v5 v6 mem H locs ls hM hl he
  unfold f10_chance_b36_body at he
  have hx := E.1
  have hb := E.2.1
  have hown := E.2.2.1
  have hts := E.2.2.2.1
  refine lv_iload hx hb dX10_chance_36 (lv_at hl 5 rfl) ?_
  refine lv_bipush (v := (10 : Int32)) hx hb dX10_chance_38 rfl ?_
  refine lv_icmp_ge (tgt := 119) hx hb dX10_chance_40 (by decide) (fun h3 => ?_) (fun h3 => ?_)
  · rw [if_neg (Int32.not_lt.mpr h3)] at he
    refine lv_iload hx hb dX10_chance_119 (lv_at hl 4 rfl) ?_
    cases he
    exact g_iret E hM hret hlk dX10_chance_121
  · rw [if_pos (Int32.not_le.mp h3)] at he
    refine lv_aload_n hx hb dX10_chance_43 rfl (lv_at hl 0 rfl) ?_
    refine g_getP E hM (o := 0) (Nat.le_of_ble_eq_true rfl) rfl fl_X10_58 (q := 47) rfl dX10_chance_44 ?_
    refine lv_aload_n hx hb dX10_chance_47 rfl (lv_at hl 0 rfl) ?_
    refine g_getP E hM (o := 0) (Nat.le_of_ble_eq_true rfl) rfl fl_X10_47 (q := 35) rfl dX10_chance_48 ?_
    obtain ⟨r4, hcr4, he⟩ := g_bind he
    refine g_callV [.ref (B + 35)] (rest := []) E hml hl.1 hM cv_X10_242 (c7_copy l D aC B (Nat.le_of_ble_eq_true rfl) rfl (Nat.le_of_ble_eq_true rfl) rfl hcr4) (o := 47) (Nat.le_of_ble_eq_true rfl) rfl (by decide) rfl rfl (Nat.le_of_ble_eq_true rfl) dX10_chance_51 (fun H locs hM => ?_)
    refine W.eq (g2 := F0 m 54 ls []) rfl ?_
    refine lv_aload_n hx hb dX10_chance_54 rfl (lv_at hl 0 rfl) ?_
    refine g_getP E hM (o := 0) (Nat.le_of_ble_eq_true rfl) rfl fl_X10_58 (q := 47) rfl dX10_chance_55 ?_
    refine lv_iload hx hb dX10_chance_58 (lv_at hl 3 rfl) ?_
    refine g_putI E hM (o := 47) (Nat.le_of_ble_eq_true rfl) rfl fp_X10_361 dX10_chance_60 (fun H locs hM => ?_)
    obtain ⟨m5, hm5, he⟩ := g_let_ex he
    rw [← hm5] at hM
    refine lv_aload_n hx hb dX10_chance_63 rfl (lv_at hl 0 rfl) ?_
    refine g_getP E hM (o := 0) (Nat.le_of_ble_eq_true rfl) rfl fl_X10_66 (q := 53) rfl dX10_chance_64 ?_
    refine lv_aload_n hx hb dX10_chance_67 rfl (lv_at hl 0 rfl) ?_
    refine g_getP E hM (o := 0) (Nat.le_of_ble_eq_true rfl) rfl fl_X10_58 (q := 47) rfl dX10_chance_68 ?_
    refine lv_iconst (v := (0 : Int32)) hx hb dX10_chance_71 rfl ?_
    obtain ⟨r6, hcr6, he⟩ := g_bind he
    refine g_callV [.ref (B + 47), .int (0 : Int32)] (rest := []) E hml hl.1 hM cv_X10_196 (c0_start l D aC B (Nat.le_of_ble_eq_true rfl) rfl hcr6) (o := 53) (Nat.le_of_ble_eq_true rfl) rfl (by decide) rfl rfl (Nat.le_of_ble_eq_true rfl) dX10_chance_72 (fun H locs hM => ?_)
    refine W.eq (g2 := F0 m 75 ls []) rfl ?_
    refine lv_aload_n hx hb dX10_chance_75 rfl (lv_at hl 0 rfl) ?_
    refine g_getP E hM (o := 0) (Nat.le_of_ble_eq_true rfl) rfl fl_X10_66 (q := 53) rfl dX10_chance_76 ?_
    refine lv_iload_n hx hb dX10_chance_79 rfl (lv_at hl 1 rfl) ?_
    obtain ⟨r7, hcr7, he⟩ := g_bind he
    refine g_callV [.int a2] (rest := []) E hml hl.1 hM cv_X10_239 (c0_pass l D aC B hcr7) (o := 53) (Nat.le_of_ble_eq_true rfl) rfl (by decide) rfl rfl (Nat.le_of_ble_eq_true rfl) dX10_chance_80 (fun H locs hM => ?_)
    refine W.eq (g2 := F0 m 83 ls []) rfl ?_
    refine lv_aload_n hx hb dX10_chance_83 rfl (lv_at hl 0 rfl) ?_
    refine g_getP E hM (o := 0) (Nat.le_of_ble_eq_true rfl) rfl fl_X10_58 (q := 47) rfl dX10_chance_84 ?_
    refine g_getI E hM (o := 47) (Nat.le_of_ble_eq_true rfl) rfl fl_X10_361 dX10_chance_87 ?_
    obtain ⟨x8, hx8, he⟩ := g_let_ex he
    refine g_topI hx8 ?_
    refine lv_istore (lv' := [(4, .int x8), (0, .ref (B + 0)), (2, .int a2), (3, .int a3), (5, .int v5), (6, .int v6)]) hx hb dX10_chance_90 hl (by decide) rfl (fun ls hl => ?_)
    refine lv_iload hx hb dX10_chance_92 (lv_at hl 4 rfl) ?_
    refine lv_aload_n hx hb dX10_chance_94 rfl (lv_at hl 1 rfl) ?_
    refine g_getP E hM (o := 0) (Nat.le_of_ble_eq_true rfl) rfl fl_X10_58 (q := 47) rfl dX10_chance_95 ?_
    obtain ⟨r9, hcr9, he⟩ := g_bind he
    refine g_callV [] (rest := [.int v5]) E hml hl.1 hM cv_X10_252 (c7_mixed l D aC B (Nat.le_of_ble_eq_true rfl) rfl hcr9) (o := 47) (Nat.le_of_ble_eq_true rfl) rfl (by decide) rfl rfl (Nat.le_of_ble_eq_true rfl) dX10_chance_98 (fun H locs hM => ?_)
    refine W.eq (g2 := F0 m 101 ls [.int r9, .int v5]) rfl ?_
    refine lv_iload_n hx hb dX10_chance_101 rfl (lv_at hl 3 rfl) ?_
    refine lv_icmp_lt (tgt := 109) hx hb dX10_chance_102 (by decide) (fun h10 => ?_) (fun h10 => ?_)
    · rw [if_neg (Int32.not_le.mpr h10)] at he
      refine lv_iconst (v := (0 : Int32)) hx hb dX10_chance_109 rfl ?_
      exact w10_chance_b110 (F := F) (a1 := a1) (a2 := a2) (a3 := a3) E hml hret hlk hs36 _ _ _ _ _ _ _ _ hM (lv_sub hl [1, 2, 3, 0, 5] rfl) he
    · rw [if_pos (Int32.not_lt.mp h10)] at he
      refine lv_iconst (v := (1 : Int32)) hx hb dX10_chance_105 rfl ?_
      refine lv_goto (tgt := 110) hx hb dX10_chance_106 (by decide) ?_
      exact w10_chance_b110 (F := F) (a1 := a1) (a2 := a2) (a3 := a3) E hml hret hlk hs36 _ _ _ _ _ _ _ _ hM (lv_sub hl [1, 2, 3, 0, 5] rfl) he

set_option maxHeartbeats 4000000 in
set_option maxRecDepth 100000 in
theorem w10_chance_b36 (E : g_C p s m args c cX10_chance RX10 D aC (g_Zs (g_A B 69))) (hml : c.maxLocals = 7) (hret : meth.sig.returnType = (some .int)) (hlk : meth.locks = false) {F : Nat} {q0 : Int32 × g_M} {a1 : Int32} {a2 : Int32} {a3 : Int32} : ∀ (v4 : Int32) (v5 : Int32) (v6 : Int32) (mem : g_M) (H : Heap) (locs : List Loc) (ls : Array Slot), g_At D aC B yC 69 mem s.heap H locs → lv_has ls 7 [(0, .ref (B + 0)), (2, .int a2), (3, .int a3), (4, .int v4), (5, .int v5), (6, .int v6)] → f10_chance_b36 F a1 a2 a3 v4 v5 v6 mem = some q0 → W p l e (g_rm 8) s m args below meth c H locs 0 0 (g_MQ below D aC B yC 69 args s (some (.int q0.1)) q0.2) (F0 m 36 ls []) := by
  have key : ∀ (nn : Nat) (x : Int32 × Int32 × Int32 × g_M) (H : Heap) (locs : List Loc) (ls : Array Slot), g_At D aC B yC 69 x.2.2.2 s.heap H locs → lv_has ls 7 [(0, .ref (B + 0)), (2, .int a2), (3, .int a3), (4, .int x.1), (5, .int x.2.1), (6, .int x.2.2.1)] → g_fix (fun sf x => f10_chance_b36_body F a1 a2 a3 (fun v4 v5 v6 mem => sf (v4, v5, v6, mem)) x.1 x.2.1 x.2.2.1 x.2.2.2) nn x = some q0 → W p l e (g_rm 8) s m args below meth c H locs 0 0 (g_MQ below D aC B yC 69 args s (some (.int q0.1)) q0.2) (F0 m 36 ls []) := by
    intro nn
    induction nn with
    | zero => intro x H locs ls hM hl he; simp [g_fix] at he
    | succ nn ih =>
      intro x H locs ls hM hl he
      exact w10_chance_b36_body (F := F) (a1 := a1) (a2 := a2) (a3 := a3) E hml hret hlk (fun v4 v5 v6 mem H locs ls hM hl he => ih (v4, v5, v6, mem) H locs ls hM hl he) x.1 x.2.1 x.2.2.1 x.2.2.2 H locs ls hM hl he
  intro v4 v5 v6 mem H locs ls hM hl he
  exact key F (v4, v5, v6, mem) H locs ls hM hl he

set_option maxHeartbeats 4000000 in
set_option maxRecDepth 100000 in
theorem c10_chance (l : Launch) (D : va_G) (aC : Nat → ClassId) (B : Nat) {F : Nat} {a1 : Int32} {a2 : Int32} {a3 : Int32} {mem : g_M} {q0 : Int32 × g_M} (he : f10_chance F a1 a2 a3 mem = some q0) : g_Met l yX10_chance cX10_chance 7 (some .int) 8 D aC B yC 69 mem [.ref (B + 0), .int a1, .int a2, .int a3] (some (.int q0.1)) q0.2 := by
  refine g_ofW (by decide) (Nat.le_of_ble_eq_true rfl) ?_
  intro p e s m args below meth c ls E hml hret hlk hM hl
  have E : g_C p s m args c cX10_chance RX10 D aC (g_Zs (g_A B 69)) := E
  have hx := E.1
  have hb := E.2.1
  have hown := E.2.2.1
  have hts := E.2.2.2.1
  have hl : lv_has ls 7 [(0, .ref (B + 0)), (1, .int a1), (2, .int a2), (3, .int a3)] := hl
  unfold f10_chance at he
  refine lv_iload_n hx hb dX10_chance_0 rfl (lv_at hl 1 rfl) ?_
  refine lv_if_lt (tgt := 25) hx hb dX10_chance_1 (by decide) (fun h11 => ?_) (fun h11 => ?_)
  · rw [if_neg (Int32.not_le.mpr h11)] at he
    refine lv_iconst (v := (-1 : Int32)) hx hb dX10_chance_25 rfl ?_
    cases he
    exact g_iret E hM hret hlk dX10_chance_26
  · rw [if_pos (Int32.not_lt.mp h11)] at he
    refine lv_iload_n hx hb dX10_chance_4 rfl (lv_at hl 2 rfl) ?_
    refine lv_iconst (v := (1 : Int32)) hx hb dX10_chance_5 rfl ?_
    refine lv_icmp_lt (tgt := 25) hx hb dX10_chance_6 (by decide) (fun h12 => ?_) (fun h12 => ?_)
    · rw [if_neg (Int32.not_le.mpr h12)] at he
      refine lv_iconst (v := (-1 : Int32)) hx hb dX10_chance_25 rfl ?_
      cases he
      exact g_iret E hM hret hlk dX10_chance_26
    · rw [if_pos (Int32.not_lt.mp h12)] at he
      refine lv_iload_n hx hb dX10_chance_9 rfl (lv_at hl 2 rfl) ?_
      refine lv_bipush (v := (99 : Int32)) hx hb dX10_chance_10 rfl ?_
      refine lv_icmp_gt (tgt := 25) hx hb dX10_chance_12 (by decide) (fun h13 => ?_) (fun h13 => ?_)
      · rw [if_neg (Int32.not_le.mpr h13)] at he
        refine lv_iconst (v := (-1 : Int32)) hx hb dX10_chance_25 rfl ?_
        cases he
        exact g_iret E hM hret hlk dX10_chance_26
      · rw [if_pos (Int32.not_lt.mp h13)] at he
        refine lv_iload_n hx hb dX10_chance_15 rfl (lv_at hl 3 rfl) ?_
        refine lv_if_lt (tgt := 25) hx hb dX10_chance_16 (by decide) (fun h14 => ?_) (fun h14 => ?_)
        · rw [if_neg (Int32.not_le.mpr h14)] at he
          refine lv_iconst (v := (-1 : Int32)) hx hb dX10_chance_25 rfl ?_
          cases he
          exact g_iret E hM hret hlk dX10_chance_26
        · rw [if_pos (Int32.not_lt.mp h14)] at he
          refine lv_iload_n hx hb dX10_chance_19 rfl (lv_at hl 3 rfl) ?_
          refine lv_bipush (v := (25 : Int32)) hx hb dX10_chance_20 rfl ?_
          refine lv_icmp_le (tgt := 27) hx hb dX10_chance_22 (by decide) (fun h15 => ?_) (fun h15 => ?_)
          · rw [if_neg (Int32.not_lt.mpr h15)] at he
            refine lv_iload_n hx hb dX10_chance_27 rfl (lv_at hl 1 rfl) ?_
            refine lv_istore (lv' := [(4, .int a1), (0, .ref (B + 0)), (1, .int a1), (2, .int a2), (3, .int a3)]) hx hb dX10_chance_28 hl (by decide) rfl (fun ls hl => ?_)
            refine lv_iconst (v := (0 : Int32)) hx hb dX10_chance_30 rfl ?_
            refine lv_istore (lv' := [(5, .int (0 : Int32)), (4, .int a1), (0, .ref (B + 0)), (1, .int a1), (2, .int a2), (3, .int a3)]) hx hb dX10_chance_31 hl (by decide) rfl (fun ls hl => ?_)
            refine lv_iconst (v := (0 : Int32)) hx hb dX10_chance_33 rfl ?_
            refine lv_istore (lv' := [(6, .int (0 : Int32)), (5, .int (0 : Int32)), (4, .int a1), (0, .ref (B + 0)), (1, .int a1), (2, .int a2), (3, .int a3)]) hx hb dX10_chance_34 hl (by decide) rfl (fun ls hl => ?_)
            exact w10_chance_b36 (F := F) (a1 := a1) (a2 := a2) (a3 := a3) E hml hret hlk _ _ _ _ _ _ _ hM (lv_sub hl [3, 5, 6, 2, 1, 0] rfl) he
          · rw [if_pos (Int32.not_le.mp h15)] at he
            refine lv_iconst (v := (-1 : Int32)) hx hb dX10_chance_25 rfl ?_
            cases he
            exact g_iret E hM hret hlk dX10_chance_26

set_option maxHeartbeats 4000000 in
set_option maxRecDepth 100000 in
theorem w10_tried_b140 (E : g_C p s m args c cX10_tried RX10 D aC (g_Zs (g_A B 69))) (hml : c.maxLocals = 5) (hret : meth.sig.returnType = (some .int)) (hlk : meth.locks = false) {F : Nat} {q0 : Int32 × g_M} {a1 : Int32} {a2 : Int32} {a3 : Int32} : ∀ (mem : g_M) (H : Heap) (locs : List Loc) (ls : Array Slot), g_At D aC B yC 69 mem s.heap H locs → lv_has ls 5 [(0, .ref (B + 0)), (3, .int a3)] → f10_tried_b140 F a1 a2 a3 mem = some q0 → W p l e (g_rm 8) s m args below meth c H locs 0 0 (g_MQ below D aC B yC 69 args s (some (.int q0.1)) q0.2) (F0 m 140 ls []) := by
  intro mem H locs ls hM hl he
  unfold f10_tried_b140 at he
  have hx := E.1
  have hb := E.2.1
  have hown := E.2.2.1
  have hts := E.2.2.2.1
  refine lv_aload_n hx hb dX10_tried_140 rfl (lv_at hl 0 rfl) ?_
  refine g_getP E hM (o := 0) (Nat.le_of_ble_eq_true rfl) rfl fl_X10_66 (q := 53) rfl dX10_tried_141 ?_
  refine lv_iload_n hx hb dX10_tried_144 rfl (lv_at hl 1 rfl) ?_
  obtain ⟨r1, hcr1, he⟩ := g_bind he
  refine g_callV [.int a3] (rest := []) E hml hl.1 hM cv_X10_239 (c0_pass l D aC B hcr1) (o := 53) (Nat.le_of_ble_eq_true rfl) rfl (by decide) rfl rfl (Nat.le_of_ble_eq_true rfl) dX10_tried_145 (fun H locs hM => ?_)
  refine W.eq (g2 := F0 m 148 ls []) rfl ?_
  refine lv_aload_n hx hb dX10_tried_148 rfl (lv_at hl 0 rfl) ?_
  refine g_getP E hM (o := 0) (Nat.le_of_ble_eq_true rfl) rfl fl_X10_58 (q := 47) rfl dX10_tried_149 ?_
  refine lv_iconst (v := (1 : Int32)) hx hb dX10_tried_152 rfl ?_
  obtain ⟨r2, hcr2, he⟩ := g_bind he
  refine g_callV [.int (1 : Int32)] (rest := []) E hml hl.1 hM cv_X10_245 (c7_wantsThatAre l D aC B (Nat.le_of_ble_eq_true rfl) rfl hcr2) (o := 47) (Nat.le_of_ble_eq_true rfl) rfl (by decide) rfl rfl (Nat.le_of_ble_eq_true rfl) dX10_tried_153 (fun H locs hM => ?_)
  refine W.eq (g2 := F0 m 156 ls [.int r2]) rfl ?_
  refine lv_aload_n hx hb dX10_tried_156 rfl (lv_at hl 0 rfl) ?_
  refine g_getP E hM (o := 0) (Nat.le_of_ble_eq_true rfl) rfl fl_X10_47 (q := 35) rfl dX10_tried_157 ?_
  refine lv_iconst (v := (1 : Int32)) hx hb dX10_tried_160 rfl ?_
  obtain ⟨r3, hcr3, he⟩ := g_bind he
  refine g_callV [.int (1 : Int32)] (rest := [.int r2]) E hml hl.1 hM cv_X10_245 (c7_wantsThatAre l D aC B (Nat.le_of_ble_eq_true rfl) rfl hcr3) (o := 35) (Nat.le_of_ble_eq_true rfl) rfl (by decide) rfl rfl (Nat.le_of_ble_eq_true rfl) dX10_tried_161 (fun H locs hM => ?_)
  refine W.eq (g2 := F0 m 164 ls [.int r3, .int r2]) rfl ?_
  refine lv_isub hx hb dX10_tried_164 ?_
  cases he
  exact g_iret E hM hret hlk dX10_tried_165

set_option maxHeartbeats 4000000 in
set_option maxRecDepth 100000 in
theorem w10_tried_b76 (E : g_C p s m args c cX10_tried RX10 D aC (g_Zs (g_A B 69))) (hml : c.maxLocals = 5) (hret : meth.sig.returnType = (some .int)) (hlk : meth.locks = false) {F : Nat} {q0 : Int32 × g_M} {a1 : Int32} {a2 : Int32} {a3 : Int32} : ∀ (w2 : Int32) (mem : g_M) (H : Heap) (locs : List Loc) (ls : Array Slot), g_At D aC B yC 69 mem s.heap H locs → lv_has ls 5 [(0, .ref (B + 0)), (1, .int a1), (2, .int a2), (3, .int a3)] → f10_tried_b76 F a1 a2 a3 w2 mem = some q0 → W p l e (g_rm 8) s m args below meth c H locs 0 0 (g_MQ below D aC B yC 69 args s (some (.int q0.1)) q0.2) (F0 m 76 ls [.int w2, .ref (B + 47), .ref (B + 53)]) := by
  intro w2 mem H locs ls hM hl he
  unfold f10_tried_b76 at he
  have hx := E.1
  have hb := E.2.1
  have hown := E.2.2.1
  have hts := E.2.2.2.1
  obtain ⟨r4, hcr4, he⟩ := g_bind he
  refine g_callV [.ref (B + 47), .int w2] (rest := []) E hml hl.1 hM cv_X10_196 (c0_start l D aC B (Nat.le_of_ble_eq_true rfl) rfl hcr4) (o := 53) (Nat.le_of_ble_eq_true rfl) rfl (by decide) rfl rfl (Nat.le_of_ble_eq_true rfl) dX10_tried_76 (fun H locs hM => ?_)
  refine W.eq (g2 := F0 m 79 ls []) rfl ?_
  refine lv_iload_n hx hb dX10_tried_79 rfl (lv_at hl 1 rfl) ?_
  refine lv_iconst (v := (2 : Int32)) hx hb dX10_tried_80 rfl ?_
  refine lv_icmp_ne (tgt := 95) hx hb dX10_tried_81 (by decide) (fun h5 => ?_) (fun h5 => ?_)
  · rw [if_neg h5] at he
    refine lv_iload_n hx hb dX10_tried_95 rfl (lv_at hl 1 rfl) ?_
    refine lv_iconst (v := (3 : Int32)) hx hb dX10_tried_96 rfl ?_
    refine lv_icmp_ne (tgt := 112) hx hb dX10_tried_97 (by decide) (fun h7 => ?_) (fun h7 => ?_)
    · rw [if_neg h7] at he
      refine lv_iload_n hx hb dX10_tried_112 rfl (lv_at hl 1 rfl) ?_
      refine lv_iconst (v := (4 : Int32)) hx hb dX10_tried_113 rfl ?_
      refine lv_icmp_ne (tgt := 128) hx hb dX10_tried_114 (by decide) (fun h9 => ?_) (fun h9 => ?_)
      · rw [if_neg h9] at he
        refine lv_iload_n hx hb dX10_tried_128 rfl (lv_at hl 1 rfl) ?_
        refine lv_iconst (v := (5 : Int32)) hx hb dX10_tried_129 rfl ?_
        refine lv_icmp_ne (tgt := 140) hx hb dX10_tried_130 (by decide) (fun h11 => ?_) (fun h11 => ?_)
        · rw [if_neg h11] at he
          exact w10_tried_b140 (F := F) (a1 := a1) (a2 := a2) (a3 := a3) E hml hret hlk _ _ _ _ hM (lv_sub hl [0, 3] rfl) he
        · rw [if_pos h11] at he
          refine lv_aload_n hx hb dX10_tried_133 rfl (lv_at hl 0 rfl) ?_
          refine g_getP E hM (o := 0) (Nat.le_of_ble_eq_true rfl) rfl fl_X10_58 (q := 47) rfl dX10_tried_134 ?_
          obtain ⟨r12, hcr12, he⟩ := g_bind he
          refine g_callV [] (rest := []) E hml hl.1 hM cv_X10_370 (c7_giveOwn l D aC B (Nat.le_of_ble_eq_true rfl) rfl hcr12) (o := 47) (Nat.le_of_ble_eq_true rfl) rfl (by decide) rfl rfl (Nat.le_of_ble_eq_true rfl) dX10_tried_137 (fun H locs hM => ?_)
          refine W.eq (g2 := F0 m 140 ls []) rfl ?_
          exact w10_tried_b140 (F := F) (a1 := a1) (a2 := a2) (a3 := a3) E hml hret hlk _ _ _ _ hM (lv_sub hl [0, 3] rfl) he
      · rw [if_pos h9] at he
        refine lv_aload_n hx hb dX10_tried_117 rfl (lv_at hl 0 rfl) ?_
        refine g_getP E hM (o := 0) (Nat.le_of_ble_eq_true rfl) rfl fl_X10_66 (q := 53) rfl dX10_tried_118 ?_
        refine lv_iconst (v := (1 : Int32)) hx hb dX10_tried_121 rfl ?_
        refine g_putZ E hM (o := 53) (Nat.le_of_ble_eq_true rfl) rfl fp_X10_367 (Or.inr rfl) dX10_tried_122 (fun H locs hM => ?_)
        obtain ⟨m10, hm10, he⟩ := g_let_ex he
        rw [← hm10] at hM
        refine lv_goto (tgt := 140) hx hb dX10_tried_125 (by decide) ?_
        exact w10_tried_b140 (F := F) (a1 := a1) (a2 := a2) (a3 := a3) E hml hret hlk _ _ _ _ hM (lv_sub hl [0, 3] rfl) he
    · rw [if_pos h7] at he
      refine lv_aload_n hx hb dX10_tried_100 rfl (lv_at hl 0 rfl) ?_
      refine g_getP E hM (o := 0) (Nat.le_of_ble_eq_true rfl) rfl fl_X10_66 (q := 53) rfl dX10_tried_101 ?_
      refine lv_bipush (v := (99 : Int32)) hx hb dX10_tried_104 rfl ?_
      refine g_putI E hM (o := 53) (Nat.le_of_ble_eq_true rfl) rfl fp_X10_356 dX10_tried_106 (fun H locs hM => ?_)
      obtain ⟨m8, hm8, he⟩ := g_let_ex he
      rw [← hm8] at hM
      refine lv_goto (tgt := 140) hx hb dX10_tried_109 (by decide) ?_
      exact w10_tried_b140 (F := F) (a1 := a1) (a2 := a2) (a3 := a3) E hml hret hlk _ _ _ _ hM (lv_sub hl [0, 3] rfl) he
  · rw [if_pos h5] at he
    refine lv_aload_n hx hb dX10_tried_84 rfl (lv_at hl 0 rfl) ?_
    refine g_getP E hM (o := 0) (Nat.le_of_ble_eq_true rfl) rfl fl_X10_66 (q := 53) rfl dX10_tried_85 ?_
    refine lv_iload_n hx hb dX10_tried_88 rfl (lv_at hl 2 rfl) ?_
    refine g_putI E hM (o := 53) (Nat.le_of_ble_eq_true rfl) rfl fp_X10_364 dX10_tried_89 (fun H locs hM => ?_)
    obtain ⟨m6, hm6, he⟩ := g_let_ex he
    rw [← hm6] at hM
    refine lv_goto (tgt := 140) hx hb dX10_tried_92 (by decide) ?_
    exact w10_tried_b140 (F := F) (a1 := a1) (a2 := a2) (a3 := a3) E hml hret hlk _ _ _ _ hM (lv_sub hl [0, 3] rfl) he

set_option maxHeartbeats 4000000 in
set_option maxRecDepth 100000 in
theorem w10_tried_b31 (E : g_C p s m args c cX10_tried RX10 D aC (g_Zs (g_A B 69))) (hml : c.maxLocals = 5) (hret : meth.sig.returnType = (some .int)) (hlk : meth.locks = false) {F : Nat} {q0 : Int32 × g_M} {a1 : Int32} {a2 : Int32} {a3 : Int32} : ∀ (w0 : Int32) (mem : g_M) (H : Heap) (locs : List Loc) (ls : Array Slot), g_At D aC B yC 69 mem s.heap H locs → lv_has ls 5 [(0, .ref (B + 0)), (1, .int a1), (2, .int a2), (3, .int a3)] → f10_tried_b31 F a1 a2 a3 w0 mem = some q0 → W p l e (g_rm 8) s m args below meth c H locs 0 0 (g_MQ below D aC B yC 69 args s (some (.int q0.1)) q0.2) (F0 m 31 ls [.int w0]) := by
  intro w0 mem H locs ls hM hl he
  unfold f10_tried_b31 at he
  have hx := E.1
  have hb := E.2.1
  have hown := E.2.2.1
  have hts := E.2.2.2.1
  refine lv_istore (lv' := [(4, .int w0), (0, .ref (B + 0)), (1, .int a1), (2, .int a2), (3, .int a3)]) hx hb dX10_tried_31 hl (by decide) rfl (fun ls hl => ?_)
  refine lv_iload hx hb dX10_tried_33 (lv_at hl 0 rfl) ?_
  refine lv_if_eq (tgt := 45) hx hb dX10_tried_35 (by decide) (fun h13 => ?_) (fun h13 => ?_)
  · rw [if_pos h13] at he
    refine lv_iconst (v := (-1 : Int32)) hx hb dX10_tried_45 rfl ?_
    cases he
    exact g_iret E hM hret hlk dX10_tried_46
  · rw [if_neg h13] at he
    refine lv_iload_n hx hb dX10_tried_38 rfl (lv_at hl 4 rfl) ?_
    obtain ⟨r14, hcr14, he⟩ := g_bind he
    refine g_callS [.int a3] (rest := []) E hml hl.1 hM cs_X10_236 (c10_isSpan l D aC B hcr14) (by decide) rfl rfl (Nat.le_of_ble_eq_true rfl) dX10_tried_39 (fun H locs hM => ?_)
    refine W.eq (g2 := F0 m 42 ls [.int r14]) rfl ?_
    refine lv_if_ne (tgt := 47) hx hb dX10_tried_42 (by decide) (fun h15 => ?_) (fun h15 => ?_)
    · rw [if_neg h15] at he
      refine lv_aload_n hx hb dX10_tried_47 rfl (lv_at hl 1 rfl) ?_
      refine g_getP E hM (o := 0) (Nat.le_of_ble_eq_true rfl) rfl fl_X10_58 (q := 47) rfl dX10_tried_48 ?_
      refine lv_aload_n hx hb dX10_tried_51 rfl (lv_at hl 1 rfl) ?_
      refine g_getP E hM (o := 0) (Nat.le_of_ble_eq_true rfl) rfl fl_X10_47 (q := 35) rfl dX10_tried_52 ?_
      obtain ⟨r16, hcr16, he⟩ := g_bind he
      refine g_callV [.ref (B + 35)] (rest := []) E hml hl.1 hM cv_X10_242 (c7_copy l D aC B (Nat.le_of_ble_eq_true rfl) rfl (Nat.le_of_ble_eq_true rfl) rfl hcr16) (o := 47) (Nat.le_of_ble_eq_true rfl) rfl (by decide) rfl rfl (Nat.le_of_ble_eq_true rfl) dX10_tried_55 (fun H locs hM => ?_)
      refine W.eq (g2 := F0 m 58 ls []) rfl ?_
      refine lv_aload_n hx hb dX10_tried_58 rfl (lv_at hl 1 rfl) ?_
      refine g_getP E hM (o := 0) (Nat.le_of_ble_eq_true rfl) rfl fl_X10_66 (q := 53) rfl dX10_tried_59 ?_
      refine lv_aload_n hx hb dX10_tried_62 rfl (lv_at hl 1 rfl) ?_
      refine g_getP E hM (o := 0) (Nat.le_of_ble_eq_true rfl) rfl fl_X10_58 (q := 47) rfl dX10_tried_63 ?_
      refine lv_iload_n hx hb dX10_tried_66 rfl (lv_at hl 2 rfl) ?_
      refine lv_iconst (v := (1 : Int32)) hx hb dX10_tried_67 rfl ?_
      refine lv_icmp_ne (tgt := 75) hx hb dX10_tried_68 (by decide) (fun h17 => ?_) (fun h17 => ?_)
      · rw [if_neg h17] at he
        refine lv_iconst (v := (1 : Int32)) hx hb dX10_tried_75 rfl ?_
        exact w10_tried_b76 (F := F) (a1 := a1) (a2 := a2) (a3 := a3) E hml hret hlk _ _ _ _ _ hM (lv_sub hl [1, 2, 3, 4] rfl) he
      · rw [if_pos h17] at he
        refine lv_iconst (v := (2 : Int32)) hx hb dX10_tried_71 rfl ?_
        refine lv_goto (tgt := 76) hx hb dX10_tried_72 (by decide) ?_
        exact w10_tried_b76 (F := F) (a1 := a1) (a2 := a2) (a3 := a3) E hml hret hlk _ _ _ _ _ hM (lv_sub hl [1, 2, 3, 4] rfl) he
    · rw [if_pos h15] at he
      refine lv_iconst (v := (-1 : Int32)) hx hb dX10_tried_45 rfl ?_
      cases he
      exact g_iret E hM hret hlk dX10_tried_46

set_option maxHeartbeats 4000000 in
set_option maxRecDepth 100000 in
theorem w10_tried_b30 (E : g_C p s m args c cX10_tried RX10 D aC (g_Zs (g_A B 69))) (hml : c.maxLocals = 5) (hret : meth.sig.returnType = (some .int)) (hlk : meth.locks = false) {F : Nat} {q0 : Int32 × g_M} {a1 : Int32} {a2 : Int32} {a3 : Int32} : ∀ (mem : g_M) (H : Heap) (locs : List Loc) (ls : Array Slot), g_At D aC B yC 69 mem s.heap H locs → lv_has ls 5 [(0, .ref (B + 0)), (1, .int a1), (2, .int a2), (3, .int a3)] → f10_tried_b30 F a1 a2 a3 mem = some q0 → W p l e (g_rm 8) s m args below meth c H locs 0 0 (g_MQ below D aC B yC 69 args s (some (.int q0.1)) q0.2) (F0 m 30 ls []) := by
  intro mem H locs ls hM hl he
  unfold f10_tried_b30 at he
  have hx := E.1
  have hb := E.2.1
  have hown := E.2.2.1
  have hts := E.2.2.2.1
  refine lv_iconst (v := (0 : Int32)) hx hb dX10_tried_30 rfl ?_
  exact w10_tried_b31 (F := F) (a1 := a1) (a2 := a2) (a3 := a3) E hml hret hlk _ _ _ _ _ hM (lv_sub hl [0, 1, 2, 3] rfl) he

set_option maxHeartbeats 4000000 in
set_option maxRecDepth 100000 in
theorem c10_tried (l : Launch) (D : va_G) (aC : Nat → ClassId) (B : Nat) {F : Nat} {a1 : Int32} {a2 : Int32} {a3 : Int32} {mem : g_M} {q0 : Int32 × g_M} (he : f10_tried F a1 a2 a3 mem = some q0) : g_Met l yX10_tried cX10_tried 5 (some .int) 8 D aC B yC 69 mem [.ref (B + 0), .int a1, .int a2, .int a3] (some (.int q0.1)) q0.2 := by
  refine g_ofW (by decide) (Nat.le_of_ble_eq_true rfl) ?_
  intro p e s m args below meth c ls E hml hret hlk hM hl
  have E : g_C p s m args c cX10_tried RX10 D aC (g_Zs (g_A B 69)) := E
  have hx := E.1
  have hb := E.2.1
  have hown := E.2.2.1
  have hts := E.2.2.2.1
  have hl : lv_has ls 5 [(0, .ref (B + 0)), (1, .int a1), (2, .int a2), (3, .int a3)] := hl
  unfold f10_tried at he
  refine lv_iload_n hx hb dX10_tried_0 rfl (lv_at hl 1 rfl) ?_
  refine lv_iconst (v := (2 : Int32)) hx hb dX10_tried_1 rfl ?_
  refine lv_icmp_ne (tgt := 13) hx hb dX10_tried_2 (by decide) (fun h18 => ?_) (fun h18 => ?_)
  · rw [if_neg h18] at he
    refine lv_iload_n hx hb dX10_tried_13 rfl (lv_at hl 1 rfl) ?_
    refine lv_if_lt (tgt := 30) hx hb dX10_tried_14 (by decide) (fun h20 => ?_) (fun h20 => ?_)
    · rw [if_neg (Int32.not_le.mpr h20)] at he
      exact w10_tried_b30 (F := F) (a1 := a1) (a2 := a2) (a3 := a3) E hml hret hlk _ _ _ _ hM (lv_sub hl [0, 1, 2, 3] rfl) he
    · rw [if_pos (Int32.not_lt.mp h20)] at he
      refine lv_iload_n hx hb dX10_tried_17 rfl (lv_at hl 1 rfl) ?_
      refine lv_iconst (v := (5 : Int32)) hx hb dX10_tried_18 rfl ?_
      refine lv_icmp_gt (tgt := 30) hx hb dX10_tried_19 (by decide) (fun h21 => ?_) (fun h21 => ?_)
      · rw [if_neg (Int32.not_le.mpr h21)] at he
        exact w10_tried_b30 (F := F) (a1 := a1) (a2 := a2) (a3 := a3) E hml hret hlk _ _ _ _ hM (lv_sub hl [0, 1, 2, 3] rfl) he
      · rw [if_pos (Int32.not_lt.mp h21)] at he
        refine lv_iload_n hx hb dX10_tried_22 rfl (lv_at hl 2 rfl) ?_
        refine lv_if_ne (tgt := 30) hx hb dX10_tried_23 (by decide) (fun h22 => ?_) (fun h22 => ?_)
        · rw [if_neg h22] at he
          exact w10_tried_b30 (F := F) (a1 := a1) (a2 := a2) (a3 := a3) E hml hret hlk _ _ _ _ hM (lv_sub hl [0, 1, 2, 3] rfl) he
        · rw [if_pos h22] at he
          refine lv_iconst (v := (1 : Int32)) hx hb dX10_tried_26 rfl ?_
          refine lv_goto (tgt := 31) hx hb dX10_tried_27 (by decide) ?_
          exact w10_tried_b31 (F := F) (a1 := a1) (a2 := a2) (a3 := a3) E hml hret hlk _ _ _ _ _ hM (lv_sub hl [0, 1, 2, 3] rfl) he
  · rw [if_pos h18] at he
    refine lv_aload_n hx hb dX10_tried_5 rfl (lv_at hl 0 rfl) ?_
    refine lv_iload_n hx hb dX10_tried_6 rfl (lv_at hl 2 rfl) ?_
    obtain ⟨r19, hcr19, he⟩ := g_bind he
    refine g_callV [.int a2] (rest := []) E hml hl.1 hM cv_X10_119 (c10_isMan l D aC B hcr19) (o := 0) (Nat.le_of_ble_eq_true rfl) rfl (by decide) rfl rfl (Nat.le_of_ble_eq_true rfl) dX10_tried_7 (fun H locs hM => ?_)
    refine W.eq (g2 := F0 m 10 ls [.int r19]) rfl ?_
    refine lv_goto (tgt := 31) hx hb dX10_tried_10 (by decide) ?_
    exact w10_tried_b31 (F := F) (a1 := a1) (a2 := a2) (a3 := a3) E hml hret hlk _ _ _ _ _ hM (lv_sub hl [0, 1, 2, 3] rfl) he

set_option maxHeartbeats 4000000 in
set_option maxRecDepth 100000 in
theorem w10_undo_b169 (E : g_C p s m args c cX10_undo RX10 D aC (g_Zs (g_A B 69))) (hml : c.maxLocals = 3) (hret : meth.sig.returnType = (some .int)) (hlk : meth.locks = false) {F : Nat} {q0 : Int32 × g_M} : ∀ (mem : g_M) (H : Heap) (locs : List Loc) (ls : Array Slot), g_At D aC B yC 69 mem s.heap H locs → lv_has ls 3 [(0, .ref (B + 0))] → f10_undo_b169 F mem = some q0 → W p l e (g_rm 2) s m args below meth c H locs 0 0 (g_MQ below D aC B yC 69 args s (some (.int q0.1)) q0.2) (F0 m 169 ls []) := by
  intro mem H locs ls hM hl he
  unfold f10_undo_b169 at he
  have hx := E.1
  have hb := E.2.1
  have hown := E.2.2.1
  have hts := E.2.2.2.1
  refine lv_aload_n hx hb dX10_undo_169 rfl (lv_at hl 0 rfl) ?_
  refine g_getP E hM (o := 0) (Nat.le_of_ble_eq_true rfl) rfl fl_X10_91 (q := 67) rfl dX10_undo_170 ?_
  refine g_getI E hM (o := 67) (Nat.le_of_ble_eq_true rfl) rfl fl_X10_373 dX10_undo_173 ?_
  cases he
  exact g_iret E hM hret hlk dX10_undo_176

set_option maxHeartbeats 4000000 in
set_option maxRecDepth 100000 in
theorem c10_undo (l : Launch) (D : va_G) (aC : Nat → ClassId) (B : Nat) {F : Nat} {mem : g_M} {q0 : Int32 × g_M} (he : f10_undo F mem = some q0) : g_Met l yX10_undo cX10_undo 3 (some .int) 2 D aC B yC 69 mem [.ref (B + 0)] (some (.int q0.1)) q0.2 := by
  refine g_ofW (by decide) (Nat.le_of_ble_eq_true rfl) ?_
  intro p e s m args below meth c ls E hml hret hlk hM hl
  have E : g_C p s m args c cX10_undo RX10 D aC (g_Zs (g_A B 69)) := E
  have hx := E.1
  have hb := E.2.1
  have hown := E.2.2.1
  have hts := E.2.2.2.1
  have hl : lv_has ls 3 [(0, .ref (B + 0))] := hl
  unfold f10_undo at he
  refine lv_aload_n hx hb dX10_undo_0 rfl (lv_at hl 0 rfl) ?_
  refine g_getP E hM (o := 0) (Nat.le_of_ble_eq_true rfl) rfl fl_X10_91 (q := 67) rfl dX10_undo_1 ?_
  refine g_getI E hM (o := 67) (Nat.le_of_ble_eq_true rfl) rfl fl_X10_373 dX10_undo_4 ?_
  refine lv_iconst (v := (1 : Int32)) hx hb dX10_undo_7 rfl ?_
  refine lv_icmp_ge (tgt := 13) hx hb dX10_undo_8 (by decide) (fun h1 => ?_) (fun h1 => ?_)
  · rw [if_neg (Int32.not_lt.mpr h1)] at he
    refine lv_aload_n hx hb dX10_undo_13 rfl (lv_at hl 0 rfl) ?_
    refine g_getP E hM (o := 0) (Nat.le_of_ble_eq_true rfl) rfl fl_X10_91 (q := 67) rfl dX10_undo_14 ?_
    refine lv_dup hx hb dX10_undo_17 rfl ?_
    refine g_getI E hM (o := 67) (Nat.le_of_ble_eq_true rfl) rfl fl_X10_373 dX10_undo_18 ?_
    refine lv_iconst (v := (1 : Int32)) hx hb dX10_undo_21 rfl ?_
    refine lv_isub hx hb dX10_undo_22 ?_
    refine g_putI E hM (o := 67) (Nat.le_of_ble_eq_true rfl) rfl fp_X10_373 dX10_undo_23 (fun H locs hM => ?_)
    obtain ⟨m2, hm2, he⟩ := g_let_ex he
    rw [← hm2] at hM
    refine lv_aload_n hx hb dX10_undo_26 rfl (lv_at hl 0 rfl) ?_
    refine g_getP E hM (o := 0) (Nat.le_of_ble_eq_true rfl) rfl fl_X10_91 (q := 67) rfl dX10_undo_27 ?_
    refine lv_aload_n hx hb dX10_undo_30 rfl (lv_at hl 0 rfl) ?_
    refine g_getP E hM (o := 0) (Nat.le_of_ble_eq_true rfl) rfl fl_X10_91 (q := 67) rfl dX10_undo_31 ?_
    refine g_getI E hM (o := 67) (Nat.le_of_ble_eq_true rfl) rfl fl_X10_373 dX10_undo_34 ?_
    refine lv_iconst (v := (1 : Int32)) hx hb dX10_undo_37 rfl ?_
    obtain ⟨r3, hcr3, he⟩ := g_bind he
    refine g_callV [.int (m2.1 67 0), .int (1 : Int32)] (rest := []) E hml hl.1 hM cv_X10_374 (c3_at l D aC B hcr3) (o := 67) (Nat.le_of_ble_eq_true rfl) rfl (by decide) rfl rfl (Nat.le_of_ble_eq_true rfl) dX10_undo_38 (fun H locs hM => ?_)
    refine W.eq (g2 := F0 m 41 ls [.int r3]) rfl ?_
    refine lv_istore_n (lv' := [(1, .int r3), (0, .ref (B + 0))]) hx hb dX10_undo_41 rfl hl (by decide) rfl (fun ls hl => ?_)
    refine lv_aload_n hx hb dX10_undo_42 rfl (lv_at hl 1 rfl) ?_
    refine g_getP E hM (o := 0) (Nat.le_of_ble_eq_true rfl) rfl fl_X10_91 (q := 67) rfl dX10_undo_43 ?_
    refine lv_aload_n hx hb dX10_undo_46 rfl (lv_at hl 1 rfl) ?_
    refine g_getP E hM (o := 0) (Nat.le_of_ble_eq_true rfl) rfl fl_X10_91 (q := 67) rfl dX10_undo_47 ?_
    refine g_getI E hM (o := 67) (Nat.le_of_ble_eq_true rfl) rfl fl_X10_373 dX10_undo_50 ?_
    refine lv_iconst (v := (2 : Int32)) hx hb dX10_undo_53 rfl ?_
    obtain ⟨r4, hcr4, he⟩ := g_bind he
    refine g_callV [.int (m2.1 67 0), .int (2 : Int32)] (rest := []) E hml hl.1 hM cv_X10_374 (c3_at l D aC B hcr4) (o := 67) (Nat.le_of_ble_eq_true rfl) rfl (by decide) rfl rfl (Nat.le_of_ble_eq_true rfl) dX10_undo_54 (fun H locs hM => ?_)
    refine W.eq (g2 := F0 m 57 ls [.int r4]) rfl ?_
    refine lv_istore_n (lv' := [(2, .int r4), (1, .int r3), (0, .ref (B + 0))]) hx hb dX10_undo_57 rfl hl (by decide) rfl (fun ls hl => ?_)
    refine lv_aload_n hx hb dX10_undo_58 rfl (lv_at hl 2 rfl) ?_
    refine g_getP E hM (o := 0) (Nat.le_of_ble_eq_true rfl) rfl fl_X10_91 (q := 67) rfl dX10_undo_59 ?_
    refine lv_aload_n hx hb dX10_undo_62 rfl (lv_at hl 2 rfl) ?_
    refine g_getP E hM (o := 0) (Nat.le_of_ble_eq_true rfl) rfl fl_X10_91 (q := 67) rfl dX10_undo_63 ?_
    refine g_getI E hM (o := 67) (Nat.le_of_ble_eq_true rfl) rfl fl_X10_373 dX10_undo_66 ?_
    refine lv_iconst (v := (0 : Int32)) hx hb dX10_undo_69 rfl ?_
    obtain ⟨r5, hcr5, he⟩ := g_bind he
    refine g_callV [.int (m2.1 67 0), .int (0 : Int32)] (rest := []) E hml hl.1 hM cv_X10_374 (c3_at l D aC B hcr5) (o := 67) (Nat.le_of_ble_eq_true rfl) rfl (by decide) rfl rfl (Nat.le_of_ble_eq_true rfl) dX10_undo_70 (fun H locs hM => ?_)
    refine W.eq (g2 := F0 m 73 ls [.int r5]) rfl ?_
    by_cases h6 : r5 = (0 : Int32)
    · rw [if_pos h6] at he
      refine lv_tableIn (tgt := 100) (off := 27) hx hb dX10_undo_73 (by rw [h6]; decide) (by rw [h6]; decide) (by rw [h6]; rfl) (by decide) ?_
      refine lv_aload_n hx hb dX10_undo_100 rfl (lv_at hl 2 rfl) ?_
      refine g_getP E hM (o := 0) (Nat.le_of_ble_eq_true rfl) rfl fl_X10_47 (q := 35) rfl dX10_undo_101 ?_
      refine lv_dup hx hb dX10_undo_104 rfl ?_
      refine g_getI E hM (o := 35) (Nat.le_of_ble_eq_true rfl) rfl fl_X10_218 dX10_undo_105 ?_
      refine lv_iconst (v := (1 : Int32)) hx hb dX10_undo_108 rfl ?_
      refine lv_isub hx hb dX10_undo_109 ?_
      refine g_putI E hM (o := 35) (Nat.le_of_ble_eq_true rfl) rfl fp_X10_218 dX10_undo_110 (fun H locs hM => ?_)
      obtain ⟨m7, hm7, he⟩ := g_let_ex he
      rw [← hm7] at hM
      refine lv_goto (tgt := 169) hx hb dX10_undo_113 (by decide) ?_
      exact w10_undo_b169 (F := F) E hml hret hlk _ _ _ _ hM (lv_sub hl [2] rfl) he
    rw [if_neg h6] at he
    by_cases h8 : r5 = (1 : Int32)
    · rw [if_pos h8] at he
      refine lv_tableIn (tgt := 116) (off := 43) hx hb dX10_undo_73 (by rw [h8]; decide) (by rw [h8]; decide) (by rw [h8]; rfl) (by decide) ?_
      refine lv_aload_n hx hb dX10_undo_116 rfl (lv_at hl 2 rfl) ?_
      refine g_getP E hM (o := 0) (Nat.le_of_ble_eq_true rfl) rfl fl_X10_47 (q := 35) rfl dX10_undo_117 ?_
      refine lv_iload_n hx hb dX10_undo_120 rfl (lv_at hl 1 rfl) ?_
      refine lv_iconst (v := (3 : Int32)) hx hb dX10_undo_121 rfl ?_
      refine lv_iconst (v := (0 : Int32)) hx hb dX10_undo_122 rfl ?_
      obtain ⟨r9, hcr9, he⟩ := g_bind he
      refine g_callV [.int r3, .int (3 : Int32), .int (0 : Int32)] (rest := []) E hml hl.1 hM cv_X10_229 (c7_setSending l D aC B (Nat.le_of_ble_eq_true rfl) rfl hcr9) (o := 35) (Nat.le_of_ble_eq_true rfl) rfl (by decide) rfl rfl (Nat.le_of_ble_eq_true rfl) dX10_undo_123 (fun H locs hM => ?_)
      refine W.eq (g2 := F0 m 126 ls []) rfl ?_
      refine lv_goto (tgt := 169) hx hb dX10_undo_126 (by decide) ?_
      exact w10_undo_b169 (F := F) E hml hret hlk _ _ _ _ hM (lv_sub hl [2] rfl) he
    rw [if_neg h8] at he
    by_cases h10 : r5 = (2 : Int32)
    · rw [if_pos h10] at he
      refine lv_tableIn (tgt := 129) (off := 56) hx hb dX10_undo_73 (by rw [h10]; decide) (by rw [h10]; decide) (by rw [h10]; rfl) (by decide) ?_
      refine lv_aload_n hx hb dX10_undo_129 rfl (lv_at hl 2 rfl) ?_
      refine g_getP E hM (o := 0) (Nat.le_of_ble_eq_true rfl) rfl fl_X10_47 (q := 35) rfl dX10_undo_130 ?_
      refine lv_iload_n hx hb dX10_undo_133 rfl (lv_at hl 1 rfl) ?_
      refine lv_iload_n hx hb dX10_undo_134 rfl (lv_at hl 0 rfl) ?_
      refine lv_aload_n hx hb dX10_undo_135 rfl (lv_at hl 2 rfl) ?_
      refine g_getP E hM (o := 0) (Nat.le_of_ble_eq_true rfl) rfl fl_X10_91 (q := 67) rfl dX10_undo_136 ?_
      refine lv_aload_n hx hb dX10_undo_139 rfl (lv_at hl 2 rfl) ?_
      refine g_getP E hM (o := 0) (Nat.le_of_ble_eq_true rfl) rfl fl_X10_91 (q := 67) rfl dX10_undo_140 ?_
      refine g_getI E hM (o := 67) (Nat.le_of_ble_eq_true rfl) rfl fl_X10_373 dX10_undo_143 ?_
      refine lv_iconst (v := (3 : Int32)) hx hb dX10_undo_146 rfl ?_
      obtain ⟨r11, hcr11, he⟩ := g_bind he
      refine g_callV [.int (m2.1 67 0), .int (3 : Int32)] (rest := [.int r4, .int r3, .ref (B + 35)]) E hml hl.1 hM cv_X10_374 (c3_at l D aC B hcr11) (o := 67) (Nat.le_of_ble_eq_true rfl) rfl (by decide) rfl rfl (Nat.le_of_ble_eq_true rfl) dX10_undo_147 (fun H locs hM => ?_)
      refine W.eq (g2 := F0 m 150 ls [.int r11, .int r4, .int r3, .ref (B + 35)]) rfl ?_
      obtain ⟨r12, hcr12, he⟩ := g_bind he
      refine g_callV [.int r3, .int r4, .int r11] (rest := []) E hml hl.1 hM cv_X10_232 (c7_exchange l D aC B (Nat.le_of_ble_eq_true rfl) rfl hcr12) (o := 35) (Nat.le_of_ble_eq_true rfl) rfl (by decide) rfl rfl (Nat.le_of_ble_eq_true rfl) dX10_undo_150 (fun H locs hM => ?_)
      refine W.eq (g2 := F0 m 153 ls []) rfl ?_
      refine lv_goto (tgt := 169) hx hb dX10_undo_153 (by decide) ?_
      exact w10_undo_b169 (F := F) E hml hret hlk _ _ _ _ hM (lv_sub hl [2] rfl) he
    rw [if_neg h10] at he
    refine lv_tableOut (tgt := 156) hx hb dX10_undo_73 (by have zh6 := lv_neT (a := 0) h6 rfl; have zh8 := lv_neT (a := 1) h8 rfl; have zh10 := lv_neT (a := 2) h10 rfl; omega) (by decide) ?_
    refine lv_aload_n hx hb dX10_undo_156 rfl (lv_at hl 2 rfl) ?_
    refine g_getP E hM (o := 0) (Nat.le_of_ble_eq_true rfl) rfl fl_X10_47 (q := 35) rfl dX10_undo_157 ?_
    refine g_getP E hM (o := 35) (Nat.le_of_ble_eq_true rfl) rfl fl_X10_130 (q := 36) rfl dX10_undo_160 ?_
    refine lv_iload_n hx hb dX10_undo_163 rfl (lv_at hl 1 rfl) ?_
    refine lv_dup2_11 hx hb dX10_undo_164 rfl rfl ?_
    obtain ⟨h13, he⟩ := g_ck_some he
    refine g_iald E hM (o := 36) (Nat.le_of_ble_eq_true rfl) rfl h13 dX10_undo_165 ?_
    refine lv_iload_n hx hb dX10_undo_166 rfl (lv_at hl 0 rfl) ?_
    refine lv_isub hx hb dX10_undo_167 ?_
    obtain ⟨h14, he⟩ := g_ck_some he
    refine g_iast E hM (o := 36) (Nat.le_of_ble_eq_true rfl) rfl h14 dX10_undo_168 (fun H locs hM => ?_)
    obtain ⟨m15, hm15, he⟩ := g_let_ex he
    rw [← hm15] at hM
    exact w10_undo_b169 (F := F) E hml hret hlk _ _ _ _ hM (lv_sub hl [2] rfl) he
  · rw [if_pos (Int32.not_le.mp h1)] at he
    refine lv_iconst (v := (-1 : Int32)) hx hb dX10_undo_11 rfl ?_
    cases he
    exact g_iret E hM hret hlk dX10_undo_12

set_option maxHeartbeats 4000000 in
set_option maxRecDepth 100000 in
theorem c10_keep (l : Launch) (D : va_G) (aC : Nat → ClassId) (B : Nat) {F : Nat} {mem : g_M} {q0 : Int32 × g_M} (he : f10_keep F mem = some q0) : g_Met l yX10_keep cX10_keep 1 (some .int) 3 D aC B yC 69 mem [.ref (B + 0)] (some (.int q0.1)) q0.2 := by
  refine g_ofW (by decide) (Nat.le_of_ble_eq_true rfl) ?_
  intro p e s m args below meth c ls E hml hret hlk hM hl
  have E : g_C p s m args c cX10_keep RX10 D aC (g_Zs (g_A B 69)) := E
  have hx := E.1
  have hb := E.2.1
  have hown := E.2.2.1
  have hts := E.2.2.2.1
  have hl : lv_has ls 1 [(0, .ref (B + 0))] := hl
  unfold f10_keep at he
  refine lv_aload_n hx hb dX10_keep_0 rfl (lv_at hl 0 rfl) ?_
  refine g_getP E hM (o := 0) (Nat.le_of_ble_eq_true rfl) rfl fl_X10_51 (q := 41) rfl dX10_keep_1 ?_
  refine lv_aload_n hx hb dX10_keep_4 rfl (lv_at hl 0 rfl) ?_
  refine g_getP E hM (o := 0) (Nat.le_of_ble_eq_true rfl) rfl fl_X10_47 (q := 35) rfl dX10_keep_5 ?_
  obtain ⟨r1, hcr1, he⟩ := g_bind he
  refine g_callV [.ref (B + 35)] (rest := []) E hml hl.1 hM cv_X10_242 (c7_copy l D aC B (Nat.le_of_ble_eq_true rfl) rfl (Nat.le_of_ble_eq_true rfl) rfl hcr1) (o := 41) (Nat.le_of_ble_eq_true rfl) rfl (by decide) rfl rfl (Nat.le_of_ble_eq_true rfl) dX10_keep_8 (fun H locs hM => ?_)
  refine W.eq (g2 := F0 m 11 ls []) rfl ?_
  refine lv_aload_n hx hb dX10_keep_11 rfl (lv_at hl 0 rfl) ?_
  refine lv_iconst (v := (1 : Int32)) hx hb dX10_keep_12 rfl ?_
  refine g_putZ E hM (o := 0) (Nat.le_of_ble_eq_true rfl) rfl fp_X10_54 (Or.inr rfl) dX10_keep_13 (fun H locs hM => ?_)
  obtain ⟨m2, hm2, he⟩ := g_let_ex he
  rw [← hm2] at hM
  refine lv_aload_n hx hb dX10_keep_16 rfl (lv_at hl 0 rfl) ?_
  refine g_getP E hM (o := 0) (Nat.le_of_ble_eq_true rfl) rfl fl_X10_47 (q := 35) rfl dX10_keep_17 ?_
  refine g_getI E hM (o := 35) (Nat.le_of_ble_eq_true rfl) rfl fl_X10_215 dX10_keep_20 ?_
  cases he
  exact g_iret E hM hret hlk dX10_keep_23

set_option maxHeartbeats 4000000 in
set_option maxRecDepth 100000 in
theorem c10_back (l : Launch) (D : va_G) (aC : Nat → ClassId) (B : Nat) {F : Nat} {mem : g_M} {q0 : Int32 × g_M} (he : f10_back F mem = some q0) : g_Met l yX10_back cX10_back 1 (some .int) 3 D aC B yC 69 mem [.ref (B + 0)] (some (.int q0.1)) q0.2 := by
  refine g_ofW (by decide) (Nat.le_of_ble_eq_true rfl) ?_
  intro p e s m args below meth c ls E hml hret hlk hM hl
  have E : g_C p s m args c cX10_back RX10 D aC (g_Zs (g_A B 69)) := E
  have hx := E.1
  have hb := E.2.1
  have hown := E.2.2.1
  have hts := E.2.2.2.1
  have hl : lv_has ls 1 [(0, .ref (B + 0))] := hl
  unfold f10_back at he
  refine lv_aload_n hx hb dX10_back_0 rfl (lv_at hl 0 rfl) ?_
  refine g_getI E hM (o := 0) (Nat.le_of_ble_eq_true rfl) rfl fl_X10_54 dX10_back_1 ?_
  refine lv_if_ne (tgt := 9) hx hb dX10_back_4 (by decide) (fun h1 => ?_) (fun h1 => ?_)
  · rw [if_neg h1] at he
    refine lv_aload_n hx hb dX10_back_9 rfl (lv_at hl 0 rfl) ?_
    refine g_getP E hM (o := 0) (Nat.le_of_ble_eq_true rfl) rfl fl_X10_47 (q := 35) rfl dX10_back_10 ?_
    refine lv_aload_n hx hb dX10_back_13 rfl (lv_at hl 0 rfl) ?_
    refine g_getP E hM (o := 0) (Nat.le_of_ble_eq_true rfl) rfl fl_X10_51 (q := 41) rfl dX10_back_14 ?_
    obtain ⟨r2, hcr2, he⟩ := g_bind he
    refine g_callV [.ref (B + 41)] (rest := []) E hml hl.1 hM cv_X10_242 (c7_copy l D aC B (Nat.le_of_ble_eq_true rfl) rfl (Nat.le_of_ble_eq_true rfl) rfl hcr2) (o := 35) (Nat.le_of_ble_eq_true rfl) rfl (by decide) rfl rfl (Nat.le_of_ble_eq_true rfl) dX10_back_17 (fun H locs hM => ?_)
    refine W.eq (g2 := F0 m 20 ls []) rfl ?_
    refine lv_aload_n hx hb dX10_back_20 rfl (lv_at hl 0 rfl) ?_
    refine g_getP E hM (o := 0) (Nat.le_of_ble_eq_true rfl) rfl fl_X10_91 (q := 67) rfl dX10_back_21 ?_
    obtain ⟨r3, hcr3, he⟩ := g_bind he
    refine g_callV [] (rest := []) E hml hl.1 hM cv_X10_111 (c3_clear l D aC B hcr3) (o := 67) (Nat.le_of_ble_eq_true rfl) rfl (by decide) rfl rfl (Nat.le_of_ble_eq_true rfl) dX10_back_24 (fun H locs hM => ?_)
    refine W.eq (g2 := F0 m 27 ls []) rfl ?_
    refine lv_aload_n hx hb dX10_back_27 rfl (lv_at hl 0 rfl) ?_
    refine g_getP E hM (o := 0) (Nat.le_of_ble_eq_true rfl) rfl fl_X10_47 (q := 35) rfl dX10_back_28 ?_
    refine g_getI E hM (o := 35) (Nat.le_of_ble_eq_true rfl) rfl fl_X10_215 dX10_back_31 ?_
    cases he
    exact g_iret E hM hret hlk dX10_back_34
  · rw [if_pos h1] at he
    refine lv_iconst (v := (-1 : Int32)) hx hb dX10_back_7 rfl ?_
    cases he
    exact g_iret E hM hret hlk dX10_back_8

set_option maxHeartbeats 4000000 in
set_option maxRecDepth 100000 in
theorem c10_count (l : Launch) (D : va_G) (aC : Nat → ClassId) (B : Nat) {F : Nat} {a1 : Int32} {mem : g_M} {q0 : Int32} (he : f10_count F a1 mem = some q0) : g_Met l yX10_count cX10_count 2 (some .int) 3 D aC B yC 69 mem [.ref (B + 0), .int a1] (some (.int q0)) mem := by
  refine g_ofW (by decide) (Nat.le_of_ble_eq_true rfl) ?_
  intro p e s m args below meth c ls E hml hret hlk hM hl
  have E : g_C p s m args c cX10_count RX10 D aC (g_Zs (g_A B 69)) := E
  have hx := E.1
  have hb := E.2.1
  have hown := E.2.2.1
  have hts := E.2.2.2.1
  have hl : lv_has ls 2 [(0, .ref (B + 0)), (1, .int a1)] := hl
  unfold f10_count at he
  refine lv_iload_n hx hb dX10_count_0 rfl (lv_at hl 1 rfl) ?_
  by_cases h1 : a1 = (0 : Int32)
  · rw [if_pos h1] at he
    refine lv_tableIn (tgt := 80) (off := 79) hx hb dX10_count_1 (by rw [h1]; decide) (by rw [h1]; decide) (by rw [h1]; rfl) (by decide) ?_
    refine lv_aload_n hx hb dX10_count_80 rfl (lv_at hl 0 rfl) ?_
    obtain ⟨q2, hqq2, hq2, hYq2, he⟩ := g_dr_some he
    refine g_getD E hM (o := 0) (Nat.le_of_ble_eq_true rfl) rfl fl_X10_20 rfl hqq2 dX10_count_81 ?_
    refine g_getP E hM (o := q2) hq2 hYq2 fl_X10_302 (q := (q2 + 1)) (pt_9_0 q2 hq2 hYq2).1 dX10_count_84 ?_
    refine lv_iload_n hx hb dX10_count_87 rfl (lv_at hl 1 rfl) ?_
    obtain ⟨h3, he⟩ := g_ck_some he
    refine g_iald E hM (o := (q2 + 1)) (pt_9_0 q2 hq2 hYq2).2.1 (pt_9_0 q2 hq2 hYq2).2.2 h3 dX10_count_88 ?_
    cases he
    exact g_iret E hM hret hlk dX10_count_89
  rw [if_neg h1] at he
  by_cases h4 : a1 = (1 : Int32)
  · rw [if_pos h4] at he
    refine lv_tableIn (tgt := 80) (off := 79) hx hb dX10_count_1 (by rw [h4]; decide) (by rw [h4]; decide) (by rw [h4]; rfl) (by decide) ?_
    refine lv_aload_n hx hb dX10_count_80 rfl (lv_at hl 0 rfl) ?_
    obtain ⟨q5, hqq5, hq5, hYq5, he⟩ := g_dr_some he
    refine g_getD E hM (o := 0) (Nat.le_of_ble_eq_true rfl) rfl fl_X10_20 rfl hqq5 dX10_count_81 ?_
    refine g_getP E hM (o := q5) hq5 hYq5 fl_X10_302 (q := (q5 + 1)) (pt_9_0 q5 hq5 hYq5).1 dX10_count_84 ?_
    refine lv_iload_n hx hb dX10_count_87 rfl (lv_at hl 1 rfl) ?_
    obtain ⟨h6, he⟩ := g_ck_some he
    refine g_iald E hM (o := (q5 + 1)) (pt_9_0 q5 hq5 hYq5).2.1 (pt_9_0 q5 hq5 hYq5).2.2 h6 dX10_count_88 ?_
    cases he
    exact g_iret E hM hret hlk dX10_count_89
  rw [if_neg h4] at he
  by_cases h7 : a1 = (2 : Int32)
  · rw [if_pos h7] at he
    refine lv_tableIn (tgt := 80) (off := 79) hx hb dX10_count_1 (by rw [h7]; decide) (by rw [h7]; decide) (by rw [h7]; rfl) (by decide) ?_
    refine lv_aload_n hx hb dX10_count_80 rfl (lv_at hl 0 rfl) ?_
    obtain ⟨q8, hqq8, hq8, hYq8, he⟩ := g_dr_some he
    refine g_getD E hM (o := 0) (Nat.le_of_ble_eq_true rfl) rfl fl_X10_20 rfl hqq8 dX10_count_81 ?_
    refine g_getP E hM (o := q8) hq8 hYq8 fl_X10_302 (q := (q8 + 1)) (pt_9_0 q8 hq8 hYq8).1 dX10_count_84 ?_
    refine lv_iload_n hx hb dX10_count_87 rfl (lv_at hl 1 rfl) ?_
    obtain ⟨h9, he⟩ := g_ck_some he
    refine g_iald E hM (o := (q8 + 1)) (pt_9_0 q8 hq8 hYq8).2.1 (pt_9_0 q8 hq8 hYq8).2.2 h9 dX10_count_88 ?_
    cases he
    exact g_iret E hM hret hlk dX10_count_89
  rw [if_neg h7] at he
  by_cases h10 : a1 = (3 : Int32)
  · rw [if_pos h10] at he
    refine lv_tableIn (tgt := 90) (off := 89) hx hb dX10_count_1 (by rw [h10]; decide) (by rw [h10]; decide) (by rw [h10]; rfl) (by decide) ?_
    refine lv_aload_n hx hb dX10_count_90 rfl (lv_at hl 0 rfl) ?_
    refine g_getP E hM (o := 0) (Nat.le_of_ble_eq_true rfl) rfl fl_X10_47 (q := 35) rfl dX10_count_91 ?_
    refine g_getI E hM (o := 35) (Nat.le_of_ble_eq_true rfl) rfl fl_X10_218 dX10_count_94 ?_
    cases he
    exact g_iret E hM hret hlk dX10_count_97
  rw [if_neg h10] at he
  by_cases h11 : a1 = (4 : Int32)
  · rw [if_pos h11] at he
    refine lv_tableIn (tgt := 98) (off := 97) hx hb dX10_count_1 (by rw [h11]; decide) (by rw [h11]; decide) (by rw [h11]; rfl) (by decide) ?_
    refine lv_aload_n hx hb dX10_count_98 rfl (lv_at hl 0 rfl) ?_
    obtain ⟨q12, hqq12, hq12, hYq12, he⟩ := g_dr_some he
    refine g_getD E hM (o := 0) (Nat.le_of_ble_eq_true rfl) rfl fl_X10_20 rfl hqq12 dX10_count_99 ?_
    refine g_getI E hM (o := q12) hq12 hYq12 fl_X10_377 dX10_count_102 ?_
    cases he
    exact g_iret E hM hret hlk dX10_count_105
  rw [if_neg h11] at he
  by_cases h13 : a1 = (5 : Int32)
  · rw [if_pos h13] at he
    refine lv_tableIn (tgt := 106) (off := 105) hx hb dX10_count_1 (by rw [h13]; decide) (by rw [h13]; decide) (by rw [h13]; rfl) (by decide) ?_
    refine lv_aload_n hx hb dX10_count_106 rfl (lv_at hl 0 rfl) ?_
    obtain ⟨q14, hqq14, hq14, hYq14, he⟩ := g_dr_some he
    refine g_getD E hM (o := 0) (Nat.le_of_ble_eq_true rfl) rfl fl_X10_20 rfl hqq14 dX10_count_107 ?_
    refine g_getP E hM (o := q14) hq14 hYq14 fl_X10_380 (q := (q14 + 9)) (pt_9_13 q14 hq14 hYq14).1 dX10_count_110 ?_
    refine g_getI E hM (o := (q14 + 9)) (pt_9_13 q14 hq14 hYq14).2.1 (pt_9_13 q14 hq14 hYq14).2.2 fl_X10_384 dX10_count_113 ?_
    cases he
    exact g_iret E hM hret hlk dX10_count_116
  rw [if_neg h13] at he
  by_cases h15 : a1 = (6 : Int32)
  · rw [if_pos h15] at he
    refine lv_tableIn (tgt := 117) (off := 116) hx hb dX10_count_1 (by rw [h15]; decide) (by rw [h15]; decide) (by rw [h15]; rfl) (by decide) ?_
    refine lv_aload_n hx hb dX10_count_117 rfl (lv_at hl 0 rfl) ?_
    refine g_getP E hM (o := 0) (Nat.le_of_ble_eq_true rfl) rfl fl_X10_47 (q := 35) rfl dX10_count_118 ?_
    refine g_getI E hM (o := 35) (Nat.le_of_ble_eq_true rfl) rfl fl_X10_215 dX10_count_121 ?_
    cases he
    exact g_iret E hM hret hlk dX10_count_124
  rw [if_neg h15] at he
  by_cases h16 : a1 = (7 : Int32)
  · rw [if_pos h16] at he
    refine lv_tableIn (tgt := 125) (off := 124) hx hb dX10_count_1 (by rw [h16]; decide) (by rw [h16]; decide) (by rw [h16]; rfl) (by decide) ?_
    refine lv_aload_n hx hb dX10_count_125 rfl (lv_at hl 0 rfl) ?_
    refine g_getP E hM (o := 0) (Nat.le_of_ble_eq_true rfl) rfl fl_X10_47 (q := 35) rfl dX10_count_126 ?_
    refine lv_iconst (v := (1 : Int32)) hx hb dX10_count_129 rfl ?_
    obtain ⟨r17, hcr17, he⟩ := g_bind he
    refine g_callV [.int (1 : Int32)] (rest := []) E hml hl.1 hM cv_X10_245 (c7_wantsThatAre l D aC B (Nat.le_of_ble_eq_true rfl) rfl hcr17) (o := 35) (Nat.le_of_ble_eq_true rfl) rfl (by decide) rfl rfl (Nat.le_of_ble_eq_true rfl) dX10_count_130 (fun H locs hM => ?_)
    refine W.eq (g2 := F0 m 133 ls [.int r17]) rfl ?_
    cases he
    exact g_iret E hM hret hlk dX10_count_133
  rw [if_neg h16] at he
  by_cases h18 : a1 = (8 : Int32)
  · rw [if_pos h18] at he
    refine lv_tableIn (tgt := 134) (off := 133) hx hb dX10_count_1 (by rw [h18]; decide) (by rw [h18]; decide) (by rw [h18]; rfl) (by decide) ?_
    refine lv_aload_n hx hb dX10_count_134 rfl (lv_at hl 0 rfl) ?_
    refine g_getP E hM (o := 0) (Nat.le_of_ble_eq_true rfl) rfl fl_X10_47 (q := 35) rfl dX10_count_135 ?_
    refine lv_iconst (v := (2 : Int32)) hx hb dX10_count_138 rfl ?_
    obtain ⟨r19, hcr19, he⟩ := g_bind he
    refine g_callV [.int (2 : Int32)] (rest := []) E hml hl.1 hM cv_X10_245 (c7_wantsThatAre l D aC B (Nat.le_of_ble_eq_true rfl) rfl hcr19) (o := 35) (Nat.le_of_ble_eq_true rfl) rfl (by decide) rfl rfl (Nat.le_of_ble_eq_true rfl) dX10_count_139 (fun H locs hM => ?_)
    refine W.eq (g2 := F0 m 142 ls [.int r19]) rfl ?_
    cases he
    exact g_iret E hM hret hlk dX10_count_142
  rw [if_neg h18] at he
  by_cases h20 : a1 = (9 : Int32)
  · rw [if_pos h20] at he
    refine lv_tableIn (tgt := 143) (off := 142) hx hb dX10_count_1 (by rw [h20]; decide) (by rw [h20]; decide) (by rw [h20]; rfl) (by decide) ?_
    refine lv_aload_n hx hb dX10_count_143 rfl (lv_at hl 0 rfl) ?_
    refine g_getP E hM (o := 0) (Nat.le_of_ble_eq_true rfl) rfl fl_X10_47 (q := 35) rfl dX10_count_144 ?_
    obtain ⟨r21, hcr21, he⟩ := g_bind he
    refine g_callV [] (rest := []) E hml hl.1 hM cv_X10_248 (c7_sendingsGone l D aC B (Nat.le_of_ble_eq_true rfl) rfl hcr21) (o := 35) (Nat.le_of_ble_eq_true rfl) rfl (by decide) rfl rfl (Nat.le_of_ble_eq_true rfl) dX10_count_147 (fun H locs hM => ?_)
    refine W.eq (g2 := F0 m 150 ls [.int r21]) rfl ?_
    cases he
    exact g_iret E hM hret hlk dX10_count_150
  rw [if_neg h20] at he
  by_cases h22 : a1 = (10 : Int32)
  · rw [if_pos h22] at he
    refine lv_tableIn (tgt := 151) (off := 150) hx hb dX10_count_1 (by rw [h22]; decide) (by rw [h22]; decide) (by rw [h22]; rfl) (by decide) ?_
    refine lv_aload_n hx hb dX10_count_151 rfl (lv_at hl 0 rfl) ?_
    refine g_getP E hM (o := 0) (Nat.le_of_ble_eq_true rfl) rfl fl_X10_47 (q := 35) rfl dX10_count_152 ?_
    obtain ⟨r23, hcr23, he⟩ := g_bind he
    refine g_callV [] (rest := []) E hml hl.1 hM cv_X10_286 (c7_allPence l D aC B (Nat.le_of_ble_eq_true rfl) rfl hcr23) (o := 35) (Nat.le_of_ble_eq_true rfl) rfl (by decide) rfl rfl (Nat.le_of_ble_eq_true rfl) dX10_count_155 (fun H locs hM => ?_)
    refine W.eq (g2 := F0 m 158 ls [.int r23]) rfl ?_
    cases he
    exact g_iret E hM hret hlk dX10_count_158
  rw [if_neg h22] at he
  by_cases h24 : a1 = (11 : Int32)
  · rw [if_pos h24] at he
    refine lv_tableIn (tgt := 159) (off := 158) hx hb dX10_count_1 (by rw [h24]; decide) (by rw [h24]; decide) (by rw [h24]; rfl) (by decide) ?_
    refine lv_aload_n hx hb dX10_count_159 rfl (lv_at hl 0 rfl) ?_
    refine g_getP E hM (o := 0) (Nat.le_of_ble_eq_true rfl) rfl fl_X10_47 (q := 35) rfl dX10_count_160 ?_
    obtain ⟨r25, hcr25, he⟩ := g_bind he
    refine g_callV [] (rest := []) E hml hl.1 hM cv_X10_252 (c7_mixed l D aC B (Nat.le_of_ble_eq_true rfl) rfl hcr25) (o := 35) (Nat.le_of_ble_eq_true rfl) rfl (by decide) rfl rfl (Nat.le_of_ble_eq_true rfl) dX10_count_163 (fun H locs hM => ?_)
    refine W.eq (g2 := F0 m 166 ls [.int r25]) rfl ?_
    cases he
    exact g_iret E hM hret hlk dX10_count_166
  rw [if_neg h24] at he
  by_cases h26 : a1 = (12 : Int32)
  · rw [if_pos h26] at he
    refine lv_tableIn (tgt := 167) (off := 166) hx hb dX10_count_1 (by rw [h26]; decide) (by rw [h26]; decide) (by rw [h26]; rfl) (by decide) ?_
    refine lv_aload_n hx hb dX10_count_167 rfl (lv_at hl 0 rfl) ?_
    refine g_getP E hM (o := 0) (Nat.le_of_ble_eq_true rfl) rfl fl_X10_47 (q := 35) rfl dX10_count_168 ?_
    refine g_getI E hM (o := 35) (Nat.le_of_ble_eq_true rfl) rfl fl_X10_387 dX10_count_171 ?_
    cases he
    exact g_iret E hM hret hlk dX10_count_174
  rw [if_neg h26] at he
  by_cases h27 : a1 = (13 : Int32)
  · rw [if_pos h27] at he
    refine lv_tableIn (tgt := 175) (off := 174) hx hb dX10_count_1 (by rw [h27]; decide) (by rw [h27]; decide) (by rw [h27]; rfl) (by decide) ?_
    refine lv_aload_n hx hb dX10_count_175 rfl (lv_at hl 0 rfl) ?_
    refine g_getP E hM (o := 0) (Nat.le_of_ble_eq_true rfl) rfl fl_X10_84 (q := 60) rfl dX10_count_176 ?_
    refine g_getI E hM (o := 60) (Nat.le_of_ble_eq_true rfl) rfl fl_X10_342 dX10_count_179 ?_
    cases he
    exact g_iret E hM hret hlk dX10_count_182
  rw [if_neg h27] at he
  by_cases h28 : a1 = (14 : Int32)
  · rw [if_pos h28] at he
    refine lv_tableIn (tgt := 183) (off := 182) hx hb dX10_count_1 (by rw [h28]; decide) (by rw [h28]; decide) (by rw [h28]; rfl) (by decide) ?_
    refine lv_aload_n hx hb dX10_count_183 rfl (lv_at hl 0 rfl) ?_
    refine g_getP E hM (o := 0) (Nat.le_of_ble_eq_true rfl) rfl fl_X10_84 (q := 60) rfl dX10_count_184 ?_
    obtain ⟨r29, hcr29, he⟩ := g_bind he
    refine g_callV [] (rest := []) E hml hl.1 hM cv_X10_390 (c6_limit l D aC B hcr29) (o := 60) (Nat.le_of_ble_eq_true rfl) rfl (by decide) rfl rfl (Nat.le_of_ble_eq_true rfl) dX10_count_187 (fun H locs hM => ?_)
    refine W.eq (g2 := F0 m 190 ls [.int r29]) rfl ?_
    cases he
    exact g_iret E hM hret hlk dX10_count_190
  rw [if_neg h28] at he
  by_cases h30 : a1 = (15 : Int32)
  · rw [if_pos h30] at he
    refine lv_tableIn (tgt := 191) (off := 190) hx hb dX10_count_1 (by rw [h30]; decide) (by rw [h30]; decide) (by rw [h30]; rfl) (by decide) ?_
    refine lv_aload_n hx hb dX10_count_191 rfl (lv_at hl 0 rfl) ?_
    refine g_getP E hM (o := 0) (Nat.le_of_ble_eq_true rfl) rfl fl_X10_91 (q := 67) rfl dX10_count_192 ?_
    refine g_getI E hM (o := 67) (Nat.le_of_ble_eq_true rfl) rfl fl_X10_373 dX10_count_195 ?_
    cases he
    exact g_iret E hM hret hlk dX10_count_198
  rw [if_neg h30] at he
  refine lv_tableOut (tgt := 199) hx hb dX10_count_1 (by have zh1 := lv_neT (a := 0) h1 rfl; have zh4 := lv_neT (a := 1) h4 rfl; have zh7 := lv_neT (a := 2) h7 rfl; have zh10 := lv_neT (a := 3) h10 rfl; have zh11 := lv_neT (a := 4) h11 rfl; have zh13 := lv_neT (a := 5) h13 rfl; have zh15 := lv_neT (a := 6) h15 rfl; have zh16 := lv_neT (a := 7) h16 rfl; have zh18 := lv_neT (a := 8) h18 rfl; have zh20 := lv_neT (a := 9) h20 rfl; have zh22 := lv_neT (a := 10) h22 rfl; have zh24 := lv_neT (a := 11) h24 rfl; have zh26 := lv_neT (a := 12) h26 rfl; have zh27 := lv_neT (a := 13) h27 rfl; have zh28 := lv_neT (a := 14) h28 rfl; have zh30 := lv_neT (a := 15) h30 rfl; omega) (by decide) ?_
  refine lv_iconst (v := (-1 : Int32)) hx hb dX10_count_199 rfl ?_
  cases he
  exact g_iret E hM hret hlk dX10_count_200

end
