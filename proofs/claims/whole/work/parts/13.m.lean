theorem dX11_swaps_0 : decode cX11_swaps 0 = .ok (.aload_n 0, 1) := by decide +kernel
theorem dX11_swaps_1 : decode cX11_swaps 1 = .ok (.iconst 0, 1) := by decide +kernel
theorem dX11_swaps_2 : decode cX11_swaps 2 = .ok (.putfield 157, 3) := by decide +kernel
theorem dX11_swaps_5 : decode cX11_swaps 5 = .ok (.iconst 0, 1) := by decide +kernel
theorem dX11_swaps_6 : decode cX11_swaps 6 = .ok (.istore_n 1, 1) := by decide +kernel
theorem dX11_swaps_7 : decode cX11_swaps 7 = .ok (.iconst 0, 1) := by decide +kernel
theorem dX11_swaps_8 : decode cX11_swaps 8 = .ok (.istore_n 2, 1) := by decide +kernel
theorem dX11_swaps_9 : decode cX11_swaps 9 = .ok (.iload_n 2, 1) := by decide +kernel
theorem dX11_swaps_10 : decode cX11_swaps 10 = .ok (.aload_n 0, 1) := by decide +kernel
theorem dX11_swaps_11 : decode cX11_swaps 11 = .ok (.getfield 13, 3) := by decide +kernel
theorem dX11_swaps_14 : decode cX11_swaps 14 = .ok (.iconst 1, 1) := by decide +kernel
theorem dX11_swaps_15 : decode cX11_swaps 15 = .ok (.iaload, 1) := by decide +kernel
theorem dX11_swaps_16 : decode cX11_swaps 16 = .ok (.if_icmp .ge 84, 3) := by decide +kernel
theorem dX11_swaps_19 : decode cX11_swaps 19 = .ok (.iconst 0, 1) := by decide +kernel
theorem dX11_swaps_20 : decode cX11_swaps 20 = .ok (.istore_n 3, 1) := by decide +kernel
theorem dX11_swaps_21 : decode cX11_swaps 21 = .ok (.iconst 0, 1) := by decide +kernel
theorem dX11_swaps_22 : decode cX11_swaps 22 = .ok (.istore 4, 2) := by decide +kernel
theorem dX11_swaps_24 : decode cX11_swaps 24 = .ok (.iload 4, 2) := by decide +kernel
theorem dX11_swaps_26 : decode cX11_swaps 26 = .ok (.aload_n 0, 1) := by decide +kernel
theorem dX11_swaps_27 : decode cX11_swaps 27 = .ok (.getfield 13, 3) := by decide +kernel
theorem dX11_swaps_30 : decode cX11_swaps 30 = .ok (.iconst 0, 1) := by decide +kernel
theorem dX11_swaps_31 : decode cX11_swaps 31 = .ok (.iaload, 1) := by decide +kernel
theorem dX11_swaps_32 : decode cX11_swaps 32 = .ok (.if_icmp .ge 62, 3) := by decide +kernel
theorem dX11_swaps_35 : decode cX11_swaps 35 = .ok (.iload 4, 2) := by decide +kernel
theorem dX11_swaps_37 : decode cX11_swaps 37 = .ok (.istore 5, 2) := by decide +kernel
theorem dX11_swaps_39 : decode cX11_swaps 39 = .ok (.iload_n 3, 1) := by decide +kernel
theorem dX11_swaps_40 : decode cX11_swaps 40 = .ok (.iload 5, 2) := by decide +kernel
theorem dX11_swaps_42 : decode cX11_swaps 42 = .ok (.ishr, 1) := by decide +kernel
theorem dX11_swaps_43 : decode cX11_swaps 43 = .ok (.iconst 1, 1) := by decide +kernel
theorem dX11_swaps_44 : decode cX11_swaps 44 = .ok (.iand, 1) := by decide +kernel
theorem dX11_swaps_45 : decode cX11_swaps 45 = .ok (.ifCond .ne 43, 3) := by decide +kernel
theorem dX11_swaps_48 : decode cX11_swaps 48 = .ok (.iload_n 3, 1) := by decide +kernel
theorem dX11_swaps_49 : decode cX11_swaps 49 = .ok (.iconst 1, 1) := by decide +kernel
theorem dX11_swaps_50 : decode cX11_swaps 50 = .ok (.iload 5, 2) := by decide +kernel
theorem dX11_swaps_52 : decode cX11_swaps 52 = .ok (.ishl, 1) := by decide +kernel
theorem dX11_swaps_53 : decode cX11_swaps 53 = .ok (.ior, 1) := by decide +kernel
theorem dX11_swaps_54 : decode cX11_swaps 54 = .ok (.istore_n 3, 1) := by decide +kernel
theorem dX11_swaps_55 : decode cX11_swaps 55 = .ok (.aload_n 0, 1) := by decide +kernel
theorem dX11_swaps_56 : decode cX11_swaps 56 = .ok (.getfield 99, 3) := by decide +kernel
theorem dX11_swaps_59 : decode cX11_swaps 59 = .ok (.iconst 5, 1) := by decide +kernel
theorem dX11_swaps_60 : decode cX11_swaps 60 = .ok (.iload 5, 2) := by decide +kernel
theorem dX11_swaps_62 : decode cX11_swaps 62 = .ok (.imul, 1) := by decide +kernel
theorem dX11_swaps_63 : decode cX11_swaps 63 = .ok (.iload_n 2, 1) := by decide +kernel
theorem dX11_swaps_64 : decode cX11_swaps 64 = .ok (.iadd, 1) := by decide +kernel
theorem dX11_swaps_65 : decode cX11_swaps 65 = .ok (.iaload, 1) := by decide +kernel
theorem dX11_swaps_66 : decode cX11_swaps 66 = .ok (.istore 5, 2) := by decide +kernel
theorem dX11_swaps_68 : decode cX11_swaps 68 = .ok (.iload_n 1, 1) := by decide +kernel
theorem dX11_swaps_69 : decode cX11_swaps 69 = .ok (.iload_n 3, 1) := by decide +kernel
theorem dX11_swaps_70 : decode cX11_swaps 70 = .ok (.iload 5, 2) := by decide +kernel
theorem dX11_swaps_72 : decode cX11_swaps 72 = .ok (.ishr, 1) := by decide +kernel
theorem dX11_swaps_73 : decode cX11_swaps 73 = .ok (.iconst 1, 1) := by decide +kernel
theorem dX11_swaps_74 : decode cX11_swaps 74 = .ok (.iand, 1) := by decide +kernel
theorem dX11_swaps_75 : decode cX11_swaps 75 = .ok (.ifCond .ne 7, 3) := by decide +kernel
theorem dX11_swaps_78 : decode cX11_swaps 78 = .ok (.iconst 1, 1) := by decide +kernel
theorem dX11_swaps_79 : decode cX11_swaps 79 = .ok (.goto 4, 3) := by decide +kernel
theorem dX11_swaps_82 : decode cX11_swaps 82 = .ok (.iconst 0, 1) := by decide +kernel
theorem dX11_swaps_83 : decode cX11_swaps 83 = .ok (.iadd, 1) := by decide +kernel
theorem dX11_swaps_84 : decode cX11_swaps 84 = .ok (.istore_n 1, 1) := by decide +kernel
theorem dX11_swaps_85 : decode cX11_swaps 85 = .ok (.goto (-46), 3) := by decide +kernel
theorem dX11_swaps_88 : decode cX11_swaps 88 = .ok (.iinc 4 1, 3) := by decide +kernel
theorem dX11_swaps_91 : decode cX11_swaps 91 = .ok (.goto (-67), 3) := by decide +kernel
theorem dX11_swaps_94 : decode cX11_swaps 94 = .ok (.iinc 2 1, 3) := by decide +kernel
theorem dX11_swaps_97 : decode cX11_swaps 97 = .ok (.goto (-88), 3) := by decide +kernel
theorem dX11_swaps_100 : decode cX11_swaps 100 = .ok (.iload_n 1, 1) := by decide +kernel
theorem dX11_swaps_101 : decode cX11_swaps 101 = .ok (.ireturn, 1) := by decide +kernel
theorem dX11_together_0 : decode cX11_together 0 = .ok (.aload_n 0, 1) := by decide +kernel
theorem dX11_together_1 : decode cX11_together 1 = .ok (.iconst 0, 1) := by decide +kernel
theorem dX11_together_2 : decode cX11_together 2 = .ok (.putfield 157, 3) := by decide +kernel
theorem dX11_together_5 : decode cX11_together 5 = .ok (.aload_n 0, 1) := by decide +kernel
theorem dX11_together_6 : decode cX11_together 6 = .ok (.iload_n 1, 1) := by decide +kernel
theorem dX11_together_7 : decode cX11_together 7 = .ok (.invokevirtual 426, 3) := by decide +kernel
theorem dX11_together_10 : decode cX11_together 10 = .ok (.ifCond .eq 23, 3) := by decide +kernel
theorem dX11_together_13 : decode cX11_together 13 = .ok (.aload_n 0, 1) := by decide +kernel
theorem dX11_together_14 : decode cX11_together 14 = .ok (.iload_n 2, 1) := by decide +kernel
theorem dX11_together_15 : decode cX11_together 15 = .ok (.invokevirtual 426, 3) := by decide +kernel
theorem dX11_together_18 : decode cX11_together 18 = .ok (.ifCond .eq 15, 3) := by decide +kernel
theorem dX11_together_21 : decode cX11_together 21 = .ok (.iload_n 1, 1) := by decide +kernel
theorem dX11_together_22 : decode cX11_together 22 = .ok (.iload_n 2, 1) := by decide +kernel
theorem dX11_together_23 : decode cX11_together 23 = .ok (.if_icmp .eq 10, 3) := by decide +kernel
theorem dX11_together_26 : decode cX11_together 26 = .ok (.iload_n 3, 1) := by decide +kernel
theorem dX11_together_27 : decode cX11_together 27 = .ok (.invokestatic 441, 3) := by decide +kernel
theorem dX11_together_30 : decode cX11_together 30 = .ok (.ifCond .ne 5, 3) := by decide +kernel
theorem dX11_together_33 : decode cX11_together 33 = .ok (.iconst (-1), 1) := by decide +kernel
theorem dX11_together_34 : decode cX11_together 34 = .ok (.ireturn, 1) := by decide +kernel
theorem dX11_together_35 : decode cX11_together 35 = .ok (.iconst 0, 1) := by decide +kernel
theorem dX11_together_36 : decode cX11_together 36 = .ok (.istore 4, 2) := by decide +kernel
theorem dX11_together_38 : decode cX11_together 38 = .ok (.iconst 0, 1) := by decide +kernel
theorem dX11_together_39 : decode cX11_together 39 = .ok (.istore 5, 2) := by decide +kernel
theorem dX11_together_41 : decode cX11_together 41 = .ok (.iload 5, 2) := by decide +kernel
theorem dX11_together_43 : decode cX11_together 43 = .ok (.aload_n 0, 1) := by decide +kernel
theorem dX11_together_44 : decode cX11_together 44 = .ok (.getfield 13, 3) := by decide +kernel
theorem dX11_together_47 : decode cX11_together 47 = .ok (.iconst 2, 1) := by decide +kernel
theorem dX11_together_48 : decode cX11_together 48 = .ok (.iaload, 1) := by decide +kernel
theorem dX11_together_49 : decode cX11_together 49 = .ok (.if_icmp .ge 105, 3) := by decide +kernel
theorem dX11_together_52 : decode cX11_together 52 = .ok (.iconst 1, 1) := by decide +kernel
theorem dX11_together_53 : decode cX11_together 53 = .ok (.istore 6, 2) := by decide +kernel
theorem dX11_together_55 : decode cX11_together 55 = .ok (.iconst 0, 1) := by decide +kernel
theorem dX11_together_56 : decode cX11_together 56 = .ok (.istore 7, 2) := by decide +kernel
theorem dX11_together_58 : decode cX11_together 58 = .ok (.iload 7, 2) := by decide +kernel
theorem dX11_together_60 : decode cX11_together 60 = .ok (.aload_n 0, 1) := by decide +kernel
theorem dX11_together_61 : decode cX11_together 61 = .ok (.getfield 13, 3) := by decide +kernel
theorem dX11_together_64 : decode cX11_together 64 = .ok (.iconst 1, 1) := by decide +kernel
theorem dX11_together_65 : decode cX11_together 65 = .ok (.iaload, 1) := by decide +kernel
theorem dX11_together_66 : decode cX11_together 66 = .ok (.if_icmp .ge 64, 3) := by decide +kernel
theorem dX11_together_69 : decode cX11_together 69 = .ok (.iload 6, 2) := by decide +kernel
theorem dX11_together_71 : decode cX11_together 71 = .ok (.aload_n 0, 1) := by decide +kernel
theorem dX11_together_72 : decode cX11_together 72 = .ok (.getfield 34, 3) := by decide +kernel
theorem dX11_together_75 : decode cX11_together 75 = .ok (.iload 5, 2) := by decide +kernel
theorem dX11_together_77 : decode cX11_together 77 = .ok (.iaload, 1) := by decide +kernel
theorem dX11_together_78 : decode cX11_together 78 = .ok (.iload 7, 2) := by decide +kernel
theorem dX11_together_80 : decode cX11_together 80 = .ok (.ishr, 1) := by decide +kernel
theorem dX11_together_81 : decode cX11_together 81 = .ok (.iconst 1, 1) := by decide +kernel
theorem dX11_together_82 : decode cX11_together 82 = .ok (.iand, 1) := by decide +kernel
theorem dX11_together_83 : decode cX11_together 83 = .ok (.ifCond .eq 33, 3) := by decide +kernel
theorem dX11_together_86 : decode cX11_together 86 = .ok (.aload_n 0, 1) := by decide +kernel
theorem dX11_together_87 : decode cX11_together 87 = .ok (.getfield 102, 3) := by decide +kernel
theorem dX11_together_90 : decode cX11_together 90 = .ok (.iconst 5, 1) := by decide +kernel
theorem dX11_together_91 : decode cX11_together 91 = .ok (.iload_n 1, 1) := by decide +kernel
theorem dX11_together_92 : decode cX11_together 92 = .ok (.imul, 1) := by decide +kernel
theorem dX11_together_93 : decode cX11_together 93 = .ok (.iload 7, 2) := by decide +kernel
theorem dX11_together_95 : decode cX11_together 95 = .ok (.iadd, 1) := by decide +kernel
theorem dX11_together_96 : decode cX11_together 96 = .ok (.iaload, 1) := by decide +kernel
theorem dX11_together_97 : decode cX11_together 97 = .ok (.iload_n 3, 1) := by decide +kernel
theorem dX11_together_98 : decode cX11_together 98 = .ok (.if_icmp .eq 18, 3) := by decide +kernel
theorem dX11_together_101 : decode cX11_together 101 = .ok (.aload_n 0, 1) := by decide +kernel
theorem dX11_together_102 : decode cX11_together 102 = .ok (.getfield 102, 3) := by decide +kernel
theorem dX11_together_105 : decode cX11_together 105 = .ok (.iconst 5, 1) := by decide +kernel
theorem dX11_together_106 : decode cX11_together 106 = .ok (.iload_n 2, 1) := by decide +kernel
theorem dX11_together_107 : decode cX11_together 107 = .ok (.imul, 1) := by decide +kernel
theorem dX11_together_108 : decode cX11_together 108 = .ok (.iload 7, 2) := by decide +kernel
theorem dX11_together_110 : decode cX11_together 110 = .ok (.iadd, 1) := by decide +kernel
theorem dX11_together_111 : decode cX11_together 111 = .ok (.iaload, 1) := by decide +kernel
theorem dX11_together_112 : decode cX11_together 112 = .ok (.iload_n 3, 1) := by decide +kernel
theorem dX11_together_113 : decode cX11_together 113 = .ok (.if_icmp .ne 7, 3) := by decide +kernel
theorem dX11_together_116 : decode cX11_together 116 = .ok (.iconst 1, 1) := by decide +kernel
theorem dX11_together_117 : decode cX11_together 117 = .ok (.goto 4, 3) := by decide +kernel
theorem dX11_together_120 : decode cX11_together 120 = .ok (.iconst 0, 1) := by decide +kernel
theorem dX11_together_121 : decode cX11_together 121 = .ok (.iand, 1) := by decide +kernel
theorem dX11_together_122 : decode cX11_together 122 = .ok (.istore 6, 2) := by decide +kernel
theorem dX11_together_124 : decode cX11_together 124 = .ok (.iinc 7 1, 3) := by decide +kernel
theorem dX11_together_127 : decode cX11_together 127 = .ok (.goto (-69), 3) := by decide +kernel
theorem dX11_together_130 : decode cX11_together 130 = .ok (.iload 4, 2) := by decide +kernel
theorem dX11_together_132 : decode cX11_together 132 = .ok (.iload 6, 2) := by decide +kernel
theorem dX11_together_134 : decode cX11_together 134 = .ok (.ifCond .eq 10, 3) := by decide +kernel
theorem dX11_together_137 : decode cX11_together 137 = .ok (.iconst 1, 1) := by decide +kernel
theorem dX11_together_138 : decode cX11_together 138 = .ok (.iload 5, 2) := by decide +kernel
theorem dX11_together_140 : decode cX11_together 140 = .ok (.ishl, 1) := by decide +kernel
theorem dX11_together_141 : decode cX11_together 141 = .ok (.goto 4, 3) := by decide +kernel
theorem dX11_together_144 : decode cX11_together 144 = .ok (.iconst 0, 1) := by decide +kernel
theorem dX11_together_145 : decode cX11_together 145 = .ok (.ior, 1) := by decide +kernel
theorem dX11_together_146 : decode cX11_together 146 = .ok (.istore 4, 2) := by decide +kernel
theorem dX11_together_148 : decode cX11_together 148 = .ok (.iinc 5 1, 3) := by decide +kernel
theorem dX11_together_151 : decode cX11_together 151 = .ok (.goto (-110), 3) := by decide +kernel
theorem dX11_together_154 : decode cX11_together 154 = .ok (.iload 4, 2) := by decide +kernel
theorem dX11_together_156 : decode cX11_together 156 = .ok (.ireturn, 1) := by decide +kernel
theorem dX11_needsOf_0 : decode cX11_needsOf 0 = .ok (.iconst 0, 1) := by decide +kernel
theorem dX11_needsOf_1 : decode cX11_needsOf 1 = .ok (.istore 4, 2) := by decide +kernel
theorem dX11_needsOf_3 : decode cX11_needsOf 3 = .ok (.iconst 0, 1) := by decide +kernel
theorem dX11_needsOf_4 : decode cX11_needsOf 4 = .ok (.istore 5, 2) := by decide +kernel
theorem dX11_needsOf_6 : decode cX11_needsOf 6 = .ok (.iload 5, 2) := by decide +kernel
theorem dX11_needsOf_8 : decode cX11_needsOf 8 = .ok (.aload_n 0, 1) := by decide +kernel
theorem dX11_needsOf_9 : decode cX11_needsOf 9 = .ok (.getfield 13, 3) := by decide +kernel
theorem dX11_needsOf_12 : decode cX11_needsOf 12 = .ok (.iconst 1, 1) := by decide +kernel
theorem dX11_needsOf_13 : decode cX11_needsOf 13 = .ok (.iaload, 1) := by decide +kernel
theorem dX11_needsOf_14 : decode cX11_needsOf 14 = .ok (.if_icmp .ge 52, 3) := by decide +kernel
theorem dX11_needsOf_17 : decode cX11_needsOf 17 = .ok (.iload 4, 2) := by decide +kernel
theorem dX11_needsOf_19 : decode cX11_needsOf 19 = .ok (.aload_n 0, 1) := by decide +kernel
theorem dX11_needsOf_20 : decode cX11_needsOf 20 = .ok (.getfield 34, 3) := by decide +kernel
theorem dX11_needsOf_23 : decode cX11_needsOf 23 = .ok (.iload_n 2, 1) := by decide +kernel
theorem dX11_needsOf_24 : decode cX11_needsOf 24 = .ok (.iaload, 1) := by decide +kernel
theorem dX11_needsOf_25 : decode cX11_needsOf 25 = .ok (.iload 5, 2) := by decide +kernel
theorem dX11_needsOf_27 : decode cX11_needsOf 27 = .ok (.ishr, 1) := by decide +kernel
theorem dX11_needsOf_28 : decode cX11_needsOf 28 = .ok (.iconst 1, 1) := by decide +kernel
theorem dX11_needsOf_29 : decode cX11_needsOf 29 = .ok (.iand, 1) := by decide +kernel
theorem dX11_needsOf_30 : decode cX11_needsOf 30 = .ok (.iconst 1, 1) := by decide +kernel
theorem dX11_needsOf_31 : decode cX11_needsOf 31 = .ok (.if_icmp .ne 25, 3) := by decide +kernel
theorem dX11_needsOf_34 : decode cX11_needsOf 34 = .ok (.aload_n 0, 1) := by decide +kernel
theorem dX11_needsOf_35 : decode cX11_needsOf 35 = .ok (.getfield 102, 3) := by decide +kernel
theorem dX11_needsOf_38 : decode cX11_needsOf 38 = .ok (.iconst 5, 1) := by decide +kernel
theorem dX11_needsOf_39 : decode cX11_needsOf 39 = .ok (.iload_n 1, 1) := by decide +kernel
theorem dX11_needsOf_40 : decode cX11_needsOf 40 = .ok (.imul, 1) := by decide +kernel
theorem dX11_needsOf_41 : decode cX11_needsOf 41 = .ok (.iload 5, 2) := by decide +kernel
theorem dX11_needsOf_43 : decode cX11_needsOf 43 = .ok (.iadd, 1) := by decide +kernel
theorem dX11_needsOf_44 : decode cX11_needsOf 44 = .ok (.iaload, 1) := by decide +kernel
theorem dX11_needsOf_45 : decode cX11_needsOf 45 = .ok (.iload_n 3, 1) := by decide +kernel
theorem dX11_needsOf_46 : decode cX11_needsOf 46 = .ok (.if_icmp .eq 10, 3) := by decide +kernel
theorem dX11_needsOf_49 : decode cX11_needsOf 49 = .ok (.iconst 1, 1) := by decide +kernel
theorem dX11_needsOf_50 : decode cX11_needsOf 50 = .ok (.iload 5, 2) := by decide +kernel
theorem dX11_needsOf_52 : decode cX11_needsOf 52 = .ok (.ishl, 1) := by decide +kernel
theorem dX11_needsOf_53 : decode cX11_needsOf 53 = .ok (.goto 4, 3) := by decide +kernel
theorem dX11_needsOf_56 : decode cX11_needsOf 56 = .ok (.iconst 0, 1) := by decide +kernel
theorem dX11_needsOf_57 : decode cX11_needsOf 57 = .ok (.ior, 1) := by decide +kernel
theorem dX11_needsOf_58 : decode cX11_needsOf 58 = .ok (.istore 4, 2) := by decide +kernel
theorem dX11_needsOf_60 : decode cX11_needsOf 60 = .ok (.iinc 5 1, 3) := by decide +kernel
theorem dX11_needsOf_63 : decode cX11_needsOf 63 = .ok (.goto (-57), 3) := by decide +kernel
theorem dX11_needsOf_66 : decode cX11_needsOf 66 = .ok (.iload 4, 2) := by decide +kernel
theorem dX11_needsOf_68 : decode cX11_needsOf 68 = .ok (.ireturn, 1) := by decide +kernel
theorem dX11_needs_0 : decode cX11_needs 0 = .ok (.aload_n 0, 1) := by decide +kernel
theorem dX11_needs_1 : decode cX11_needs 1 = .ok (.iconst 0, 1) := by decide +kernel
theorem dX11_needs_2 : decode cX11_needs 2 = .ok (.putfield 157, 3) := by decide +kernel
theorem dX11_needs_5 : decode cX11_needs 5 = .ok (.aload_n 0, 1) := by decide +kernel
theorem dX11_needs_6 : decode cX11_needs 6 = .ok (.iload_n 1, 1) := by decide +kernel
theorem dX11_needs_7 : decode cX11_needs 7 = .ok (.iload_n 2, 1) := by decide +kernel
theorem dX11_needs_8 : decode cX11_needs 8 = .ok (.iload_n 3, 1) := by decide +kernel
theorem dX11_needs_9 : decode cX11_needs 9 = .ok (.invokevirtual 444, 3) := by decide +kernel
theorem dX11_needs_12 : decode cX11_needs 12 = .ok (.ifCond .eq 13, 3) := by decide +kernel
theorem dX11_needs_15 : decode cX11_needs 15 = .ok (.aload_n 0, 1) := by decide +kernel
theorem dX11_needs_16 : decode cX11_needs 16 = .ok (.iload_n 1, 1) := by decide +kernel
theorem dX11_needs_17 : decode cX11_needs 17 = .ok (.iload_n 2, 1) := by decide +kernel
theorem dX11_needs_18 : decode cX11_needs 18 = .ok (.iload_n 3, 1) := by decide +kernel
theorem dX11_needs_19 : decode cX11_needs 19 = .ok (.invokevirtual 491, 3) := by decide +kernel
theorem dX11_needs_22 : decode cX11_needs 22 = .ok (.goto 4, 3) := by decide +kernel
theorem dX11_needs_25 : decode cX11_needs 25 = .ok (.iconst (-1), 1) := by decide +kernel
theorem dX11_needs_26 : decode cX11_needs 26 = .ok (.ireturn, 1) := by decide +kernel
theorem dX11_cheap_0 : decode cX11_cheap 0 = .ok (.aload_n 0, 1) := by decide +kernel
theorem dX11_cheap_1 : decode cX11_cheap 1 = .ok (.iconst 0, 1) := by decide +kernel
theorem dX11_cheap_2 : decode cX11_cheap 2 = .ok (.putfield 157, 3) := by decide +kernel
theorem dX11_cheap_5 : decode cX11_cheap 5 = .ok (.aload_n 0, 1) := by decide +kernel
theorem dX11_cheap_6 : decode cX11_cheap 6 = .ok (.iload_n 1, 1) := by decide +kernel
theorem dX11_cheap_7 : decode cX11_cheap 7 = .ok (.iload_n 2, 1) := by decide +kernel
theorem dX11_cheap_8 : decode cX11_cheap 8 = .ok (.iload_n 3, 1) := by decide +kernel
theorem dX11_cheap_9 : decode cX11_cheap 9 = .ok (.invokevirtual 444, 3) := by decide +kernel
theorem dX11_cheap_12 : decode cX11_cheap 12 = .ok (.ifCond .ne 5, 3) := by decide +kernel
theorem dX11_cheap_15 : decode cX11_cheap 15 = .ok (.iconst (-1), 1) := by decide +kernel
theorem dX11_cheap_16 : decode cX11_cheap 16 = .ok (.ireturn, 1) := by decide +kernel
theorem dX11_cheap_17 : decode cX11_cheap 17 = .ok (.iconst 0, 1) := by decide +kernel
theorem dX11_cheap_18 : decode cX11_cheap 18 = .ok (.istore 4, 2) := by decide +kernel
theorem dX11_cheap_20 : decode cX11_cheap 20 = .ok (.iconst 0, 1) := by decide +kernel
theorem dX11_cheap_21 : decode cX11_cheap 21 = .ok (.istore 5, 2) := by decide +kernel
theorem dX11_cheap_23 : decode cX11_cheap 23 = .ok (.iload 5, 2) := by decide +kernel
theorem dX11_cheap_25 : decode cX11_cheap 25 = .ok (.aload_n 0, 1) := by decide +kernel
theorem dX11_cheap_26 : decode cX11_cheap 26 = .ok (.getfield 13, 3) := by decide +kernel
theorem dX11_cheap_29 : decode cX11_cheap 29 = .ok (.iconst 1, 1) := by decide +kernel
theorem dX11_cheap_30 : decode cX11_cheap 30 = .ok (.iaload, 1) := by decide +kernel
theorem dX11_cheap_31 : decode cX11_cheap 31 = .ok (.if_icmp .ge 41, 3) := by decide +kernel
theorem dX11_cheap_34 : decode cX11_cheap 34 = .ok (.iload 4, 2) := by decide +kernel
theorem dX11_cheap_36 : decode cX11_cheap 36 = .ok (.aload_n 0, 1) := by decide +kernel
theorem dX11_cheap_37 : decode cX11_cheap 37 = .ok (.iload_n 1, 1) := by decide +kernel
theorem dX11_cheap_38 : decode cX11_cheap 38 = .ok (.iload_n 2, 1) := by decide +kernel
theorem dX11_cheap_39 : decode cX11_cheap 39 = .ok (.iload_n 3, 1) := by decide +kernel
theorem dX11_cheap_40 : decode cX11_cheap 40 = .ok (.invokevirtual 491, 3) := by decide +kernel
theorem dX11_cheap_43 : decode cX11_cheap 43 = .ok (.iload 5, 2) := by decide +kernel
theorem dX11_cheap_45 : decode cX11_cheap 45 = .ok (.ishr, 1) := by decide +kernel
theorem dX11_cheap_46 : decode cX11_cheap 46 = .ok (.iconst 1, 1) := by decide +kernel
theorem dX11_cheap_47 : decode cX11_cheap 47 = .ok (.iand, 1) := by decide +kernel
theorem dX11_cheap_48 : decode cX11_cheap 48 = .ok (.iconst 1, 1) := by decide +kernel
theorem dX11_cheap_49 : decode cX11_cheap 49 = .ok (.if_icmp .ne 13, 3) := by decide +kernel
theorem dX11_cheap_52 : decode cX11_cheap 52 = .ok (.aload_n 0, 1) := by decide +kernel
theorem dX11_cheap_53 : decode cX11_cheap 53 = .ok (.getfield 28, 3) := by decide +kernel
theorem dX11_cheap_56 : decode cX11_cheap 56 = .ok (.iload 5, 2) := by decide +kernel
theorem dX11_cheap_58 : decode cX11_cheap 58 = .ok (.iaload, 1) := by decide +kernel
theorem dX11_cheap_59 : decode cX11_cheap 59 = .ok (.goto 4, 3) := by decide +kernel
theorem dX11_cheap_62 : decode cX11_cheap 62 = .ok (.iconst 0, 1) := by decide +kernel
theorem dX11_cheap_63 : decode cX11_cheap 63 = .ok (.iadd, 1) := by decide +kernel
theorem dX11_cheap_64 : decode cX11_cheap 64 = .ok (.istore 4, 2) := by decide +kernel
theorem dX11_cheap_66 : decode cX11_cheap 66 = .ok (.iinc 5 1, 3) := by decide +kernel
theorem dX11_cheap_69 : decode cX11_cheap 69 = .ok (.goto (-46), 3) := by decide +kernel
theorem dX11_cheap_72 : decode cX11_cheap 72 = .ok (.iload 4, 2) := by decide +kernel
theorem dX11_cheap_74 : decode cX11_cheap 74 = .ok (.ireturn, 1) := by decide +kernel
theorem dX11_hasOf_0 : decode cX11_hasOf 0 = .ok (.iload_n 3, 1) := by decide +kernel
theorem dX11_hasOf_1 : decode cX11_hasOf 1 = .ok (.iload 4, 2) := by decide +kernel
theorem dX11_hasOf_3 : decode cX11_hasOf 3 = .ok (.if_icmp .ne 14, 3) := by decide +kernel
theorem dX11_hasOf_6 : decode cX11_hasOf 6 = .ok (.aload_n 0, 1) := by decide +kernel
theorem dX11_hasOf_7 : decode cX11_hasOf 7 = .ok (.getfield 28, 3) := by decide +kernel
theorem dX11_hasOf_10 : decode cX11_hasOf 10 = .ok (.iload_n 2, 1) := by decide +kernel
theorem dX11_hasOf_11 : decode cX11_hasOf 11 = .ok (.iaload, 1) := by decide +kernel
theorem dX11_hasOf_12 : decode cX11_hasOf 12 = .ok (.iconst 3, 1) := by decide +kernel
theorem dX11_hasOf_13 : decode cX11_hasOf 13 = .ok (.idiv, 1) := by decide +kernel
theorem dX11_hasOf_14 : decode cX11_hasOf 14 = .ok (.goto 9, 3) := by decide +kernel
theorem dX11_hasOf_17 : decode cX11_hasOf 17 = .ok (.aload_n 0, 1) := by decide +kernel
theorem dX11_hasOf_18 : decode cX11_hasOf 18 = .ok (.getfield 28, 3) := by decide +kernel
theorem dX11_hasOf_21 : decode cX11_hasOf 21 = .ok (.iload_n 2, 1) := by decide +kernel
theorem dX11_hasOf_22 : decode cX11_hasOf 22 = .ok (.iaload, 1) := by decide +kernel
theorem dX11_hasOf_23 : decode cX11_hasOf 23 = .ok (.istore 5, 2) := by decide +kernel
theorem dX11_hasOf_25 : decode cX11_hasOf 25 = .ok (.iload_n 3, 1) := by decide +kernel
theorem dX11_hasOf_26 : decode cX11_hasOf 26 = .ok (.ifCond .ne 15, 3) := by decide +kernel
theorem dX11_hasOf_29 : decode cX11_hasOf 29 = .ok (.iload 5, 2) := by decide +kernel
theorem dX11_hasOf_31 : decode cX11_hasOf 31 = .ok (.aload_n 0, 1) := by decide +kernel
theorem dX11_hasOf_32 : decode cX11_hasOf 32 = .ok (.iconst 0, 1) := by decide +kernel
theorem dX11_hasOf_33 : decode cX11_hasOf 33 = .ok (.iload_n 1, 1) := by decide +kernel
theorem dX11_hasOf_34 : decode cX11_hasOf 34 = .ok (.invokevirtual 369, 3) := by decide +kernel
theorem dX11_hasOf_37 : decode cX11_hasOf 37 = .ok (.iadd, 1) := by decide +kernel
theorem dX11_hasOf_38 : decode cX11_hasOf 38 = .ok (.goto 5, 3) := by decide +kernel
theorem dX11_hasOf_41 : decode cX11_hasOf 41 = .ok (.iload 5, 2) := by decide +kernel
theorem dX11_hasOf_43 : decode cX11_hasOf 43 = .ok (.ireturn, 1) := by decide +kernel
theorem dX11_isRest_0 : decode cX11_isRest 0 = .ok (.iload 4, 2) := by decide +kernel
theorem dX11_isRest_2 : decode cX11_isRest 2 = .ok (.iconst 2, 1) := by decide +kernel
theorem dX11_isRest_3 : decode cX11_isRest 3 = .ok (.idiv, 1) := by decide +kernel
theorem dX11_isRest_4 : decode cX11_isRest 4 = .ok (.istore 5, 2) := by decide +kernel
theorem dX11_isRest_6 : decode cX11_isRest 6 = .ok (.iload 4, 2) := by decide +kernel
theorem dX11_isRest_8 : decode cX11_isRest 8 = .ok (.iconst 2, 1) := by decide +kernel
theorem dX11_isRest_9 : decode cX11_isRest 9 = .ok (.irem, 1) := by decide +kernel
theorem dX11_isRest_10 : decode cX11_isRest 10 = .ok (.istore 6, 2) := by decide +kernel
theorem dX11_isRest_12 : decode cX11_isRest 12 = .ok (.aload_n 0, 1) := by decide +kernel
theorem dX11_isRest_13 : decode cX11_isRest 13 = .ok (.iload_n 1, 1) := by decide +kernel
theorem dX11_isRest_14 : decode cX11_isRest 14 = .ok (.iload_n 3, 1) := by decide +kernel
theorem dX11_isRest_15 : decode cX11_isRest 15 = .ok (.iconst 1, 1) := by decide +kernel
theorem dX11_isRest_16 : decode cX11_isRest 16 = .ok (.iload 5, 2) := by decide +kernel
theorem dX11_isRest_18 : decode cX11_isRest 18 = .ok (.isub, 1) := by decide +kernel
theorem dX11_isRest_19 : decode cX11_isRest 19 = .ok (.iload 6, 2) := by decide +kernel
theorem dX11_isRest_21 : decode cX11_isRest 21 = .ok (.invokevirtual 494, 3) := by decide +kernel
theorem dX11_isRest_24 : decode cX11_isRest 24 = .ok (.aload_n 0, 1) := by decide +kernel
theorem dX11_isRest_25 : decode cX11_isRest 25 = .ok (.iload_n 1, 1) := by decide +kernel
theorem dX11_isRest_26 : decode cX11_isRest 26 = .ok (.iload_n 3, 1) := by decide +kernel
theorem dX11_isRest_27 : decode cX11_isRest 27 = .ok (.iload 5, 2) := by decide +kernel
theorem dX11_isRest_29 : decode cX11_isRest 29 = .ok (.iload 6, 2) := by decide +kernel
theorem dX11_isRest_31 : decode cX11_isRest 31 = .ok (.invokevirtual 494, 3) := by decide +kernel
theorem dX11_isRest_34 : decode cX11_isRest 34 = .ok (.if_icmp .gt 32, 3) := by decide +kernel
theorem dX11_isRest_37 : decode cX11_isRest 37 = .ok (.aload_n 0, 1) := by decide +kernel
theorem dX11_isRest_38 : decode cX11_isRest 38 = .ok (.iload_n 2, 1) := by decide +kernel
theorem dX11_isRest_39 : decode cX11_isRest 39 = .ok (.iload_n 3, 1) := by decide +kernel
theorem dX11_isRest_40 : decode cX11_isRest 40 = .ok (.iconst 1, 1) := by decide +kernel
theorem dX11_isRest_41 : decode cX11_isRest 41 = .ok (.iload 6, 2) := by decide +kernel
theorem dX11_isRest_43 : decode cX11_isRest 43 = .ok (.isub, 1) := by decide +kernel
theorem dX11_isRest_44 : decode cX11_isRest 44 = .ok (.iload 5, 2) := by decide +kernel
theorem dX11_isRest_46 : decode cX11_isRest 46 = .ok (.invokevirtual 494, 3) := by decide +kernel
theorem dX11_isRest_49 : decode cX11_isRest 49 = .ok (.aload_n 0, 1) := by decide +kernel
theorem dX11_isRest_50 : decode cX11_isRest 50 = .ok (.iload_n 2, 1) := by decide +kernel
theorem dX11_isRest_51 : decode cX11_isRest 51 = .ok (.iload_n 3, 1) := by decide +kernel
theorem dX11_isRest_52 : decode cX11_isRest 52 = .ok (.iload 6, 2) := by decide +kernel
theorem dX11_isRest_54 : decode cX11_isRest 54 = .ok (.iload 5, 2) := by decide +kernel
theorem dX11_isRest_56 : decode cX11_isRest 56 = .ok (.invokevirtual 494, 3) := by decide +kernel
theorem dX11_isRest_59 : decode cX11_isRest 59 = .ok (.if_icmp .gt 7, 3) := by decide +kernel
theorem dX11_isRest_62 : decode cX11_isRest 62 = .ok (.iconst 1, 1) := by decide +kernel
theorem dX11_isRest_63 : decode cX11_isRest 63 = .ok (.goto 4, 3) := by decide +kernel
theorem dX11_isRest_66 : decode cX11_isRest 66 = .ok (.iconst 0, 1) := by decide +kernel
theorem dX11_isRest_67 : decode cX11_isRest 67 = .ok (.ireturn, 1) := by decide +kernel
theorem dX11_restOf_0 : decode cX11_restOf 0 = .ok (.iconst 0, 1) := by decide +kernel
theorem dX11_restOf_1 : decode cX11_restOf 1 = .ok (.istore 5, 2) := by decide +kernel
theorem dX11_restOf_3 : decode cX11_restOf 3 = .ok (.iconst 0, 1) := by decide +kernel
theorem dX11_restOf_4 : decode cX11_restOf 4 = .ok (.istore 6, 2) := by decide +kernel
theorem dX11_restOf_6 : decode cX11_restOf 6 = .ok (.iload 6, 2) := by decide +kernel
theorem dX11_restOf_8 : decode cX11_restOf 8 = .ok (.iconst 4, 1) := by decide +kernel
theorem dX11_restOf_9 : decode cX11_restOf 9 = .ok (.if_icmp .ge 47, 3) := by decide +kernel
theorem dX11_restOf_12 : decode cX11_restOf 12 = .ok (.aload_n 0, 1) := by decide +kernel
theorem dX11_restOf_13 : decode cX11_restOf 13 = .ok (.iload_n 1, 1) := by decide +kernel
theorem dX11_restOf_14 : decode cX11_restOf 14 = .ok (.iload_n 2, 1) := by decide +kernel
theorem dX11_restOf_15 : decode cX11_restOf 15 = .ok (.iload_n 3, 1) := by decide +kernel
theorem dX11_restOf_16 : decode cX11_restOf 16 = .ok (.iload 6, 2) := by decide +kernel
theorem dX11_restOf_18 : decode cX11_restOf 18 = .ok (.invokevirtual 498, 3) := by decide +kernel
theorem dX11_restOf_21 : decode cX11_restOf 21 = .ok (.ifCond .ne 6, 3) := by decide +kernel
theorem dX11_restOf_24 : decode cX11_restOf 24 = .ok (.goto 26, 3) := by decide +kernel
theorem dX11_restOf_27 : decode cX11_restOf 27 = .ok (.iload 5, 2) := by decide +kernel
theorem dX11_restOf_29 : decode cX11_restOf 29 = .ok (.iload 4, 2) := by decide +kernel
theorem dX11_restOf_31 : decode cX11_restOf 31 = .ok (.if_icmp .ne 16, 3) := by decide +kernel
theorem dX11_restOf_34 : decode cX11_restOf 34 = .ok (.bipush 10, 2) := by decide +kernel
theorem dX11_restOf_36 : decode cX11_restOf 36 = .ok (.iload 6, 2) := by decide +kernel
theorem dX11_restOf_38 : decode cX11_restOf 38 = .ok (.iconst 2, 1) := by decide +kernel
theorem dX11_restOf_39 : decode cX11_restOf 39 = .ok (.idiv, 1) := by decide +kernel
theorem dX11_restOf_40 : decode cX11_restOf 40 = .ok (.imul, 1) := by decide +kernel
theorem dX11_restOf_41 : decode cX11_restOf 41 = .ok (.iload 6, 2) := by decide +kernel
theorem dX11_restOf_43 : decode cX11_restOf 43 = .ok (.iconst 2, 1) := by decide +kernel
theorem dX11_restOf_44 : decode cX11_restOf 44 = .ok (.irem, 1) := by decide +kernel
theorem dX11_restOf_45 : decode cX11_restOf 45 = .ok (.iadd, 1) := by decide +kernel
theorem dX11_restOf_46 : decode cX11_restOf 46 = .ok (.ireturn, 1) := by decide +kernel
theorem dX11_restOf_47 : decode cX11_restOf 47 = .ok (.iinc 5 1, 3) := by decide +kernel
theorem dX11_restOf_50 : decode cX11_restOf 50 = .ok (.iinc 6 1, 3) := by decide +kernel
theorem dX11_restOf_53 : decode cX11_restOf 53 = .ok (.goto (-47), 3) := by decide +kernel
theorem dX11_restOf_56 : decode cX11_restOf 56 = .ok (.iload 4, 2) := by decide +kernel
theorem dX11_restOf_58 : decode cX11_restOf 58 = .ok (.iconst (-1), 1) := by decide +kernel
theorem dX11_restOf_59 : decode cX11_restOf 59 = .ok (.if_icmp .ne 8, 3) := by decide +kernel
theorem dX11_restOf_62 : decode cX11_restOf 62 = .ok (.iload 5, 2) := by decide +kernel
theorem dX11_restOf_64 : decode cX11_restOf 64 = .ok (.goto 5, 3) := by decide +kernel
theorem dX11_restOf_67 : decode cX11_restOf 67 = .ok (.bipush (-2), 2) := by decide +kernel
theorem dX11_restOf_69 : decode cX11_restOf 69 = .ok (.ireturn, 1) := by decide +kernel
theorem dX11_areTwo_0 : decode cX11_areTwo 0 = .ok (.aload_n 0, 1) := by decide +kernel
theorem dX11_areTwo_1 : decode cX11_areTwo 1 = .ok (.iload_n 1, 1) := by decide +kernel
theorem dX11_areTwo_2 : decode cX11_areTwo 2 = .ok (.invokevirtual 426, 3) := by decide +kernel
theorem dX11_areTwo_5 : decode cX11_areTwo 5 = .ok (.ifCond .eq 28, 3) := by decide +kernel
theorem dX11_areTwo_8 : decode cX11_areTwo 8 = .ok (.aload_n 0, 1) := by decide +kernel
theorem dX11_areTwo_9 : decode cX11_areTwo 9 = .ok (.iload_n 2, 1) := by decide +kernel
theorem dX11_areTwo_10 : decode cX11_areTwo 10 = .ok (.invokevirtual 426, 3) := by decide +kernel
theorem dX11_areTwo_13 : decode cX11_areTwo 13 = .ok (.ifCond .eq 20, 3) := by decide +kernel
theorem dX11_areTwo_16 : decode cX11_areTwo 16 = .ok (.iload_n 1, 1) := by decide +kernel
theorem dX11_areTwo_17 : decode cX11_areTwo 17 = .ok (.iload_n 2, 1) := by decide +kernel
theorem dX11_areTwo_18 : decode cX11_areTwo 18 = .ok (.if_icmp .eq 15, 3) := by decide +kernel
theorem dX11_areTwo_21 : decode cX11_areTwo 21 = .ok (.aload_n 0, 1) := by decide +kernel
theorem dX11_areTwo_22 : decode cX11_areTwo 22 = .ok (.iload_n 3, 1) := by decide +kernel
theorem dX11_areTwo_23 : decode cX11_areTwo 23 = .ok (.invokevirtual 432, 3) := by decide +kernel
theorem dX11_areTwo_26 : decode cX11_areTwo 26 = .ok (.ifCond .eq 7, 3) := by decide +kernel
theorem dX11_areTwo_29 : decode cX11_areTwo 29 = .ok (.iconst 1, 1) := by decide +kernel
theorem dX11_areTwo_30 : decode cX11_areTwo 30 = .ok (.goto 4, 3) := by decide +kernel
theorem dX11_areTwo_33 : decode cX11_areTwo 33 = .ok (.iconst 0, 1) := by decide +kernel
theorem dX11_areTwo_34 : decode cX11_areTwo 34 = .ok (.ireturn, 1) := by decide +kernel
theorem dX11_rests_0 : decode cX11_rests 0 = .ok (.aload_n 0, 1) := by decide +kernel
theorem dX11_rests_1 : decode cX11_rests 1 = .ok (.iconst 0, 1) := by decide +kernel
theorem dX11_rests_2 : decode cX11_rests 2 = .ok (.putfield 157, 3) := by decide +kernel
theorem dX11_rests_5 : decode cX11_rests 5 = .ok (.aload_n 0, 1) := by decide +kernel
theorem dX11_rests_6 : decode cX11_rests 6 = .ok (.iload_n 1, 1) := by decide +kernel
theorem dX11_rests_7 : decode cX11_rests 7 = .ok (.iload_n 2, 1) := by decide +kernel
theorem dX11_rests_8 : decode cX11_rests 8 = .ok (.iload_n 3, 1) := by decide +kernel
theorem dX11_rests_9 : decode cX11_rests 9 = .ok (.invokevirtual 501, 3) := by decide +kernel
theorem dX11_rests_12 : decode cX11_rests 12 = .ok (.ifCond .eq 14, 3) := by decide +kernel
theorem dX11_rests_15 : decode cX11_rests 15 = .ok (.aload_n 0, 1) := by decide +kernel
theorem dX11_rests_16 : decode cX11_rests 16 = .ok (.iload_n 1, 1) := by decide +kernel
theorem dX11_rests_17 : decode cX11_rests 17 = .ok (.iload_n 2, 1) := by decide +kernel
theorem dX11_rests_18 : decode cX11_rests 18 = .ok (.iload_n 3, 1) := by decide +kernel
theorem dX11_rests_19 : decode cX11_rests 19 = .ok (.iconst (-1), 1) := by decide +kernel
theorem dX11_rests_20 : decode cX11_rests 20 = .ok (.invokevirtual 504, 3) := by decide +kernel
theorem dX11_rests_23 : decode cX11_rests 23 = .ok (.goto 4, 3) := by decide +kernel
theorem dX11_rests_26 : decode cX11_rests 26 = .ok (.iconst (-1), 1) := by decide +kernel
theorem dX11_rests_27 : decode cX11_rests 27 = .ok (.ireturn, 1) := by decide +kernel
theorem dX11_rest_0 : decode cX11_rest 0 = .ok (.aload_n 0, 1) := by decide +kernel
theorem dX11_rest_1 : decode cX11_rest 1 = .ok (.iconst 0, 1) := by decide +kernel
theorem dX11_rest_2 : decode cX11_rest 2 = .ok (.putfield 157, 3) := by decide +kernel
theorem dX11_rest_5 : decode cX11_rest 5 = .ok (.aload_n 0, 1) := by decide +kernel
theorem dX11_rest_6 : decode cX11_rest 6 = .ok (.iload_n 1, 1) := by decide +kernel
theorem dX11_rest_7 : decode cX11_rest 7 = .ok (.iload_n 2, 1) := by decide +kernel
theorem dX11_rest_8 : decode cX11_rest 8 = .ok (.iload_n 3, 1) := by decide +kernel
theorem dX11_rest_9 : decode cX11_rest 9 = .ok (.invokevirtual 501, 3) := by decide +kernel
theorem dX11_rest_12 : decode cX11_rest 12 = .ok (.ifCond .eq 20, 3) := by decide +kernel
theorem dX11_rest_15 : decode cX11_rest 15 = .ok (.iload 4, 2) := by decide +kernel
theorem dX11_rest_17 : decode cX11_rest 17 = .ok (.ifCond .lt 15, 3) := by decide +kernel
theorem dX11_rest_20 : decode cX11_rest 20 = .ok (.aload_n 0, 1) := by decide +kernel
theorem dX11_rest_21 : decode cX11_rest 21 = .ok (.iload_n 1, 1) := by decide +kernel
theorem dX11_rest_22 : decode cX11_rest 22 = .ok (.iload_n 2, 1) := by decide +kernel
theorem dX11_rest_23 : decode cX11_rest 23 = .ok (.iload_n 3, 1) := by decide +kernel
theorem dX11_rest_24 : decode cX11_rest 24 = .ok (.iload 4, 2) := by decide +kernel
theorem dX11_rest_26 : decode cX11_rest 26 = .ok (.invokevirtual 504, 3) := by decide +kernel
theorem dX11_rest_29 : decode cX11_rest 29 = .ok (.goto 4, 3) := by decide +kernel
theorem dX11_rest_32 : decode cX11_rest 32 = .ok (.iconst (-1), 1) := by decide +kernel
theorem dX11_rest_33 : decode cX11_rest 33 = .ok (.ireturn, 1) := by decide +kernel
theorem dX11_common_0 : decode cX11_common 0 = .ok (.lload_n 0, 1) := by decide +kernel
theorem dX11_common_1 : decode cX11_common 1 = .ok (.lstore 4, 2) := by decide +kernel
theorem dX11_common_3 : decode cX11_common 3 = .ok (.lload_n 2, 1) := by decide +kernel
theorem dX11_common_4 : decode cX11_common 4 = .ok (.lstore 6, 2) := by decide +kernel
theorem dX11_common_6 : decode cX11_common 6 = .ok (.lload 6, 2) := by decide +kernel
theorem dX11_common_8 : decode cX11_common 8 = .ok (.lconst 0, 1) := by decide +kernel
theorem dX11_common_9 : decode cX11_common 9 = .ok (.lcmp, 1) := by decide +kernel
theorem dX11_common_10 : decode cX11_common 10 = .ok (.ifCond .eq 21, 3) := by decide +kernel
theorem dX11_common_13 : decode cX11_common 13 = .ok (.lload 4, 2) := by decide +kernel
theorem dX11_common_15 : decode cX11_common 15 = .ok (.lload 6, 2) := by decide +kernel
theorem dX11_common_17 : decode cX11_common 17 = .ok (.lrem, 1) := by decide +kernel
theorem dX11_common_18 : decode cX11_common 18 = .ok (.lstore 8, 2) := by decide +kernel
theorem dX11_common_20 : decode cX11_common 20 = .ok (.lload 6, 2) := by decide +kernel
theorem dX11_common_22 : decode cX11_common 22 = .ok (.lstore 4, 2) := by decide +kernel
theorem dX11_common_24 : decode cX11_common 24 = .ok (.lload 8, 2) := by decide +kernel
theorem dX11_common_26 : decode cX11_common 26 = .ok (.lstore 6, 2) := by decide +kernel
theorem dX11_common_28 : decode cX11_common 28 = .ok (.goto (-22), 3) := by decide +kernel
theorem dX11_common_31 : decode cX11_common 31 = .ok (.lload 4, 2) := by decide +kernel
theorem dX11_common_33 : decode cX11_common 33 = .ok (.lreturn, 1) := by decide +kernel
theorem dX11_calm_0 : decode cX11_calm 0 = .ok (.aload_n 0, 1) := by decide +kernel
theorem dX11_calm_1 : decode cX11_calm 1 = .ok (.iconst 0, 1) := by decide +kernel
theorem dX11_calm_2 : decode cX11_calm 2 = .ok (.putfield 157, 3) := by decide +kernel
theorem dX11_calm_5 : decode cX11_calm 5 = .ok (.iload_n 1, 1) := by decide +kernel
theorem dX11_calm_6 : decode cX11_calm 6 = .ok (.ifCond .lt 18, 3) := by decide +kernel
theorem dX11_calm_9 : decode cX11_calm 9 = .ok (.iload_n 1, 1) := by decide +kernel
theorem dX11_calm_10 : decode cX11_calm 10 = .ok (.bipush 6, 2) := by decide +kernel
theorem dX11_calm_12 : decode cX11_calm 12 = .ok (.if_icmp .gt 12, 3) := by decide +kernel
theorem dX11_calm_15 : decode cX11_calm 15 = .ok (.iload_n 2, 1) := by decide +kernel
theorem dX11_calm_16 : decode cX11_calm 16 = .ok (.ifCond .lt 8, 3) := by decide +kernel
theorem dX11_calm_19 : decode cX11_calm 19 = .ok (.iload_n 2, 1) := by decide +kernel
theorem dX11_calm_20 : decode cX11_calm 20 = .ok (.iconst 1, 1) := by decide +kernel
theorem dX11_calm_21 : decode cX11_calm 21 = .ok (.if_icmp .le 7, 3) := by decide +kernel
theorem dX11_calm_24 : decode cX11_calm 24 = .ok (.ldc2_w 507, 3) := by decide +kernel
theorem dX11_calm_27 : decode cX11_calm 27 = .ok (.lreturn, 1) := by decide +kernel
theorem dX11_calm_28 : decode cX11_calm 28 = .ok (.lconst 1, 1) := by decide +kernel
theorem dX11_calm_29 : decode cX11_calm 29 = .ok (.lstore_n 3, 1) := by decide +kernel
theorem dX11_calm_30 : decode cX11_calm 30 = .ok (.lconst 1, 1) := by decide +kernel
theorem dX11_calm_31 : decode cX11_calm 31 = .ok (.lstore 5, 2) := by decide +kernel
theorem dX11_calm_33 : decode cX11_calm 33 = .ok (.iconst 0, 1) := by decide +kernel
theorem dX11_calm_34 : decode cX11_calm 34 = .ok (.istore 7, 2) := by decide +kernel
theorem dX11_calm_36 : decode cX11_calm 36 = .ok (.iload 7, 2) := by decide +kernel
theorem dX11_calm_38 : decode cX11_calm 38 = .ok (.iload_n 1, 1) := by decide +kernel
theorem dX11_calm_39 : decode cX11_calm 39 = .ok (.if_icmp .ge 32, 3) := by decide +kernel
theorem dX11_calm_42 : decode cX11_calm 42 = .ok (.lload_n 3, 1) := by decide +kernel
theorem dX11_calm_43 : decode cX11_calm 43 = .ok (.ldc2_w 509, 3) := by decide +kernel
theorem dX11_calm_46 : decode cX11_calm 46 = .ok (.aload_n 0, 1) := by decide +kernel
theorem dX11_calm_47 : decode cX11_calm 47 = .ok (.getfield 13, 3) := by decide +kernel
theorem dX11_calm_50 : decode cX11_calm 50 = .ok (.bipush 6, 2) := by decide +kernel
theorem dX11_calm_52 : decode cX11_calm 52 = .ok (.iaload, 1) := by decide +kernel
theorem dX11_calm_53 : decode cX11_calm 53 = .ok (.i2l, 1) := by decide +kernel
theorem dX11_calm_54 : decode cX11_calm 54 = .ok (.lsub, 1) := by decide +kernel
theorem dX11_calm_55 : decode cX11_calm 55 = .ok (.lmul, 1) := by decide +kernel
theorem dX11_calm_56 : decode cX11_calm 56 = .ok (.lstore_n 3, 1) := by decide +kernel
theorem dX11_calm_57 : decode cX11_calm 57 = .ok (.lload 5, 2) := by decide +kernel
theorem dX11_calm_59 : decode cX11_calm 59 = .ok (.ldc2_w 509, 3) := by decide +kernel
theorem dX11_calm_62 : decode cX11_calm 62 = .ok (.lmul, 1) := by decide +kernel
theorem dX11_calm_63 : decode cX11_calm 63 = .ok (.lstore 5, 2) := by decide +kernel
theorem dX11_calm_65 : decode cX11_calm 65 = .ok (.iinc 7 1, 3) := by decide +kernel
theorem dX11_calm_68 : decode cX11_calm 68 = .ok (.goto (-32), 3) := by decide +kernel
theorem dX11_calm_71 : decode cX11_calm 71 = .ok (.lload_n 3, 1) := by decide +kernel
theorem dX11_calm_72 : decode cX11_calm 72 = .ok (.lload 5, 2) := by decide +kernel
theorem dX11_calm_74 : decode cX11_calm 74 = .ok (.invokestatic 511, 3) := by decide +kernel
theorem dX11_calm_77 : decode cX11_calm 77 = .ok (.lstore 7, 2) := by decide +kernel
theorem dX11_calm_79 : decode cX11_calm 79 = .ok (.iload_n 2, 1) := by decide +kernel
theorem dX11_calm_80 : decode cX11_calm 80 = .ok (.ifCond .ne 10, 3) := by decide +kernel
theorem dX11_calm_83 : decode cX11_calm 83 = .ok (.lload_n 3, 1) := by decide +kernel
theorem dX11_calm_84 : decode cX11_calm 84 = .ok (.lload 7, 2) := by decide +kernel
theorem dX11_calm_86 : decode cX11_calm 86 = .ok (.ldiv, 1) := by decide +kernel
theorem dX11_calm_87 : decode cX11_calm 87 = .ok (.goto 8, 3) := by decide +kernel
theorem dX11_calm_90 : decode cX11_calm 90 = .ok (.lload 5, 2) := by decide +kernel
theorem dX11_calm_92 : decode cX11_calm 92 = .ok (.lload 7, 2) := by decide +kernel
theorem dX11_calm_94 : decode cX11_calm 94 = .ok (.ldiv, 1) := by decide +kernel
theorem dX11_calm_95 : decode cX11_calm 95 = .ok (.lreturn, 1) := by decide +kernel
theorem dX11_holderOf_0 : decode cX11_holderOf 0 = .ok (.iconst (-1), 1) := by decide +kernel
theorem dX11_holderOf_1 : decode cX11_holderOf 1 = .ok (.istore_n 3, 1) := by decide +kernel
theorem dX11_holderOf_2 : decode cX11_holderOf 2 = .ok (.iconst 0, 1) := by decide +kernel
theorem dX11_holderOf_3 : decode cX11_holderOf 3 = .ok (.istore 4, 2) := by decide +kernel
theorem dX11_holderOf_5 : decode cX11_holderOf 5 = .ok (.iload 4, 2) := by decide +kernel
theorem dX11_holderOf_7 : decode cX11_holderOf 7 = .ok (.aload_n 0, 1) := by decide +kernel
theorem dX11_holderOf_8 : decode cX11_holderOf 8 = .ok (.getfield 13, 3) := by decide +kernel
theorem dX11_holderOf_11 : decode cX11_holderOf 11 = .ok (.iconst 0, 1) := by decide +kernel
theorem dX11_holderOf_12 : decode cX11_holderOf 12 = .ok (.iaload, 1) := by decide +kernel
theorem dX11_holderOf_13 : decode cX11_holderOf 13 = .ok (.if_icmp .ge 27, 3) := by decide +kernel
theorem dX11_holderOf_16 : decode cX11_holderOf 16 = .ok (.aload_n 0, 1) := by decide +kernel
theorem dX11_holderOf_17 : decode cX11_holderOf 17 = .ok (.getfield 99, 3) := by decide +kernel
theorem dX11_holderOf_20 : decode cX11_holderOf 20 = .ok (.iconst 5, 1) := by decide +kernel
theorem dX11_holderOf_21 : decode cX11_holderOf 21 = .ok (.iload 4, 2) := by decide +kernel
theorem dX11_holderOf_23 : decode cX11_holderOf 23 = .ok (.imul, 1) := by decide +kernel
theorem dX11_holderOf_24 : decode cX11_holderOf 24 = .ok (.iload_n 2, 1) := by decide +kernel
theorem dX11_holderOf_25 : decode cX11_holderOf 25 = .ok (.iadd, 1) := by decide +kernel
theorem dX11_holderOf_26 : decode cX11_holderOf 26 = .ok (.iaload, 1) := by decide +kernel
theorem dX11_holderOf_27 : decode cX11_holderOf 27 = .ok (.iload_n 1, 1) := by decide +kernel
theorem dX11_holderOf_28 : decode cX11_holderOf 28 = .ok (.if_icmp .ne 6, 3) := by decide +kernel
theorem dX11_holderOf_31 : decode cX11_holderOf 31 = .ok (.iload 4, 2) := by decide +kernel
theorem dX11_holderOf_33 : decode cX11_holderOf 33 = .ok (.istore_n 3, 1) := by decide +kernel
theorem dX11_holderOf_34 : decode cX11_holderOf 34 = .ok (.iinc 4 1, 3) := by decide +kernel
theorem dX11_holderOf_37 : decode cX11_holderOf 37 = .ok (.goto (-32), 3) := by decide +kernel
theorem dX11_holderOf_40 : decode cX11_holderOf 40 = .ok (.iload_n 3, 1) := by decide +kernel
theorem dX11_holderOf_41 : decode cX11_holderOf 41 = .ok (.ireturn, 1) := by decide +kernel
theorem dX11_whose_0 : decode cX11_whose 0 = .ok (.aload_n 0, 1) := by decide +kernel
theorem dX11_whose_1 : decode cX11_whose 1 = .ok (.iconst 0, 1) := by decide +kernel
theorem dX11_whose_2 : decode cX11_whose 2 = .ok (.putfield 157, 3) := by decide +kernel
theorem dX11_whose_5 : decode cX11_whose 5 = .ok (.aload_n 0, 1) := by decide +kernel
theorem dX11_whose_6 : decode cX11_whose 6 = .ok (.iload_n 1, 1) := by decide +kernel
theorem dX11_whose_7 : decode cX11_whose 7 = .ok (.invokevirtual 426, 3) := by decide +kernel
theorem dX11_whose_10 : decode cX11_whose 10 = .ok (.ifCond .eq 20, 3) := by decide +kernel
theorem dX11_whose_13 : decode cX11_whose 13 = .ok (.aload_n 0, 1) := by decide +kernel
theorem dX11_whose_14 : decode cX11_whose 14 = .ok (.iload_n 2, 1) := by decide +kernel
theorem dX11_whose_15 : decode cX11_whose 15 = .ok (.invokevirtual 432, 3) := by decide +kernel
theorem dX11_whose_18 : decode cX11_whose 18 = .ok (.ifCond .eq 12, 3) := by decide +kernel
theorem dX11_whose_21 : decode cX11_whose 21 = .ok (.aload_n 0, 1) := by decide +kernel
theorem dX11_whose_22 : decode cX11_whose 22 = .ok (.iload_n 1, 1) := by decide +kernel
theorem dX11_whose_23 : decode cX11_whose 23 = .ok (.iload_n 2, 1) := by decide +kernel
theorem dX11_whose_24 : decode cX11_whose 24 = .ok (.invokevirtual 514, 3) := by decide +kernel
theorem dX11_whose_27 : decode cX11_whose 27 = .ok (.goto 4, 3) := by decide +kernel
theorem dX11_whose_30 : decode cX11_whose 30 = .ok (.iconst (-1), 1) := by decide +kernel
theorem dX11_whose_31 : decode cX11_whose 31 = .ok (.ireturn, 1) := by decide +kernel
theorem dX11_isLost_0 : decode cX11_isLost 0 = .ok (.iconst 0, 1) := by decide +kernel
theorem dX11_isLost_1 : decode cX11_isLost 1 = .ok (.istore_n 2, 1) := by decide +kernel
theorem dX11_isLost_2 : decode cX11_isLost 2 = .ok (.iload_n 2, 1) := by decide +kernel
theorem dX11_isLost_3 : decode cX11_isLost 3 = .ok (.aload_n 0, 1) := by decide +kernel
theorem dX11_isLost_4 : decode cX11_isLost 4 = .ok (.getfield 13, 3) := by decide +kernel
theorem dX11_isLost_7 : decode cX11_isLost 7 = .ok (.iconst 1, 1) := by decide +kernel
theorem dX11_isLost_8 : decode cX11_isLost 8 = .ok (.iaload, 1) := by decide +kernel
theorem dX11_isLost_9 : decode cX11_isLost 9 = .ok (.if_icmp .ge 25, 3) := by decide +kernel
theorem dX11_isLost_12 : decode cX11_isLost 12 = .ok (.aload_n 0, 1) := by decide +kernel
theorem dX11_isLost_13 : decode cX11_isLost 13 = .ok (.getfield 99, 3) := by decide +kernel
theorem dX11_isLost_16 : decode cX11_isLost 16 = .ok (.iconst 5, 1) := by decide +kernel
theorem dX11_isLost_17 : decode cX11_isLost 17 = .ok (.iload_n 1, 1) := by decide +kernel
theorem dX11_isLost_18 : decode cX11_isLost 18 = .ok (.imul, 1) := by decide +kernel
theorem dX11_isLost_19 : decode cX11_isLost 19 = .ok (.iload_n 2, 1) := by decide +kernel
theorem dX11_isLost_20 : decode cX11_isLost 20 = .ok (.iadd, 1) := by decide +kernel
theorem dX11_isLost_21 : decode cX11_isLost 21 = .ok (.iaload, 1) := by decide +kernel
theorem dX11_isLost_22 : decode cX11_isLost 22 = .ok (.iload_n 1, 1) := by decide +kernel
theorem dX11_isLost_23 : decode cX11_isLost 23 = .ok (.if_icmp .ne 5, 3) := by decide +kernel
theorem dX11_isLost_26 : decode cX11_isLost 26 = .ok (.iconst 0, 1) := by decide +kernel
theorem dX11_isLost_27 : decode cX11_isLost 27 = .ok (.ireturn, 1) := by decide +kernel
theorem dX11_isLost_28 : decode cX11_isLost 28 = .ok (.iinc 2 1, 3) := by decide +kernel
theorem dX11_isLost_31 : decode cX11_isLost 31 = .ok (.goto (-29), 3) := by decide +kernel
theorem dX11_isLost_34 : decode cX11_isLost 34 = .ok (.aload_n 0, 1) := by decide +kernel
theorem dX11_isLost_35 : decode cX11_isLost 35 = .ok (.getfield 13, 3) := by decide +kernel
theorem dX11_isLost_38 : decode cX11_isLost 38 = .ok (.iconst 1, 1) := by decide +kernel
theorem dX11_isLost_39 : decode cX11_isLost 39 = .ok (.iaload, 1) := by decide +kernel
theorem dX11_isLost_40 : decode cX11_isLost 40 = .ok (.ifCond .le 7, 3) := by decide +kernel
theorem dX11_isLost_43 : decode cX11_isLost 43 = .ok (.iconst 1, 1) := by decide +kernel
theorem dX11_isLost_44 : decode cX11_isLost 44 = .ok (.goto 4, 3) := by decide +kernel
theorem dX11_isLost_47 : decode cX11_isLost 47 = .ok (.iconst 0, 1) := by decide +kernel
theorem dX11_isLost_48 : decode cX11_isLost 48 = .ok (.ireturn, 1) := by decide +kernel
theorem dX11_those_0 : decode cX11_those 0 = .ok (.aload_n 0, 1) := by decide +kernel
theorem dX11_those_1 : decode cX11_those 1 = .ok (.iconst 0, 1) := by decide +kernel
theorem dX11_those_2 : decode cX11_those 2 = .ok (.putfield 157, 3) := by decide +kernel
theorem dX11_those_5 : decode cX11_those 5 = .ok (.iload_n 1, 1) := by decide +kernel
theorem dX11_those_6 : decode cX11_those 6 = .ok (.ifCond .lt 8, 3) := by decide +kernel
theorem dX11_those_9 : decode cX11_those 9 = .ok (.iload_n 1, 1) := by decide +kernel
theorem dX11_those_10 : decode cX11_those 10 = .ok (.iconst 2, 1) := by decide +kernel
theorem dX11_those_11 : decode cX11_those 11 = .ok (.if_icmp .le 5, 3) := by decide +kernel
theorem dX11_those_14 : decode cX11_those 14 = .ok (.iconst (-1), 1) := by decide +kernel
theorem dX11_those_15 : decode cX11_those 15 = .ok (.ireturn, 1) := by decide +kernel
theorem dX11_those_16 : decode cX11_those 16 = .ok (.iconst 0, 1) := by decide +kernel
theorem dX11_those_17 : decode cX11_those 17 = .ok (.istore_n 2, 1) := by decide +kernel
theorem dX11_those_18 : decode cX11_those 18 = .ok (.iconst 0, 1) := by decide +kernel
theorem dX11_those_19 : decode cX11_those 19 = .ok (.istore_n 3, 1) := by decide +kernel
theorem dX11_those_20 : decode cX11_those 20 = .ok (.iload_n 3, 1) := by decide +kernel
theorem dX11_those_21 : decode cX11_those 21 = .ok (.aload_n 0, 1) := by decide +kernel
theorem dX11_those_22 : decode cX11_those 22 = .ok (.getfield 13, 3) := by decide +kernel
theorem dX11_those_25 : decode cX11_those 25 = .ok (.iconst 0, 1) := by decide +kernel
theorem dX11_those_26 : decode cX11_those 26 = .ok (.iaload, 1) := by decide +kernel
theorem dX11_those_27 : decode cX11_those 27 = .ok (.if_icmp .ge 72, 3) := by decide +kernel
theorem dX11_those_30 : decode cX11_those 30 = .ok (.iload_n 1, 1) := by decide +kernel
theorem dX11_those_31 : decode cX11_those 31 = .ok (.iconst 2, 1) := by decide +kernel
theorem dX11_those_32 : decode cX11_those 32 = .ok (.if_icmp .ge 67, 3) := by decide +kernel
theorem dX11_those_35 : decode cX11_those 35 = .ok (.aload_n 0, 1) := by decide +kernel
theorem dX11_those_36 : decode cX11_those 36 = .ok (.iconst 0, 1) := by decide +kernel
theorem dX11_those_37 : decode cX11_those 37 = .ok (.iload_n 3, 1) := by decide +kernel
theorem dX11_those_38 : decode cX11_those 38 = .ok (.invokevirtual 369, 3) := by decide +kernel
theorem dX11_those_41 : decode cX11_those 41 = .ok (.istore 4, 2) := by decide +kernel
theorem dX11_those_43 : decode cX11_those 43 = .ok (.iload_n 1, 1) := by decide +kernel
theorem dX11_those_44 : decode cX11_those 44 = .ok (.ifCond .ne 11, 3) := by decide +kernel
theorem dX11_those_47 : decode cX11_those 47 = .ok (.aload_n 0, 1) := by decide +kernel
theorem dX11_those_48 : decode cX11_those 48 = .ok (.iload_n 3, 1) := by decide +kernel
theorem dX11_those_49 : decode cX11_those 49 = .ok (.invokevirtual 517, 3) := by decide +kernel
theorem dX11_those_52 : decode cX11_those 52 = .ok (.goto 24, 3) := by decide +kernel
theorem dX11_those_55 : decode cX11_those 55 = .ok (.iload 4, 2) := by decide +kernel
theorem dX11_those_57 : decode cX11_those 57 = .ok (.ifCond .le 18, 3) := by decide +kernel
theorem dX11_those_60 : decode cX11_those 60 = .ok (.iload 4, 2) := by decide +kernel
theorem dX11_those_62 : decode cX11_those 62 = .ok (.aload_n 0, 1) := by decide +kernel
theorem dX11_those_63 : decode cX11_those 63 = .ok (.getfield 13, 3) := by decide +kernel
theorem dX11_those_66 : decode cX11_those 66 = .ok (.iconst 1, 1) := by decide +kernel
theorem dX11_those_67 : decode cX11_those 67 = .ok (.iaload, 1) := by decide +kernel
theorem dX11_those_68 : decode cX11_those 68 = .ok (.if_icmp .ge 7, 3) := by decide +kernel
theorem dX11_those_71 : decode cX11_those 71 = .ok (.iconst 1, 1) := by decide +kernel
theorem dX11_those_72 : decode cX11_those 72 = .ok (.goto 4, 3) := by decide +kernel
theorem dX11_those_75 : decode cX11_those 75 = .ok (.iconst 0, 1) := by decide +kernel
theorem dX11_those_76 : decode cX11_those 76 = .ok (.istore 5, 2) := by decide +kernel
theorem dX11_those_78 : decode cX11_those 78 = .ok (.iload_n 2, 1) := by decide +kernel
theorem dX11_those_79 : decode cX11_those 79 = .ok (.iload 5, 2) := by decide +kernel
theorem dX11_those_81 : decode cX11_those 81 = .ok (.ifCond .eq 9, 3) := by decide +kernel
theorem dX11_those_84 : decode cX11_those 84 = .ok (.iconst 1, 1) := by decide +kernel
theorem dX11_those_85 : decode cX11_those 85 = .ok (.iload_n 3, 1) := by decide +kernel
theorem dX11_those_86 : decode cX11_those 86 = .ok (.ishl, 1) := by decide +kernel
theorem dX11_those_87 : decode cX11_those 87 = .ok (.goto 4, 3) := by decide +kernel
theorem dX11_those_90 : decode cX11_those 90 = .ok (.iconst 0, 1) := by decide +kernel
theorem dX11_those_91 : decode cX11_those 91 = .ok (.ior, 1) := by decide +kernel
theorem dX11_those_92 : decode cX11_those 92 = .ok (.istore_n 2, 1) := by decide +kernel
theorem dX11_those_93 : decode cX11_those 93 = .ok (.iinc 3 1, 3) := by decide +kernel
theorem dX11_those_96 : decode cX11_those 96 = .ok (.goto (-76), 3) := by decide +kernel
theorem dX11_those_99 : decode cX11_those 99 = .ok (.iconst 0, 1) := by decide +kernel
theorem dX11_those_100 : decode cX11_those 100 = .ok (.istore_n 3, 1) := by decide +kernel
theorem dX11_those_101 : decode cX11_those 101 = .ok (.iload_n 3, 1) := by decide +kernel
theorem dX11_those_102 : decode cX11_those 102 = .ok (.aload_n 0, 1) := by decide +kernel
theorem dX11_those_103 : decode cX11_those 103 = .ok (.getfield 93, 3) := by decide +kernel
theorem dX11_those_106 : decode cX11_those 106 = .ok (.iconst 0, 1) := by decide +kernel
theorem dX11_those_107 : decode cX11_those 107 = .ok (.iaload, 1) := by decide +kernel
theorem dX11_those_108 : decode cX11_those 108 = .ok (.if_icmp .ge 33, 3) := by decide +kernel
theorem dX11_those_111 : decode cX11_those 111 = .ok (.iload_n 1, 1) := by decide +kernel
theorem dX11_those_112 : decode cX11_those 112 = .ok (.iconst 2, 1) := by decide +kernel
theorem dX11_those_113 : decode cX11_those 113 = .ok (.if_icmp .ne 28, 3) := by decide +kernel
theorem dX11_those_116 : decode cX11_those 116 = .ok (.iload_n 2, 1) := by decide +kernel
theorem dX11_those_117 : decode cX11_those 117 = .ok (.aload_n 0, 1) := by decide +kernel
theorem dX11_those_118 : decode cX11_those 118 = .ok (.iconst 0, 1) := by decide +kernel
theorem dX11_those_119 : decode cX11_those 119 = .ok (.iload_n 3, 1) := by decide +kernel
theorem dX11_those_120 : decode cX11_those 120 = .ok (.invokevirtual 385, 3) := by decide +kernel
theorem dX11_those_123 : decode cX11_those 123 = .ok (.ifCond .eq 9, 3) := by decide +kernel
theorem dX11_those_126 : decode cX11_those 126 = .ok (.iconst 1, 1) := by decide +kernel
theorem dX11_those_127 : decode cX11_those 127 = .ok (.iload_n 3, 1) := by decide +kernel
theorem dX11_those_128 : decode cX11_those 128 = .ok (.ishl, 1) := by decide +kernel
theorem dX11_those_129 : decode cX11_those 129 = .ok (.goto 4, 3) := by decide +kernel
theorem dX11_those_132 : decode cX11_those 132 = .ok (.iconst 0, 1) := by decide +kernel
theorem dX11_those_133 : decode cX11_those 133 = .ok (.ior, 1) := by decide +kernel
theorem dX11_those_134 : decode cX11_those 134 = .ok (.istore_n 2, 1) := by decide +kernel
theorem dX11_those_135 : decode cX11_those 135 = .ok (.iinc 3 1, 3) := by decide +kernel
theorem dX11_those_138 : decode cX11_those 138 = .ok (.goto (-37), 3) := by decide +kernel
theorem dX11_those_141 : decode cX11_those 141 = .ok (.iload_n 2, 1) := by decide +kernel
theorem dX11_those_142 : decode cX11_those 142 = .ok (.ireturn, 1) := by decide +kernel
theorem dX11_see_0 : decode cX11_see 0 = .ok (.aload_n 0, 1) := by decide +kernel
theorem dX11_see_1 : decode cX11_see 1 = .ok (.iconst 0, 1) := by decide +kernel
theorem dX11_see_2 : decode cX11_see 2 = .ok (.putfield 157, 3) := by decide +kernel
theorem dX11_see_5 : decode cX11_see 5 = .ok (.iload_n 1, 1) := by decide +kernel
theorem dX11_see_6 : decode cX11_see 6 = .ok (.iconst 1, 1) := by decide +kernel
theorem dX11_see_7 : decode cX11_see 7 = .ok (.if_icmp .lt 34, 3) := by decide +kernel
theorem dX11_see_10 : decode cX11_see 10 = .ok (.iload_n 1, 1) := by decide +kernel
theorem dX11_see_11 : decode cX11_see 11 = .ok (.bipush 40, 2) := by decide +kernel
theorem dX11_see_13 : decode cX11_see 13 = .ok (.if_icmp .gt 28, 3) := by decide +kernel
theorem dX11_see_16 : decode cX11_see 16 = .ok (.aload_n 0, 1) := by decide +kernel
theorem dX11_see_17 : decode cX11_see 17 = .ok (.iload_n 2, 1) := by decide +kernel
theorem dX11_see_18 : decode cX11_see 18 = .ok (.invokevirtual 426, 3) := by decide +kernel
theorem dX11_see_21 : decode cX11_see 21 = .ok (.ifCond .eq 20, 3) := by decide +kernel
theorem dX11_see_24 : decode cX11_see 24 = .ok (.aload_n 0, 1) := by decide +kernel
theorem dX11_see_25 : decode cX11_see 25 = .ok (.iload_n 3, 1) := by decide +kernel
theorem dX11_see_26 : decode cX11_see 26 = .ok (.invokevirtual 432, 3) := by decide +kernel
theorem dX11_see_29 : decode cX11_see 29 = .ok (.ifCond .eq 12, 3) := by decide +kernel
theorem dX11_see_32 : decode cX11_see 32 = .ok (.aload_n 0, 1) := by decide +kernel
theorem dX11_see_33 : decode cX11_see 33 = .ok (.getfield 313, 3) := by decide +kernel
theorem dX11_see_36 : decode cX11_see 36 = .ok (.bipush 24, 2) := by decide +kernel
theorem dX11_see_38 : decode cX11_see 38 = .ok (.if_icmp .ne 5, 3) := by decide +kernel
theorem dX11_see_41 : decode cX11_see 41 = .ok (.iconst (-1), 1) := by decide +kernel
theorem dX11_see_42 : decode cX11_see 42 = .ok (.ireturn, 1) := by decide +kernel
theorem dX11_see_43 : decode cX11_see 43 = .ok (.aload_n 0, 1) := by decide +kernel
theorem dX11_see_44 : decode cX11_see 44 = .ok (.getfield 138, 3) := by decide +kernel
theorem dX11_see_47 : decode cX11_see 47 = .ok (.aload_n 0, 1) := by decide +kernel
theorem dX11_see_48 : decode cX11_see 48 = .ok (.getfield 313, 3) := by decide +kernel
theorem dX11_see_51 : decode cX11_see 51 = .ok (.iload_n 1, 1) := by decide +kernel
theorem dX11_see_52 : decode cX11_see 52 = .ok (.iastore, 1) := by decide +kernel
theorem dX11_see_53 : decode cX11_see 53 = .ok (.aload_n 0, 1) := by decide +kernel
theorem dX11_see_54 : decode cX11_see 54 = .ok (.getfield 141, 3) := by decide +kernel
theorem dX11_see_57 : decode cX11_see 57 = .ok (.aload_n 0, 1) := by decide +kernel
theorem dX11_see_58 : decode cX11_see 58 = .ok (.getfield 313, 3) := by decide +kernel
theorem dX11_see_61 : decode cX11_see 61 = .ok (.iconst 5, 1) := by decide +kernel
theorem dX11_see_62 : decode cX11_see 62 = .ok (.iload_n 2, 1) := by decide +kernel
theorem dX11_see_63 : decode cX11_see 63 = .ok (.imul, 1) := by decide +kernel
theorem dX11_see_64 : decode cX11_see 64 = .ok (.iload_n 3, 1) := by decide +kernel
theorem dX11_see_65 : decode cX11_see 65 = .ok (.iadd, 1) := by decide +kernel
theorem dX11_see_66 : decode cX11_see 66 = .ok (.iastore, 1) := by decide +kernel
theorem dX11_see_67 : decode cX11_see 67 = .ok (.aload_n 0, 1) := by decide +kernel
theorem dX11_see_68 : decode cX11_see 68 = .ok (.getfield 144, 3) := by decide +kernel
theorem dX11_see_71 : decode cX11_see 71 = .ok (.aload_n 0, 1) := by decide +kernel
theorem dX11_see_72 : decode cX11_see 72 = .ok (.getfield 313, 3) := by decide +kernel
theorem dX11_see_75 : decode cX11_see 75 = .ok (.iload 4, 2) := by decide +kernel
theorem dX11_see_77 : decode cX11_see 77 = .ok (.bastore, 1) := by decide +kernel
theorem dX11_see_78 : decode cX11_see 78 = .ok (.aload_n 0, 1) := by decide +kernel
theorem dX11_see_79 : decode cX11_see 79 = .ok (.getfield 148, 3) := by decide +kernel
theorem dX11_see_82 : decode cX11_see 82 = .ok (.aload_n 0, 1) := by decide +kernel
theorem dX11_see_83 : decode cX11_see 83 = .ok (.getfield 313, 3) := by decide +kernel
theorem dX11_see_86 : decode cX11_see 86 = .ok (.iconst (-1), 1) := by decide +kernel
theorem dX11_see_87 : decode cX11_see 87 = .ok (.iastore, 1) := by decide +kernel
theorem dX11_see_88 : decode cX11_see 88 = .ok (.aload_n 0, 1) := by decide +kernel
theorem dX11_see_89 : decode cX11_see 89 = .ok (.dup, 1) := by decide +kernel
theorem dX11_see_90 : decode cX11_see 90 = .ok (.getfield 313, 3) := by decide +kernel
theorem dX11_see_93 : decode cX11_see 93 = .ok (.iconst 1, 1) := by decide +kernel
theorem dX11_see_94 : decode cX11_see 94 = .ok (.iadd, 1) := by decide +kernel
theorem dX11_see_95 : decode cX11_see 95 = .ok (.putfield 313, 3) := by decide +kernel
theorem dX11_see_98 : decode cX11_see 98 = .ok (.aload_n 0, 1) := by decide +kernel
theorem dX11_see_99 : decode cX11_see 99 = .ok (.getfield 313, 3) := by decide +kernel
theorem dX11_see_102 : decode cX11_see 102 = .ok (.iconst 1, 1) := by decide +kernel
theorem dX11_see_103 : decode cX11_see 103 = .ok (.isub, 1) := by decide +kernel
theorem dX11_see_104 : decode cX11_see 104 = .ok (.ireturn, 1) := by decide +kernel
theorem dX11_out_0 : decode cX11_out 0 = .ok (.aload_n 0, 1) := by decide +kernel
theorem dX11_out_1 : decode cX11_out 1 = .ok (.iconst 0, 1) := by decide +kernel
theorem dX11_out_2 : decode cX11_out 2 = .ok (.putfield 157, 3) := by decide +kernel
theorem dX11_out_5 : decode cX11_out 5 = .ok (.iload_n 1, 1) := by decide +kernel
theorem dX11_out_6 : decode cX11_out 6 = .ok (.ifCond .lt 20, 3) := by decide +kernel
theorem dX11_out_9 : decode cX11_out 9 = .ok (.iload_n 1, 1) := by decide +kernel
theorem dX11_out_10 : decode cX11_out 10 = .ok (.aload_n 0, 1) := by decide +kernel
theorem dX11_out_11 : decode cX11_out 11 = .ok (.getfield 313, 3) := by decide +kernel
theorem dX11_out_14 : decode cX11_out 14 = .ok (.if_icmp .ge 12, 3) := by decide +kernel
theorem dX11_out_17 : decode cX11_out 17 = .ok (.aload_n 0, 1) := by decide +kernel
theorem dX11_out_18 : decode cX11_out 18 = .ok (.getfield 313, 3) := by decide +kernel
theorem dX11_out_21 : decode cX11_out 21 = .ok (.bipush 24, 2) := by decide +kernel
theorem dX11_out_23 : decode cX11_out 23 = .ok (.if_icmp .ne 5, 3) := by decide +kernel
theorem dX11_out_26 : decode cX11_out 26 = .ok (.iconst (-1), 1) := by decide +kernel
theorem dX11_out_27 : decode cX11_out 27 = .ok (.ireturn, 1) := by decide +kernel
theorem dX11_out_28 : decode cX11_out 28 = .ok (.aload_n 0, 1) := by decide +kernel
theorem dX11_out_29 : decode cX11_out 29 = .ok (.getfield 148, 3) := by decide +kernel
theorem dX11_out_32 : decode cX11_out 32 = .ok (.aload_n 0, 1) := by decide +kernel
theorem dX11_out_33 : decode cX11_out 33 = .ok (.getfield 313, 3) := by decide +kernel
theorem dX11_out_36 : decode cX11_out 36 = .ok (.iload_n 1, 1) := by decide +kernel
theorem dX11_out_37 : decode cX11_out 37 = .ok (.iastore, 1) := by decide +kernel
theorem dX11_out_38 : decode cX11_out 38 = .ok (.aload_n 0, 1) := by decide +kernel
theorem dX11_out_39 : decode cX11_out 39 = .ok (.dup, 1) := by decide +kernel
theorem dX11_out_40 : decode cX11_out 40 = .ok (.getfield 313, 3) := by decide +kernel
theorem dX11_out_43 : decode cX11_out 43 = .ok (.iconst 1, 1) := by decide +kernel
theorem dX11_out_44 : decode cX11_out 44 = .ok (.iadd, 1) := by decide +kernel
theorem dX11_out_45 : decode cX11_out 45 = .ok (.putfield 313, 3) := by decide +kernel
theorem dX11_out_48 : decode cX11_out 48 = .ok (.aload_n 0, 1) := by decide +kernel
theorem dX11_out_49 : decode cX11_out 49 = .ok (.getfield 313, 3) := by decide +kernel
theorem dX11_out_52 : decode cX11_out 52 = .ok (.iconst 1, 1) := by decide +kernel
theorem dX11_out_53 : decode cX11_out 53 = .ok (.isub, 1) := by decide +kernel
theorem dX11_out_54 : decode cX11_out 54 = .ok (.ireturn, 1) := by decide +kernel
theorem dX11_known_0 : decode cX11_known 0 = .ok (.aload_n 0, 1) := by decide +kernel
theorem dX11_known_1 : decode cX11_known 1 = .ok (.iconst 0, 1) := by decide +kernel
theorem dX11_known_2 : decode cX11_known 2 = .ok (.putfield 157, 3) := by decide +kernel
theorem dX11_known_5 : decode cX11_known 5 = .ok (.iload_n 1, 1) := by decide +kernel
theorem dX11_known_6 : decode cX11_known 6 = .ok (.iconst (-1), 1) := by decide +kernel
theorem dX11_known_7 : decode cX11_known 7 = .ok (.if_icmp .lt 11, 3) := by decide +kernel
theorem dX11_known_10 : decode cX11_known 10 = .ok (.iload_n 1, 1) := by decide +kernel
theorem dX11_known_11 : decode cX11_known 11 = .ok (.aload_n 0, 1) := by decide +kernel
theorem dX11_known_12 : decode cX11_known 12 = .ok (.getfield 313, 3) := by decide +kernel
theorem dX11_known_15 : decode cX11_known 15 = .ok (.if_icmp .le 5, 3) := by decide +kernel
theorem dX11_known_18 : decode cX11_known 18 = .ok (.iconst 0, 1) := by decide +kernel
theorem dX11_known_19 : decode cX11_known 19 = .ok (.ireturn, 1) := by decide +kernel
theorem dX11_known_20 : decode cX11_known 20 = .ok (.aload_n 0, 1) := by decide +kernel
theorem dX11_known_21 : decode cX11_known 21 = .ok (.iload_n 1, 1) := by decide +kernel
theorem dX11_known_22 : decode cX11_known 22 = .ok (.putfield 135, 3) := by decide +kernel
theorem dX11_known_25 : decode cX11_known 25 = .ok (.iconst 1, 1) := by decide +kernel
theorem dX11_known_26 : decode cX11_known 26 = .ok (.ireturn, 1) := by decide +kernel
theorem dX11_knownMany_0 : decode cX11_knownMany 0 = .ok (.aload_n 0, 1) := by decide +kernel
theorem dX11_knownMany_1 : decode cX11_knownMany 1 = .ok (.getfield 135, 3) := by decide +kernel
theorem dX11_knownMany_4 : decode cX11_knownMany 4 = .ok (.iconst (-1), 1) := by decide +kernel
theorem dX11_knownMany_5 : decode cX11_knownMany 5 = .ok (.if_icmp .ne 10, 3) := by decide +kernel
theorem dX11_knownMany_8 : decode cX11_knownMany 8 = .ok (.aload_n 0, 1) := by decide +kernel
theorem dX11_knownMany_9 : decode cX11_knownMany 9 = .ok (.getfield 313, 3) := by decide +kernel
theorem dX11_knownMany_12 : decode cX11_knownMany 12 = .ok (.goto 7, 3) := by decide +kernel
theorem dX11_knownMany_15 : decode cX11_knownMany 15 = .ok (.aload_n 0, 1) := by decide +kernel
theorem dX11_knownMany_16 : decode cX11_knownMany 16 = .ok (.getfield 135, 3) := by decide +kernel
theorem dX11_knownMany_19 : decode cX11_knownMany 19 = .ok (.ireturn, 1) := by decide +kernel
theorem dX11_isSo_0 : decode cX11_isSo 0 = .ok (.iconst 0, 1) := by decide +kernel
theorem dX11_isSo_1 : decode cX11_isSo 1 = .ok (.istore_n 2, 1) := by decide +kernel
theorem dX11_isSo_2 : decode cX11_isSo 2 = .ok (.iload_n 2, 1) := by decide +kernel
theorem dX11_isSo_3 : decode cX11_isSo 3 = .ok (.aload_n 0, 1) := by decide +kernel
theorem dX11_isSo_4 : decode cX11_isSo 4 = .ok (.invokevirtual 520, 3) := by decide +kernel
theorem dX11_isSo_7 : decode cX11_isSo 7 = .ok (.if_icmp .ge 75, 3) := by decide +kernel
theorem dX11_isSo_10 : decode cX11_isSo 10 = .ok (.aload_n 0, 1) := by decide +kernel
theorem dX11_isSo_11 : decode cX11_isSo 11 = .ok (.getfield 151, 3) := by decide +kernel
theorem dX11_isSo_14 : decode cX11_isSo 14 = .ok (.iload_n 2, 1) := by decide +kernel
theorem dX11_isSo_15 : decode cX11_isSo 15 = .ok (.baload, 1) := by decide +kernel
theorem dX11_isSo_16 : decode cX11_isSo 16 = .ok (.ifCond .ne 60, 3) := by decide +kernel
theorem dX11_isSo_19 : decode cX11_isSo 19 = .ok (.aload_n 0, 1) := by decide +kernel
theorem dX11_isSo_20 : decode cX11_isSo 20 = .ok (.getfield 148, 3) := by decide +kernel
theorem dX11_isSo_23 : decode cX11_isSo 23 = .ok (.iload_n 2, 1) := by decide +kernel
theorem dX11_isSo_24 : decode cX11_isSo 24 = .ok (.iaload, 1) := by decide +kernel
theorem dX11_isSo_25 : decode cX11_isSo 25 = .ok (.iconst (-1), 1) := by decide +kernel
theorem dX11_isSo_26 : decode cX11_isSo 26 = .ok (.if_icmp .ne 50, 3) := by decide +kernel
theorem dX11_isSo_29 : decode cX11_isSo 29 = .ok (.aload_n 0, 1) := by decide +kernel
theorem dX11_isSo_30 : decode cX11_isSo 30 = .ok (.getfield 138, 3) := by decide +kernel
theorem dX11_isSo_33 : decode cX11_isSo 33 = .ok (.iload_n 2, 1) := by decide +kernel
theorem dX11_isSo_34 : decode cX11_isSo 34 = .ok (.iaload, 1) := by decide +kernel
theorem dX11_isSo_35 : decode cX11_isSo 35 = .ok (.iload_n 1, 1) := by decide +kernel
theorem dX11_isSo_36 : decode cX11_isSo 36 = .ok (.if_icmp .eq 6, 3) := by decide +kernel
theorem dX11_isSo_39 : decode cX11_isSo 39 = .ok (.goto 37, 3) := by decide +kernel
theorem dX11_isSo_42 : decode cX11_isSo 42 = .ok (.aload_n 0, 1) := by decide +kernel
theorem dX11_isSo_43 : decode cX11_isSo 43 = .ok (.getfield 102, 3) := by decide +kernel
theorem dX11_isSo_46 : decode cX11_isSo 46 = .ok (.bipush 25, 2) := by decide +kernel
theorem dX11_isSo_48 : decode cX11_isSo 48 = .ok (.aload_n 0, 1) := by decide +kernel
theorem dX11_isSo_49 : decode cX11_isSo 49 = .ok (.getfield 141, 3) := by decide +kernel
theorem dX11_isSo_52 : decode cX11_isSo 52 = .ok (.iload_n 2, 1) := by decide +kernel
theorem dX11_isSo_53 : decode cX11_isSo 53 = .ok (.iaload, 1) := by decide +kernel
theorem dX11_isSo_54 : decode cX11_isSo 54 = .ok (.iadd, 1) := by decide +kernel
theorem dX11_isSo_55 : decode cX11_isSo 55 = .ok (.iaload, 1) := by decide +kernel
theorem dX11_isSo_56 : decode cX11_isSo 56 = .ok (.iconst 1, 1) := by decide +kernel
theorem dX11_isSo_57 : decode cX11_isSo 57 = .ok (.if_icmp .ne 7, 3) := by decide +kernel
theorem dX11_isSo_60 : decode cX11_isSo 60 = .ok (.iconst 1, 1) := by decide +kernel
theorem dX11_isSo_61 : decode cX11_isSo 61 = .ok (.goto 4, 3) := by decide +kernel
theorem dX11_isSo_64 : decode cX11_isSo 64 = .ok (.iconst 0, 1) := by decide +kernel
theorem dX11_isSo_65 : decode cX11_isSo 65 = .ok (.aload_n 0, 1) := by decide +kernel
theorem dX11_isSo_66 : decode cX11_isSo 66 = .ok (.getfield 144, 3) := by decide +kernel
theorem dX11_isSo_69 : decode cX11_isSo 69 = .ok (.iload_n 2, 1) := by decide +kernel
theorem dX11_isSo_70 : decode cX11_isSo 70 = .ok (.baload, 1) := by decide +kernel
theorem dX11_isSo_71 : decode cX11_isSo 71 = .ok (.if_icmp .eq 5, 3) := by decide +kernel
theorem dX11_isSo_74 : decode cX11_isSo 74 = .ok (.iconst 0, 1) := by decide +kernel
theorem dX11_isSo_75 : decode cX11_isSo 75 = .ok (.ireturn, 1) := by decide +kernel
theorem dX11_isSo_76 : decode cX11_isSo 76 = .ok (.iinc 2 1, 3) := by decide +kernel
theorem dX11_isSo_79 : decode cX11_isSo 79 = .ok (.goto (-77), 3) := by decide +kernel
theorem dX11_isSo_82 : decode cX11_isSo 82 = .ok (.iconst 1, 1) := by decide +kernel
theorem dX11_isSo_83 : decode cX11_isSo 83 = .ok (.ireturn, 1) := by decide +kernel
theorem dX11_fitsRoom_0 : decode cX11_fitsRoom 0 = .ok (.aload_n 0, 1) := by decide +kernel
theorem dX11_fitsRoom_1 : decode cX11_fitsRoom 1 = .ok (.iconst 1, 1) := by decide +kernel
theorem dX11_fitsRoom_2 : decode cX11_fitsRoom 2 = .ok (.invokevirtual 343, 3) := by decide +kernel
theorem dX11_fitsRoom_5 : decode cX11_fitsRoom 5 = .ok (.iconst 1, 1) := by decide +kernel
theorem dX11_fitsRoom_6 : decode cX11_fitsRoom 6 = .ok (.istore_n 2, 1) := by decide +kernel
theorem dX11_fitsRoom_7 : decode cX11_fitsRoom 7 = .ok (.iload_n 2, 1) := by decide +kernel
theorem dX11_fitsRoom_8 : decode cX11_fitsRoom 8 = .ok (.iload_n 1, 1) := by decide +kernel
theorem dX11_fitsRoom_9 : decode cX11_fitsRoom 9 = .ok (.if_icmp .gt 25, 3) := by decide +kernel
theorem dX11_fitsRoom_12 : decode cX11_fitsRoom 12 = .ok (.aload_n 0, 1) := by decide +kernel
theorem dX11_fitsRoom_13 : decode cX11_fitsRoom 13 = .ok (.iconst 1, 1) := by decide +kernel
theorem dX11_fitsRoom_14 : decode cX11_fitsRoom 14 = .ok (.iconst 0, 1) := by decide +kernel
theorem dX11_fitsRoom_15 : decode cX11_fitsRoom 15 = .ok (.invokevirtual 416, 3) := by decide +kernel
theorem dX11_fitsRoom_18 : decode cX11_fitsRoom 18 = .ok (.aload_n 0, 1) := by decide +kernel
theorem dX11_fitsRoom_19 : decode cX11_fitsRoom 19 = .ok (.iload_n 2, 1) := by decide +kernel
theorem dX11_fitsRoom_20 : decode cX11_fitsRoom 20 = .ok (.invokevirtual 523, 3) := by decide +kernel
theorem dX11_fitsRoom_23 : decode cX11_fitsRoom 23 = .ok (.ifCond .ne 5, 3) := by decide +kernel
theorem dX11_fitsRoom_26 : decode cX11_fitsRoom 26 = .ok (.iconst 0, 1) := by decide +kernel
theorem dX11_fitsRoom_27 : decode cX11_fitsRoom 27 = .ok (.ireturn, 1) := by decide +kernel
theorem dX11_fitsRoom_28 : decode cX11_fitsRoom 28 = .ok (.iinc 2 1, 3) := by decide +kernel
theorem dX11_fitsRoom_31 : decode cX11_fitsRoom 31 = .ok (.goto (-24), 3) := by decide +kernel
theorem dX11_fitsRoom_34 : decode cX11_fitsRoom 34 = .ok (.iconst 1, 1) := by decide +kernel
theorem dX11_fitsRoom_35 : decode cX11_fitsRoom 35 = .ok (.ireturn, 1) := by decide +kernel
theorem dX11_rooms_0 : decode cX11_rooms 0 = .ok (.aload_n 0, 1) := by decide +kernel
theorem dX11_rooms_1 : decode cX11_rooms 1 = .ok (.iconst 0, 1) := by decide +kernel
theorem dX11_rooms_2 : decode cX11_rooms 2 = .ok (.putfield 157, 3) := by decide +kernel
theorem dX11_rooms_5 : decode cX11_rooms 5 = .ok (.iconst 0, 1) := by decide +kernel
theorem dX11_rooms_6 : decode cX11_rooms 6 = .ok (.istore_n 1, 1) := by decide +kernel
theorem dX11_rooms_7 : decode cX11_rooms 7 = .ok (.iconst 0, 1) := by decide +kernel
theorem dX11_rooms_8 : decode cX11_rooms 8 = .ok (.istore_n 2, 1) := by decide +kernel
theorem dX11_rooms_9 : decode cX11_rooms 9 = .ok (.iload_n 2, 1) := by decide +kernel
theorem dX11_rooms_10 : decode cX11_rooms 10 = .ok (.aload_n 0, 1) := by decide +kernel
theorem dX11_rooms_11 : decode cX11_rooms 11 = .ok (.invokevirtual 520, 3) := by decide +kernel
theorem dX11_rooms_14 : decode cX11_rooms 14 = .ok (.if_icmp .ge 16, 3) := by decide +kernel
theorem dX11_rooms_17 : decode cX11_rooms 17 = .ok (.aload_n 0, 1) := by decide +kernel
theorem dX11_rooms_18 : decode cX11_rooms 18 = .ok (.getfield 151, 3) := by decide +kernel
theorem dX11_rooms_21 : decode cX11_rooms 21 = .ok (.iload_n 2, 1) := by decide +kernel
theorem dX11_rooms_22 : decode cX11_rooms 22 = .ok (.iconst 0, 1) := by decide +kernel
theorem dX11_rooms_23 : decode cX11_rooms 23 = .ok (.bastore, 1) := by decide +kernel
theorem dX11_rooms_24 : decode cX11_rooms 24 = .ok (.iinc 2 1, 3) := by decide +kernel
theorem dX11_rooms_27 : decode cX11_rooms 27 = .ok (.goto (-18), 3) := by decide +kernel
theorem dX11_rooms_30 : decode cX11_rooms 30 = .ok (.aload_n 0, 1) := by decide +kernel
theorem dX11_rooms_31 : decode cX11_rooms 31 = .ok (.invokevirtual 520, 3) := by decide +kernel
theorem dX11_rooms_34 : decode cX11_rooms 34 = .ok (.iconst 1, 1) := by decide +kernel
theorem dX11_rooms_35 : decode cX11_rooms 35 = .ok (.isub, 1) := by decide +kernel
theorem dX11_rooms_36 : decode cX11_rooms 36 = .ok (.istore_n 2, 1) := by decide +kernel
theorem dX11_rooms_37 : decode cX11_rooms 37 = .ok (.iload_n 2, 1) := by decide +kernel
theorem dX11_rooms_38 : decode cX11_rooms 38 = .ok (.ifCond .lt 40, 3) := by decide +kernel
theorem dX11_rooms_41 : decode cX11_rooms 41 = .ok (.aload_n 0, 1) := by decide +kernel
theorem dX11_rooms_42 : decode cX11_rooms 42 = .ok (.getfield 151, 3) := by decide +kernel
theorem dX11_rooms_45 : decode cX11_rooms 45 = .ok (.iload_n 2, 1) := by decide +kernel
theorem dX11_rooms_46 : decode cX11_rooms 46 = .ok (.baload, 1) := by decide +kernel
theorem dX11_rooms_47 : decode cX11_rooms 47 = .ok (.ifCond .ne 25, 3) := by decide +kernel
theorem dX11_rooms_50 : decode cX11_rooms 50 = .ok (.aload_n 0, 1) := by decide +kernel
theorem dX11_rooms_51 : decode cX11_rooms 51 = .ok (.getfield 148, 3) := by decide +kernel
theorem dX11_rooms_54 : decode cX11_rooms 54 = .ok (.iload_n 2, 1) := by decide +kernel
theorem dX11_rooms_55 : decode cX11_rooms 55 = .ok (.iaload, 1) := by decide +kernel
theorem dX11_rooms_56 : decode cX11_rooms 56 = .ok (.iconst (-1), 1) := by decide +kernel
theorem dX11_rooms_57 : decode cX11_rooms 57 = .ok (.if_icmp .eq 15, 3) := by decide +kernel
theorem dX11_rooms_60 : decode cX11_rooms 60 = .ok (.aload_n 0, 1) := by decide +kernel
theorem dX11_rooms_61 : decode cX11_rooms 61 = .ok (.getfield 151, 3) := by decide +kernel
theorem dX11_rooms_64 : decode cX11_rooms 64 = .ok (.aload_n 0, 1) := by decide +kernel
theorem dX11_rooms_65 : decode cX11_rooms 65 = .ok (.getfield 148, 3) := by decide +kernel
theorem dX11_rooms_68 : decode cX11_rooms 68 = .ok (.iload_n 2, 1) := by decide +kernel
theorem dX11_rooms_69 : decode cX11_rooms 69 = .ok (.iaload, 1) := by decide +kernel
theorem dX11_rooms_70 : decode cX11_rooms 70 = .ok (.iconst 1, 1) := by decide +kernel
theorem dX11_rooms_71 : decode cX11_rooms 71 = .ok (.bastore, 1) := by decide +kernel
theorem dX11_rooms_72 : decode cX11_rooms 72 = .ok (.iinc 2 (-1), 3) := by decide +kernel
theorem dX11_rooms_75 : decode cX11_rooms 75 = .ok (.goto (-38), 3) := by decide +kernel
theorem dX11_rooms_78 : decode cX11_rooms 78 = .ok (.iconst 0, 1) := by decide +kernel
theorem dX11_rooms_79 : decode cX11_rooms 79 = .ok (.istore_n 2, 1) := by decide +kernel
theorem dX11_rooms_80 : decode cX11_rooms 80 = .ok (.iload_n 2, 1) := by decide +kernel
theorem dX11_rooms_81 : decode cX11_rooms 81 = .ok (.aload_n 0, 1) := by decide +kernel
theorem dX11_rooms_82 : decode cX11_rooms 82 = .ok (.invokevirtual 520, 3) := by decide +kernel
theorem dX11_rooms_85 : decode cX11_rooms 85 = .ok (.if_icmp .ge 39, 3) := by decide +kernel
theorem dX11_rooms_88 : decode cX11_rooms 88 = .ok (.aload_n 0, 1) := by decide +kernel
theorem dX11_rooms_89 : decode cX11_rooms 89 = .ok (.getfield 151, 3) := by decide +kernel
theorem dX11_rooms_92 : decode cX11_rooms 92 = .ok (.iload_n 2, 1) := by decide +kernel
theorem dX11_rooms_93 : decode cX11_rooms 93 = .ok (.baload, 1) := by decide +kernel
theorem dX11_rooms_94 : decode cX11_rooms 94 = .ok (.ifCond .ne 24, 3) := by decide +kernel
theorem dX11_rooms_97 : decode cX11_rooms 97 = .ok (.aload_n 0, 1) := by decide +kernel
theorem dX11_rooms_98 : decode cX11_rooms 98 = .ok (.getfield 148, 3) := by decide +kernel
theorem dX11_rooms_101 : decode cX11_rooms 101 = .ok (.iload_n 2, 1) := by decide +kernel
theorem dX11_rooms_102 : decode cX11_rooms 102 = .ok (.iaload, 1) := by decide +kernel
theorem dX11_rooms_103 : decode cX11_rooms 103 = .ok (.iconst (-1), 1) := by decide +kernel
theorem dX11_rooms_104 : decode cX11_rooms 104 = .ok (.if_icmp .ne 14, 3) := by decide +kernel
theorem dX11_rooms_107 : decode cX11_rooms 107 = .ok (.iload_n 1, 1) := by decide +kernel
theorem dX11_rooms_108 : decode cX11_rooms 108 = .ok (.aload_n 0, 1) := by decide +kernel
theorem dX11_rooms_109 : decode cX11_rooms 109 = .ok (.getfield 138, 3) := by decide +kernel
theorem dX11_rooms_112 : decode cX11_rooms 112 = .ok (.iload_n 2, 1) := by decide +kernel
theorem dX11_rooms_113 : decode cX11_rooms 113 = .ok (.iaload, 1) := by decide +kernel
theorem dX11_rooms_114 : decode cX11_rooms 114 = .ok (.invokestatic 526, 3) := by decide +kernel
theorem dX11_rooms_117 : decode cX11_rooms 117 = .ok (.istore_n 1, 1) := by decide +kernel
theorem dX11_rooms_118 : decode cX11_rooms 118 = .ok (.iinc 2 1, 3) := by decide +kernel
theorem dX11_rooms_121 : decode cX11_rooms 121 = .ok (.goto (-41), 3) := by decide +kernel
theorem dX11_rooms_124 : decode cX11_rooms 124 = .ok (.iconst 0, 1) := by decide +kernel
theorem dX11_rooms_125 : decode cX11_rooms 125 = .ok (.istore_n 2, 1) := by decide +kernel
theorem dX11_rooms_126 : decode cX11_rooms 126 = .ok (.iconst 0, 1) := by decide +kernel
theorem dX11_rooms_127 : decode cX11_rooms 127 = .ok (.istore_n 3, 1) := by decide +kernel
theorem dX11_rooms_128 : decode cX11_rooms 128 = .ok (.iload_n 3, 1) := by decide +kernel
theorem dX11_rooms_129 : decode cX11_rooms 129 = .ok (.bipush 10, 2) := by decide +kernel
theorem dX11_rooms_131 : decode cX11_rooms 131 = .ok (.if_icmp .ge 34, 3) := by decide +kernel
theorem dX11_rooms_134 : decode cX11_rooms 134 = .ok (.aload_n 0, 1) := by decide +kernel
theorem dX11_rooms_135 : decode cX11_rooms 135 = .ok (.iload_n 3, 1) := by decide +kernel
theorem dX11_rooms_136 : decode cX11_rooms 136 = .ok (.iconst 1, 1) := by decide +kernel
theorem dX11_rooms_137 : decode cX11_rooms 137 = .ok (.iadd, 1) := by decide +kernel
theorem dX11_rooms_138 : decode cX11_rooms 138 = .ok (.putfield 123, 3) := by decide +kernel
theorem dX11_rooms_141 : decode cX11_rooms 141 = .ok (.iload_n 2, 1) := by decide +kernel
theorem dX11_rooms_142 : decode cX11_rooms 142 = .ok (.aload_n 0, 1) := by decide +kernel
theorem dX11_rooms_143 : decode cX11_rooms 143 = .ok (.iload_n 1, 1) := by decide +kernel
theorem dX11_rooms_144 : decode cX11_rooms 144 = .ok (.invokevirtual 528, 3) := by decide +kernel
theorem dX11_rooms_147 : decode cX11_rooms 147 = .ok (.ifCond .eq 9, 3) := by decide +kernel
theorem dX11_rooms_150 : decode cX11_rooms 150 = .ok (.iconst 1, 1) := by decide +kernel
theorem dX11_rooms_151 : decode cX11_rooms 151 = .ok (.iload_n 3, 1) := by decide +kernel
theorem dX11_rooms_152 : decode cX11_rooms 152 = .ok (.ishl, 1) := by decide +kernel
theorem dX11_rooms_153 : decode cX11_rooms 153 = .ok (.goto 4, 3) := by decide +kernel
theorem dX11_rooms_156 : decode cX11_rooms 156 = .ok (.iconst 0, 1) := by decide +kernel
theorem dX11_rooms_157 : decode cX11_rooms 157 = .ok (.ior, 1) := by decide +kernel
theorem dX11_rooms_158 : decode cX11_rooms 158 = .ok (.istore_n 2, 1) := by decide +kernel
theorem dX11_rooms_159 : decode cX11_rooms 159 = .ok (.iinc 3 1, 3) := by decide +kernel
theorem dX11_rooms_162 : decode cX11_rooms 162 = .ok (.goto (-34), 3) := by decide +kernel
theorem dX11_rooms_165 : decode cX11_rooms 165 = .ok (.aload_n 0, 1) := by decide +kernel
theorem dX11_rooms_166 : decode cX11_rooms 166 = .ok (.iconst (-1), 1) := by decide +kernel
theorem dX11_rooms_167 : decode cX11_rooms 167 = .ok (.putfield 123, 3) := by decide +kernel
theorem dX11_rooms_170 : decode cX11_rooms 170 = .ok (.iload_n 2, 1) := by decide +kernel
theorem dX11_rooms_171 : decode cX11_rooms 171 = .ok (.ireturn, 1) := by decide +kernel
theorem dX11_chance_0 : decode cX11_chance 0 = .ok (.aload_n 0, 1) := by decide +kernel
theorem dX11_chance_1 : decode cX11_chance 1 = .ok (.iconst 0, 1) := by decide +kernel
theorem dX11_chance_2 : decode cX11_chance 2 = .ok (.putfield 157, 3) := by decide +kernel
theorem dX11_chance_5 : decode cX11_chance 5 = .ok (.iload_n 1, 1) := by decide +kernel
theorem dX11_chance_6 : decode cX11_chance 6 = .ok (.ifCond .lt 24, 3) := by decide +kernel
theorem dX11_chance_9 : decode cX11_chance 9 = .ok (.iload_n 2, 1) := by decide +kernel
theorem dX11_chance_10 : decode cX11_chance 10 = .ok (.iconst 1, 1) := by decide +kernel
theorem dX11_chance_11 : decode cX11_chance 11 = .ok (.if_icmp .lt 19, 3) := by decide +kernel
theorem dX11_chance_14 : decode cX11_chance 14 = .ok (.iload_n 2, 1) := by decide +kernel
theorem dX11_chance_15 : decode cX11_chance 15 = .ok (.bipush 99, 2) := by decide +kernel
theorem dX11_chance_17 : decode cX11_chance 17 = .ok (.if_icmp .gt 13, 3) := by decide +kernel
theorem dX11_chance_20 : decode cX11_chance 20 = .ok (.iload_n 3, 1) := by decide +kernel
theorem dX11_chance_21 : decode cX11_chance 21 = .ok (.ifCond .lt 9, 3) := by decide +kernel
theorem dX11_chance_24 : decode cX11_chance 24 = .ok (.iload_n 3, 1) := by decide +kernel
theorem dX11_chance_25 : decode cX11_chance 25 = .ok (.bipush 25, 2) := by decide +kernel
theorem dX11_chance_27 : decode cX11_chance 27 = .ok (.if_icmp .le 5, 3) := by decide +kernel
theorem dX11_chance_30 : decode cX11_chance 30 = .ok (.iconst (-1), 1) := by decide +kernel
theorem dX11_chance_31 : decode cX11_chance 31 = .ok (.ireturn, 1) := by decide +kernel
theorem dX11_chance_32 : decode cX11_chance 32 = .ok (.iload_n 1, 1) := by decide +kernel
theorem dX11_chance_33 : decode cX11_chance 33 = .ok (.istore 4, 2) := by decide +kernel
theorem dX11_chance_35 : decode cX11_chance 35 = .ok (.iconst 0, 1) := by decide +kernel
theorem dX11_chance_36 : decode cX11_chance 36 = .ok (.istore 5, 2) := by decide +kernel
theorem dX11_chance_38 : decode cX11_chance 38 = .ok (.iconst 0, 1) := by decide +kernel
theorem dX11_chance_39 : decode cX11_chance 39 = .ok (.istore 6, 2) := by decide +kernel
theorem dX11_chance_41 : decode cX11_chance 41 = .ok (.iload 6, 2) := by decide +kernel
theorem dX11_chance_43 : decode cX11_chance 43 = .ok (.bipush 10, 2) := by decide +kernel
theorem dX11_chance_45 : decode cX11_chance 45 = .ok (.if_icmp .ge 71, 3) := by decide +kernel
theorem dX11_chance_48 : decode cX11_chance 48 = .ok (.aload_n 0, 1) := by decide +kernel
theorem dX11_chance_49 : decode cX11_chance 49 = .ok (.iconst 1, 1) := by decide +kernel
theorem dX11_chance_50 : decode cX11_chance 50 = .ok (.iconst 0, 1) := by decide +kernel
theorem dX11_chance_51 : decode cX11_chance 51 = .ok (.invokevirtual 420, 3) := by decide +kernel
theorem dX11_chance_54 : decode cX11_chance 54 = .ok (.aload_n 0, 1) := by decide +kernel
theorem dX11_chance_55 : decode cX11_chance 55 = .ok (.getfield 87, 3) := by decide +kernel
theorem dX11_chance_58 : decode cX11_chance 58 = .ok (.iconst 1, 1) := by decide +kernel
theorem dX11_chance_59 : decode cX11_chance 59 = .ok (.iload 4, 2) := by decide +kernel
theorem dX11_chance_61 : decode cX11_chance 61 = .ok (.iastore, 1) := by decide +kernel
theorem dX11_chance_62 : decode cX11_chance 62 = .ok (.iconst 0, 1) := by decide +kernel
theorem dX11_chance_63 : decode cX11_chance 63 = .ok (.istore 7, 2) := by decide +kernel
theorem dX11_chance_65 : decode cX11_chance 65 = .ok (.iload 7, 2) := by decide +kernel
theorem dX11_chance_67 : decode cX11_chance 67 = .ok (.iload_n 2, 1) := by decide +kernel
theorem dX11_chance_68 : decode cX11_chance 68 = .ok (.if_icmp .ge 15, 3) := by decide +kernel
theorem dX11_chance_71 : decode cX11_chance 71 = .ok (.aload_n 0, 1) := by decide +kernel
theorem dX11_chance_72 : decode cX11_chance 72 = .ok (.iconst 1, 1) := by decide +kernel
theorem dX11_chance_73 : decode cX11_chance 73 = .ok (.iconst 1, 1) := by decide +kernel
theorem dX11_chance_74 : decode cX11_chance 74 = .ok (.invokevirtual 416, 3) := by decide +kernel
theorem dX11_chance_77 : decode cX11_chance 77 = .ok (.iinc 7 1, 3) := by decide +kernel
theorem dX11_chance_80 : decode cX11_chance 80 = .ok (.goto (-15), 3) := by decide +kernel
theorem dX11_chance_83 : decode cX11_chance 83 = .ok (.aload_n 0, 1) := by decide +kernel
theorem dX11_chance_84 : decode cX11_chance 84 = .ok (.getfield 87, 3) := by decide +kernel
theorem dX11_chance_87 : decode cX11_chance 87 = .ok (.iconst 1, 1) := by decide +kernel
theorem dX11_chance_88 : decode cX11_chance 88 = .ok (.iaload, 1) := by decide +kernel
theorem dX11_chance_89 : decode cX11_chance 89 = .ok (.istore 4, 2) := by decide +kernel
theorem dX11_chance_91 : decode cX11_chance 91 = .ok (.iload 5, 2) := by decide +kernel
theorem dX11_chance_93 : decode cX11_chance 93 = .ok (.aload_n 0, 1) := by decide +kernel
theorem dX11_chance_94 : decode cX11_chance 94 = .ok (.iconst 1, 1) := by decide +kernel
theorem dX11_chance_95 : decode cX11_chance 95 = .ok (.invokevirtual 463, 3) := by decide +kernel
theorem dX11_chance_98 : decode cX11_chance 98 = .ok (.iload_n 3, 1) := by decide +kernel
theorem dX11_chance_99 : decode cX11_chance 99 = .ok (.if_icmp .lt 7, 3) := by decide +kernel
theorem dX11_chance_102 : decode cX11_chance 102 = .ok (.iconst 1, 1) := by decide +kernel
theorem dX11_chance_103 : decode cX11_chance 103 = .ok (.goto 4, 3) := by decide +kernel
theorem dX11_chance_106 : decode cX11_chance 106 = .ok (.iconst 0, 1) := by decide +kernel
theorem dX11_chance_107 : decode cX11_chance 107 = .ok (.iadd, 1) := by decide +kernel
theorem dX11_chance_108 : decode cX11_chance 108 = .ok (.istore 5, 2) := by decide +kernel
theorem dX11_chance_110 : decode cX11_chance 110 = .ok (.iinc 6 1, 3) := by decide +kernel
theorem dX11_chance_113 : decode cX11_chance 113 = .ok (.goto (-72), 3) := by decide +kernel
theorem dX11_chance_116 : decode cX11_chance 116 = .ok (.iload 5, 2) := by decide +kernel
theorem dX11_chance_118 : decode cX11_chance 118 = .ok (.ireturn, 1) := by decide +kernel
theorem dX11_ownsAgain_0 : decode cX11_ownsAgain 0 = .ok (.iconst 0, 1) := by decide +kernel
theorem dX11_ownsAgain_1 : decode cX11_ownsAgain 1 = .ok (.istore_n 2, 1) := by decide +kernel
theorem dX11_ownsAgain_2 : decode cX11_ownsAgain 2 = .ok (.iload_n 2, 1) := by decide +kernel
theorem dX11_ownsAgain_3 : decode cX11_ownsAgain 3 = .ok (.aload_n 0, 1) := by decide +kernel
theorem dX11_ownsAgain_4 : decode cX11_ownsAgain 4 = .ok (.getfield 13, 3) := by decide +kernel
theorem dX11_ownsAgain_7 : decode cX11_ownsAgain 7 = .ok (.iconst 0, 1) := by decide +kernel
theorem dX11_ownsAgain_8 : decode cX11_ownsAgain 8 = .ok (.iaload, 1) := by decide +kernel
theorem dX11_ownsAgain_9 : decode cX11_ownsAgain 9 = .ok (.if_icmp .ge 43, 3) := by decide +kernel
theorem dX11_ownsAgain_12 : decode cX11_ownsAgain 12 = .ok (.iconst 0, 1) := by decide +kernel
theorem dX11_ownsAgain_13 : decode cX11_ownsAgain 13 = .ok (.istore_n 3, 1) := by decide +kernel
theorem dX11_ownsAgain_14 : decode cX11_ownsAgain 14 = .ok (.iload_n 3, 1) := by decide +kernel
theorem dX11_ownsAgain_15 : decode cX11_ownsAgain 15 = .ok (.aload_n 0, 1) := by decide +kernel
theorem dX11_ownsAgain_16 : decode cX11_ownsAgain 16 = .ok (.getfield 13, 3) := by decide +kernel
theorem dX11_ownsAgain_19 : decode cX11_ownsAgain 19 = .ok (.iconst 1, 1) := by decide +kernel
theorem dX11_ownsAgain_20 : decode cX11_ownsAgain 20 = .ok (.iaload, 1) := by decide +kernel
theorem dX11_ownsAgain_21 : decode cX11_ownsAgain 21 = .ok (.if_icmp .ge 25, 3) := by decide +kernel
theorem dX11_ownsAgain_24 : decode cX11_ownsAgain 24 = .ok (.aload_n 0, 1) := by decide +kernel
theorem dX11_ownsAgain_25 : decode cX11_ownsAgain 25 = .ok (.getfield 99, 3) := by decide +kernel
theorem dX11_ownsAgain_28 : decode cX11_ownsAgain 28 = .ok (.bipush 25, 2) := by decide +kernel
theorem dX11_ownsAgain_30 : decode cX11_ownsAgain 30 = .ok (.iload_n 1, 1) := by decide +kernel
theorem dX11_ownsAgain_31 : decode cX11_ownsAgain 31 = .ok (.imul, 1) := by decide +kernel
theorem dX11_ownsAgain_32 : decode cX11_ownsAgain 32 = .ok (.iconst 5, 1) := by decide +kernel
theorem dX11_ownsAgain_33 : decode cX11_ownsAgain 33 = .ok (.iload_n 2, 1) := by decide +kernel
theorem dX11_ownsAgain_34 : decode cX11_ownsAgain 34 = .ok (.imul, 1) := by decide +kernel
theorem dX11_ownsAgain_35 : decode cX11_ownsAgain 35 = .ok (.iadd, 1) := by decide +kernel
theorem dX11_ownsAgain_36 : decode cX11_ownsAgain 36 = .ok (.iload_n 3, 1) := by decide +kernel
theorem dX11_ownsAgain_37 : decode cX11_ownsAgain 37 = .ok (.iadd, 1) := by decide +kernel
theorem dX11_ownsAgain_38 : decode cX11_ownsAgain 38 = .ok (.iload_n 2, 1) := by decide +kernel
theorem dX11_ownsAgain_39 : decode cX11_ownsAgain 39 = .ok (.iastore, 1) := by decide +kernel
theorem dX11_ownsAgain_40 : decode cX11_ownsAgain 40 = .ok (.iinc 3 1, 3) := by decide +kernel
theorem dX11_ownsAgain_43 : decode cX11_ownsAgain 43 = .ok (.goto (-29), 3) := by decide +kernel
theorem dX11_ownsAgain_46 : decode cX11_ownsAgain 46 = .ok (.iinc 2 1, 3) := by decide +kernel
theorem dX11_ownsAgain_49 : decode cX11_ownsAgain 49 = .ok (.goto (-47), 3) := by decide +kernel
theorem dX11_ownsAgain_52 : decode cX11_ownsAgain 52 = .ok (.return_, 1) := by decide +kernel
theorem dX11_tried_0 : decode cX11_tried 0 = .ok (.aload_n 0, 1) := by decide +kernel
theorem dX11_tried_1 : decode cX11_tried 1 = .ok (.iconst 0, 1) := by decide +kernel
theorem dX11_tried_2 : decode cX11_tried 2 = .ok (.putfield 157, 3) := by decide +kernel
theorem dX11_tried_5 : decode cX11_tried 5 = .ok (.iload_n 1, 1) := by decide +kernel
theorem dX11_tried_6 : decode cX11_tried 6 = .ok (.iconst 2, 1) := by decide +kernel
theorem dX11_tried_7 : decode cX11_tried 7 = .ok (.if_icmp .ne 11, 3) := by decide +kernel
theorem dX11_tried_10 : decode cX11_tried 10 = .ok (.aload_n 0, 1) := by decide +kernel
theorem dX11_tried_11 : decode cX11_tried 11 = .ok (.iload_n 2, 1) := by decide +kernel
theorem dX11_tried_12 : decode cX11_tried 12 = .ok (.invokevirtual 426, 3) := by decide +kernel
theorem dX11_tried_15 : decode cX11_tried 15 = .ok (.goto 21, 3) := by decide +kernel
theorem dX11_tried_18 : decode cX11_tried 18 = .ok (.iload_n 1, 1) := by decide +kernel
theorem dX11_tried_19 : decode cX11_tried 19 = .ok (.ifCond .lt 16, 3) := by decide +kernel
theorem dX11_tried_22 : decode cX11_tried 22 = .ok (.iload_n 1, 1) := by decide +kernel
theorem dX11_tried_23 : decode cX11_tried 23 = .ok (.iconst 5, 1) := by decide +kernel
theorem dX11_tried_24 : decode cX11_tried 24 = .ok (.if_icmp .gt 11, 3) := by decide +kernel
theorem dX11_tried_27 : decode cX11_tried 27 = .ok (.iload_n 2, 1) := by decide +kernel
theorem dX11_tried_28 : decode cX11_tried 28 = .ok (.ifCond .ne 7, 3) := by decide +kernel
theorem dX11_tried_31 : decode cX11_tried 31 = .ok (.iconst 1, 1) := by decide +kernel
theorem dX11_tried_32 : decode cX11_tried 32 = .ok (.goto 4, 3) := by decide +kernel
theorem dX11_tried_35 : decode cX11_tried 35 = .ok (.iconst 0, 1) := by decide +kernel
theorem dX11_tried_36 : decode cX11_tried 36 = .ok (.istore 4, 2) := by decide +kernel
theorem dX11_tried_38 : decode cX11_tried 38 = .ok (.iload 4, 2) := by decide +kernel
theorem dX11_tried_40 : decode cX11_tried 40 = .ok (.ifCond .eq 13, 3) := by decide +kernel
theorem dX11_tried_43 : decode cX11_tried 43 = .ok (.iload_n 3, 1) := by decide +kernel
theorem dX11_tried_44 : decode cX11_tried 44 = .ok (.ifCond .lt 9, 3) := by decide +kernel
theorem dX11_tried_47 : decode cX11_tried 47 = .ok (.iload_n 3, 1) := by decide +kernel
theorem dX11_tried_48 : decode cX11_tried 48 = .ok (.bipush 99, 2) := by decide +kernel
theorem dX11_tried_50 : decode cX11_tried 50 = .ok (.if_icmp .le 5, 3) := by decide +kernel
theorem dX11_tried_53 : decode cX11_tried 53 = .ok (.iconst (-1), 1) := by decide +kernel
theorem dX11_tried_54 : decode cX11_tried 54 = .ok (.ireturn, 1) := by decide +kernel
theorem dX11_tried_55 : decode cX11_tried 55 = .ok (.aload_n 0, 1) := by decide +kernel
theorem dX11_tried_56 : decode cX11_tried 56 = .ok (.iconst 1, 1) := by decide +kernel
theorem dX11_tried_57 : decode cX11_tried 57 = .ok (.iconst 0, 1) := by decide +kernel
theorem dX11_tried_58 : decode cX11_tried 58 = .ok (.invokevirtual 420, 3) := by decide +kernel
theorem dX11_tried_61 : decode cX11_tried 61 = .ok (.iload_n 1, 1) := by decide +kernel
theorem dX11_tried_62 : decode cX11_tried 62 = .ok (.iconst 5, 1) := by decide +kernel
theorem dX11_tried_63 : decode cX11_tried 63 = .ok (.if_icmp .ne 8, 3) := by decide +kernel
theorem dX11_tried_66 : decode cX11_tried 66 = .ok (.aload_n 0, 1) := by decide +kernel
theorem dX11_tried_67 : decode cX11_tried 67 = .ok (.iconst 1, 1) := by decide +kernel
theorem dX11_tried_68 : decode cX11_tried 68 = .ok (.invokevirtual 531, 3) := by decide +kernel
theorem dX11_tried_71 : decode cX11_tried 71 = .ok (.aload_n 0, 1) := by decide +kernel
theorem dX11_tried_72 : decode cX11_tried 72 = .ok (.iload_n 1, 1) := by decide +kernel
theorem dX11_tried_73 : decode cX11_tried 73 = .ok (.putfield 382, 3) := by decide +kernel
theorem dX11_tried_76 : decode cX11_tried 76 = .ok (.aload_n 0, 1) := by decide +kernel
theorem dX11_tried_77 : decode cX11_tried 77 = .ok (.iload_n 2, 1) := by decide +kernel
theorem dX11_tried_78 : decode cX11_tried 78 = .ok (.putfield 120, 3) := by decide +kernel
theorem dX11_tried_81 : decode cX11_tried 81 = .ok (.aload_n 0, 1) := by decide +kernel
theorem dX11_tried_82 : decode cX11_tried 82 = .ok (.iload_n 3, 1) := by decide +kernel
theorem dX11_tried_83 : decode cX11_tried 83 = .ok (.invokevirtual 423, 3) := by decide +kernel
theorem dX11_tried_86 : decode cX11_tried 86 = .ok (.aload_n 0, 1) := by decide +kernel
theorem dX11_tried_87 : decode cX11_tried 87 = .ok (.iconst 0, 1) := by decide +kernel
theorem dX11_tried_88 : decode cX11_tried 88 = .ok (.putfield 382, 3) := by decide +kernel
theorem dX11_tried_91 : decode cX11_tried 91 = .ok (.aload_n 0, 1) := by decide +kernel
theorem dX11_tried_92 : decode cX11_tried 92 = .ok (.iconst (-1), 1) := by decide +kernel
theorem dX11_tried_93 : decode cX11_tried 93 = .ok (.putfield 120, 3) := by decide +kernel
theorem dX11_tried_96 : decode cX11_tried 96 = .ok (.aload_n 0, 1) := by decide +kernel
theorem dX11_tried_97 : decode cX11_tried 97 = .ok (.iconst 1, 1) := by decide +kernel
theorem dX11_tried_98 : decode cX11_tried 98 = .ok (.iconst 1, 1) := by decide +kernel
theorem dX11_tried_99 : decode cX11_tried 99 = .ok (.invokevirtual 457, 3) := by decide +kernel
theorem dX11_tried_102 : decode cX11_tried 102 = .ok (.aload_n 0, 1) := by decide +kernel
theorem dX11_tried_103 : decode cX11_tried 103 = .ok (.iconst 0, 1) := by decide +kernel
theorem dX11_tried_104 : decode cX11_tried 104 = .ok (.iconst 1, 1) := by decide +kernel
theorem dX11_tried_105 : decode cX11_tried 105 = .ok (.invokevirtual 457, 3) := by decide +kernel
theorem dX11_tried_108 : decode cX11_tried 108 = .ok (.isub, 1) := by decide +kernel
theorem dX11_tried_109 : decode cX11_tried 109 = .ok (.ireturn, 1) := by decide +kernel
theorem dX11_undo_0 : decode cX11_undo 0 = .ok (.aload_n 0, 1) := by decide +kernel
theorem dX11_undo_1 : decode cX11_undo 1 = .ok (.iconst 0, 1) := by decide +kernel
theorem dX11_undo_2 : decode cX11_undo 2 = .ok (.putfield 157, 3) := by decide +kernel
theorem dX11_undo_5 : decode cX11_undo 5 = .ok (.aload_n 0, 1) := by decide +kernel
theorem dX11_undo_6 : decode cX11_undo 6 = .ok (.getfield 320, 3) := by decide +kernel
theorem dX11_undo_9 : decode cX11_undo 9 = .ok (.ifCond .ne 5, 3) := by decide +kernel
theorem dX11_undo_12 : decode cX11_undo 12 = .ok (.iconst (-1), 1) := by decide +kernel
theorem dX11_undo_13 : decode cX11_undo 13 = .ok (.ireturn, 1) := by decide +kernel
theorem dX11_undo_14 : decode cX11_undo 14 = .ok (.aload_n 0, 1) := by decide +kernel
theorem dX11_undo_15 : decode cX11_undo 15 = .ok (.dup, 1) := by decide +kernel
theorem dX11_undo_16 : decode cX11_undo 16 = .ok (.getfield 320, 3) := by decide +kernel
theorem dX11_undo_19 : decode cX11_undo 19 = .ok (.iconst 1, 1) := by decide +kernel
theorem dX11_undo_20 : decode cX11_undo 20 = .ok (.isub, 1) := by decide +kernel
theorem dX11_undo_21 : decode cX11_undo 21 = .ok (.putfield 320, 3) := by decide +kernel
theorem dX11_undo_24 : decode cX11_undo 24 = .ok (.aload_n 0, 1) := by decide +kernel
theorem dX11_undo_25 : decode cX11_undo 25 = .ok (.iconst 0, 1) := by decide +kernel
theorem dX11_undo_26 : decode cX11_undo 26 = .ok (.iconst 3, 1) := by decide +kernel
theorem dX11_undo_27 : decode cX11_undo 27 = .ok (.aload_n 0, 1) := by decide +kernel
theorem dX11_undo_28 : decode cX11_undo 28 = .ok (.getfield 320, 3) := by decide +kernel
theorem dX11_undo_31 : decode cX11_undo 31 = .ok (.iadd, 1) := by decide +kernel
theorem dX11_undo_32 : decode cX11_undo 32 = .ok (.invokevirtual 420, 3) := by decide +kernel
theorem dX11_undo_35 : decode cX11_undo 35 = .ok (.aload_n 0, 1) := by decide +kernel
theorem dX11_undo_36 : decode cX11_undo 36 = .ok (.getfield 320, 3) := by decide +kernel
theorem dX11_undo_39 : decode cX11_undo 39 = .ok (.ireturn, 1) := by decide +kernel
theorem dX11_keep_0 : decode cX11_keep 0 = .ok (.aload_n 0, 1) := by decide +kernel
theorem dX11_keep_1 : decode cX11_keep 1 = .ok (.iconst 0, 1) := by decide +kernel
theorem dX11_keep_2 : decode cX11_keep 2 = .ok (.putfield 157, 3) := by decide +kernel
theorem dX11_keep_5 : decode cX11_keep 5 = .ok (.aload_n 0, 1) := by decide +kernel
theorem dX11_keep_6 : decode cX11_keep 6 = .ok (.iconst 2, 1) := by decide +kernel
theorem dX11_keep_7 : decode cX11_keep 7 = .ok (.iconst 0, 1) := by decide +kernel
theorem dX11_keep_8 : decode cX11_keep 8 = .ok (.invokevirtual 420, 3) := by decide +kernel
theorem dX11_keep_11 : decode cX11_keep 11 = .ok (.aload_n 0, 1) := by decide +kernel
theorem dX11_keep_12 : decode cX11_keep 12 = .ok (.iconst 1, 1) := by decide +kernel
theorem dX11_keep_13 : decode cX11_keep 13 = .ok (.putfield 316, 3) := by decide +kernel
theorem dX11_keep_16 : decode cX11_keep 16 = .ok (.aload_n 0, 1) := by decide +kernel
theorem dX11_keep_17 : decode cX11_keep 17 = .ok (.getfield 84, 3) := by decide +kernel
theorem dX11_keep_20 : decode cX11_keep 20 = .ok (.iconst 0, 1) := by decide +kernel
theorem dX11_keep_21 : decode cX11_keep 21 = .ok (.iaload, 1) := by decide +kernel
theorem dX11_keep_22 : decode cX11_keep 22 = .ok (.ireturn, 1) := by decide +kernel
theorem dX11_back_0 : decode cX11_back 0 = .ok (.aload_n 0, 1) := by decide +kernel
theorem dX11_back_1 : decode cX11_back 1 = .ok (.iconst 0, 1) := by decide +kernel
theorem dX11_back_2 : decode cX11_back 2 = .ok (.putfield 157, 3) := by decide +kernel
theorem dX11_back_5 : decode cX11_back 5 = .ok (.aload_n 0, 1) := by decide +kernel
theorem dX11_back_6 : decode cX11_back 6 = .ok (.getfield 316, 3) := by decide +kernel
theorem dX11_back_9 : decode cX11_back 9 = .ok (.ifCond .ne 5, 3) := by decide +kernel
theorem dX11_back_12 : decode cX11_back 12 = .ok (.iconst (-1), 1) := by decide +kernel
theorem dX11_back_13 : decode cX11_back 13 = .ok (.ireturn, 1) := by decide +kernel
theorem dX11_back_14 : decode cX11_back 14 = .ok (.aload_n 0, 1) := by decide +kernel
theorem dX11_back_15 : decode cX11_back 15 = .ok (.iconst 0, 1) := by decide +kernel
theorem dX11_back_16 : decode cX11_back 16 = .ok (.iconst 2, 1) := by decide +kernel
theorem dX11_back_17 : decode cX11_back 17 = .ok (.invokevirtual 420, 3) := by decide +kernel
theorem dX11_back_20 : decode cX11_back 20 = .ok (.aload_n 0, 1) := by decide +kernel
theorem dX11_back_21 : decode cX11_back 21 = .ok (.iconst 0, 1) := by decide +kernel
theorem dX11_back_22 : decode cX11_back 22 = .ok (.putfield 320, 3) := by decide +kernel
theorem dX11_back_25 : decode cX11_back 25 = .ok (.aload_n 0, 1) := by decide +kernel
theorem dX11_back_26 : decode cX11_back 26 = .ok (.getfield 84, 3) := by decide +kernel
theorem dX11_back_29 : decode cX11_back 29 = .ok (.iconst 0, 1) := by decide +kernel
theorem dX11_back_30 : decode cX11_back 30 = .ok (.iaload, 1) := by decide +kernel
theorem dX11_back_31 : decode cX11_back 31 = .ok (.ireturn, 1) := by decide +kernel
theorem dX11_count_0 : decode cX11_count 0 = .ok (.aload_n 0, 1) := by decide +kernel
theorem dX11_count_1 : decode cX11_count 1 = .ok (.iconst 0, 1) := by decide +kernel
theorem dX11_count_2 : decode cX11_count 2 = .ok (.putfield 157, 3) := by decide +kernel
theorem dX11_count_5 : decode cX11_count 5 = .ok (.iload_n 1, 1) := by decide +kernel
theorem dX11_count_6 : decode cX11_count 6 = .ok (.tableswitch 182 0 15 #[78, 85, 92, 99, 106, 113, 121, 128, 135, 142, 148, 154, 160, 167, 172, 177], 78) := by decide +kernel
theorem dX11_count_84 : decode cX11_count 84 = .ok (.aload_n 0, 1) := by decide +kernel
theorem dX11_count_85 : decode cX11_count 85 = .ok (.getfield 13, 3) := by decide +kernel
theorem dX11_count_88 : decode cX11_count 88 = .ok (.iconst 0, 1) := by decide +kernel
theorem dX11_count_89 : decode cX11_count 89 = .ok (.iaload, 1) := by decide +kernel
theorem dX11_count_90 : decode cX11_count 90 = .ok (.ireturn, 1) := by decide +kernel
theorem dX11_count_91 : decode cX11_count 91 = .ok (.aload_n 0, 1) := by decide +kernel
theorem dX11_count_92 : decode cX11_count 92 = .ok (.getfield 13, 3) := by decide +kernel
theorem dX11_count_95 : decode cX11_count 95 = .ok (.iconst 1, 1) := by decide +kernel
theorem dX11_count_96 : decode cX11_count 96 = .ok (.iaload, 1) := by decide +kernel
theorem dX11_count_97 : decode cX11_count 97 = .ok (.ireturn, 1) := by decide +kernel
theorem dX11_count_98 : decode cX11_count 98 = .ok (.aload_n 0, 1) := by decide +kernel
theorem dX11_count_99 : decode cX11_count 99 = .ok (.getfield 13, 3) := by decide +kernel
theorem dX11_count_102 : decode cX11_count 102 = .ok (.iconst 2, 1) := by decide +kernel
theorem dX11_count_103 : decode cX11_count 103 = .ok (.iaload, 1) := by decide +kernel
theorem dX11_count_104 : decode cX11_count 104 = .ok (.ireturn, 1) := by decide +kernel
theorem dX11_count_105 : decode cX11_count 105 = .ok (.aload_n 0, 1) := by decide +kernel
theorem dX11_count_106 : decode cX11_count 106 = .ok (.getfield 93, 3) := by decide +kernel
theorem dX11_count_109 : decode cX11_count 109 = .ok (.iconst 0, 1) := by decide +kernel
theorem dX11_count_110 : decode cX11_count 110 = .ok (.iaload, 1) := by decide +kernel
theorem dX11_count_111 : decode cX11_count 111 = .ok (.ireturn, 1) := by decide +kernel
theorem dX11_count_112 : decode cX11_count 112 = .ok (.aload_n 0, 1) := by decide +kernel
theorem dX11_count_113 : decode cX11_count 113 = .ok (.getfield 13, 3) := by decide +kernel
theorem dX11_count_116 : decode cX11_count 116 = .ok (.iconst 4, 1) := by decide +kernel
theorem dX11_count_117 : decode cX11_count 117 = .ok (.iaload, 1) := by decide +kernel
theorem dX11_count_118 : decode cX11_count 118 = .ok (.ireturn, 1) := by decide +kernel
theorem dX11_count_119 : decode cX11_count 119 = .ok (.aload_n 0, 1) := by decide +kernel
theorem dX11_count_120 : decode cX11_count 120 = .ok (.getfield 13, 3) := by decide +kernel
theorem dX11_count_123 : decode cX11_count 123 = .ok (.bipush 8, 2) := by decide +kernel
theorem dX11_count_125 : decode cX11_count 125 = .ok (.iaload, 1) := by decide +kernel
theorem dX11_count_126 : decode cX11_count 126 = .ok (.ireturn, 1) := by decide +kernel
theorem dX11_count_127 : decode cX11_count 127 = .ok (.aload_n 0, 1) := by decide +kernel
theorem dX11_count_128 : decode cX11_count 128 = .ok (.getfield 84, 3) := by decide +kernel
theorem dX11_count_131 : decode cX11_count 131 = .ok (.iconst 0, 1) := by decide +kernel
theorem dX11_count_132 : decode cX11_count 132 = .ok (.iaload, 1) := by decide +kernel
theorem dX11_count_133 : decode cX11_count 133 = .ok (.ireturn, 1) := by decide +kernel
theorem dX11_count_134 : decode cX11_count 134 = .ok (.aload_n 0, 1) := by decide +kernel
theorem dX11_count_135 : decode cX11_count 135 = .ok (.iconst 0, 1) := by decide +kernel
theorem dX11_count_136 : decode cX11_count 136 = .ok (.iconst 1, 1) := by decide +kernel
theorem dX11_count_137 : decode cX11_count 137 = .ok (.invokevirtual 457, 3) := by decide +kernel
theorem dX11_count_140 : decode cX11_count 140 = .ok (.ireturn, 1) := by decide +kernel
theorem dX11_count_141 : decode cX11_count 141 = .ok (.aload_n 0, 1) := by decide +kernel
theorem dX11_count_142 : decode cX11_count 142 = .ok (.iconst 0, 1) := by decide +kernel
theorem dX11_count_143 : decode cX11_count 143 = .ok (.iconst 2, 1) := by decide +kernel
theorem dX11_count_144 : decode cX11_count 144 = .ok (.invokevirtual 457, 3) := by decide +kernel
theorem dX11_count_147 : decode cX11_count 147 = .ok (.ireturn, 1) := by decide +kernel
theorem dX11_count_148 : decode cX11_count 148 = .ok (.aload_n 0, 1) := by decide +kernel
theorem dX11_count_149 : decode cX11_count 149 = .ok (.iconst 0, 1) := by decide +kernel
theorem dX11_count_150 : decode cX11_count 150 = .ok (.invokevirtual 460, 3) := by decide +kernel
theorem dX11_count_153 : decode cX11_count 153 = .ok (.ireturn, 1) := by decide +kernel
theorem dX11_count_154 : decode cX11_count 154 = .ok (.aload_n 0, 1) := by decide +kernel
theorem dX11_count_155 : decode cX11_count 155 = .ok (.iconst 0, 1) := by decide +kernel
theorem dX11_count_156 : decode cX11_count 156 = .ok (.invokevirtual 481, 3) := by decide +kernel
theorem dX11_count_159 : decode cX11_count 159 = .ok (.ireturn, 1) := by decide +kernel
theorem dX11_count_160 : decode cX11_count 160 = .ok (.aload_n 0, 1) := by decide +kernel
theorem dX11_count_161 : decode cX11_count 161 = .ok (.iconst 0, 1) := by decide +kernel
theorem dX11_count_162 : decode cX11_count 162 = .ok (.invokevirtual 463, 3) := by decide +kernel
theorem dX11_count_165 : decode cX11_count 165 = .ok (.ireturn, 1) := by decide +kernel
theorem dX11_count_166 : decode cX11_count 166 = .ok (.aload_n 0, 1) := by decide +kernel
theorem dX11_count_167 : decode cX11_count 167 = .ok (.getfield 90, 3) := by decide +kernel
theorem dX11_count_170 : decode cX11_count 170 = .ok (.iconst 0, 1) := by decide +kernel
theorem dX11_count_171 : decode cX11_count 171 = .ok (.iaload, 1) := by decide +kernel
theorem dX11_count_172 : decode cX11_count 172 = .ok (.ireturn, 1) := by decide +kernel
theorem dX11_count_173 : decode cX11_count 173 = .ok (.aload_n 0, 1) := by decide +kernel
theorem dX11_count_174 : decode cX11_count 174 = .ok (.getfield 313, 3) := by decide +kernel
theorem dX11_count_177 : decode cX11_count 177 = .ok (.ireturn, 1) := by decide +kernel
theorem dX11_count_178 : decode cX11_count 178 = .ok (.aload_n 0, 1) := by decide +kernel
theorem dX11_count_179 : decode cX11_count 179 = .ok (.invokevirtual 520, 3) := by decide +kernel
theorem dX11_count_182 : decode cX11_count 182 = .ok (.ireturn, 1) := by decide +kernel
theorem dX11_count_183 : decode cX11_count 183 = .ok (.aload_n 0, 1) := by decide +kernel
theorem dX11_count_184 : decode cX11_count 184 = .ok (.getfield 320, 3) := by decide +kernel
theorem dX11_count_187 : decode cX11_count 187 = .ok (.ireturn, 1) := by decide +kernel
theorem dX11_count_188 : decode cX11_count 188 = .ok (.iconst (-1), 1) := by decide +kernel
theorem dX11_count_189 : decode cX11_count 189 = .ok (.ireturn, 1) := by decide +kernel
section
variable {p : Program} {l : Launch} {e : Env} {s : State} {m : MethodId} {args : Array Value} {below : List Frame} {meth : Method} {c : Code} {D : va_G} {aC : Nat → ClassId} {B : Nat}
set_option maxHeartbeats 4000000 in
set_option maxRecDepth 100000 in
theorem w11_swaps_b83 (E : g_C p s m args c cX11_swaps RX11 D aC (g_Zs (g_A B 44))) (hml : c.maxLocals = 6) (hret : meth.sig.returnType = (some .int)) (hlk : meth.locks = false) {F : Nat} {q0 : Int32 × g_M} {s39 : Int32 → Int32 → Int32 → Int32 → Int32 → g_M → Option (Int32 × g_M)} (hs39 : ∀ (v1 : Int32) (v2 : Int32) (v3 : Int32) (v4 : Int32) (v5 : Int32) (mem : g_M) (H : Heap) (locs : List Loc) (ls : Array Slot), g_At D aC B yM 44 mem s.heap H locs → lv_has ls 6 [(0, .ref (B + 0)), (1, .int v1), (2, .int v2), (3, .int v3), (4, .int v4), (5, .int v5)] → s39 v1 v2 v3 v4 v5 mem = some q0 → W p l e (g_rm 1) s m args below meth c H locs 0 0 (g_MQ below D aC B yM 44 args s (some (.int q0.1)) q0.2) (F0 m 39 ls [])) : ∀ (v2 : Int32) (v3 : Int32) (v4 : Int32) (v5 : Int32) (w0 : Int32) (w1 : Int32) (mem : g_M) (H : Heap) (locs : List Loc) (ls : Array Slot), g_At D aC B yM 44 mem s.heap H locs → lv_has ls 6 [(0, .ref (B + 0)), (2, .int v2), (3, .int v3), (4, .int v4), (5, .int v5)] → f11_swaps_b83 F s39 v2 v3 v4 v5 w0 w1 mem = some q0 → W p l e (g_rm 1) s m args below meth c H locs 0 0 (g_MQ below D aC B yM 44 args s (some (.int q0.1)) q0.2) (F0 m 83 ls [.int w1, .int w0]) := by
  intro v2 v3 v4 v5 w0 w1 mem H locs ls hM hl he
  unfold f11_swaps_b83 at he
  have hx := E.1
  have hb := E.2.1
  have hown := E.2.2.1
  have hts := E.2.2.2.1
  refine lv_iadd hx hb dX11_swaps_83 ?_
  obtain ⟨x1, hx1, he⟩ := g_let_ex he
  refine g_topI hx1 ?_
  refine lv_istore_n (lv' := [(1, .int x1), (0, .ref (B + 0)), (2, .int v2), (3, .int v3), (4, .int v4), (5, .int v5)]) hx hb dX11_swaps_84 rfl hl (by decide) rfl (fun ls hl => ?_)
  refine lv_goto (tgt := 39) hx hb dX11_swaps_85 (by decide) ?_
  exact hs39 _ _ _ _ _ _ _ _ _ hM (lv_sub hl [1, 0, 2, 3, 4, 5] rfl) he

set_option maxHeartbeats 4000000 in
set_option maxRecDepth 100000 in
theorem w11_swaps_b39_body (E : g_C p s m args c cX11_swaps RX11 D aC (g_Zs (g_A B 44))) (hml : c.maxLocals = 6) (hret : meth.sig.returnType = (some .int)) (hlk : meth.locks = false) {F : Nat} {q0 : Int32 × g_M} {s24 : Int32 → Int32 → Int32 → Int32 → g_M → Option (Int32 × g_M)} (hs24 : ∀ (v1 : Int32) (v2 : Int32) (v3 : Int32) (v4 : Int32) (mem : g_M) (H : Heap) (locs : List Loc) (ls : Array Slot), g_At D aC B yM 44 mem s.heap H locs → lv_has ls 6 [(0, .ref (B + 0)), (1, .int v1), (2, .int v2), (3, .int v3), (4, .int v4)] → s24 v1 v2 v3 v4 mem = some q0 → W p l e (g_rm 1) s m args below meth c H locs 0 0 (g_MQ below D aC B yM 44 args s (some (.int q0.1)) q0.2) (F0 m 24 ls [])) {s39 : Int32 → Int32 → Int32 → Int32 → Int32 → g_M → Option (Int32 × g_M)} (hs39 : ∀ (v1 : Int32) (v2 : Int32) (v3 : Int32) (v4 : Int32) (v5 : Int32) (mem : g_M) (H : Heap) (locs : List Loc) (ls : Array Slot), g_At D aC B yM 44 mem s.heap H locs → lv_has ls 6 [(0, .ref (B + 0)), (1, .int v1), (2, .int v2), (3, .int v3), (4, .int v4), (5, .int v5)] → s39 v1 v2 v3 v4 v5 mem = some q0 → W p l e (g_rm 1) s m args below meth c H locs 0 0 (g_MQ below D aC B yM 44 args s (some (.int q0.1)) q0.2) (F0 m 39 ls [])) : ∀ (v1 : Int32) (v2 : Int32) (v3 : Int32) (v4 : Int32) (v5 : Int32) (mem : g_M) (H : Heap) (locs : List Loc) (ls : Array Slot), g_At D aC B yM 44 mem s.heap H locs → lv_has ls 6 [(0, .ref (B + 0)), (1, .int v1), (2, .int v2), (3, .int v3), (4, .int v4), (5, .int v5)] → f11_swaps_b39_body F s24 s39 v1 v2 v3 v4 v5 mem = some q0 → W p l e (g_rm 1) s m args below meth c H locs 0 0 (g_MQ below D aC B yM 44 args s (some (.int q0.1)) q0.2) (F0 m 39 ls []) := by
  intro v1 v2 v3 v4 v5 mem H locs ls hM hl he
  unfold f11_swaps_b39_body at he
  have hx := E.1
  have hb := E.2.1
  have hown := E.2.2.1
  have hts := E.2.2.2.1
  refine lv_iload_n hx hb dX11_swaps_39 rfl (lv_at hl 3 rfl) ?_
  refine lv_iload hx hb dX11_swaps_40 (lv_at hl 5 rfl) ?_
  refine lv_ishr hx hb dX11_swaps_42 ?_
  refine lv_iconst (v := (1 : Int32)) hx hb dX11_swaps_43 rfl ?_
  refine lv_iand hx hb dX11_swaps_44 ?_
  refine lv_if_ne (tgt := 88) hx hb dX11_swaps_45 (by decide) (fun h2 => ?_) (fun h2 => ?_)
  · rw [if_neg h2] at he
    obtain ⟨x7, hx7, he⟩ := g_let_ex he
    refine lv_iinc (v := x7) (lv' := [(4, .int x7), (0, .ref (B + 0)), (1, .int v1), (2, .int v2), (3, .int v3), (5, .int v5)]) hx hb dX11_swaps_88 hl (k := 4) rfl (by rw [hx7]; rfl) (by decide) rfl (fun ls hl => ?_)
    refine lv_goto (tgt := 24) hx hb dX11_swaps_91 (by decide) ?_
    exact hs24 _ _ _ _ _ _ _ _ hM (lv_sub hl [1, 2, 3, 4, 0] rfl) he
  · rw [if_pos h2] at he
    refine lv_iload_n hx hb dX11_swaps_48 rfl (lv_at hl 3 rfl) ?_
    refine lv_iconst (v := (1 : Int32)) hx hb dX11_swaps_49 rfl ?_
    refine lv_iload hx hb dX11_swaps_50 (lv_at hl 5 rfl) ?_
    refine lv_ishl hx hb dX11_swaps_52 ?_
    refine lv_ior hx hb dX11_swaps_53 ?_
    obtain ⟨x3, hx3, he⟩ := g_let_ex he
    refine g_topI hx3 ?_
    refine lv_istore_n (lv' := [(3, .int x3), (0, .ref (B + 0)), (1, .int v1), (2, .int v2), (4, .int v4), (5, .int v5)]) hx hb dX11_swaps_54 rfl hl (by decide) rfl (fun ls hl => ?_)
    refine lv_aload_n hx hb dX11_swaps_55 rfl (lv_at hl 1 rfl) ?_
    refine g_getP E hM (o := 0) (Nat.le_of_ble_eq_true rfl) rfl fl_X11_99 (q := 29) rfl dX11_swaps_56 ?_
    refine lv_iconst (v := (5 : Int32)) hx hb dX11_swaps_59 rfl ?_
    refine lv_iload hx hb dX11_swaps_60 (lv_at hl 5 rfl) ?_
    refine lv_imul hx hb dX11_swaps_62 ?_
    refine lv_iload_n hx hb dX11_swaps_63 rfl (lv_at hl 3 rfl) ?_
    refine lv_iadd hx hb dX11_swaps_64 ?_
    obtain ⟨h4, he⟩ := g_ck_some he
    refine g_iald E hM (o := 29) (Nat.le_of_ble_eq_true rfl) rfl h4 dX11_swaps_65 ?_
    obtain ⟨x5, hx5, he⟩ := g_let_ex he
    refine g_topI hx5 ?_
    refine lv_istore (lv' := [(5, .int x5), (3, .int x3), (0, .ref (B + 0)), (1, .int v1), (2, .int v2), (4, .int v4)]) hx hb dX11_swaps_66 hl (by decide) rfl (fun ls hl => ?_)
    refine lv_iload_n hx hb dX11_swaps_68 rfl (lv_at hl 3 rfl) ?_
    refine lv_iload_n hx hb dX11_swaps_69 rfl (lv_at hl 1 rfl) ?_
    refine lv_iload hx hb dX11_swaps_70 (lv_at hl 0 rfl) ?_
    refine lv_ishr hx hb dX11_swaps_72 ?_
    refine lv_iconst (v := (1 : Int32)) hx hb dX11_swaps_73 rfl ?_
    refine lv_iand hx hb dX11_swaps_74 ?_
    refine lv_if_ne (tgt := 82) hx hb dX11_swaps_75 (by decide) (fun h6 => ?_) (fun h6 => ?_)
    · rw [if_neg h6] at he
      refine lv_iconst (v := (0 : Int32)) hx hb dX11_swaps_82 rfl ?_
      exact w11_swaps_b83 (F := F) E hml hret hlk hs39 _ _ _ _ _ _ _ _ _ _ hM (lv_sub hl [2, 4, 1, 5, 0] rfl) he
    · rw [if_pos h6] at he
      refine lv_iconst (v := (1 : Int32)) hx hb dX11_swaps_78 rfl ?_
      refine lv_goto (tgt := 83) hx hb dX11_swaps_79 (by decide) ?_
      exact w11_swaps_b83 (F := F) E hml hret hlk hs39 _ _ _ _ _ _ _ _ _ _ hM (lv_sub hl [2, 4, 1, 5, 0] rfl) he

set_option maxHeartbeats 4000000 in
set_option maxRecDepth 100000 in
theorem w11_swaps_b39 (E : g_C p s m args c cX11_swaps RX11 D aC (g_Zs (g_A B 44))) (hml : c.maxLocals = 6) (hret : meth.sig.returnType = (some .int)) (hlk : meth.locks = false) {F : Nat} {q0 : Int32 × g_M} {s24 : Int32 → Int32 → Int32 → Int32 → g_M → Option (Int32 × g_M)} (hs24 : ∀ (v1 : Int32) (v2 : Int32) (v3 : Int32) (v4 : Int32) (mem : g_M) (H : Heap) (locs : List Loc) (ls : Array Slot), g_At D aC B yM 44 mem s.heap H locs → lv_has ls 6 [(0, .ref (B + 0)), (1, .int v1), (2, .int v2), (3, .int v3), (4, .int v4)] → s24 v1 v2 v3 v4 mem = some q0 → W p l e (g_rm 1) s m args below meth c H locs 0 0 (g_MQ below D aC B yM 44 args s (some (.int q0.1)) q0.2) (F0 m 24 ls [])) : ∀ (v1 : Int32) (v2 : Int32) (v3 : Int32) (v4 : Int32) (v5 : Int32) (mem : g_M) (H : Heap) (locs : List Loc) (ls : Array Slot), g_At D aC B yM 44 mem s.heap H locs → lv_has ls 6 [(0, .ref (B + 0)), (1, .int v1), (2, .int v2), (3, .int v3), (4, .int v4), (5, .int v5)] → f11_swaps_b39 F s24 v1 v2 v3 v4 v5 mem = some q0 → W p l e (g_rm 1) s m args below meth c H locs 0 0 (g_MQ below D aC B yM 44 args s (some (.int q0.1)) q0.2) (F0 m 39 ls []) := by
  have key : ∀ (nn : Nat) (x : Int32 × Int32 × Int32 × Int32 × Int32 × g_M) (H : Heap) (locs : List Loc) (ls : Array Slot), g_At D aC B yM 44 x.2.2.2.2.2 s.heap H locs → lv_has ls 6 [(0, .ref (B + 0)), (1, .int x.1), (2, .int x.2.1), (3, .int x.2.2.1), (4, .int x.2.2.2.1), (5, .int x.2.2.2.2.1)] → g_fix (fun sf x => f11_swaps_b39_body F s24 (fun v1 v2 v3 v4 v5 mem => sf (v1, v2, v3, v4, v5, mem)) x.1 x.2.1 x.2.2.1 x.2.2.2.1 x.2.2.2.2.1 x.2.2.2.2.2) nn x = some q0 → W p l e (g_rm 1) s m args below meth c H locs 0 0 (g_MQ below D aC B yM 44 args s (some (.int q0.1)) q0.2) (F0 m 39 ls []) := by
    intro nn
    induction nn with
    | zero => intro x H locs ls hM hl he; simp [g_fix] at he
    | succ nn ih =>
      intro x H locs ls hM hl he
      exact w11_swaps_b39_body (F := F) E hml hret hlk hs24 (fun v1 v2 v3 v4 v5 mem H locs ls hM hl he => ih (v1, v2, v3, v4, v5, mem) H locs ls hM hl he) x.1 x.2.1 x.2.2.1 x.2.2.2.1 x.2.2.2.2.1 x.2.2.2.2.2 H locs ls hM hl he
  intro v1 v2 v3 v4 v5 mem H locs ls hM hl he
  exact key F (v1, v2, v3, v4, v5, mem) H locs ls hM hl he

set_option maxHeartbeats 4000000 in
set_option maxRecDepth 100000 in
theorem w11_swaps_b24_body (E : g_C p s m args c cX11_swaps RX11 D aC (g_Zs (g_A B 44))) (hml : c.maxLocals = 6) (hret : meth.sig.returnType = (some .int)) (hlk : meth.locks = false) {F : Nat} {q0 : Int32 × g_M} {s9 : Int32 → Int32 → g_M → Option (Int32 × g_M)} (hs9 : ∀ (v1 : Int32) (v2 : Int32) (mem : g_M) (H : Heap) (locs : List Loc) (ls : Array Slot), g_At D aC B yM 44 mem s.heap H locs → lv_has ls 6 [(0, .ref (B + 0)), (1, .int v1), (2, .int v2)] → s9 v1 v2 mem = some q0 → W p l e (g_rm 1) s m args below meth c H locs 0 0 (g_MQ below D aC B yM 44 args s (some (.int q0.1)) q0.2) (F0 m 9 ls [])) {s24 : Int32 → Int32 → Int32 → Int32 → g_M → Option (Int32 × g_M)} (hs24 : ∀ (v1 : Int32) (v2 : Int32) (v3 : Int32) (v4 : Int32) (mem : g_M) (H : Heap) (locs : List Loc) (ls : Array Slot), g_At D aC B yM 44 mem s.heap H locs → lv_has ls 6 [(0, .ref (B + 0)), (1, .int v1), (2, .int v2), (3, .int v3), (4, .int v4)] → s24 v1 v2 v3 v4 mem = some q0 → W p l e (g_rm 1) s m args below meth c H locs 0 0 (g_MQ below D aC B yM 44 args s (some (.int q0.1)) q0.2) (F0 m 24 ls [])) : ∀ (v1 : Int32) (v2 : Int32) (v3 : Int32) (v4 : Int32) (mem : g_M) (H : Heap) (locs : List Loc) (ls : Array Slot), g_At D aC B yM 44 mem s.heap H locs → lv_has ls 6 [(0, .ref (B + 0)), (1, .int v1), (2, .int v2), (3, .int v3), (4, .int v4)] → f11_swaps_b24_body F s9 s24 v1 v2 v3 v4 mem = some q0 → W p l e (g_rm 1) s m args below meth c H locs 0 0 (g_MQ below D aC B yM 44 args s (some (.int q0.1)) q0.2) (F0 m 24 ls []) := by
  intro v1 v2 v3 v4 mem H locs ls hM hl he
  unfold f11_swaps_b24_body at he
  have hx := E.1
  have hb := E.2.1
  have hown := E.2.2.1
  have hts := E.2.2.2.1
  refine lv_iload hx hb dX11_swaps_24 (lv_at hl 4 rfl) ?_
  refine lv_aload_n hx hb dX11_swaps_26 rfl (lv_at hl 0 rfl) ?_
  refine g_getP E hM (o := 0) (Nat.le_of_ble_eq_true rfl) rfl fl_X11_13 (q := 2) rfl dX11_swaps_27 ?_
  refine lv_iconst (v := (0 : Int32)) hx hb dX11_swaps_30 rfl ?_
  obtain ⟨h8, he⟩ := g_ck_some he
  refine g_iald E hM (o := 2) (Nat.le_of_ble_eq_true rfl) rfl h8 dX11_swaps_31 ?_
  refine lv_icmp_ge (tgt := 94) hx hb dX11_swaps_32 (by decide) (fun h9 => ?_) (fun h9 => ?_)
  · rw [if_neg (Int32.not_lt.mpr h9)] at he
    obtain ⟨x10, hx10, he⟩ := g_let_ex he
    refine lv_iinc (v := x10) (lv' := [(2, .int x10), (0, .ref (B + 0)), (1, .int v1), (3, .int v3), (4, .int v4)]) hx hb dX11_swaps_94 hl (k := 2) rfl (by rw [hx10]; rfl) (by decide) rfl (fun ls hl => ?_)
    refine lv_goto (tgt := 9) hx hb dX11_swaps_97 (by decide) ?_
    exact hs9 _ _ _ _ _ _ hM (lv_sub hl [1, 2, 0] rfl) he
  · rw [if_pos (Int32.not_le.mp h9)] at he
    refine lv_iload hx hb dX11_swaps_35 (lv_at hl 4 rfl) ?_
    refine lv_istore (lv' := [(5, .int v4), (0, .ref (B + 0)), (1, .int v1), (2, .int v2), (3, .int v3), (4, .int v4)]) hx hb dX11_swaps_37 hl (by decide) rfl (fun ls hl => ?_)
    exact w11_swaps_b39 (F := F) E hml hret hlk hs24 _ _ _ _ _ _ _ _ _ hM (lv_sub hl [1, 2, 3, 4, 5, 0] rfl) he

set_option maxHeartbeats 4000000 in
set_option maxRecDepth 100000 in
theorem w11_swaps_b24 (E : g_C p s m args c cX11_swaps RX11 D aC (g_Zs (g_A B 44))) (hml : c.maxLocals = 6) (hret : meth.sig.returnType = (some .int)) (hlk : meth.locks = false) {F : Nat} {q0 : Int32 × g_M} {s9 : Int32 → Int32 → g_M → Option (Int32 × g_M)} (hs9 : ∀ (v1 : Int32) (v2 : Int32) (mem : g_M) (H : Heap) (locs : List Loc) (ls : Array Slot), g_At D aC B yM 44 mem s.heap H locs → lv_has ls 6 [(0, .ref (B + 0)), (1, .int v1), (2, .int v2)] → s9 v1 v2 mem = some q0 → W p l e (g_rm 1) s m args below meth c H locs 0 0 (g_MQ below D aC B yM 44 args s (some (.int q0.1)) q0.2) (F0 m 9 ls [])) : ∀ (v1 : Int32) (v2 : Int32) (v3 : Int32) (v4 : Int32) (mem : g_M) (H : Heap) (locs : List Loc) (ls : Array Slot), g_At D aC B yM 44 mem s.heap H locs → lv_has ls 6 [(0, .ref (B + 0)), (1, .int v1), (2, .int v2), (3, .int v3), (4, .int v4)] → f11_swaps_b24 F s9 v1 v2 v3 v4 mem = some q0 → W p l e (g_rm 1) s m args below meth c H locs 0 0 (g_MQ below D aC B yM 44 args s (some (.int q0.1)) q0.2) (F0 m 24 ls []) := by
  have key : ∀ (nn : Nat) (x : Int32 × Int32 × Int32 × Int32 × g_M) (H : Heap) (locs : List Loc) (ls : Array Slot), g_At D aC B yM 44 x.2.2.2.2 s.heap H locs → lv_has ls 6 [(0, .ref (B + 0)), (1, .int x.1), (2, .int x.2.1), (3, .int x.2.2.1), (4, .int x.2.2.2.1)] → g_fix (fun sf x => f11_swaps_b24_body F s9 (fun v1 v2 v3 v4 mem => sf (v1, v2, v3, v4, mem)) x.1 x.2.1 x.2.2.1 x.2.2.2.1 x.2.2.2.2) nn x = some q0 → W p l e (g_rm 1) s m args below meth c H locs 0 0 (g_MQ below D aC B yM 44 args s (some (.int q0.1)) q0.2) (F0 m 24 ls []) := by
    intro nn
    induction nn with
    | zero => intro x H locs ls hM hl he; simp [g_fix] at he
    | succ nn ih =>
      intro x H locs ls hM hl he
      exact w11_swaps_b24_body (F := F) E hml hret hlk hs9 (fun v1 v2 v3 v4 mem H locs ls hM hl he => ih (v1, v2, v3, v4, mem) H locs ls hM hl he) x.1 x.2.1 x.2.2.1 x.2.2.2.1 x.2.2.2.2 H locs ls hM hl he
  intro v1 v2 v3 v4 mem H locs ls hM hl he
  exact key F (v1, v2, v3, v4, mem) H locs ls hM hl he

set_option maxHeartbeats 4000000 in
set_option maxRecDepth 100000 in
theorem w11_swaps_b9_body (E : g_C p s m args c cX11_swaps RX11 D aC (g_Zs (g_A B 44))) (hml : c.maxLocals = 6) (hret : meth.sig.returnType = (some .int)) (hlk : meth.locks = false) {F : Nat} {q0 : Int32 × g_M} {s9 : Int32 → Int32 → g_M → Option (Int32 × g_M)} (hs9 : ∀ (v1 : Int32) (v2 : Int32) (mem : g_M) (H : Heap) (locs : List Loc) (ls : Array Slot), g_At D aC B yM 44 mem s.heap H locs → lv_has ls 6 [(0, .ref (B + 0)), (1, .int v1), (2, .int v2)] → s9 v1 v2 mem = some q0 → W p l e (g_rm 1) s m args below meth c H locs 0 0 (g_MQ below D aC B yM 44 args s (some (.int q0.1)) q0.2) (F0 m 9 ls [])) : ∀ (v1 : Int32) (v2 : Int32) (mem : g_M) (H : Heap) (locs : List Loc) (ls : Array Slot), g_At D aC B yM 44 mem s.heap H locs → lv_has ls 6 [(0, .ref (B + 0)), (1, .int v1), (2, .int v2)] → f11_swaps_b9_body F s9 v1 v2 mem = some q0 → W p l e (g_rm 1) s m args below meth c H locs 0 0 (g_MQ below D aC B yM 44 args s (some (.int q0.1)) q0.2) (F0 m 9 ls []) := by
  intro v1 v2 mem H locs ls hM hl he
  unfold f11_swaps_b9_body at he
  have hx := E.1
  have hb := E.2.1
  have hown := E.2.2.1
  have hts := E.2.2.2.1
  refine lv_iload_n hx hb dX11_swaps_9 rfl (lv_at hl 2 rfl) ?_
  refine lv_aload_n hx hb dX11_swaps_10 rfl (lv_at hl 0 rfl) ?_
  refine g_getP E hM (o := 0) (Nat.le_of_ble_eq_true rfl) rfl fl_X11_13 (q := 2) rfl dX11_swaps_11 ?_
  refine lv_iconst (v := (1 : Int32)) hx hb dX11_swaps_14 rfl ?_
  obtain ⟨h11, he⟩ := g_ck_some he
  refine g_iald E hM (o := 2) (Nat.le_of_ble_eq_true rfl) rfl h11 dX11_swaps_15 ?_
  refine lv_icmp_ge (tgt := 100) hx hb dX11_swaps_16 (by decide) (fun h12 => ?_) (fun h12 => ?_)
  · rw [if_neg (Int32.not_lt.mpr h12)] at he
    refine lv_iload_n hx hb dX11_swaps_100 rfl (lv_at hl 1 rfl) ?_
    cases he
    exact g_iret E hM hret hlk dX11_swaps_101
  · rw [if_pos (Int32.not_le.mp h12)] at he
    refine lv_iconst (v := (0 : Int32)) hx hb dX11_swaps_19 rfl ?_
    refine lv_istore_n (lv' := [(3, .int (0 : Int32)), (0, .ref (B + 0)), (1, .int v1), (2, .int v2)]) hx hb dX11_swaps_20 rfl hl (by decide) rfl (fun ls hl => ?_)
    refine lv_iconst (v := (0 : Int32)) hx hb dX11_swaps_21 rfl ?_
    refine lv_istore (lv' := [(4, .int (0 : Int32)), (3, .int (0 : Int32)), (0, .ref (B + 0)), (1, .int v1), (2, .int v2)]) hx hb dX11_swaps_22 hl (by decide) rfl (fun ls hl => ?_)
    exact w11_swaps_b24 (F := F) E hml hret hlk hs9 _ _ _ _ _ _ _ _ hM (lv_sub hl [2, 3, 4, 1, 0] rfl) he

set_option maxHeartbeats 4000000 in
set_option maxRecDepth 100000 in
theorem w11_swaps_b9 (E : g_C p s m args c cX11_swaps RX11 D aC (g_Zs (g_A B 44))) (hml : c.maxLocals = 6) (hret : meth.sig.returnType = (some .int)) (hlk : meth.locks = false) {F : Nat} {q0 : Int32 × g_M} : ∀ (v1 : Int32) (v2 : Int32) (mem : g_M) (H : Heap) (locs : List Loc) (ls : Array Slot), g_At D aC B yM 44 mem s.heap H locs → lv_has ls 6 [(0, .ref (B + 0)), (1, .int v1), (2, .int v2)] → f11_swaps_b9 F v1 v2 mem = some q0 → W p l e (g_rm 1) s m args below meth c H locs 0 0 (g_MQ below D aC B yM 44 args s (some (.int q0.1)) q0.2) (F0 m 9 ls []) := by
  have key : ∀ (nn : Nat) (x : Int32 × Int32 × g_M) (H : Heap) (locs : List Loc) (ls : Array Slot), g_At D aC B yM 44 x.2.2 s.heap H locs → lv_has ls 6 [(0, .ref (B + 0)), (1, .int x.1), (2, .int x.2.1)] → g_fix (fun sf x => f11_swaps_b9_body F (fun v1 v2 mem => sf (v1, v2, mem)) x.1 x.2.1 x.2.2) nn x = some q0 → W p l e (g_rm 1) s m args below meth c H locs 0 0 (g_MQ below D aC B yM 44 args s (some (.int q0.1)) q0.2) (F0 m 9 ls []) := by
    intro nn
    induction nn with
    | zero => intro x H locs ls hM hl he; simp [g_fix] at he
    | succ nn ih =>
      intro x H locs ls hM hl he
      exact w11_swaps_b9_body (F := F) E hml hret hlk (fun v1 v2 mem H locs ls hM hl he => ih (v1, v2, mem) H locs ls hM hl he) x.1 x.2.1 x.2.2 H locs ls hM hl he
  intro v1 v2 mem H locs ls hM hl he
  exact key F (v1, v2, mem) H locs ls hM hl he

set_option maxHeartbeats 4000000 in
set_option maxRecDepth 100000 in
theorem c11_swaps (l : Launch) (D : va_G) (aC : Nat → ClassId) (B : Nat) {F : Nat} {mem : g_M} {q0 : Int32 × g_M} (he : f11_swaps F mem = some q0) : g_Met l yX11_swaps cX11_swaps 6 (some .int) 1 D aC B yM 44 mem [.ref (B + 0)] (some (.int q0.1)) q0.2 := by
  refine g_ofW (by decide) (Nat.le_of_ble_eq_true rfl) ?_
  intro p e s m args below meth c ls E hml hret hlk hM hl
  have E : g_C p s m args c cX11_swaps RX11 D aC (g_Zs (g_A B 44)) := E
  have hx := E.1
  have hb := E.2.1
  have hown := E.2.2.1
  have hts := E.2.2.2.1
  have hl : lv_has ls 6 [(0, .ref (B + 0))] := hl
  unfold f11_swaps at he
  refine lv_aload_n hx hb dX11_swaps_0 rfl (lv_at hl 0 rfl) ?_
  refine lv_iconst (v := (0 : Int32)) hx hb dX11_swaps_1 rfl ?_
  refine g_putI E hM (o := 0) (Nat.le_of_ble_eq_true rfl) rfl fp_X11_157 dX11_swaps_2 (fun H locs hM => ?_)
  obtain ⟨m13, hm13, he⟩ := g_let_ex he
  rw [← hm13] at hM
  refine lv_iconst (v := (0 : Int32)) hx hb dX11_swaps_5 rfl ?_
  refine lv_istore_n (lv' := [(1, .int (0 : Int32)), (0, .ref (B + 0))]) hx hb dX11_swaps_6 rfl hl (by decide) rfl (fun ls hl => ?_)
  refine lv_iconst (v := (0 : Int32)) hx hb dX11_swaps_7 rfl ?_
  refine lv_istore_n (lv' := [(2, .int (0 : Int32)), (1, .int (0 : Int32)), (0, .ref (B + 0))]) hx hb dX11_swaps_8 rfl hl (by decide) rfl (fun ls hl => ?_)
  exact w11_swaps_b9 (F := F) E hml hret hlk _ _ _ _ _ _ hM (lv_sub hl [2, 1, 0] rfl) he

set_option maxHeartbeats 4000000 in
set_option maxRecDepth 100000 in
theorem w11_together_b121 (E : g_C p s m args c cX11_together RX11 D aC (g_Zs (g_A B 44))) (hml : c.maxLocals = 8) (hret : meth.sig.returnType = (some .int)) (hlk : meth.locks = false) {F : Nat} {q0 : Int32 × g_M} {a1 : Int32} {a2 : Int32} {a3 : Int32} {s58 : Int32 → Int32 → Int32 → Int32 → g_M → Option (Int32 × g_M)} (hs58 : ∀ (v4 : Int32) (v5 : Int32) (v6 : Int32) (v7 : Int32) (mem : g_M) (H : Heap) (locs : List Loc) (ls : Array Slot), g_At D aC B yM 44 mem s.heap H locs → lv_has ls 8 [(0, .ref (B + 0)), (1, .int a1), (2, .int a2), (3, .int a3), (4, .int v4), (5, .int v5), (6, .int v6), (7, .int v7)] → s58 v4 v5 v6 v7 mem = some q0 → W p l e (g_rm 2) s m args below meth c H locs 0 0 (g_MQ below D aC B yM 44 args s (some (.int q0.1)) q0.2) (F0 m 58 ls [])) : ∀ (v4 : Int32) (v5 : Int32) (v7 : Int32) (w0 : Int32) (w1 : Int32) (mem : g_M) (H : Heap) (locs : List Loc) (ls : Array Slot), g_At D aC B yM 44 mem s.heap H locs → lv_has ls 8 [(0, .ref (B + 0)), (1, .int a1), (2, .int a2), (3, .int a3), (4, .int v4), (5, .int v5), (7, .int v7)] → f11_together_b121 F a1 a2 a3 s58 v4 v5 v7 w0 w1 mem = some q0 → W p l e (g_rm 2) s m args below meth c H locs 0 0 (g_MQ below D aC B yM 44 args s (some (.int q0.1)) q0.2) (F0 m 121 ls [.int w1, .int w0]) := by
  intro v4 v5 v7 w0 w1 mem H locs ls hM hl he
  unfold f11_together_b121 at he
  have hx := E.1
  have hb := E.2.1
  have hown := E.2.2.1
  have hts := E.2.2.2.1
  refine lv_iand hx hb dX11_together_121 ?_
  obtain ⟨x1, hx1, he⟩ := g_let_ex he
  refine g_topI hx1 ?_
  refine lv_istore (lv' := [(6, .int x1), (0, .ref (B + 0)), (1, .int a1), (2, .int a2), (3, .int a3), (4, .int v4), (5, .int v5), (7, .int v7)]) hx hb dX11_together_122 hl (by decide) rfl (fun ls hl => ?_)
  obtain ⟨x2, hx2, he⟩ := g_let_ex he
  refine lv_iinc (v := x2) (lv' := [(7, .int x2), (6, .int x1), (0, .ref (B + 0)), (1, .int a1), (2, .int a2), (3, .int a3), (4, .int v4), (5, .int v5)]) hx hb dX11_together_124 hl (k := 7) rfl (by rw [hx2]; rfl) (by decide) rfl (fun ls hl => ?_)
  refine lv_goto (tgt := 58) hx hb dX11_together_127 (by decide) ?_
  exact hs58 _ _ _ _ _ _ _ _ hM (lv_sub hl [2, 3, 4, 5, 6, 7, 1, 0] rfl) he

set_option maxHeartbeats 4000000 in
set_option maxRecDepth 100000 in
theorem w11_together_b116 (E : g_C p s m args c cX11_together RX11 D aC (g_Zs (g_A B 44))) (hml : c.maxLocals = 8) (hret : meth.sig.returnType = (some .int)) (hlk : meth.locks = false) {F : Nat} {q0 : Int32 × g_M} {a1 : Int32} {a2 : Int32} {a3 : Int32} {s58 : Int32 → Int32 → Int32 → Int32 → g_M → Option (Int32 × g_M)} (hs58 : ∀ (v4 : Int32) (v5 : Int32) (v6 : Int32) (v7 : Int32) (mem : g_M) (H : Heap) (locs : List Loc) (ls : Array Slot), g_At D aC B yM 44 mem s.heap H locs → lv_has ls 8 [(0, .ref (B + 0)), (1, .int a1), (2, .int a2), (3, .int a3), (4, .int v4), (5, .int v5), (6, .int v6), (7, .int v7)] → s58 v4 v5 v6 v7 mem = some q0 → W p l e (g_rm 2) s m args below meth c H locs 0 0 (g_MQ below D aC B yM 44 args s (some (.int q0.1)) q0.2) (F0 m 58 ls [])) : ∀ (v4 : Int32) (v5 : Int32) (v7 : Int32) (w0 : Int32) (mem : g_M) (H : Heap) (locs : List Loc) (ls : Array Slot), g_At D aC B yM 44 mem s.heap H locs → lv_has ls 8 [(0, .ref (B + 0)), (1, .int a1), (2, .int a2), (3, .int a3), (4, .int v4), (5, .int v5), (7, .int v7)] → f11_together_b116 F a1 a2 a3 s58 v4 v5 v7 w0 mem = some q0 → W p l e (g_rm 2) s m args below meth c H locs 0 0 (g_MQ below D aC B yM 44 args s (some (.int q0.1)) q0.2) (F0 m 116 ls [.int w0]) := by
  intro v4 v5 v7 w0 mem H locs ls hM hl he
  unfold f11_together_b116 at he
  have hx := E.1
  have hb := E.2.1
  have hown := E.2.2.1
  have hts := E.2.2.2.1
  refine lv_iconst (v := (1 : Int32)) hx hb dX11_together_116 rfl ?_
  refine lv_goto (tgt := 121) hx hb dX11_together_117 (by decide) ?_
  exact w11_together_b121 (F := F) (a1 := a1) (a2 := a2) (a3 := a3) E hml hret hlk hs58 _ _ _ _ _ _ _ _ _ hM (lv_sub hl [0, 1, 2, 3, 4, 5, 6] rfl) he

set_option maxHeartbeats 4000000 in
set_option maxRecDepth 100000 in
theorem w11_together_b145 (E : g_C p s m args c cX11_together RX11 D aC (g_Zs (g_A B 44))) (hml : c.maxLocals = 8) (hret : meth.sig.returnType = (some .int)) (hlk : meth.locks = false) {F : Nat} {q0 : Int32 × g_M} {a1 : Int32} {a2 : Int32} {a3 : Int32} {s41 : Int32 → Int32 → g_M → Option (Int32 × g_M)} (hs41 : ∀ (v4 : Int32) (v5 : Int32) (mem : g_M) (H : Heap) (locs : List Loc) (ls : Array Slot), g_At D aC B yM 44 mem s.heap H locs → lv_has ls 8 [(0, .ref (B + 0)), (1, .int a1), (2, .int a2), (3, .int a3), (4, .int v4), (5, .int v5)] → s41 v4 v5 mem = some q0 → W p l e (g_rm 2) s m args below meth c H locs 0 0 (g_MQ below D aC B yM 44 args s (some (.int q0.1)) q0.2) (F0 m 41 ls [])) : ∀ (v5 : Int32) (w0 : Int32) (w1 : Int32) (mem : g_M) (H : Heap) (locs : List Loc) (ls : Array Slot), g_At D aC B yM 44 mem s.heap H locs → lv_has ls 8 [(0, .ref (B + 0)), (1, .int a1), (2, .int a2), (3, .int a3), (5, .int v5)] → f11_together_b145 F a1 a2 a3 s41 v5 w0 w1 mem = some q0 → W p l e (g_rm 2) s m args below meth c H locs 0 0 (g_MQ below D aC B yM 44 args s (some (.int q0.1)) q0.2) (F0 m 145 ls [.int w1, .int w0]) := by
  intro v5 w0 w1 mem H locs ls hM hl he
  unfold f11_together_b145 at he
  have hx := E.1
  have hb := E.2.1
  have hown := E.2.2.1
  have hts := E.2.2.2.1
  refine lv_ior hx hb dX11_together_145 ?_
  obtain ⟨x3, hx3, he⟩ := g_let_ex he
  refine g_topI hx3 ?_
  refine lv_istore (lv' := [(4, .int x3), (0, .ref (B + 0)), (1, .int a1), (2, .int a2), (3, .int a3), (5, .int v5)]) hx hb dX11_together_146 hl (by decide) rfl (fun ls hl => ?_)
  obtain ⟨x4, hx4, he⟩ := g_let_ex he
  refine lv_iinc (v := x4) (lv' := [(5, .int x4), (4, .int x3), (0, .ref (B + 0)), (1, .int a1), (2, .int a2), (3, .int a3)]) hx hb dX11_together_148 hl (k := 5) rfl (by rw [hx4]; rfl) (by decide) rfl (fun ls hl => ?_)
  refine lv_goto (tgt := 41) hx hb dX11_together_151 (by decide) ?_
  exact hs41 _ _ _ _ _ _ hM (lv_sub hl [2, 3, 4, 5, 1, 0] rfl) he

set_option maxHeartbeats 4000000 in
set_option maxRecDepth 100000 in
theorem w11_together_b58_body (E : g_C p s m args c cX11_together RX11 D aC (g_Zs (g_A B 44))) (hml : c.maxLocals = 8) (hret : meth.sig.returnType = (some .int)) (hlk : meth.locks = false) {F : Nat} {q0 : Int32 × g_M} {a1 : Int32} {a2 : Int32} {a3 : Int32} {s41 : Int32 → Int32 → g_M → Option (Int32 × g_M)} (hs41 : ∀ (v4 : Int32) (v5 : Int32) (mem : g_M) (H : Heap) (locs : List Loc) (ls : Array Slot), g_At D aC B yM 44 mem s.heap H locs → lv_has ls 8 [(0, .ref (B + 0)), (1, .int a1), (2, .int a2), (3, .int a3), (4, .int v4), (5, .int v5)] → s41 v4 v5 mem = some q0 → W p l e (g_rm 2) s m args below meth c H locs 0 0 (g_MQ below D aC B yM 44 args s (some (.int q0.1)) q0.2) (F0 m 41 ls [])) {s58 : Int32 → Int32 → Int32 → Int32 → g_M → Option (Int32 × g_M)} (hs58 : ∀ (v4 : Int32) (v5 : Int32) (v6 : Int32) (v7 : Int32) (mem : g_M) (H : Heap) (locs : List Loc) (ls : Array Slot), g_At D aC B yM 44 mem s.heap H locs → lv_has ls 8 [(0, .ref (B + 0)), (1, .int a1), (2, .int a2), (3, .int a3), (4, .int v4), (5, .int v5), (6, .int v6), (7, .int v7)] → s58 v4 v5 v6 v7 mem = some q0 → W p l e (g_rm 2) s m args below meth c H locs 0 0 (g_MQ below D aC B yM 44 args s (some (.int q0.1)) q0.2) (F0 m 58 ls [])) : ∀ (v4 : Int32) (v5 : Int32) (v6 : Int32) (v7 : Int32) (mem : g_M) (H : Heap) (locs : List Loc) (ls : Array Slot), g_At D aC B yM 44 mem s.heap H locs → lv_has ls 8 [(0, .ref (B + 0)), (1, .int a1), (2, .int a2), (3, .int a3), (4, .int v4), (5, .int v5), (6, .int v6), (7, .int v7)] → f11_together_b58_body F a1 a2 a3 s41 s58 v4 v5 v6 v7 mem = some q0 → W p l e (g_rm 2) s m args below meth c H locs 0 0 (g_MQ below D aC B yM 44 args s (some (.int q0.1)) q0.2) (F0 m 58 ls []) := by
  intro v4 v5 v6 v7 mem H locs ls hM hl he
  unfold f11_together_b58_body at he
  have hx := E.1
  have hb := E.2.1
  have hown := E.2.2.1
  have hts := E.2.2.2.1
  refine lv_iload hx hb dX11_together_58 (lv_at hl 7 rfl) ?_
  refine lv_aload_n hx hb dX11_together_60 rfl (lv_at hl 0 rfl) ?_
  refine g_getP E hM (o := 0) (Nat.le_of_ble_eq_true rfl) rfl fl_X11_13 (q := 2) rfl dX11_together_61 ?_
  refine lv_iconst (v := (1 : Int32)) hx hb dX11_together_64 rfl ?_
  obtain ⟨h5, he⟩ := g_ck_some he
  refine g_iald E hM (o := 2) (Nat.le_of_ble_eq_true rfl) rfl h5 dX11_together_65 ?_
  refine lv_icmp_ge (tgt := 130) hx hb dX11_together_66 (by decide) (fun h6 => ?_) (fun h6 => ?_)
  · rw [if_neg (Int32.not_lt.mpr h6)] at he
    refine lv_iload hx hb dX11_together_130 (lv_at hl 4 rfl) ?_
    refine lv_iload hx hb dX11_together_132 (lv_at hl 6 rfl) ?_
    refine lv_if_eq (tgt := 144) hx hb dX11_together_134 (by decide) (fun h13 => ?_) (fun h13 => ?_)
    · rw [if_pos h13] at he
      refine lv_iconst (v := (0 : Int32)) hx hb dX11_together_144 rfl ?_
      exact w11_together_b145 (F := F) (a1 := a1) (a2 := a2) (a3 := a3) E hml hret hlk hs41 _ _ _ _ _ _ _ hM (lv_sub hl [0, 1, 2, 3, 5] rfl) he
    · rw [if_neg h13] at he
      refine lv_iconst (v := (1 : Int32)) hx hb dX11_together_137 rfl ?_
      refine lv_iload hx hb dX11_together_138 (lv_at hl 5 rfl) ?_
      refine lv_ishl hx hb dX11_together_140 ?_
      refine lv_goto (tgt := 145) hx hb dX11_together_141 (by decide) ?_
      exact w11_together_b145 (F := F) (a1 := a1) (a2 := a2) (a3 := a3) E hml hret hlk hs41 _ _ _ _ _ _ _ hM (lv_sub hl [0, 1, 2, 3, 5] rfl) he
  · rw [if_pos (Int32.not_le.mp h6)] at he
    refine lv_iload hx hb dX11_together_69 (lv_at hl 6 rfl) ?_
    refine lv_aload_n hx hb dX11_together_71 rfl (lv_at hl 0 rfl) ?_
    refine g_getP E hM (o := 0) (Nat.le_of_ble_eq_true rfl) rfl fl_X11_34 (q := 9) rfl dX11_together_72 ?_
    refine lv_iload hx hb dX11_together_75 (lv_at hl 5 rfl) ?_
    obtain ⟨h7, he⟩ := g_ck_some he
    refine g_iald E hM (o := 9) (Nat.le_of_ble_eq_true rfl) rfl h7 dX11_together_77 ?_
    refine lv_iload hx hb dX11_together_78 (lv_at hl 7 rfl) ?_
    refine lv_ishr hx hb dX11_together_80 ?_
    refine lv_iconst (v := (1 : Int32)) hx hb dX11_together_81 rfl ?_
    refine lv_iand hx hb dX11_together_82 ?_
    refine lv_if_eq (tgt := 116) hx hb dX11_together_83 (by decide) (fun h8 => ?_) (fun h8 => ?_)
    · rw [if_pos h8] at he
      exact w11_together_b116 (F := F) (a1 := a1) (a2 := a2) (a3 := a3) E hml hret hlk hs58 _ _ _ _ _ _ _ _ hM (lv_sub hl [0, 1, 2, 3, 4, 5, 7] rfl) he
    · rw [if_neg h8] at he
      refine lv_aload_n hx hb dX11_together_86 rfl (lv_at hl 0 rfl) ?_
      refine g_getP E hM (o := 0) (Nat.le_of_ble_eq_true rfl) rfl fl_X11_102 (q := 30) rfl dX11_together_87 ?_
      refine lv_iconst (v := (5 : Int32)) hx hb dX11_together_90 rfl ?_
      refine lv_iload_n hx hb dX11_together_91 rfl (lv_at hl 1 rfl) ?_
      refine lv_imul hx hb dX11_together_92 ?_
      refine lv_iload hx hb dX11_together_93 (lv_at hl 7 rfl) ?_
      refine lv_iadd hx hb dX11_together_95 ?_
      obtain ⟨h9, he⟩ := g_ck_some he
      refine g_iald E hM (o := 30) (Nat.le_of_ble_eq_true rfl) rfl h9 dX11_together_96 ?_
      refine lv_iload_n hx hb dX11_together_97 rfl (lv_at hl 3 rfl) ?_
      refine lv_icmp_eq (tgt := 116) hx hb dX11_together_98 (by decide) (fun h10 => ?_) (fun h10 => ?_)
      · rw [if_pos h10] at he
        exact w11_together_b116 (F := F) (a1 := a1) (a2 := a2) (a3 := a3) E hml hret hlk hs58 _ _ _ _ _ _ _ _ hM (lv_sub hl [0, 1, 2, 3, 4, 5, 7] rfl) he
      · rw [if_neg h10] at he
        refine lv_aload_n hx hb dX11_together_101 rfl (lv_at hl 0 rfl) ?_
        refine g_getP E hM (o := 0) (Nat.le_of_ble_eq_true rfl) rfl fl_X11_102 (q := 30) rfl dX11_together_102 ?_
        refine lv_iconst (v := (5 : Int32)) hx hb dX11_together_105 rfl ?_
        refine lv_iload_n hx hb dX11_together_106 rfl (lv_at hl 2 rfl) ?_
        refine lv_imul hx hb dX11_together_107 ?_
        refine lv_iload hx hb dX11_together_108 (lv_at hl 7 rfl) ?_
        refine lv_iadd hx hb dX11_together_110 ?_
        obtain ⟨h11, he⟩ := g_ck_some he
        refine g_iald E hM (o := 30) (Nat.le_of_ble_eq_true rfl) rfl h11 dX11_together_111 ?_
        refine lv_iload_n hx hb dX11_together_112 rfl (lv_at hl 3 rfl) ?_
        refine lv_icmp_ne (tgt := 120) hx hb dX11_together_113 (by decide) (fun h12 => ?_) (fun h12 => ?_)
        · rw [if_neg h12] at he
          refine lv_iconst (v := (0 : Int32)) hx hb dX11_together_120 rfl ?_
          exact w11_together_b121 (F := F) (a1 := a1) (a2 := a2) (a3 := a3) E hml hret hlk hs58 _ _ _ _ _ _ _ _ _ hM (lv_sub hl [0, 1, 2, 3, 4, 5, 7] rfl) he
        · rw [if_pos h12] at he
          exact w11_together_b116 (F := F) (a1 := a1) (a2 := a2) (a3 := a3) E hml hret hlk hs58 _ _ _ _ _ _ _ _ hM (lv_sub hl [0, 1, 2, 3, 4, 5, 7] rfl) he

set_option maxHeartbeats 4000000 in
set_option maxRecDepth 100000 in
theorem w11_together_b58 (E : g_C p s m args c cX11_together RX11 D aC (g_Zs (g_A B 44))) (hml : c.maxLocals = 8) (hret : meth.sig.returnType = (some .int)) (hlk : meth.locks = false) {F : Nat} {q0 : Int32 × g_M} {a1 : Int32} {a2 : Int32} {a3 : Int32} {s41 : Int32 → Int32 → g_M → Option (Int32 × g_M)} (hs41 : ∀ (v4 : Int32) (v5 : Int32) (mem : g_M) (H : Heap) (locs : List Loc) (ls : Array Slot), g_At D aC B yM 44 mem s.heap H locs → lv_has ls 8 [(0, .ref (B + 0)), (1, .int a1), (2, .int a2), (3, .int a3), (4, .int v4), (5, .int v5)] → s41 v4 v5 mem = some q0 → W p l e (g_rm 2) s m args below meth c H locs 0 0 (g_MQ below D aC B yM 44 args s (some (.int q0.1)) q0.2) (F0 m 41 ls [])) : ∀ (v4 : Int32) (v5 : Int32) (v6 : Int32) (v7 : Int32) (mem : g_M) (H : Heap) (locs : List Loc) (ls : Array Slot), g_At D aC B yM 44 mem s.heap H locs → lv_has ls 8 [(0, .ref (B + 0)), (1, .int a1), (2, .int a2), (3, .int a3), (4, .int v4), (5, .int v5), (6, .int v6), (7, .int v7)] → f11_together_b58 F a1 a2 a3 s41 v4 v5 v6 v7 mem = some q0 → W p l e (g_rm 2) s m args below meth c H locs 0 0 (g_MQ below D aC B yM 44 args s (some (.int q0.1)) q0.2) (F0 m 58 ls []) := by
  have key : ∀ (nn : Nat) (x : Int32 × Int32 × Int32 × Int32 × g_M) (H : Heap) (locs : List Loc) (ls : Array Slot), g_At D aC B yM 44 x.2.2.2.2 s.heap H locs → lv_has ls 8 [(0, .ref (B + 0)), (1, .int a1), (2, .int a2), (3, .int a3), (4, .int x.1), (5, .int x.2.1), (6, .int x.2.2.1), (7, .int x.2.2.2.1)] → g_fix (fun sf x => f11_together_b58_body F a1 a2 a3 s41 (fun v4 v5 v6 v7 mem => sf (v4, v5, v6, v7, mem)) x.1 x.2.1 x.2.2.1 x.2.2.2.1 x.2.2.2.2) nn x = some q0 → W p l e (g_rm 2) s m args below meth c H locs 0 0 (g_MQ below D aC B yM 44 args s (some (.int q0.1)) q0.2) (F0 m 58 ls []) := by
    intro nn
    induction nn with
    | zero => intro x H locs ls hM hl he; simp [g_fix] at he
    | succ nn ih =>
      intro x H locs ls hM hl he
      exact w11_together_b58_body (F := F) (a1 := a1) (a2 := a2) (a3 := a3) E hml hret hlk hs41 (fun v4 v5 v6 v7 mem H locs ls hM hl he => ih (v4, v5, v6, v7, mem) H locs ls hM hl he) x.1 x.2.1 x.2.2.1 x.2.2.2.1 x.2.2.2.2 H locs ls hM hl he
  intro v4 v5 v6 v7 mem H locs ls hM hl he
  exact key F (v4, v5, v6, v7, mem) H locs ls hM hl he

set_option maxHeartbeats 4000000 in
set_option maxRecDepth 100000 in
theorem w11_together_b41_body (E : g_C p s m args c cX11_together RX11 D aC (g_Zs (g_A B 44))) (hml : c.maxLocals = 8) (hret : meth.sig.returnType = (some .int)) (hlk : meth.locks = false) {F : Nat} {q0 : Int32 × g_M} {a1 : Int32} {a2 : Int32} {a3 : Int32} {s41 : Int32 → Int32 → g_M → Option (Int32 × g_M)} (hs41 : ∀ (v4 : Int32) (v5 : Int32) (mem : g_M) (H : Heap) (locs : List Loc) (ls : Array Slot), g_At D aC B yM 44 mem s.heap H locs → lv_has ls 8 [(0, .ref (B + 0)), (1, .int a1), (2, .int a2), (3, .int a3), (4, .int v4), (5, .int v5)] → s41 v4 v5 mem = some q0 → W p l e (g_rm 2) s m args below meth c H locs 0 0 (g_MQ below D aC B yM 44 args s (some (.int q0.1)) q0.2) (F0 m 41 ls [])) : ∀ (v4 : Int32) (v5 : Int32) (mem : g_M) (H : Heap) (locs : List Loc) (ls : Array Slot), g_At D aC B yM 44 mem s.heap H locs → lv_has ls 8 [(0, .ref (B + 0)), (1, .int a1), (2, .int a2), (3, .int a3), (4, .int v4), (5, .int v5)] → f11_together_b41_body F a1 a2 a3 s41 v4 v5 mem = some q0 → W p l e (g_rm 2) s m args below meth c H locs 0 0 (g_MQ below D aC B yM 44 args s (some (.int q0.1)) q0.2) (F0 m 41 ls []) := by
  intro v4 v5 mem H locs ls hM hl he
  unfold f11_together_b41_body at he
  have hx := E.1
  have hb := E.2.1
  have hown := E.2.2.1
  have hts := E.2.2.2.1
  refine lv_iload hx hb dX11_together_41 (lv_at hl 5 rfl) ?_
  refine lv_aload_n hx hb dX11_together_43 rfl (lv_at hl 0 rfl) ?_
  refine g_getP E hM (o := 0) (Nat.le_of_ble_eq_true rfl) rfl fl_X11_13 (q := 2) rfl dX11_together_44 ?_
  refine lv_iconst (v := (2 : Int32)) hx hb dX11_together_47 rfl ?_
  obtain ⟨h14, he⟩ := g_ck_some he
  refine g_iald E hM (o := 2) (Nat.le_of_ble_eq_true rfl) rfl h14 dX11_together_48 ?_
  refine lv_icmp_ge (tgt := 154) hx hb dX11_together_49 (by decide) (fun h15 => ?_) (fun h15 => ?_)
  · rw [if_neg (Int32.not_lt.mpr h15)] at he
    refine lv_iload hx hb dX11_together_154 (lv_at hl 4 rfl) ?_
    cases he
    exact g_iret E hM hret hlk dX11_together_156
  · rw [if_pos (Int32.not_le.mp h15)] at he
    refine lv_iconst (v := (1 : Int32)) hx hb dX11_together_52 rfl ?_
    refine lv_istore (lv' := [(6, .int (1 : Int32)), (0, .ref (B + 0)), (1, .int a1), (2, .int a2), (3, .int a3), (4, .int v4), (5, .int v5)]) hx hb dX11_together_53 hl (by decide) rfl (fun ls hl => ?_)
    refine lv_iconst (v := (0 : Int32)) hx hb dX11_together_55 rfl ?_
    refine lv_istore (lv' := [(7, .int (0 : Int32)), (6, .int (1 : Int32)), (0, .ref (B + 0)), (1, .int a1), (2, .int a2), (3, .int a3), (4, .int v4), (5, .int v5)]) hx hb dX11_together_56 hl (by decide) rfl (fun ls hl => ?_)
    exact w11_together_b58 (F := F) (a1 := a1) (a2 := a2) (a3 := a3) E hml hret hlk hs41 _ _ _ _ _ _ _ _ hM (lv_sub hl [2, 3, 4, 5, 6, 7, 1, 0] rfl) he

set_option maxHeartbeats 4000000 in
set_option maxRecDepth 100000 in
theorem w11_together_b41 (E : g_C p s m args c cX11_together RX11 D aC (g_Zs (g_A B 44))) (hml : c.maxLocals = 8) (hret : meth.sig.returnType = (some .int)) (hlk : meth.locks = false) {F : Nat} {q0 : Int32 × g_M} {a1 : Int32} {a2 : Int32} {a3 : Int32} : ∀ (v4 : Int32) (v5 : Int32) (mem : g_M) (H : Heap) (locs : List Loc) (ls : Array Slot), g_At D aC B yM 44 mem s.heap H locs → lv_has ls 8 [(0, .ref (B + 0)), (1, .int a1), (2, .int a2), (3, .int a3), (4, .int v4), (5, .int v5)] → f11_together_b41 F a1 a2 a3 v4 v5 mem = some q0 → W p l e (g_rm 2) s m args below meth c H locs 0 0 (g_MQ below D aC B yM 44 args s (some (.int q0.1)) q0.2) (F0 m 41 ls []) := by
  have key : ∀ (nn : Nat) (x : Int32 × Int32 × g_M) (H : Heap) (locs : List Loc) (ls : Array Slot), g_At D aC B yM 44 x.2.2 s.heap H locs → lv_has ls 8 [(0, .ref (B + 0)), (1, .int a1), (2, .int a2), (3, .int a3), (4, .int x.1), (5, .int x.2.1)] → g_fix (fun sf x => f11_together_b41_body F a1 a2 a3 (fun v4 v5 mem => sf (v4, v5, mem)) x.1 x.2.1 x.2.2) nn x = some q0 → W p l e (g_rm 2) s m args below meth c H locs 0 0 (g_MQ below D aC B yM 44 args s (some (.int q0.1)) q0.2) (F0 m 41 ls []) := by
    intro nn
    induction nn with
    | zero => intro x H locs ls hM hl he; simp [g_fix] at he
    | succ nn ih =>
      intro x H locs ls hM hl he
      exact w11_together_b41_body (F := F) (a1 := a1) (a2 := a2) (a3 := a3) E hml hret hlk (fun v4 v5 mem H locs ls hM hl he => ih (v4, v5, mem) H locs ls hM hl he) x.1 x.2.1 x.2.2 H locs ls hM hl he
  intro v4 v5 mem H locs ls hM hl he
  exact key F (v4, v5, mem) H locs ls hM hl he

set_option maxHeartbeats 4000000 in
set_option maxRecDepth 100000 in
theorem c11_together (l : Launch) (D : va_G) (aC : Nat → ClassId) (B : Nat) {F : Nat} {a1 : Int32} {a2 : Int32} {a3 : Int32} {mem : g_M} {q0 : Int32 × g_M} (he : f11_together F a1 a2 a3 mem = some q0) : g_Met l yX11_together cX11_together 8 (some .int) 2 D aC B yM 44 mem [.ref (B + 0), .int a1, .int a2, .int a3] (some (.int q0.1)) q0.2 := by
  refine g_ofW (by decide) (Nat.le_of_ble_eq_true rfl) ?_
  intro p e s m args below meth c ls E hml hret hlk hM hl
  have E : g_C p s m args c cX11_together RX11 D aC (g_Zs (g_A B 44)) := E
  have hx := E.1
  have hb := E.2.1
  have hown := E.2.2.1
  have hts := E.2.2.2.1
  have hl : lv_has ls 8 [(0, .ref (B + 0)), (1, .int a1), (2, .int a2), (3, .int a3)] := hl
  unfold f11_together at he
  refine lv_aload_n hx hb dX11_together_0 rfl (lv_at hl 0 rfl) ?_
  refine lv_iconst (v := (0 : Int32)) hx hb dX11_together_1 rfl ?_
  refine g_putI E hM (o := 0) (Nat.le_of_ble_eq_true rfl) rfl fp_X11_157 dX11_together_2 (fun H locs hM => ?_)
  obtain ⟨m16, hm16, he⟩ := g_let_ex he
  rw [← hm16] at hM
  refine lv_aload_n hx hb dX11_together_5 rfl (lv_at hl 0 rfl) ?_
  refine lv_iload_n hx hb dX11_together_6 rfl (lv_at hl 1 rfl) ?_
  obtain ⟨r17, hcr17, he⟩ := g_bind he
  refine g_callV [.int a1] (rest := []) E hml hl.1 hM cv_X11_426 (c11_isMan l D aC B hcr17) (o := 0) (Nat.le_of_ble_eq_true rfl) rfl (by decide) rfl rfl (Nat.le_of_ble_eq_true rfl) dX11_together_7 (fun H locs hM => ?_)
  refine W.eq (g2 := F0 m 10 ls [.int r17]) rfl ?_
  refine lv_if_eq (tgt := 33) hx hb dX11_together_10 (by decide) (fun h18 => ?_) (fun h18 => ?_)
  · rw [if_pos h18] at he
    refine lv_iconst (v := (-1 : Int32)) hx hb dX11_together_33 rfl ?_
    cases he
    exact g_iret E hM hret hlk dX11_together_34
  · rw [if_neg h18] at he
    refine lv_aload_n hx hb dX11_together_13 rfl (lv_at hl 0 rfl) ?_
    refine lv_iload_n hx hb dX11_together_14 rfl (lv_at hl 2 rfl) ?_
    obtain ⟨r19, hcr19, he⟩ := g_bind he
    refine g_callV [.int a2] (rest := []) E hml hl.1 hM cv_X11_426 (c11_isMan l D aC B hcr19) (o := 0) (Nat.le_of_ble_eq_true rfl) rfl (by decide) rfl rfl (Nat.le_of_ble_eq_true rfl) dX11_together_15 (fun H locs hM => ?_)
    refine W.eq (g2 := F0 m 18 ls [.int r19]) rfl ?_
    refine lv_if_eq (tgt := 33) hx hb dX11_together_18 (by decide) (fun h20 => ?_) (fun h20 => ?_)
    · rw [if_pos h20] at he
      refine lv_iconst (v := (-1 : Int32)) hx hb dX11_together_33 rfl ?_
      cases he
      exact g_iret E hM hret hlk dX11_together_34
    · rw [if_neg h20] at he
      refine lv_iload_n hx hb dX11_together_21 rfl (lv_at hl 1 rfl) ?_
      refine lv_iload_n hx hb dX11_together_22 rfl (lv_at hl 2 rfl) ?_
      refine lv_icmp_eq (tgt := 33) hx hb dX11_together_23 (by decide) (fun h21 => ?_) (fun h21 => ?_)
      · rw [if_pos h21] at he
        refine lv_iconst (v := (-1 : Int32)) hx hb dX11_together_33 rfl ?_
        cases he
        exact g_iret E hM hret hlk dX11_together_34
      · rw [if_neg h21] at he
        refine lv_iload_n hx hb dX11_together_26 rfl (lv_at hl 3 rfl) ?_
        obtain ⟨r22, hcr22, he⟩ := g_bind he
        refine g_callS [.int a3] (rest := []) E hml hl.1 hM cs_X11_441 (c11_isPort l D aC B hcr22) (by decide) rfl rfl (Nat.le_of_ble_eq_true rfl) dX11_together_27 (fun H locs hM => ?_)
        refine W.eq (g2 := F0 m 30 ls [.int r22]) rfl ?_
        refine lv_if_ne (tgt := 35) hx hb dX11_together_30 (by decide) (fun h23 => ?_) (fun h23 => ?_)
        · rw [if_neg h23] at he
          refine lv_iconst (v := (0 : Int32)) hx hb dX11_together_35 rfl ?_
          refine lv_istore (lv' := [(4, .int (0 : Int32)), (0, .ref (B + 0)), (1, .int a1), (2, .int a2), (3, .int a3)]) hx hb dX11_together_36 hl (by decide) rfl (fun ls hl => ?_)
          refine lv_iconst (v := (0 : Int32)) hx hb dX11_together_38 rfl ?_
          refine lv_istore (lv' := [(5, .int (0 : Int32)), (4, .int (0 : Int32)), (0, .ref (B + 0)), (1, .int a1), (2, .int a2), (3, .int a3)]) hx hb dX11_together_39 hl (by decide) rfl (fun ls hl => ?_)
          exact w11_together_b41 (F := F) (a1 := a1) (a2 := a2) (a3 := a3) E hml hret hlk _ _ _ _ _ _ hM (lv_sub hl [2, 3, 4, 5, 1, 0] rfl) he
        · rw [if_pos h23] at he
          refine lv_iconst (v := (-1 : Int32)) hx hb dX11_together_33 rfl ?_
          cases he
          exact g_iret E hM hret hlk dX11_together_34

set_option maxHeartbeats 4000000 in
set_option maxRecDepth 100000 in
theorem w11_needsOf_b57 (E : g_C p s m args c cX11_needsOf RX11 D aC (g_Zs (g_A B 44))) (hml : c.maxLocals = 6) (hret : meth.sig.returnType = (some .int)) (hlk : meth.locks = false) {F : Nat} {q0 : Int32} {a1 : Int32} {a2 : Int32} {a3 : Int32} {mem : g_M} {s6 : Int32 → Int32 → Option (Int32)} (hs6 : ∀ (v4 : Int32) (v5 : Int32) (H : Heap) (locs : List Loc) (ls : Array Slot), g_At D aC B yM 44 mem s.heap H locs → lv_has ls 6 [(0, .ref (B + 0)), (1, .int a1), (2, .int a2), (3, .int a3), (4, .int v4), (5, .int v5)] → s6 v4 v5 = some q0 → W p l e (g_rm 1) s m args below meth c H locs 0 0 (g_MQ below D aC B yM 44 args s (some (.int q0)) mem) (F0 m 6 ls [])) : ∀ (v5 : Int32) (w0 : Int32) (w1 : Int32) (H : Heap) (locs : List Loc) (ls : Array Slot), g_At D aC B yM 44 mem s.heap H locs → lv_has ls 6 [(0, .ref (B + 0)), (1, .int a1), (2, .int a2), (3, .int a3), (5, .int v5)] → f11_needsOf_b57 F a1 a2 a3 s6 mem v5 w0 w1 = some q0 → W p l e (g_rm 1) s m args below meth c H locs 0 0 (g_MQ below D aC B yM 44 args s (some (.int q0)) mem) (F0 m 57 ls [.int w1, .int w0]) := by
  intro v5 w0 w1 H locs ls hM hl he
  unfold f11_needsOf_b57 at he
  have hx := E.1
  have hb := E.2.1
  have hown := E.2.2.1
  have hts := E.2.2.2.1
  refine lv_ior hx hb dX11_needsOf_57 ?_
  obtain ⟨x1, hx1, he⟩ := g_let_ex he
  refine g_topI hx1 ?_
  refine lv_istore (lv' := [(4, .int x1), (0, .ref (B + 0)), (1, .int a1), (2, .int a2), (3, .int a3), (5, .int v5)]) hx hb dX11_needsOf_58 hl (by decide) rfl (fun ls hl => ?_)
  obtain ⟨x2, hx2, he⟩ := g_let_ex he
  refine lv_iinc (v := x2) (lv' := [(5, .int x2), (4, .int x1), (0, .ref (B + 0)), (1, .int a1), (2, .int a2), (3, .int a3)]) hx hb dX11_needsOf_60 hl (k := 5) rfl (by rw [hx2]; rfl) (by decide) rfl (fun ls hl => ?_)
  refine lv_goto (tgt := 6) hx hb dX11_needsOf_63 (by decide) ?_
  exact hs6 _ _ _ _ _ hM (lv_sub hl [2, 3, 4, 5, 1, 0] rfl) he

set_option maxHeartbeats 4000000 in
set_option maxRecDepth 100000 in
theorem w11_needsOf_b56 (E : g_C p s m args c cX11_needsOf RX11 D aC (g_Zs (g_A B 44))) (hml : c.maxLocals = 6) (hret : meth.sig.returnType = (some .int)) (hlk : meth.locks = false) {F : Nat} {q0 : Int32} {a1 : Int32} {a2 : Int32} {a3 : Int32} {mem : g_M} {s6 : Int32 → Int32 → Option (Int32)} (hs6 : ∀ (v4 : Int32) (v5 : Int32) (H : Heap) (locs : List Loc) (ls : Array Slot), g_At D aC B yM 44 mem s.heap H locs → lv_has ls 6 [(0, .ref (B + 0)), (1, .int a1), (2, .int a2), (3, .int a3), (4, .int v4), (5, .int v5)] → s6 v4 v5 = some q0 → W p l e (g_rm 1) s m args below meth c H locs 0 0 (g_MQ below D aC B yM 44 args s (some (.int q0)) mem) (F0 m 6 ls [])) : ∀ (v5 : Int32) (w0 : Int32) (H : Heap) (locs : List Loc) (ls : Array Slot), g_At D aC B yM 44 mem s.heap H locs → lv_has ls 6 [(0, .ref (B + 0)), (1, .int a1), (2, .int a2), (3, .int a3), (5, .int v5)] → f11_needsOf_b56 F a1 a2 a3 s6 mem v5 w0 = some q0 → W p l e (g_rm 1) s m args below meth c H locs 0 0 (g_MQ below D aC B yM 44 args s (some (.int q0)) mem) (F0 m 56 ls [.int w0]) := by
  intro v5 w0 H locs ls hM hl he
  unfold f11_needsOf_b56 at he
  have hx := E.1
  have hb := E.2.1
  have hown := E.2.2.1
  have hts := E.2.2.2.1
  refine lv_iconst (v := (0 : Int32)) hx hb dX11_needsOf_56 rfl ?_
  exact w11_needsOf_b57 (F := F) (a1 := a1) (a2 := a2) (a3 := a3) E hml hret hlk hs6 _ _ _ _ _ _ hM (lv_sub hl [0, 1, 2, 3, 4] rfl) he

set_option maxHeartbeats 4000000 in
set_option maxRecDepth 100000 in
theorem w11_needsOf_b6_body (E : g_C p s m args c cX11_needsOf RX11 D aC (g_Zs (g_A B 44))) (hml : c.maxLocals = 6) (hret : meth.sig.returnType = (some .int)) (hlk : meth.locks = false) {F : Nat} {q0 : Int32} {a1 : Int32} {a2 : Int32} {a3 : Int32} {mem : g_M} {s6 : Int32 → Int32 → Option (Int32)} (hs6 : ∀ (v4 : Int32) (v5 : Int32) (H : Heap) (locs : List Loc) (ls : Array Slot), g_At D aC B yM 44 mem s.heap H locs → lv_has ls 6 [(0, .ref (B + 0)), (1, .int a1), (2, .int a2), (3, .int a3), (4, .int v4), (5, .int v5)] → s6 v4 v5 = some q0 → W p l e (g_rm 1) s m args below meth c H locs 0 0 (g_MQ below D aC B yM 44 args s (some (.int q0)) mem) (F0 m 6 ls [])) : ∀ (v4 : Int32) (v5 : Int32) (H : Heap) (locs : List Loc) (ls : Array Slot), g_At D aC B yM 44 mem s.heap H locs → lv_has ls 6 [(0, .ref (B + 0)), (1, .int a1), (2, .int a2), (3, .int a3), (4, .int v4), (5, .int v5)] → f11_needsOf_b6_body F a1 a2 a3 s6 mem v4 v5 = some q0 → W p l e (g_rm 1) s m args below meth c H locs 0 0 (g_MQ below D aC B yM 44 args s (some (.int q0)) mem) (F0 m 6 ls []) := by
  intro v4 v5 H locs ls hM hl he
  unfold f11_needsOf_b6_body at he
  have hx := E.1
  have hb := E.2.1
  have hown := E.2.2.1
  have hts := E.2.2.2.1
  refine lv_iload hx hb dX11_needsOf_6 (lv_at hl 5 rfl) ?_
  refine lv_aload_n hx hb dX11_needsOf_8 rfl (lv_at hl 0 rfl) ?_
  refine g_getP E hM (o := 0) (Nat.le_of_ble_eq_true rfl) rfl fl_X11_13 (q := 2) rfl dX11_needsOf_9 ?_
  refine lv_iconst (v := (1 : Int32)) hx hb dX11_needsOf_12 rfl ?_
  obtain ⟨h3, he⟩ := g_ck_some he
  refine g_iald E hM (o := 2) (Nat.le_of_ble_eq_true rfl) rfl h3 dX11_needsOf_13 ?_
  refine lv_icmp_ge (tgt := 66) hx hb dX11_needsOf_14 (by decide) (fun h4 => ?_) (fun h4 => ?_)
  · rw [if_neg (Int32.not_lt.mpr h4)] at he
    refine lv_iload hx hb dX11_needsOf_66 (lv_at hl 4 rfl) ?_
    cases he
    exact g_iret E hM hret hlk dX11_needsOf_68
  · rw [if_pos (Int32.not_le.mp h4)] at he
    refine lv_iload hx hb dX11_needsOf_17 (lv_at hl 4 rfl) ?_
    refine lv_aload_n hx hb dX11_needsOf_19 rfl (lv_at hl 0 rfl) ?_
    refine g_getP E hM (o := 0) (Nat.le_of_ble_eq_true rfl) rfl fl_X11_34 (q := 9) rfl dX11_needsOf_20 ?_
    refine lv_iload_n hx hb dX11_needsOf_23 rfl (lv_at hl 2 rfl) ?_
    obtain ⟨h5, he⟩ := g_ck_some he
    refine g_iald E hM (o := 9) (Nat.le_of_ble_eq_true rfl) rfl h5 dX11_needsOf_24 ?_
    refine lv_iload hx hb dX11_needsOf_25 (lv_at hl 5 rfl) ?_
    refine lv_ishr hx hb dX11_needsOf_27 ?_
    refine lv_iconst (v := (1 : Int32)) hx hb dX11_needsOf_28 rfl ?_
    refine lv_iand hx hb dX11_needsOf_29 ?_
    refine lv_iconst (v := (1 : Int32)) hx hb dX11_needsOf_30 rfl ?_
    refine lv_icmp_ne (tgt := 56) hx hb dX11_needsOf_31 (by decide) (fun h6 => ?_) (fun h6 => ?_)
    · rw [if_neg h6] at he
      exact w11_needsOf_b56 (F := F) (a1 := a1) (a2 := a2) (a3 := a3) E hml hret hlk hs6 _ _ _ _ _ hM (lv_sub hl [0, 1, 2, 3, 5] rfl) he
    · rw [if_pos h6] at he
      refine lv_aload_n hx hb dX11_needsOf_34 rfl (lv_at hl 0 rfl) ?_
      refine g_getP E hM (o := 0) (Nat.le_of_ble_eq_true rfl) rfl fl_X11_102 (q := 30) rfl dX11_needsOf_35 ?_
      refine lv_iconst (v := (5 : Int32)) hx hb dX11_needsOf_38 rfl ?_
      refine lv_iload_n hx hb dX11_needsOf_39 rfl (lv_at hl 1 rfl) ?_
      refine lv_imul hx hb dX11_needsOf_40 ?_
      refine lv_iload hx hb dX11_needsOf_41 (lv_at hl 5 rfl) ?_
      refine lv_iadd hx hb dX11_needsOf_43 ?_
      obtain ⟨h7, he⟩ := g_ck_some he
      refine g_iald E hM (o := 30) (Nat.le_of_ble_eq_true rfl) rfl h7 dX11_needsOf_44 ?_
      refine lv_iload_n hx hb dX11_needsOf_45 rfl (lv_at hl 3 rfl) ?_
      refine lv_icmp_eq (tgt := 56) hx hb dX11_needsOf_46 (by decide) (fun h8 => ?_) (fun h8 => ?_)
      · rw [if_pos h8] at he
        exact w11_needsOf_b56 (F := F) (a1 := a1) (a2 := a2) (a3 := a3) E hml hret hlk hs6 _ _ _ _ _ hM (lv_sub hl [0, 1, 2, 3, 5] rfl) he
      · rw [if_neg h8] at he
        refine lv_iconst (v := (1 : Int32)) hx hb dX11_needsOf_49 rfl ?_
        refine lv_iload hx hb dX11_needsOf_50 (lv_at hl 5 rfl) ?_
        refine lv_ishl hx hb dX11_needsOf_52 ?_
        refine lv_goto (tgt := 57) hx hb dX11_needsOf_53 (by decide) ?_
        exact w11_needsOf_b57 (F := F) (a1 := a1) (a2 := a2) (a3 := a3) E hml hret hlk hs6 _ _ _ _ _ _ hM (lv_sub hl [0, 1, 2, 3, 5] rfl) he

set_option maxHeartbeats 4000000 in
set_option maxRecDepth 100000 in
theorem w11_needsOf_b6 (E : g_C p s m args c cX11_needsOf RX11 D aC (g_Zs (g_A B 44))) (hml : c.maxLocals = 6) (hret : meth.sig.returnType = (some .int)) (hlk : meth.locks = false) {F : Nat} {q0 : Int32} {a1 : Int32} {a2 : Int32} {a3 : Int32} {mem : g_M} : ∀ (v4 : Int32) (v5 : Int32) (H : Heap) (locs : List Loc) (ls : Array Slot), g_At D aC B yM 44 mem s.heap H locs → lv_has ls 6 [(0, .ref (B + 0)), (1, .int a1), (2, .int a2), (3, .int a3), (4, .int v4), (5, .int v5)] → f11_needsOf_b6 F a1 a2 a3 mem v4 v5 = some q0 → W p l e (g_rm 1) s m args below meth c H locs 0 0 (g_MQ below D aC B yM 44 args s (some (.int q0)) mem) (F0 m 6 ls []) := by
  have key : ∀ (nn : Nat) (x : Int32 × Int32) (H : Heap) (locs : List Loc) (ls : Array Slot), g_At D aC B yM 44 mem s.heap H locs → lv_has ls 6 [(0, .ref (B + 0)), (1, .int a1), (2, .int a2), (3, .int a3), (4, .int x.1), (5, .int x.2)] → g_fix (fun sf x => f11_needsOf_b6_body F a1 a2 a3 (fun v4 v5 => sf (v4, v5)) mem x.1 x.2) nn x = some q0 → W p l e (g_rm 1) s m args below meth c H locs 0 0 (g_MQ below D aC B yM 44 args s (some (.int q0)) mem) (F0 m 6 ls []) := by
    intro nn
    induction nn with
    | zero => intro x H locs ls hM hl he; simp [g_fix] at he
    | succ nn ih =>
      intro x H locs ls hM hl he
      exact w11_needsOf_b6_body (F := F) (a1 := a1) (a2 := a2) (a3 := a3) E hml hret hlk (fun v4 v5 H locs ls hM hl he => ih (v4, v5) H locs ls hM hl he) x.1 x.2 H locs ls hM hl he
  intro v4 v5 H locs ls hM hl he
  exact key F (v4, v5) H locs ls hM hl he

set_option maxHeartbeats 4000000 in
set_option maxRecDepth 100000 in
theorem c11_needsOf (l : Launch) (D : va_G) (aC : Nat → ClassId) (B : Nat) {F : Nat} {a1 : Int32} {a2 : Int32} {a3 : Int32} {mem : g_M} {q0 : Int32} (he : f11_needsOf F a1 a2 a3 mem = some q0) : g_Met l yX11_needsOf cX11_needsOf 6 (some .int) 1 D aC B yM 44 mem [.ref (B + 0), .int a1, .int a2, .int a3] (some (.int q0)) mem := by
  refine g_ofW (by decide) (Nat.le_of_ble_eq_true rfl) ?_
  intro p e s m args below meth c ls E hml hret hlk hM hl
  have E : g_C p s m args c cX11_needsOf RX11 D aC (g_Zs (g_A B 44)) := E
  have hx := E.1
  have hb := E.2.1
  have hown := E.2.2.1
  have hts := E.2.2.2.1
  have hl : lv_has ls 6 [(0, .ref (B + 0)), (1, .int a1), (2, .int a2), (3, .int a3)] := hl
  unfold f11_needsOf at he
  refine lv_iconst (v := (0 : Int32)) hx hb dX11_needsOf_0 rfl ?_
  refine lv_istore (lv' := [(4, .int (0 : Int32)), (0, .ref (B + 0)), (1, .int a1), (2, .int a2), (3, .int a3)]) hx hb dX11_needsOf_1 hl (by decide) rfl (fun ls hl => ?_)
  refine lv_iconst (v := (0 : Int32)) hx hb dX11_needsOf_3 rfl ?_
  refine lv_istore (lv' := [(5, .int (0 : Int32)), (4, .int (0 : Int32)), (0, .ref (B + 0)), (1, .int a1), (2, .int a2), (3, .int a3)]) hx hb dX11_needsOf_4 hl (by decide) rfl (fun ls hl => ?_)
  exact w11_needsOf_b6 (F := F) (a1 := a1) (a2 := a2) (a3 := a3) E hml hret hlk _ _ _ _ _ hM (lv_sub hl [2, 3, 4, 5, 1, 0] rfl) he

set_option maxHeartbeats 4000000 in
set_option maxRecDepth 100000 in
theorem c11_needs (l : Launch) (D : va_G) (aC : Nat → ClassId) (B : Nat) {F : Nat} {a1 : Int32} {a2 : Int32} {a3 : Int32} {mem : g_M} {q0 : Int32 × g_M} (he : f11_needs F a1 a2 a3 mem = some q0) : g_Met l yX11_needs cX11_needs 4 (some .int) 3 D aC B yM 44 mem [.ref (B + 0), .int a1, .int a2, .int a3] (some (.int q0.1)) q0.2 := by
  refine g_ofW (by decide) (Nat.le_of_ble_eq_true rfl) ?_
  intro p e s m args below meth c ls E hml hret hlk hM hl
  have E : g_C p s m args c cX11_needs RX11 D aC (g_Zs (g_A B 44)) := E
  have hx := E.1
  have hb := E.2.1
  have hown := E.2.2.1
  have hts := E.2.2.2.1
  have hl : lv_has ls 4 [(0, .ref (B + 0)), (1, .int a1), (2, .int a2), (3, .int a3)] := hl
  unfold f11_needs at he
  refine lv_aload_n hx hb dX11_needs_0 rfl (lv_at hl 0 rfl) ?_
  refine lv_iconst (v := (0 : Int32)) hx hb dX11_needs_1 rfl ?_
  refine g_putI E hM (o := 0) (Nat.le_of_ble_eq_true rfl) rfl fp_X11_157 dX11_needs_2 (fun H locs hM => ?_)
  obtain ⟨m1, hm1, he⟩ := g_let_ex he
  rw [← hm1] at hM
  refine lv_aload_n hx hb dX11_needs_5 rfl (lv_at hl 0 rfl) ?_
  refine lv_iload_n hx hb dX11_needs_6 rfl (lv_at hl 1 rfl) ?_
  refine lv_iload_n hx hb dX11_needs_7 rfl (lv_at hl 2 rfl) ?_
  refine lv_iload_n hx hb dX11_needs_8 rfl (lv_at hl 3 rfl) ?_
  obtain ⟨r2, hcr2, he⟩ := g_bind he
  refine g_callV [.int a1, .int a2, .int a3] (rest := []) E hml hl.1 hM cv_X11_444 (c11_areThese l D aC B hcr2) (o := 0) (Nat.le_of_ble_eq_true rfl) rfl (by decide) rfl rfl (Nat.le_of_ble_eq_true rfl) dX11_needs_9 (fun H locs hM => ?_)
  refine W.eq (g2 := F0 m 12 ls [.int r2]) rfl ?_
  refine lv_if_eq (tgt := 25) hx hb dX11_needs_12 (by decide) (fun h3 => ?_) (fun h3 => ?_)
  · rw [if_pos h3] at he
    refine lv_iconst (v := (-1 : Int32)) hx hb dX11_needs_25 rfl ?_
    cases he
    exact g_iret E hM hret hlk dX11_needs_26
  · rw [if_neg h3] at he
    refine lv_aload_n hx hb dX11_needs_15 rfl (lv_at hl 0 rfl) ?_
    refine lv_iload_n hx hb dX11_needs_16 rfl (lv_at hl 1 rfl) ?_
    refine lv_iload_n hx hb dX11_needs_17 rfl (lv_at hl 2 rfl) ?_
    refine lv_iload_n hx hb dX11_needs_18 rfl (lv_at hl 3 rfl) ?_
    obtain ⟨r4, hcr4, he⟩ := g_bind he
    refine g_callV [.int a1, .int a2, .int a3] (rest := []) E hml hl.1 hM cv_X11_491 (c11_needsOf l D aC B hcr4) (o := 0) (Nat.le_of_ble_eq_true rfl) rfl (by decide) rfl rfl (Nat.le_of_ble_eq_true rfl) dX11_needs_19 (fun H locs hM => ?_)
    refine W.eq (g2 := F0 m 22 ls [.int r4]) rfl ?_
    refine lv_goto (tgt := 26) hx hb dX11_needs_22 (by decide) ?_
    cases he
    exact g_iret E hM hret hlk dX11_needs_26

set_option maxHeartbeats 4000000 in
set_option maxRecDepth 100000 in
theorem w11_cheap_b63 (E : g_C p s m args c cX11_cheap RX11 D aC (g_Zs (g_A B 44))) (hml : c.maxLocals = 6) (hret : meth.sig.returnType = (some .int)) (hlk : meth.locks = false) {F : Nat} {q0 : Int32 × g_M} {a1 : Int32} {a2 : Int32} {a3 : Int32} {s23 : Int32 → Int32 → g_M → Option (Int32 × g_M)} (hs23 : ∀ (v4 : Int32) (v5 : Int32) (mem : g_M) (H : Heap) (locs : List Loc) (ls : Array Slot), g_At D aC B yM 44 mem s.heap H locs → lv_has ls 6 [(0, .ref (B + 0)), (1, .int a1), (2, .int a2), (3, .int a3), (4, .int v4), (5, .int v5)] → s23 v4 v5 mem = some q0 → W p l e (g_rm 3) s m args below meth c H locs 0 0 (g_MQ below D aC B yM 44 args s (some (.int q0.1)) q0.2) (F0 m 23 ls [])) : ∀ (v5 : Int32) (w0 : Int32) (w1 : Int32) (mem : g_M) (H : Heap) (locs : List Loc) (ls : Array Slot), g_At D aC B yM 44 mem s.heap H locs → lv_has ls 6 [(0, .ref (B + 0)), (1, .int a1), (2, .int a2), (3, .int a3), (5, .int v5)] → f11_cheap_b63 F a1 a2 a3 s23 v5 w0 w1 mem = some q0 → W p l e (g_rm 3) s m args below meth c H locs 0 0 (g_MQ below D aC B yM 44 args s (some (.int q0.1)) q0.2) (F0 m 63 ls [.int w1, .int w0]) := by
  intro v5 w0 w1 mem H locs ls hM hl he
  unfold f11_cheap_b63 at he
  have hx := E.1
  have hb := E.2.1
  have hown := E.2.2.1
  have hts := E.2.2.2.1
  refine lv_iadd hx hb dX11_cheap_63 ?_
  obtain ⟨x1, hx1, he⟩ := g_let_ex he
  refine g_topI hx1 ?_
  refine lv_istore (lv' := [(4, .int x1), (0, .ref (B + 0)), (1, .int a1), (2, .int a2), (3, .int a3), (5, .int v5)]) hx hb dX11_cheap_64 hl (by decide) rfl (fun ls hl => ?_)
  obtain ⟨x2, hx2, he⟩ := g_let_ex he
  refine lv_iinc (v := x2) (lv' := [(5, .int x2), (4, .int x1), (0, .ref (B + 0)), (1, .int a1), (2, .int a2), (3, .int a3)]) hx hb dX11_cheap_66 hl (k := 5) rfl (by rw [hx2]; rfl) (by decide) rfl (fun ls hl => ?_)
  refine lv_goto (tgt := 23) hx hb dX11_cheap_69 (by decide) ?_
  exact hs23 _ _ _ _ _ _ hM (lv_sub hl [2, 3, 4, 5, 1, 0] rfl) he

set_option maxHeartbeats 4000000 in
set_option maxRecDepth 100000 in
theorem w11_cheap_b23_body (E : g_C p s m args c cX11_cheap RX11 D aC (g_Zs (g_A B 44))) (hml : c.maxLocals = 6) (hret : meth.sig.returnType = (some .int)) (hlk : meth.locks = false) {F : Nat} {q0 : Int32 × g_M} {a1 : Int32} {a2 : Int32} {a3 : Int32} {s23 : Int32 → Int32 → g_M → Option (Int32 × g_M)} (hs23 : ∀ (v4 : Int32) (v5 : Int32) (mem : g_M) (H : Heap) (locs : List Loc) (ls : Array Slot), g_At D aC B yM 44 mem s.heap H locs → lv_has ls 6 [(0, .ref (B + 0)), (1, .int a1), (2, .int a2), (3, .int a3), (4, .int v4), (5, .int v5)] → s23 v4 v5 mem = some q0 → W p l e (g_rm 3) s m args below meth c H locs 0 0 (g_MQ below D aC B yM 44 args s (some (.int q0.1)) q0.2) (F0 m 23 ls [])) : ∀ (v4 : Int32) (v5 : Int32) (mem : g_M) (H : Heap) (locs : List Loc) (ls : Array Slot), g_At D aC B yM 44 mem s.heap H locs → lv_has ls 6 [(0, .ref (B + 0)), (1, .int a1), (2, .int a2), (3, .int a3), (4, .int v4), (5, .int v5)] → f11_cheap_b23_body F a1 a2 a3 s23 v4 v5 mem = some q0 → W p l e (g_rm 3) s m args below meth c H locs 0 0 (g_MQ below D aC B yM 44 args s (some (.int q0.1)) q0.2) (F0 m 23 ls []) := by
  intro v4 v5 mem H locs ls hM hl he
  unfold f11_cheap_b23_body at he
  have hx := E.1
  have hb := E.2.1
  have hown := E.2.2.1
  have hts := E.2.2.2.1
  refine lv_iload hx hb dX11_cheap_23 (lv_at hl 5 rfl) ?_
  refine lv_aload_n hx hb dX11_cheap_25 rfl (lv_at hl 0 rfl) ?_
  refine g_getP E hM (o := 0) (Nat.le_of_ble_eq_true rfl) rfl fl_X11_13 (q := 2) rfl dX11_cheap_26 ?_
  refine lv_iconst (v := (1 : Int32)) hx hb dX11_cheap_29 rfl ?_
  obtain ⟨h3, he⟩ := g_ck_some he
  refine g_iald E hM (o := 2) (Nat.le_of_ble_eq_true rfl) rfl h3 dX11_cheap_30 ?_
  refine lv_icmp_ge (tgt := 72) hx hb dX11_cheap_31 (by decide) (fun h4 => ?_) (fun h4 => ?_)
  · rw [if_neg (Int32.not_lt.mpr h4)] at he
    refine lv_iload hx hb dX11_cheap_72 (lv_at hl 4 rfl) ?_
    cases he
    exact g_iret E hM hret hlk dX11_cheap_74
  · rw [if_pos (Int32.not_le.mp h4)] at he
    refine lv_iload hx hb dX11_cheap_34 (lv_at hl 4 rfl) ?_
    refine lv_aload_n hx hb dX11_cheap_36 rfl (lv_at hl 0 rfl) ?_
    refine lv_iload_n hx hb dX11_cheap_37 rfl (lv_at hl 1 rfl) ?_
    refine lv_iload_n hx hb dX11_cheap_38 rfl (lv_at hl 2 rfl) ?_
    refine lv_iload_n hx hb dX11_cheap_39 rfl (lv_at hl 3 rfl) ?_
    obtain ⟨r5, hcr5, he⟩ := g_bind he
    refine g_callV [.int a1, .int a2, .int a3] (rest := [.int v4]) E hml hl.1 hM cv_X11_491 (c11_needsOf l D aC B hcr5) (o := 0) (Nat.le_of_ble_eq_true rfl) rfl (by decide) rfl rfl (Nat.le_of_ble_eq_true rfl) dX11_cheap_40 (fun H locs hM => ?_)
    refine W.eq (g2 := F0 m 43 ls [.int r5, .int v4]) rfl ?_
    refine lv_iload hx hb dX11_cheap_43 (lv_at hl 5 rfl) ?_
    refine lv_ishr hx hb dX11_cheap_45 ?_
    refine lv_iconst (v := (1 : Int32)) hx hb dX11_cheap_46 rfl ?_
    refine lv_iand hx hb dX11_cheap_47 ?_
    refine lv_iconst (v := (1 : Int32)) hx hb dX11_cheap_48 rfl ?_
    refine lv_icmp_ne (tgt := 62) hx hb dX11_cheap_49 (by decide) (fun h6 => ?_) (fun h6 => ?_)
    · rw [if_neg h6] at he
      refine lv_iconst (v := (0 : Int32)) hx hb dX11_cheap_62 rfl ?_
      exact w11_cheap_b63 (F := F) (a1 := a1) (a2 := a2) (a3 := a3) E hml hret hlk hs23 _ _ _ _ _ _ _ hM (lv_sub hl [0, 1, 2, 3, 5] rfl) he
    · rw [if_pos h6] at he
      refine lv_aload_n hx hb dX11_cheap_52 rfl (lv_at hl 0 rfl) ?_
      refine g_getP E hM (o := 0) (Nat.le_of_ble_eq_true rfl) rfl fl_X11_28 (q := 7) rfl dX11_cheap_53 ?_
      refine lv_iload hx hb dX11_cheap_56 (lv_at hl 5 rfl) ?_
      obtain ⟨h7, he⟩ := g_ck_some he
      refine g_iald E hM (o := 7) (Nat.le_of_ble_eq_true rfl) rfl h7 dX11_cheap_58 ?_
      refine lv_goto (tgt := 63) hx hb dX11_cheap_59 (by decide) ?_
      exact w11_cheap_b63 (F := F) (a1 := a1) (a2 := a2) (a3 := a3) E hml hret hlk hs23 _ _ _ _ _ _ _ hM (lv_sub hl [0, 1, 2, 3, 5] rfl) he

set_option maxHeartbeats 4000000 in
set_option maxRecDepth 100000 in
theorem w11_cheap_b23 (E : g_C p s m args c cX11_cheap RX11 D aC (g_Zs (g_A B 44))) (hml : c.maxLocals = 6) (hret : meth.sig.returnType = (some .int)) (hlk : meth.locks = false) {F : Nat} {q0 : Int32 × g_M} {a1 : Int32} {a2 : Int32} {a3 : Int32} : ∀ (v4 : Int32) (v5 : Int32) (mem : g_M) (H : Heap) (locs : List Loc) (ls : Array Slot), g_At D aC B yM 44 mem s.heap H locs → lv_has ls 6 [(0, .ref (B + 0)), (1, .int a1), (2, .int a2), (3, .int a3), (4, .int v4), (5, .int v5)] → f11_cheap_b23 F a1 a2 a3 v4 v5 mem = some q0 → W p l e (g_rm 3) s m args below meth c H locs 0 0 (g_MQ below D aC B yM 44 args s (some (.int q0.1)) q0.2) (F0 m 23 ls []) := by
  have key : ∀ (nn : Nat) (x : Int32 × Int32 × g_M) (H : Heap) (locs : List Loc) (ls : Array Slot), g_At D aC B yM 44 x.2.2 s.heap H locs → lv_has ls 6 [(0, .ref (B + 0)), (1, .int a1), (2, .int a2), (3, .int a3), (4, .int x.1), (5, .int x.2.1)] → g_fix (fun sf x => f11_cheap_b23_body F a1 a2 a3 (fun v4 v5 mem => sf (v4, v5, mem)) x.1 x.2.1 x.2.2) nn x = some q0 → W p l e (g_rm 3) s m args below meth c H locs 0 0 (g_MQ below D aC B yM 44 args s (some (.int q0.1)) q0.2) (F0 m 23 ls []) := by
    intro nn
    induction nn with
    | zero => intro x H locs ls hM hl he; simp [g_fix] at he
    | succ nn ih =>
      intro x H locs ls hM hl he
      exact w11_cheap_b23_body (F := F) (a1 := a1) (a2 := a2) (a3 := a3) E hml hret hlk (fun v4 v5 mem H locs ls hM hl he => ih (v4, v5, mem) H locs ls hM hl he) x.1 x.2.1 x.2.2 H locs ls hM hl he
  intro v4 v5 mem H locs ls hM hl he
  exact key F (v4, v5, mem) H locs ls hM hl he

set_option maxHeartbeats 4000000 in
set_option maxRecDepth 100000 in
theorem c11_cheap (l : Launch) (D : va_G) (aC : Nat → ClassId) (B : Nat) {F : Nat} {a1 : Int32} {a2 : Int32} {a3 : Int32} {mem : g_M} {q0 : Int32 × g_M} (he : f11_cheap F a1 a2 a3 mem = some q0) : g_Met l yX11_cheap cX11_cheap 6 (some .int) 3 D aC B yM 44 mem [.ref (B + 0), .int a1, .int a2, .int a3] (some (.int q0.1)) q0.2 := by
  refine g_ofW (by decide) (Nat.le_of_ble_eq_true rfl) ?_
  intro p e s m args below meth c ls E hml hret hlk hM hl
  have E : g_C p s m args c cX11_cheap RX11 D aC (g_Zs (g_A B 44)) := E
  have hx := E.1
  have hb := E.2.1
  have hown := E.2.2.1
  have hts := E.2.2.2.1
  have hl : lv_has ls 6 [(0, .ref (B + 0)), (1, .int a1), (2, .int a2), (3, .int a3)] := hl
  unfold f11_cheap at he
  refine lv_aload_n hx hb dX11_cheap_0 rfl (lv_at hl 0 rfl) ?_
  refine lv_iconst (v := (0 : Int32)) hx hb dX11_cheap_1 rfl ?_
  refine g_putI E hM (o := 0) (Nat.le_of_ble_eq_true rfl) rfl fp_X11_157 dX11_cheap_2 (fun H locs hM => ?_)
  obtain ⟨m8, hm8, he⟩ := g_let_ex he
  rw [← hm8] at hM
  refine lv_aload_n hx hb dX11_cheap_5 rfl (lv_at hl 0 rfl) ?_
  refine lv_iload_n hx hb dX11_cheap_6 rfl (lv_at hl 1 rfl) ?_
  refine lv_iload_n hx hb dX11_cheap_7 rfl (lv_at hl 2 rfl) ?_
  refine lv_iload_n hx hb dX11_cheap_8 rfl (lv_at hl 3 rfl) ?_
  obtain ⟨r9, hcr9, he⟩ := g_bind he
  refine g_callV [.int a1, .int a2, .int a3] (rest := []) E hml hl.1 hM cv_X11_444 (c11_areThese l D aC B hcr9) (o := 0) (Nat.le_of_ble_eq_true rfl) rfl (by decide) rfl rfl (Nat.le_of_ble_eq_true rfl) dX11_cheap_9 (fun H locs hM => ?_)
  refine W.eq (g2 := F0 m 12 ls [.int r9]) rfl ?_
  refine lv_if_ne (tgt := 17) hx hb dX11_cheap_12 (by decide) (fun h10 => ?_) (fun h10 => ?_)
  · rw [if_neg h10] at he
    refine lv_iconst (v := (0 : Int32)) hx hb dX11_cheap_17 rfl ?_
    refine lv_istore (lv' := [(4, .int (0 : Int32)), (0, .ref (B + 0)), (1, .int a1), (2, .int a2), (3, .int a3)]) hx hb dX11_cheap_18 hl (by decide) rfl (fun ls hl => ?_)
    refine lv_iconst (v := (0 : Int32)) hx hb dX11_cheap_20 rfl ?_
    refine lv_istore (lv' := [(5, .int (0 : Int32)), (4, .int (0 : Int32)), (0, .ref (B + 0)), (1, .int a1), (2, .int a2), (3, .int a3)]) hx hb dX11_cheap_21 hl (by decide) rfl (fun ls hl => ?_)
    exact w11_cheap_b23 (F := F) (a1 := a1) (a2 := a2) (a3 := a3) E hml hret hlk _ _ _ _ _ _ hM (lv_sub hl [2, 3, 4, 5, 1, 0] rfl) he
  · rw [if_pos h10] at he
    refine lv_iconst (v := (-1 : Int32)) hx hb dX11_cheap_15 rfl ?_
    cases he
    exact g_iret E hM hret hlk dX11_cheap_16

set_option maxHeartbeats 4000000 in
set_option maxRecDepth 100000 in
theorem w11_hasOf_b23 (E : g_C p s m args c cX11_hasOf RX11 D aC (g_Zs (g_A B 44))) (hml : c.maxLocals = 6) (hret : meth.sig.returnType = (some .int)) (hlk : meth.locks = false) {F : Nat} {q0 : Int32} {a1 : Int32} {a2 : Int32} {a3 : Int32} {a4 : Int32} {mem : g_M} : ∀ (w0 : Int32) (H : Heap) (locs : List Loc) (ls : Array Slot), g_At D aC B yM 44 mem s.heap H locs → lv_has ls 6 [(0, .ref (B + 0)), (1, .int a1), (3, .int a3)] → f11_hasOf_b23 F a1 a2 a3 a4 mem w0 = some q0 → W p l e (g_rm 2) s m args below meth c H locs 0 0 (g_MQ below D aC B yM 44 args s (some (.int q0)) mem) (F0 m 23 ls [.int w0]) := by
  intro w0 H locs ls hM hl he
  unfold f11_hasOf_b23 at he
  have hx := E.1
  have hb := E.2.1
  have hown := E.2.2.1
  have hts := E.2.2.2.1
  refine lv_istore (lv' := [(5, .int w0), (0, .ref (B + 0)), (1, .int a1), (3, .int a3)]) hx hb dX11_hasOf_23 hl (by decide) rfl (fun ls hl => ?_)
  refine lv_iload_n hx hb dX11_hasOf_25 rfl (lv_at hl 3 rfl) ?_
  refine lv_if_ne (tgt := 41) hx hb dX11_hasOf_26 (by decide) (fun h1 => ?_) (fun h1 => ?_)
  · rw [if_neg h1] at he
    refine lv_iload hx hb dX11_hasOf_41 (lv_at hl 0 rfl) ?_
    cases he
    exact g_iret E hM hret hlk dX11_hasOf_43
  · rw [if_pos h1] at he
    refine lv_iload hx hb dX11_hasOf_29 (lv_at hl 0 rfl) ?_
    refine lv_aload_n hx hb dX11_hasOf_31 rfl (lv_at hl 1 rfl) ?_
    refine lv_iconst (v := (0 : Int32)) hx hb dX11_hasOf_32 rfl ?_
    refine lv_iload_n hx hb dX11_hasOf_33 rfl (lv_at hl 2 rfl) ?_
    obtain ⟨r2, hcr2, he⟩ := g_bind he
    refine g_callV [.int (0 : Int32), .int a1] (rest := [.int w0]) E hml hl.1 hM cv_X11_369 (c11_awayOf l D aC B hcr2) (o := 0) (Nat.le_of_ble_eq_true rfl) rfl (by decide) rfl rfl (Nat.le_of_ble_eq_true rfl) dX11_hasOf_34 (fun H locs hM => ?_)
    refine W.eq (g2 := F0 m 37 ls [.int r2, .int w0]) rfl ?_
    refine lv_iadd hx hb dX11_hasOf_37 ?_
    refine lv_goto (tgt := 43) hx hb dX11_hasOf_38 (by decide) ?_
    cases he
    exact g_iret E hM hret hlk dX11_hasOf_43

set_option maxHeartbeats 4000000 in
set_option maxRecDepth 100000 in
theorem c11_hasOf (l : Launch) (D : va_G) (aC : Nat → ClassId) (B : Nat) {F : Nat} {a1 : Int32} {a2 : Int32} {a3 : Int32} {a4 : Int32} {mem : g_M} {q0 : Int32} (he : f11_hasOf F a1 a2 a3 a4 mem = some q0) : g_Met l yX11_hasOf cX11_hasOf 6 (some .int) 2 D aC B yM 44 mem [.ref (B + 0), .int a1, .int a2, .int a3, .int a4] (some (.int q0)) mem := by
  refine g_ofW (by decide) (Nat.le_of_ble_eq_true rfl) ?_
  intro p e s m args below meth c ls E hml hret hlk hM hl
  have E : g_C p s m args c cX11_hasOf RX11 D aC (g_Zs (g_A B 44)) := E
  have hx := E.1
  have hb := E.2.1
  have hown := E.2.2.1
  have hts := E.2.2.2.1
  have hl : lv_has ls 6 [(0, .ref (B + 0)), (1, .int a1), (2, .int a2), (3, .int a3), (4, .int a4)] := hl
  unfold f11_hasOf at he
  refine lv_iload_n hx hb dX11_hasOf_0 rfl (lv_at hl 3 rfl) ?_
  refine lv_iload hx hb dX11_hasOf_1 (lv_at hl 4 rfl) ?_
  refine lv_icmp_ne (tgt := 17) hx hb dX11_hasOf_3 (by decide) (fun h3 => ?_) (fun h3 => ?_)
  · rw [if_neg h3] at he
    refine lv_aload_n hx hb dX11_hasOf_17 rfl (lv_at hl 0 rfl) ?_
    refine g_getP E hM (o := 0) (Nat.le_of_ble_eq_true rfl) rfl fl_X11_28 (q := 7) rfl dX11_hasOf_18 ?_
    refine lv_iload_n hx hb dX11_hasOf_21 rfl (lv_at hl 2 rfl) ?_
    obtain ⟨h5, he⟩ := g_ck_some he
    refine g_iald E hM (o := 7) (Nat.le_of_ble_eq_true rfl) rfl h5 dX11_hasOf_22 ?_
    exact w11_hasOf_b23 (F := F) (a1 := a1) (a2 := a2) (a3 := a3) (a4 := a4) E hml hret hlk _ _ _ _ hM (lv_sub hl [0, 1, 3] rfl) he
  · rw [if_pos h3] at he
    refine lv_aload_n hx hb dX11_hasOf_6 rfl (lv_at hl 0 rfl) ?_
    refine g_getP E hM (o := 0) (Nat.le_of_ble_eq_true rfl) rfl fl_X11_28 (q := 7) rfl dX11_hasOf_7 ?_
    refine lv_iload_n hx hb dX11_hasOf_10 rfl (lv_at hl 2 rfl) ?_
    obtain ⟨h4, he⟩ := g_ck_some he
    refine g_iald E hM (o := 7) (Nat.le_of_ble_eq_true rfl) rfl h4 dX11_hasOf_11 ?_
    refine lv_iconst (v := (3 : Int32)) hx hb dX11_hasOf_12 rfl ?_
    refine lv_idiv hx hb dX11_hasOf_13 (by decide) ?_
    refine lv_goto (tgt := 23) hx hb dX11_hasOf_14 (by decide) ?_
    exact w11_hasOf_b23 (F := F) (a1 := a1) (a2 := a2) (a3 := a3) (a4 := a4) E hml hret hlk _ _ _ _ hM (lv_sub hl [0, 1, 3] rfl) he

set_option maxHeartbeats 4000000 in
set_option maxRecDepth 100000 in
theorem c11_isRest (l : Launch) (D : va_G) (aC : Nat → ClassId) (B : Nat) {F : Nat} {a1 : Int32} {a2 : Int32} {a3 : Int32} {a4 : Int32} {mem : g_M} {q0 : Int32} (he : f11_isRest F a1 a2 a3 a4 mem = some q0) : g_Met l yX11_isRest cX11_isRest 7 (some .boolean) 3 D aC B yM 44 mem [.ref (B + 0), .int a1, .int a2, .int a3, .int a4] (some (.int q0)) mem := by
  refine g_ofW (by decide) (Nat.le_of_ble_eq_true rfl) ?_
  intro p e s m args below meth c ls E hml hret hlk hM hl
  have E : g_C p s m args c cX11_isRest RX11 D aC (g_Zs (g_A B 44)) := E
  have hx := E.1
  have hb := E.2.1
  have hown := E.2.2.1
  have hts := E.2.2.2.1
  have hl : lv_has ls 7 [(0, .ref (B + 0)), (1, .int a1), (2, .int a2), (3, .int a3), (4, .int a4)] := hl
  unfold f11_isRest at he
  refine lv_iload hx hb dX11_isRest_0 (lv_at hl 4 rfl) ?_
  refine lv_iconst (v := (2 : Int32)) hx hb dX11_isRest_2 rfl ?_
  refine lv_idiv hx hb dX11_isRest_3 (by decide) ?_
  obtain ⟨x1, hx1, he⟩ := g_let_ex he
  refine g_topI hx1 ?_
  refine lv_istore (lv' := [(5, .int x1), (0, .ref (B + 0)), (1, .int a1), (2, .int a2), (3, .int a3), (4, .int a4)]) hx hb dX11_isRest_4 hl (by decide) rfl (fun ls hl => ?_)
  refine lv_iload hx hb dX11_isRest_6 (lv_at hl 5 rfl) ?_
  refine lv_iconst (v := (2 : Int32)) hx hb dX11_isRest_8 rfl ?_
  refine lv_irem hx hb dX11_isRest_9 (by decide) ?_
  obtain ⟨x2, hx2, he⟩ := g_let_ex he
  refine g_topI hx2 ?_
  refine lv_istore (lv' := [(6, .int x2), (5, .int x1), (0, .ref (B + 0)), (1, .int a1), (2, .int a2), (3, .int a3), (4, .int a4)]) hx hb dX11_isRest_10 hl (by decide) rfl (fun ls hl => ?_)
  refine lv_aload_n hx hb dX11_isRest_12 rfl (lv_at hl 2 rfl) ?_
  refine lv_iload_n hx hb dX11_isRest_13 rfl (lv_at hl 3 rfl) ?_
  refine lv_iload_n hx hb dX11_isRest_14 rfl (lv_at hl 5 rfl) ?_
  refine lv_iconst (v := (1 : Int32)) hx hb dX11_isRest_15 rfl ?_
  refine lv_iload hx hb dX11_isRest_16 (lv_at hl 1 rfl) ?_
  refine lv_isub hx hb dX11_isRest_18 ?_
  refine lv_iload hx hb dX11_isRest_19 (lv_at hl 0 rfl) ?_
  obtain ⟨r3, hcr3, he⟩ := g_bind he
  refine g_callV [.int a1, .int a3, .int ((1 : Int32) - x1), .int x2] (rest := []) E hml hl.1 hM cv_X11_494 (c11_hasOf l D aC B hcr3) (o := 0) (Nat.le_of_ble_eq_true rfl) rfl (by decide) rfl rfl (Nat.le_of_ble_eq_true rfl) dX11_isRest_21 (fun H locs hM => ?_)
  refine W.eq (g2 := F0 m 24 ls [.int r3]) rfl ?_
  refine lv_aload_n hx hb dX11_isRest_24 rfl (lv_at hl 2 rfl) ?_
  refine lv_iload_n hx hb dX11_isRest_25 rfl (lv_at hl 3 rfl) ?_
  refine lv_iload_n hx hb dX11_isRest_26 rfl (lv_at hl 5 rfl) ?_
  refine lv_iload hx hb dX11_isRest_27 (lv_at hl 1 rfl) ?_
  refine lv_iload hx hb dX11_isRest_29 (lv_at hl 0 rfl) ?_
  obtain ⟨r4, hcr4, he⟩ := g_bind he
  refine g_callV [.int a1, .int a3, .int x1, .int x2] (rest := [.int r3]) E hml hl.1 hM cv_X11_494 (c11_hasOf l D aC B hcr4) (o := 0) (Nat.le_of_ble_eq_true rfl) rfl (by decide) rfl rfl (Nat.le_of_ble_eq_true rfl) dX11_isRest_31 (fun H locs hM => ?_)
  refine W.eq (g2 := F0 m 34 ls [.int r4, .int r3]) rfl ?_
  refine lv_icmp_gt (tgt := 66) hx hb dX11_isRest_34 (by decide) (fun h5 => ?_) (fun h5 => ?_)
  · rw [if_neg (Int32.not_le.mpr h5)] at he
    refine lv_iconst (v := (0 : Int32)) hx hb dX11_isRest_66 rfl ?_
    cases he
    exact g_zret E hM hret hlk (Or.inl rfl) dX11_isRest_67
  · rw [if_pos (Int32.not_lt.mp h5)] at he
    refine lv_aload_n hx hb dX11_isRest_37 rfl (lv_at hl 2 rfl) ?_
    refine lv_iload_n hx hb dX11_isRest_38 rfl (lv_at hl 4 rfl) ?_
    refine lv_iload_n hx hb dX11_isRest_39 rfl (lv_at hl 5 rfl) ?_
    refine lv_iconst (v := (1 : Int32)) hx hb dX11_isRest_40 rfl ?_
    refine lv_iload hx hb dX11_isRest_41 (lv_at hl 0 rfl) ?_
    refine lv_isub hx hb dX11_isRest_43 ?_
    refine lv_iload hx hb dX11_isRest_44 (lv_at hl 1 rfl) ?_
    obtain ⟨r6, hcr6, he⟩ := g_bind he
    refine g_callV [.int a2, .int a3, .int ((1 : Int32) - x2), .int x1] (rest := []) E hml hl.1 hM cv_X11_494 (c11_hasOf l D aC B hcr6) (o := 0) (Nat.le_of_ble_eq_true rfl) rfl (by decide) rfl rfl (Nat.le_of_ble_eq_true rfl) dX11_isRest_46 (fun H locs hM => ?_)
    refine W.eq (g2 := F0 m 49 ls [.int r6]) rfl ?_
    refine lv_aload_n hx hb dX11_isRest_49 rfl (lv_at hl 2 rfl) ?_
    refine lv_iload_n hx hb dX11_isRest_50 rfl (lv_at hl 4 rfl) ?_
    refine lv_iload_n hx hb dX11_isRest_51 rfl (lv_at hl 5 rfl) ?_
    refine lv_iload hx hb dX11_isRest_52 (lv_at hl 0 rfl) ?_
    refine lv_iload hx hb dX11_isRest_54 (lv_at hl 1 rfl) ?_
    obtain ⟨r7, hcr7, he⟩ := g_bind he
    refine g_callV [.int a2, .int a3, .int x2, .int x1] (rest := [.int r6]) E hml hl.1 hM cv_X11_494 (c11_hasOf l D aC B hcr7) (o := 0) (Nat.le_of_ble_eq_true rfl) rfl (by decide) rfl rfl (Nat.le_of_ble_eq_true rfl) dX11_isRest_56 (fun H locs hM => ?_)
    refine W.eq (g2 := F0 m 59 ls [.int r7, .int r6]) rfl ?_
    refine lv_icmp_gt (tgt := 66) hx hb dX11_isRest_59 (by decide) (fun h8 => ?_) (fun h8 => ?_)
    · rw [if_neg (Int32.not_le.mpr h8)] at he
      refine lv_iconst (v := (0 : Int32)) hx hb dX11_isRest_66 rfl ?_
      cases he
      exact g_zret E hM hret hlk (Or.inl rfl) dX11_isRest_67
    · rw [if_pos (Int32.not_lt.mp h8)] at he
      refine lv_iconst (v := (1 : Int32)) hx hb dX11_isRest_62 rfl ?_
      refine lv_goto (tgt := 67) hx hb dX11_isRest_63 (by decide) ?_
      cases he
      exact g_zret E hM hret hlk (Or.inr rfl) dX11_isRest_67

set_option maxHeartbeats 4000000 in
set_option maxRecDepth 100000 in
theorem w11_restOf_b50 (E : g_C p s m args c cX11_restOf RX11 D aC (g_Zs (g_A B 44))) (hml : c.maxLocals = 7) (hret : meth.sig.returnType = (some .int)) (hlk : meth.locks = false) {F : Nat} {q0 : Int32} {a1 : Int32} {a2 : Int32} {a3 : Int32} {a4 : Int32} {mem : g_M} {s6 : Int32 → Int32 → Option (Int32)} (hs6 : ∀ (v5 : Int32) (v6 : Int32) (H : Heap) (locs : List Loc) (ls : Array Slot), g_At D aC B yM 44 mem s.heap H locs → lv_has ls 7 [(0, .ref (B + 0)), (1, .int a1), (2, .int a2), (3, .int a3), (4, .int a4), (5, .int v5), (6, .int v6)] → s6 v5 v6 = some q0 → W p l e (g_rm 4) s m args below meth c H locs 0 0 (g_MQ below D aC B yM 44 args s (some (.int q0)) mem) (F0 m 6 ls [])) : ∀ (v5 : Int32) (v6 : Int32) (H : Heap) (locs : List Loc) (ls : Array Slot), g_At D aC B yM 44 mem s.heap H locs → lv_has ls 7 [(0, .ref (B + 0)), (1, .int a1), (2, .int a2), (3, .int a3), (4, .int a4), (5, .int v5), (6, .int v6)] → f11_restOf_b50 F a1 a2 a3 a4 s6 mem v5 v6 = some q0 → W p l e (g_rm 4) s m args below meth c H locs 0 0 (g_MQ below D aC B yM 44 args s (some (.int q0)) mem) (F0 m 50 ls []) := by
  intro v5 v6 H locs ls hM hl he
  unfold f11_restOf_b50 at he
  have hx := E.1
  have hb := E.2.1
  have hown := E.2.2.1
  have hts := E.2.2.2.1
  obtain ⟨x1, hx1, he⟩ := g_let_ex he
  refine lv_iinc (v := x1) (lv' := [(6, .int x1), (0, .ref (B + 0)), (1, .int a1), (2, .int a2), (3, .int a3), (4, .int a4), (5, .int v5)]) hx hb dX11_restOf_50 hl (k := 6) rfl (by rw [hx1]; rfl) (by decide) rfl (fun ls hl => ?_)
  refine lv_goto (tgt := 6) hx hb dX11_restOf_53 (by decide) ?_
  exact hs6 _ _ _ _ _ hM (lv_sub hl [1, 2, 3, 4, 5, 6, 0] rfl) he

set_option maxHeartbeats 4000000 in
set_option maxRecDepth 100000 in
theorem w11_restOf_b6_body (E : g_C p s m args c cX11_restOf RX11 D aC (g_Zs (g_A B 44))) (hml : c.maxLocals = 7) (hret : meth.sig.returnType = (some .int)) (hlk : meth.locks = false) {F : Nat} {q0 : Int32} {a1 : Int32} {a2 : Int32} {a3 : Int32} {a4 : Int32} {mem : g_M} {s6 : Int32 → Int32 → Option (Int32)} (hs6 : ∀ (v5 : Int32) (v6 : Int32) (H : Heap) (locs : List Loc) (ls : Array Slot), g_At D aC B yM 44 mem s.heap H locs → lv_has ls 7 [(0, .ref (B + 0)), (1, .int a1), (2, .int a2), (3, .int a3), (4, .int a4), (5, .int v5), (6, .int v6)] → s6 v5 v6 = some q0 → W p l e (g_rm 4) s m args below meth c H locs 0 0 (g_MQ below D aC B yM 44 args s (some (.int q0)) mem) (F0 m 6 ls [])) : ∀ (v5 : Int32) (v6 : Int32) (H : Heap) (locs : List Loc) (ls : Array Slot), g_At D aC B yM 44 mem s.heap H locs → lv_has ls 7 [(0, .ref (B + 0)), (1, .int a1), (2, .int a2), (3, .int a3), (4, .int a4), (5, .int v5), (6, .int v6)] → f11_restOf_b6_body F a1 a2 a3 a4 s6 mem v5 v6 = some q0 → W p l e (g_rm 4) s m args below meth c H locs 0 0 (g_MQ below D aC B yM 44 args s (some (.int q0)) mem) (F0 m 6 ls []) := by
  intro v5 v6 H locs ls hM hl he
  unfold f11_restOf_b6_body at he
  have hx := E.1
  have hb := E.2.1
  have hown := E.2.2.1
  have hts := E.2.2.2.1
  refine lv_iload hx hb dX11_restOf_6 (lv_at hl 6 rfl) ?_
  refine lv_iconst (v := (4 : Int32)) hx hb dX11_restOf_8 rfl ?_
  refine lv_icmp_ge (tgt := 56) hx hb dX11_restOf_9 (by decide) (fun h2 => ?_) (fun h2 => ?_)
  · rw [if_neg (Int32.not_lt.mpr h2)] at he
    refine lv_iload hx hb dX11_restOf_56 (lv_at hl 4 rfl) ?_
    refine lv_iconst (v := (-1 : Int32)) hx hb dX11_restOf_58 rfl ?_
    refine lv_icmp_ne (tgt := 67) hx hb dX11_restOf_59 (by decide) (fun h7 => ?_) (fun h7 => ?_)
    · rw [if_neg h7] at he
      refine lv_bipush (v := (-2 : Int32)) hx hb dX11_restOf_67 rfl ?_
      cases he
      exact g_iret E hM hret hlk dX11_restOf_69
    · rw [if_pos h7] at he
      refine lv_iload hx hb dX11_restOf_62 (lv_at hl 5 rfl) ?_
      refine lv_goto (tgt := 69) hx hb dX11_restOf_64 (by decide) ?_
      cases he
      exact g_iret E hM hret hlk dX11_restOf_69
  · rw [if_pos (Int32.not_le.mp h2)] at he
    refine lv_aload_n hx hb dX11_restOf_12 rfl (lv_at hl 0 rfl) ?_
    refine lv_iload_n hx hb dX11_restOf_13 rfl (lv_at hl 1 rfl) ?_
    refine lv_iload_n hx hb dX11_restOf_14 rfl (lv_at hl 2 rfl) ?_
    refine lv_iload_n hx hb dX11_restOf_15 rfl (lv_at hl 3 rfl) ?_
    refine lv_iload hx hb dX11_restOf_16 (lv_at hl 6 rfl) ?_
    obtain ⟨r3, hcr3, he⟩ := g_bind he
    refine g_callV [.int a1, .int a2, .int a3, .int v6] (rest := []) E hml hl.1 hM cv_X11_498 (c11_isRest l D aC B hcr3) (o := 0) (Nat.le_of_ble_eq_true rfl) rfl (by decide) rfl rfl (Nat.le_of_ble_eq_true rfl) dX11_restOf_18 (fun H locs hM => ?_)
    refine W.eq (g2 := F0 m 21 ls [.int r3]) rfl ?_
    refine lv_if_ne (tgt := 27) hx hb dX11_restOf_21 (by decide) (fun h4 => ?_) (fun h4 => ?_)
    · rw [if_neg h4] at he
      refine lv_iload hx hb dX11_restOf_27 (lv_at hl 5 rfl) ?_
      refine lv_iload hx hb dX11_restOf_29 (lv_at hl 4 rfl) ?_
      refine lv_icmp_ne (tgt := 47) hx hb dX11_restOf_31 (by decide) (fun h5 => ?_) (fun h5 => ?_)
      · rw [if_neg h5] at he
        obtain ⟨x6, hx6, he⟩ := g_let_ex he
        refine lv_iinc (v := x6) (lv' := [(5, .int x6), (0, .ref (B + 0)), (1, .int a1), (2, .int a2), (3, .int a3), (4, .int a4), (6, .int v6)]) hx hb dX11_restOf_47 hl (k := 5) rfl (by rw [hx6]; rfl) (by decide) rfl (fun ls hl => ?_)
        exact w11_restOf_b50 (F := F) (a1 := a1) (a2 := a2) (a3 := a3) (a4 := a4) E hml hret hlk hs6 _ _ _ _ _ hM (lv_sub hl [1, 2, 3, 4, 5, 0, 6] rfl) he
      · rw [if_pos h5] at he
        refine lv_bipush (v := (10 : Int32)) hx hb dX11_restOf_34 rfl ?_
        refine lv_iload hx hb dX11_restOf_36 (lv_at hl 6 rfl) ?_
        refine lv_iconst (v := (2 : Int32)) hx hb dX11_restOf_38 rfl ?_
        refine lv_idiv hx hb dX11_restOf_39 (by decide) ?_
        refine lv_imul hx hb dX11_restOf_40 ?_
        refine lv_iload hx hb dX11_restOf_41 (lv_at hl 6 rfl) ?_
        refine lv_iconst (v := (2 : Int32)) hx hb dX11_restOf_43 rfl ?_
        refine lv_irem hx hb dX11_restOf_44 (by decide) ?_
        refine lv_iadd hx hb dX11_restOf_45 ?_
        cases he
        exact g_iret E hM hret hlk dX11_restOf_46
    · rw [if_pos h4] at he
      refine lv_goto (tgt := 50) hx hb dX11_restOf_24 (by decide) ?_
      exact w11_restOf_b50 (F := F) (a1 := a1) (a2 := a2) (a3 := a3) (a4 := a4) E hml hret hlk hs6 _ _ _ _ _ hM (lv_sub hl [0, 1, 2, 3, 4, 5, 6] rfl) he

set_option maxHeartbeats 4000000 in
set_option maxRecDepth 100000 in
theorem w11_restOf_b6 (E : g_C p s m args c cX11_restOf RX11 D aC (g_Zs (g_A B 44))) (hml : c.maxLocals = 7) (hret : meth.sig.returnType = (some .int)) (hlk : meth.locks = false) {F : Nat} {q0 : Int32} {a1 : Int32} {a2 : Int32} {a3 : Int32} {a4 : Int32} {mem : g_M} : ∀ (v5 : Int32) (v6 : Int32) (H : Heap) (locs : List Loc) (ls : Array Slot), g_At D aC B yM 44 mem s.heap H locs → lv_has ls 7 [(0, .ref (B + 0)), (1, .int a1), (2, .int a2), (3, .int a3), (4, .int a4), (5, .int v5), (6, .int v6)] → f11_restOf_b6 F a1 a2 a3 a4 mem v5 v6 = some q0 → W p l e (g_rm 4) s m args below meth c H locs 0 0 (g_MQ below D aC B yM 44 args s (some (.int q0)) mem) (F0 m 6 ls []) := by
  have key : ∀ (nn : Nat) (x : Int32 × Int32) (H : Heap) (locs : List Loc) (ls : Array Slot), g_At D aC B yM 44 mem s.heap H locs → lv_has ls 7 [(0, .ref (B + 0)), (1, .int a1), (2, .int a2), (3, .int a3), (4, .int a4), (5, .int x.1), (6, .int x.2)] → g_fix (fun sf x => f11_restOf_b6_body F a1 a2 a3 a4 (fun v5 v6 => sf (v5, v6)) mem x.1 x.2) nn x = some q0 → W p l e (g_rm 4) s m args below meth c H locs 0 0 (g_MQ below D aC B yM 44 args s (some (.int q0)) mem) (F0 m 6 ls []) := by
    intro nn
    induction nn with
    | zero => intro x H locs ls hM hl he; simp [g_fix] at he
    | succ nn ih =>
      intro x H locs ls hM hl he
      exact w11_restOf_b6_body (F := F) (a1 := a1) (a2 := a2) (a3 := a3) (a4 := a4) E hml hret hlk (fun v5 v6 H locs ls hM hl he => ih (v5, v6) H locs ls hM hl he) x.1 x.2 H locs ls hM hl he
  intro v5 v6 H locs ls hM hl he
  exact key F (v5, v6) H locs ls hM hl he

set_option maxHeartbeats 4000000 in
set_option maxRecDepth 100000 in
theorem c11_restOf (l : Launch) (D : va_G) (aC : Nat → ClassId) (B : Nat) {F : Nat} {a1 : Int32} {a2 : Int32} {a3 : Int32} {a4 : Int32} {mem : g_M} {q0 : Int32} (he : f11_restOf F a1 a2 a3 a4 mem = some q0) : g_Met l yX11_restOf cX11_restOf 7 (some .int) 4 D aC B yM 44 mem [.ref (B + 0), .int a1, .int a2, .int a3, .int a4] (some (.int q0)) mem := by
  refine g_ofW (by decide) (Nat.le_of_ble_eq_true rfl) ?_
  intro p e s m args below meth c ls E hml hret hlk hM hl
  have E : g_C p s m args c cX11_restOf RX11 D aC (g_Zs (g_A B 44)) := E
  have hx := E.1
  have hb := E.2.1
  have hown := E.2.2.1
  have hts := E.2.2.2.1
  have hl : lv_has ls 7 [(0, .ref (B + 0)), (1, .int a1), (2, .int a2), (3, .int a3), (4, .int a4)] := hl
  unfold f11_restOf at he
  refine lv_iconst (v := (0 : Int32)) hx hb dX11_restOf_0 rfl ?_
  refine lv_istore (lv' := [(5, .int (0 : Int32)), (0, .ref (B + 0)), (1, .int a1), (2, .int a2), (3, .int a3), (4, .int a4)]) hx hb dX11_restOf_1 hl (by decide) rfl (fun ls hl => ?_)
  refine lv_iconst (v := (0 : Int32)) hx hb dX11_restOf_3 rfl ?_
  refine lv_istore (lv' := [(6, .int (0 : Int32)), (5, .int (0 : Int32)), (0, .ref (B + 0)), (1, .int a1), (2, .int a2), (3, .int a3), (4, .int a4)]) hx hb dX11_restOf_4 hl (by decide) rfl (fun ls hl => ?_)
  exact w11_restOf_b6 (F := F) (a1 := a1) (a2 := a2) (a3 := a3) (a4 := a4) E hml hret hlk _ _ _ _ _ hM (lv_sub hl [2, 3, 4, 5, 6, 1, 0] rfl) he

set_option maxHeartbeats 4000000 in
set_option maxRecDepth 100000 in
theorem c11_areTwo (l : Launch) (D : va_G) (aC : Nat → ClassId) (B : Nat) {F : Nat} {a1 : Int32} {a2 : Int32} {a3 : Int32} {mem : g_M} {q0 : Int32} (he : f11_areTwo F a1 a2 a3 mem = some q0) : g_Met l yX11_areTwo cX11_areTwo 4 (some .boolean) 2 D aC B yM 44 mem [.ref (B + 0), .int a1, .int a2, .int a3] (some (.int q0)) mem := by
  refine g_ofW (by decide) (Nat.le_of_ble_eq_true rfl) ?_
  intro p e s m args below meth c ls E hml hret hlk hM hl
  have E : g_C p s m args c cX11_areTwo RX11 D aC (g_Zs (g_A B 44)) := E
  have hx := E.1
  have hb := E.2.1
  have hown := E.2.2.1
  have hts := E.2.2.2.1
  have hl : lv_has ls 4 [(0, .ref (B + 0)), (1, .int a1), (2, .int a2), (3, .int a3)] := hl
  unfold f11_areTwo at he
  refine lv_aload_n hx hb dX11_areTwo_0 rfl (lv_at hl 0 rfl) ?_
  refine lv_iload_n hx hb dX11_areTwo_1 rfl (lv_at hl 1 rfl) ?_
  obtain ⟨r1, hcr1, he⟩ := g_bind he
  refine g_callV [.int a1] (rest := []) E hml hl.1 hM cv_X11_426 (c11_isMan l D aC B hcr1) (o := 0) (Nat.le_of_ble_eq_true rfl) rfl (by decide) rfl rfl (Nat.le_of_ble_eq_true rfl) dX11_areTwo_2 (fun H locs hM => ?_)
  refine W.eq (g2 := F0 m 5 ls [.int r1]) rfl ?_
  refine lv_if_eq (tgt := 33) hx hb dX11_areTwo_5 (by decide) (fun h2 => ?_) (fun h2 => ?_)
  · rw [if_pos h2] at he
    refine lv_iconst (v := (0 : Int32)) hx hb dX11_areTwo_33 rfl ?_
    cases he
    exact g_zret E hM hret hlk (Or.inl rfl) dX11_areTwo_34
  · rw [if_neg h2] at he
    refine lv_aload_n hx hb dX11_areTwo_8 rfl (lv_at hl 0 rfl) ?_
    refine lv_iload_n hx hb dX11_areTwo_9 rfl (lv_at hl 2 rfl) ?_
    obtain ⟨r3, hcr3, he⟩ := g_bind he
    refine g_callV [.int a2] (rest := []) E hml hl.1 hM cv_X11_426 (c11_isMan l D aC B hcr3) (o := 0) (Nat.le_of_ble_eq_true rfl) rfl (by decide) rfl rfl (Nat.le_of_ble_eq_true rfl) dX11_areTwo_10 (fun H locs hM => ?_)
    refine W.eq (g2 := F0 m 13 ls [.int r3]) rfl ?_
    refine lv_if_eq (tgt := 33) hx hb dX11_areTwo_13 (by decide) (fun h4 => ?_) (fun h4 => ?_)
    · rw [if_pos h4] at he
      refine lv_iconst (v := (0 : Int32)) hx hb dX11_areTwo_33 rfl ?_
      cases he
      exact g_zret E hM hret hlk (Or.inl rfl) dX11_areTwo_34
    · rw [if_neg h4] at he
      refine lv_iload_n hx hb dX11_areTwo_16 rfl (lv_at hl 1 rfl) ?_
      refine lv_iload_n hx hb dX11_areTwo_17 rfl (lv_at hl 2 rfl) ?_
      refine lv_icmp_eq (tgt := 33) hx hb dX11_areTwo_18 (by decide) (fun h5 => ?_) (fun h5 => ?_)
      · rw [if_pos h5] at he
        refine lv_iconst (v := (0 : Int32)) hx hb dX11_areTwo_33 rfl ?_
        cases he
        exact g_zret E hM hret hlk (Or.inl rfl) dX11_areTwo_34
      · rw [if_neg h5] at he
        refine lv_aload_n hx hb dX11_areTwo_21 rfl (lv_at hl 0 rfl) ?_
        refine lv_iload_n hx hb dX11_areTwo_22 rfl (lv_at hl 3 rfl) ?_
        obtain ⟨r6, hcr6, he⟩ := g_bind he
        refine g_callV [.int a3] (rest := []) E hml hl.1 hM cv_X11_432 (c11_isSort l D aC B hcr6) (o := 0) (Nat.le_of_ble_eq_true rfl) rfl (by decide) rfl rfl (Nat.le_of_ble_eq_true rfl) dX11_areTwo_23 (fun H locs hM => ?_)
        refine W.eq (g2 := F0 m 26 ls [.int r6]) rfl ?_
        refine lv_if_eq (tgt := 33) hx hb dX11_areTwo_26 (by decide) (fun h7 => ?_) (fun h7 => ?_)
        · rw [if_pos h7] at he
          refine lv_iconst (v := (0 : Int32)) hx hb dX11_areTwo_33 rfl ?_
          cases he
          exact g_zret E hM hret hlk (Or.inl rfl) dX11_areTwo_34
        · rw [if_neg h7] at he
          refine lv_iconst (v := (1 : Int32)) hx hb dX11_areTwo_29 rfl ?_
          refine lv_goto (tgt := 34) hx hb dX11_areTwo_30 (by decide) ?_
          cases he
          exact g_zret E hM hret hlk (Or.inr rfl) dX11_areTwo_34

set_option maxHeartbeats 4000000 in
set_option maxRecDepth 100000 in
theorem c11_rests (l : Launch) (D : va_G) (aC : Nat → ClassId) (B : Nat) {F : Nat} {a1 : Int32} {a2 : Int32} {a3 : Int32} {mem : g_M} {q0 : Int32 × g_M} (he : f11_rests F a1 a2 a3 mem = some q0) : g_Met l yX11_rests cX11_rests 4 (some .int) 5 D aC B yM 44 mem [.ref (B + 0), .int a1, .int a2, .int a3] (some (.int q0.1)) q0.2 := by
  refine g_ofW (by decide) (Nat.le_of_ble_eq_true rfl) ?_
  intro p e s m args below meth c ls E hml hret hlk hM hl
  have E : g_C p s m args c cX11_rests RX11 D aC (g_Zs (g_A B 44)) := E
  have hx := E.1
  have hb := E.2.1
  have hown := E.2.2.1
  have hts := E.2.2.2.1
  have hl : lv_has ls 4 [(0, .ref (B + 0)), (1, .int a1), (2, .int a2), (3, .int a3)] := hl
  unfold f11_rests at he
  refine lv_aload_n hx hb dX11_rests_0 rfl (lv_at hl 0 rfl) ?_
  refine lv_iconst (v := (0 : Int32)) hx hb dX11_rests_1 rfl ?_
  refine g_putI E hM (o := 0) (Nat.le_of_ble_eq_true rfl) rfl fp_X11_157 dX11_rests_2 (fun H locs hM => ?_)
  obtain ⟨m1, hm1, he⟩ := g_let_ex he
  rw [← hm1] at hM
  refine lv_aload_n hx hb dX11_rests_5 rfl (lv_at hl 0 rfl) ?_
  refine lv_iload_n hx hb dX11_rests_6 rfl (lv_at hl 1 rfl) ?_
  refine lv_iload_n hx hb dX11_rests_7 rfl (lv_at hl 2 rfl) ?_
  refine lv_iload_n hx hb dX11_rests_8 rfl (lv_at hl 3 rfl) ?_
  obtain ⟨r2, hcr2, he⟩ := g_bind he
  refine g_callV [.int a1, .int a2, .int a3] (rest := []) E hml hl.1 hM cv_X11_501 (c11_areTwo l D aC B hcr2) (o := 0) (Nat.le_of_ble_eq_true rfl) rfl (by decide) rfl rfl (Nat.le_of_ble_eq_true rfl) dX11_rests_9 (fun H locs hM => ?_)
  refine W.eq (g2 := F0 m 12 ls [.int r2]) rfl ?_
  refine lv_if_eq (tgt := 26) hx hb dX11_rests_12 (by decide) (fun h3 => ?_) (fun h3 => ?_)
  · rw [if_pos h3] at he
    refine lv_iconst (v := (-1 : Int32)) hx hb dX11_rests_26 rfl ?_
    cases he
    exact g_iret E hM hret hlk dX11_rests_27
  · rw [if_neg h3] at he
    refine lv_aload_n hx hb dX11_rests_15 rfl (lv_at hl 0 rfl) ?_
    refine lv_iload_n hx hb dX11_rests_16 rfl (lv_at hl 1 rfl) ?_
    refine lv_iload_n hx hb dX11_rests_17 rfl (lv_at hl 2 rfl) ?_
    refine lv_iload_n hx hb dX11_rests_18 rfl (lv_at hl 3 rfl) ?_
    refine lv_iconst (v := (-1 : Int32)) hx hb dX11_rests_19 rfl ?_
    obtain ⟨r4, hcr4, he⟩ := g_bind he
    refine g_callV [.int a1, .int a2, .int a3, .int (-1 : Int32)] (rest := []) E hml hl.1 hM cv_X11_504 (c11_restOf l D aC B hcr4) (o := 0) (Nat.le_of_ble_eq_true rfl) rfl (by decide) rfl rfl (Nat.le_of_ble_eq_true rfl) dX11_rests_20 (fun H locs hM => ?_)
    refine W.eq (g2 := F0 m 23 ls [.int r4]) rfl ?_
    refine lv_goto (tgt := 27) hx hb dX11_rests_23 (by decide) ?_
    cases he
    exact g_iret E hM hret hlk dX11_rests_27

set_option maxHeartbeats 4000000 in
set_option maxRecDepth 100000 in
theorem c11_rest (l : Launch) (D : va_G) (aC : Nat → ClassId) (B : Nat) {F : Nat} {a1 : Int32} {a2 : Int32} {a3 : Int32} {a4 : Int32} {mem : g_M} {q0 : Int32 × g_M} (he : f11_rest F a1 a2 a3 a4 mem = some q0) : g_Met l yX11_rest cX11_rest 5 (some .int) 5 D aC B yM 44 mem [.ref (B + 0), .int a1, .int a2, .int a3, .int a4] (some (.int q0.1)) q0.2 := by
  refine g_ofW (by decide) (Nat.le_of_ble_eq_true rfl) ?_
  intro p e s m args below meth c ls E hml hret hlk hM hl
  have E : g_C p s m args c cX11_rest RX11 D aC (g_Zs (g_A B 44)) := E
  have hx := E.1
  have hb := E.2.1
  have hown := E.2.2.1
  have hts := E.2.2.2.1
  have hl : lv_has ls 5 [(0, .ref (B + 0)), (1, .int a1), (2, .int a2), (3, .int a3), (4, .int a4)] := hl
  unfold f11_rest at he
  refine lv_aload_n hx hb dX11_rest_0 rfl (lv_at hl 0 rfl) ?_
  refine lv_iconst (v := (0 : Int32)) hx hb dX11_rest_1 rfl ?_
  refine g_putI E hM (o := 0) (Nat.le_of_ble_eq_true rfl) rfl fp_X11_157 dX11_rest_2 (fun H locs hM => ?_)
  obtain ⟨m1, hm1, he⟩ := g_let_ex he
  rw [← hm1] at hM
  refine lv_aload_n hx hb dX11_rest_5 rfl (lv_at hl 0 rfl) ?_
  refine lv_iload_n hx hb dX11_rest_6 rfl (lv_at hl 1 rfl) ?_
  refine lv_iload_n hx hb dX11_rest_7 rfl (lv_at hl 2 rfl) ?_
  refine lv_iload_n hx hb dX11_rest_8 rfl (lv_at hl 3 rfl) ?_
  obtain ⟨r2, hcr2, he⟩ := g_bind he
  refine g_callV [.int a1, .int a2, .int a3] (rest := []) E hml hl.1 hM cv_X11_501 (c11_areTwo l D aC B hcr2) (o := 0) (Nat.le_of_ble_eq_true rfl) rfl (by decide) rfl rfl (Nat.le_of_ble_eq_true rfl) dX11_rest_9 (fun H locs hM => ?_)
  refine W.eq (g2 := F0 m 12 ls [.int r2]) rfl ?_
  refine lv_if_eq (tgt := 32) hx hb dX11_rest_12 (by decide) (fun h3 => ?_) (fun h3 => ?_)
  · rw [if_pos h3] at he
    refine lv_iconst (v := (-1 : Int32)) hx hb dX11_rest_32 rfl ?_
    cases he
    exact g_iret E hM hret hlk dX11_rest_33
  · rw [if_neg h3] at he
    refine lv_iload hx hb dX11_rest_15 (lv_at hl 4 rfl) ?_
    refine lv_if_lt (tgt := 32) hx hb dX11_rest_17 (by decide) (fun h4 => ?_) (fun h4 => ?_)
    · rw [if_neg (Int32.not_le.mpr h4)] at he
      refine lv_iconst (v := (-1 : Int32)) hx hb dX11_rest_32 rfl ?_
      cases he
      exact g_iret E hM hret hlk dX11_rest_33
    · rw [if_pos (Int32.not_lt.mp h4)] at he
      refine lv_aload_n hx hb dX11_rest_20 rfl (lv_at hl 0 rfl) ?_
      refine lv_iload_n hx hb dX11_rest_21 rfl (lv_at hl 1 rfl) ?_
      refine lv_iload_n hx hb dX11_rest_22 rfl (lv_at hl 2 rfl) ?_
      refine lv_iload_n hx hb dX11_rest_23 rfl (lv_at hl 3 rfl) ?_
      refine lv_iload hx hb dX11_rest_24 (lv_at hl 4 rfl) ?_
      obtain ⟨r5, hcr5, he⟩ := g_bind he
      refine g_callV [.int a1, .int a2, .int a3, .int a4] (rest := []) E hml hl.1 hM cv_X11_504 (c11_restOf l D aC B hcr5) (o := 0) (Nat.le_of_ble_eq_true rfl) rfl (by decide) rfl rfl (Nat.le_of_ble_eq_true rfl) dX11_rest_26 (fun H locs hM => ?_)
      refine W.eq (g2 := F0 m 29 ls [.int r5]) rfl ?_
      refine lv_goto (tgt := 33) hx hb dX11_rest_29 (by decide) ?_
      cases he
      exact g_iret E hM hret hlk dX11_rest_33

set_option maxHeartbeats 4000000 in
set_option maxRecDepth 100000 in
theorem w11_common_b6_body (E : g_C p s m args c cX11_common RX11 D aC (g_Zs (g_A B 44))) (hml : c.maxLocals = 10) (hret : meth.sig.returnType = (some .long)) (hlk : meth.locks = false) {F : Nat} {q0 : Int64} {a0 : Int64} {a2 : Int64} {mem : g_M} {s6 : Int64 → Int64 → Option (Int64)} (hs6 : ∀ (v4 : Int64) (v6 : Int64) (H : Heap) (locs : List Loc) (ls : Array Slot), g_At D aC B yM 44 mem s.heap H locs → lv_has ls 10 [(4, .long v4), (6, .long v6)] → s6 v4 v6 = some q0 → W p l e (g_rm 1) s m args below meth c H locs 0 0 (g_MQ below D aC B yM 44 args s (some (.long q0)) mem) (F0 m 6 ls [])) : ∀ (v4 : Int64) (v6 : Int64) (H : Heap) (locs : List Loc) (ls : Array Slot), g_At D aC B yM 44 mem s.heap H locs → lv_has ls 10 [(4, .long v4), (6, .long v6)] → f11_common_b6_body F a0 a2 s6 mem v4 v6 = some q0 → W p l e (g_rm 1) s m args below meth c H locs 0 0 (g_MQ below D aC B yM 44 args s (some (.long q0)) mem) (F0 m 6 ls []) := by
  intro v4 v6 H locs ls hM hl he
  unfold f11_common_b6_body at he
  have hx := E.1
  have hb := E.2.1
  have hown := E.2.2.1
  have hts := E.2.2.2.1
  refine lv_lload hx hb dX11_common_6 (lv_at hl 1 rfl) ?_
  refine lv_lconst (v := (0 : Int64)) hx hb dX11_common_8 rfl ?_
  refine W.lcmp hx hb dX11_common_9 ?_
  refine lv_if_eq (tgt := 31) hx hb dX11_common_10 (by decide) (fun h1 => ?_) (fun h1 => ?_)
  · rw [if_pos h1] at he
    refine lv_lload hx hb dX11_common_31 (lv_at hl 0 rfl) ?_
    cases he
    exact g_lret E hM hret hlk dX11_common_33
  · rw [if_neg h1] at he
    refine lv_lload hx hb dX11_common_13 (lv_at hl 0 rfl) ?_
    refine lv_lload hx hb dX11_common_15 (lv_at hl 1 rfl) ?_
    obtain ⟨h2, he⟩ := g_nzL_some he
    refine lv_lrem hx hb dX11_common_17 h2 ?_
    obtain ⟨x3, hx3, he⟩ := g_let_ex he
    refine g_topJ hx3 ?_
    refine lv_lstore (lv' := [(8, .long x3), (4, .long v4), (6, .long v6)]) hx hb dX11_common_18 hl (by decide) rfl (fun ls hl => ?_)
    refine lv_lload hx hb dX11_common_20 (lv_at hl 2 rfl) ?_
    refine lv_lstore (lv' := [(4, .long v6), (8, .long x3), (6, .long v6)]) hx hb dX11_common_22 hl (by decide) rfl (fun ls hl => ?_)
    refine lv_lload hx hb dX11_common_24 (lv_at hl 1 rfl) ?_
    refine lv_lstore (lv' := [(6, .long x3), (4, .long v6), (8, .long x3)]) hx hb dX11_common_26 hl (by decide) rfl (fun ls hl => ?_)
    refine lv_goto (tgt := 6) hx hb dX11_common_28 (by decide) ?_
    exact hs6 _ _ _ _ _ hM (lv_sub hl [1, 0] rfl) he

set_option maxHeartbeats 4000000 in
set_option maxRecDepth 100000 in
theorem w11_common_b6 (E : g_C p s m args c cX11_common RX11 D aC (g_Zs (g_A B 44))) (hml : c.maxLocals = 10) (hret : meth.sig.returnType = (some .long)) (hlk : meth.locks = false) {F : Nat} {q0 : Int64} {a0 : Int64} {a2 : Int64} {mem : g_M} : ∀ (v4 : Int64) (v6 : Int64) (H : Heap) (locs : List Loc) (ls : Array Slot), g_At D aC B yM 44 mem s.heap H locs → lv_has ls 10 [(4, .long v4), (6, .long v6)] → f11_common_b6 F a0 a2 mem v4 v6 = some q0 → W p l e (g_rm 1) s m args below meth c H locs 0 0 (g_MQ below D aC B yM 44 args s (some (.long q0)) mem) (F0 m 6 ls []) := by
  have key : ∀ (nn : Nat) (x : Int64 × Int64) (H : Heap) (locs : List Loc) (ls : Array Slot), g_At D aC B yM 44 mem s.heap H locs → lv_has ls 10 [(4, .long x.1), (6, .long x.2)] → g_fix (fun sf x => f11_common_b6_body F a0 a2 (fun v4 v6 => sf (v4, v6)) mem x.1 x.2) nn x = some q0 → W p l e (g_rm 1) s m args below meth c H locs 0 0 (g_MQ below D aC B yM 44 args s (some (.long q0)) mem) (F0 m 6 ls []) := by
    intro nn
    induction nn with
    | zero => intro x H locs ls hM hl he; simp [g_fix] at he
    | succ nn ih =>
      intro x H locs ls hM hl he
      exact w11_common_b6_body (F := F) (a0 := a0) (a2 := a2) E hml hret hlk (fun v4 v6 H locs ls hM hl he => ih (v4, v6) H locs ls hM hl he) x.1 x.2 H locs ls hM hl he
  intro v4 v6 H locs ls hM hl he
  exact key F (v4, v6) H locs ls hM hl he

set_option maxHeartbeats 4000000 in
set_option maxRecDepth 100000 in
theorem c11_common (l : Launch) (D : va_G) (aC : Nat → ClassId) (B : Nat) {F : Nat} {a0 : Int64} {a2 : Int64} {mem : g_M} {q0 : Int64} (he : f11_common F a0 a2 mem = some q0) : g_Met l yX11_common cX11_common 10 (some .long) 1 D aC B yM 44 mem [.long a0, .long a2] (some (.long q0)) mem := by
  refine g_ofW (by decide) (Nat.le_of_ble_eq_true rfl) ?_
  intro p e s m args below meth c ls E hml hret hlk hM hl
  have E : g_C p s m args c cX11_common RX11 D aC (g_Zs (g_A B 44)) := E
  have hx := E.1
  have hb := E.2.1
  have hown := E.2.2.1
  have hts := E.2.2.2.1
  have hl : lv_has ls 10 [(0, .long a0), (2, .long a2)] := hl
  unfold f11_common at he
  refine lv_lload_n hx hb dX11_common_0 rfl (lv_at hl 0 rfl) ?_
  refine lv_lstore (lv' := [(4, .long a0), (0, .long a0), (2, .long a2)]) hx hb dX11_common_1 hl (by decide) rfl (fun ls hl => ?_)
  refine lv_lload_n hx hb dX11_common_3 rfl (lv_at hl 2 rfl) ?_
  refine lv_lstore (lv' := [(6, .long a2), (4, .long a0), (0, .long a0), (2, .long a2)]) hx hb dX11_common_4 hl (by decide) rfl (fun ls hl => ?_)
  exact w11_common_b6 (F := F) (a0 := a0) (a2 := a2) E hml hret hlk _ _ _ _ _ hM (lv_sub hl [1, 0] rfl) he

set_option maxHeartbeats 4000000 in
set_option maxRecDepth 100000 in
theorem w11_calm_b36_body (E : g_C p s m args c cX11_calm RX11 D aC (g_Zs (g_A B 44))) (hml : c.maxLocals = 9) (hret : meth.sig.returnType = (some .long)) (hlk : meth.locks = false) {F : Nat} {q0 : Int64 × g_M} {a1 : Int32} {a2 : Int32} {s36 : Int64 → Int64 → Int32 → g_M → Option (Int64 × g_M)} (hs36 : ∀ (v3 : Int64) (v5 : Int64) (v7 : Int32) (mem : g_M) (H : Heap) (locs : List Loc) (ls : Array Slot), g_At D aC B yM 44 mem s.heap H locs → lv_has ls 9 [(0, .ref (B + 0)), (1, .int a1), (2, .int a2), (3, .long v3), (5, .long v5), (7, .int v7)] → s36 v3 v5 v7 mem = some q0 → W p l e (g_rm 2) s m args below meth c H locs 0 0 (g_MQ below D aC B yM 44 args s (some (.long q0.1)) q0.2) (F0 m 36 ls [])) : ∀ (v3 : Int64) (v5 : Int64) (v7 : Int32) (mem : g_M) (H : Heap) (locs : List Loc) (ls : Array Slot), g_At D aC B yM 44 mem s.heap H locs → lv_has ls 9 [(0, .ref (B + 0)), (1, .int a1), (2, .int a2), (3, .long v3), (5, .long v5), (7, .int v7)] → f11_calm_b36_body F a1 a2 s36 v3 v5 v7 mem = some q0 → W p l e (g_rm 2) s m args below meth c H locs 0 0 (g_MQ below D aC B yM 44 args s (some (.long q0.1)) q0.2) (F0 m 36 ls []) := by
  intro v3 v5 v7 mem H locs ls hM hl he
  unfold f11_calm_b36_body at he
  have hx := E.1
  have hb := E.2.1
  have hown := E.2.2.1
  have hts := E.2.2.2.1
  refine lv_iload hx hb dX11_calm_36 (lv_at hl 5 rfl) ?_
  refine lv_iload_n hx hb dX11_calm_38 rfl (lv_at hl 1 rfl) ?_
  refine lv_icmp_ge (tgt := 71) hx hb dX11_calm_39 (by decide) (fun h1 => ?_) (fun h1 => ?_)
  · rw [if_neg (Int32.not_lt.mpr h1)] at he
    refine lv_lload_n hx hb dX11_calm_71 rfl (lv_at hl 3 rfl) ?_
    refine lv_lload hx hb dX11_calm_72 (lv_at hl 4 rfl) ?_
    obtain ⟨r6, hcr6, he⟩ := g_bind he
    refine g_callS [.long v3, .long v5] (rest := []) E hml hl.1 hM cs_X11_511 (c11_common l D aC B hcr6) (by decide) rfl rfl (Nat.le_of_ble_eq_true rfl) dX11_calm_74 (fun H locs hM => ?_)
    refine W.eq (g2 := F0 m 77 ls [.long r6]) rfl ?_
    refine lv_lstore (lv' := [(7, .long r6), (0, .ref (B + 0)), (1, .int a1), (2, .int a2), (3, .long v3), (5, .long v5)]) hx hb dX11_calm_77 hl (by decide) rfl (fun ls hl => ?_)
    refine lv_iload_n hx hb dX11_calm_79 rfl (lv_at hl 3 rfl) ?_
    refine lv_if_ne (tgt := 90) hx hb dX11_calm_80 (by decide) (fun h7 => ?_) (fun h7 => ?_)
    · rw [if_neg h7] at he
      refine lv_lload hx hb dX11_calm_90 (lv_at hl 5 rfl) ?_
      refine lv_lload hx hb dX11_calm_92 (lv_at hl 0 rfl) ?_
      obtain ⟨h9, he⟩ := g_nzL_some he
      refine lv_ldiv hx hb dX11_calm_94 h9 ?_
      cases he
      exact g_lret E hM hret hlk dX11_calm_95
    · rw [if_pos h7] at he
      refine lv_lload_n hx hb dX11_calm_83 rfl (lv_at hl 4 rfl) ?_
      refine lv_lload hx hb dX11_calm_84 (lv_at hl 0 rfl) ?_
      obtain ⟨h8, he⟩ := g_nzL_some he
      refine lv_ldiv hx hb dX11_calm_86 h8 ?_
      refine lv_goto (tgt := 95) hx hb dX11_calm_87 (by decide) ?_
      cases he
      exact g_lret E hM hret hlk dX11_calm_95
  · rw [if_pos (Int32.not_le.mp h1)] at he
    refine lv_lload_n hx hb dX11_calm_42 rfl (lv_at hl 3 rfl) ?_
    refine lv_ldc2 (v := (100 : Int64)) hx hb hown (hts _ kc_X11_509) dX11_calm_43 ?_
    refine lv_aload_n hx hb dX11_calm_46 rfl (lv_at hl 0 rfl) ?_
    refine g_getP E hM (o := 0) (Nat.le_of_ble_eq_true rfl) rfl fl_X11_13 (q := 2) rfl dX11_calm_47 ?_
    refine lv_bipush (v := (6 : Int32)) hx hb dX11_calm_50 rfl ?_
    obtain ⟨h2, he⟩ := g_ck_some he
    refine g_iald E hM (o := 2) (Nat.le_of_ble_eq_true rfl) rfl h2 dX11_calm_52 ?_
    refine lv_i2l hx hb dX11_calm_53 rfl ?_
    refine lv_lsub hx hb dX11_calm_54 ?_
    refine lv_lmul hx hb dX11_calm_55 ?_
    obtain ⟨x3, hx3, he⟩ := g_let_ex he
    refine g_topJ hx3 ?_
    refine lv_lstore_n (lv' := [(3, .long x3), (0, .ref (B + 0)), (1, .int a1), (2, .int a2), (5, .long v5), (7, .int v7)]) hx hb dX11_calm_56 rfl hl (by decide) rfl (fun ls hl => ?_)
    refine lv_lload hx hb dX11_calm_57 (lv_at hl 4 rfl) ?_
    refine lv_ldc2 (v := (100 : Int64)) hx hb hown (hts _ kc_X11_509) dX11_calm_59 ?_
    refine lv_lmul hx hb dX11_calm_62 ?_
    obtain ⟨x4, hx4, he⟩ := g_let_ex he
    refine g_topJ hx4 ?_
    refine lv_lstore (lv' := [(5, .long x4), (3, .long x3), (0, .ref (B + 0)), (1, .int a1), (2, .int a2), (7, .int v7)]) hx hb dX11_calm_63 hl (by decide) rfl (fun ls hl => ?_)
    obtain ⟨x5, hx5, he⟩ := g_let_ex he
    refine lv_iinc (v := x5) (lv' := [(7, .int x5), (5, .long x4), (3, .long x3), (0, .ref (B + 0)), (1, .int a1), (2, .int a2)]) hx hb dX11_calm_65 hl (k := 5) rfl (by rw [hx5]; rfl) (by decide) rfl (fun ls hl => ?_)
    refine lv_goto (tgt := 36) hx hb dX11_calm_68 (by decide) ?_
    exact hs36 _ _ _ _ _ _ _ hM (lv_sub hl [3, 4, 5, 2, 1, 0] rfl) he

set_option maxHeartbeats 4000000 in
set_option maxRecDepth 100000 in
theorem w11_calm_b36 (E : g_C p s m args c cX11_calm RX11 D aC (g_Zs (g_A B 44))) (hml : c.maxLocals = 9) (hret : meth.sig.returnType = (some .long)) (hlk : meth.locks = false) {F : Nat} {q0 : Int64 × g_M} {a1 : Int32} {a2 : Int32} : ∀ (v3 : Int64) (v5 : Int64) (v7 : Int32) (mem : g_M) (H : Heap) (locs : List Loc) (ls : Array Slot), g_At D aC B yM 44 mem s.heap H locs → lv_has ls 9 [(0, .ref (B + 0)), (1, .int a1), (2, .int a2), (3, .long v3), (5, .long v5), (7, .int v7)] → f11_calm_b36 F a1 a2 v3 v5 v7 mem = some q0 → W p l e (g_rm 2) s m args below meth c H locs 0 0 (g_MQ below D aC B yM 44 args s (some (.long q0.1)) q0.2) (F0 m 36 ls []) := by
  have key : ∀ (nn : Nat) (x : Int64 × Int64 × Int32 × g_M) (H : Heap) (locs : List Loc) (ls : Array Slot), g_At D aC B yM 44 x.2.2.2 s.heap H locs → lv_has ls 9 [(0, .ref (B + 0)), (1, .int a1), (2, .int a2), (3, .long x.1), (5, .long x.2.1), (7, .int x.2.2.1)] → g_fix (fun sf x => f11_calm_b36_body F a1 a2 (fun v3 v5 v7 mem => sf (v3, v5, v7, mem)) x.1 x.2.1 x.2.2.1 x.2.2.2) nn x = some q0 → W p l e (g_rm 2) s m args below meth c H locs 0 0 (g_MQ below D aC B yM 44 args s (some (.long q0.1)) q0.2) (F0 m 36 ls []) := by
    intro nn
    induction nn with
    | zero => intro x H locs ls hM hl he; simp [g_fix] at he
    | succ nn ih =>
      intro x H locs ls hM hl he
      exact w11_calm_b36_body (F := F) (a1 := a1) (a2 := a2) E hml hret hlk (fun v3 v5 v7 mem H locs ls hM hl he => ih (v3, v5, v7, mem) H locs ls hM hl he) x.1 x.2.1 x.2.2.1 x.2.2.2 H locs ls hM hl he
  intro v3 v5 v7 mem H locs ls hM hl he
  exact key F (v3, v5, v7, mem) H locs ls hM hl he

set_option maxHeartbeats 4000000 in
set_option maxRecDepth 100000 in
theorem c11_calm (l : Launch) (D : va_G) (aC : Nat → ClassId) (B : Nat) {F : Nat} {a1 : Int32} {a2 : Int32} {mem : g_M} {q0 : Int64 × g_M} (he : f11_calm F a1 a2 mem = some q0) : g_Met l yX11_calm cX11_calm 9 (some .long) 2 D aC B yM 44 mem [.ref (B + 0), .int a1, .int a2] (some (.long q0.1)) q0.2 := by
  refine g_ofW (by decide) (Nat.le_of_ble_eq_true rfl) ?_
  intro p e s m args below meth c ls E hml hret hlk hM hl
  have E : g_C p s m args c cX11_calm RX11 D aC (g_Zs (g_A B 44)) := E
  have hx := E.1
  have hb := E.2.1
  have hown := E.2.2.1
  have hts := E.2.2.2.1
  have hl : lv_has ls 9 [(0, .ref (B + 0)), (1, .int a1), (2, .int a2)] := hl
  unfold f11_calm at he
  refine lv_aload_n hx hb dX11_calm_0 rfl (lv_at hl 0 rfl) ?_
  refine lv_iconst (v := (0 : Int32)) hx hb dX11_calm_1 rfl ?_
  refine g_putI E hM (o := 0) (Nat.le_of_ble_eq_true rfl) rfl fp_X11_157 dX11_calm_2 (fun H locs hM => ?_)
  obtain ⟨m10, hm10, he⟩ := g_let_ex he
  rw [← hm10] at hM
  refine lv_iload_n hx hb dX11_calm_5 rfl (lv_at hl 1 rfl) ?_
  refine lv_if_lt (tgt := 24) hx hb dX11_calm_6 (by decide) (fun h11 => ?_) (fun h11 => ?_)
  · rw [if_neg (Int32.not_le.mpr h11)] at he
    refine lv_ldc2 (v := (-1 : Int64)) hx hb hown (hts _ kc_X11_507) dX11_calm_24 ?_
    cases he
    exact g_lret E hM hret hlk dX11_calm_27
  · rw [if_pos (Int32.not_lt.mp h11)] at he
    refine lv_iload_n hx hb dX11_calm_9 rfl (lv_at hl 1 rfl) ?_
    refine lv_bipush (v := (6 : Int32)) hx hb dX11_calm_10 rfl ?_
    refine lv_icmp_gt (tgt := 24) hx hb dX11_calm_12 (by decide) (fun h12 => ?_) (fun h12 => ?_)
    · rw [if_neg (Int32.not_le.mpr h12)] at he
      refine lv_ldc2 (v := (-1 : Int64)) hx hb hown (hts _ kc_X11_507) dX11_calm_24 ?_
      cases he
      exact g_lret E hM hret hlk dX11_calm_27
    · rw [if_pos (Int32.not_lt.mp h12)] at he
      refine lv_iload_n hx hb dX11_calm_15 rfl (lv_at hl 2 rfl) ?_
      refine lv_if_lt (tgt := 24) hx hb dX11_calm_16 (by decide) (fun h13 => ?_) (fun h13 => ?_)
      · rw [if_neg (Int32.not_le.mpr h13)] at he
        refine lv_ldc2 (v := (-1 : Int64)) hx hb hown (hts _ kc_X11_507) dX11_calm_24 ?_
        cases he
        exact g_lret E hM hret hlk dX11_calm_27
      · rw [if_pos (Int32.not_lt.mp h13)] at he
        refine lv_iload_n hx hb dX11_calm_19 rfl (lv_at hl 2 rfl) ?_
        refine lv_iconst (v := (1 : Int32)) hx hb dX11_calm_20 rfl ?_
        refine lv_icmp_le (tgt := 28) hx hb dX11_calm_21 (by decide) (fun h14 => ?_) (fun h14 => ?_)
        · rw [if_neg (Int32.not_lt.mpr h14)] at he
          refine lv_lconst (v := (1 : Int64)) hx hb dX11_calm_28 rfl ?_
          refine lv_lstore_n (lv' := [(3, .long (1 : Int64)), (0, .ref (B + 0)), (1, .int a1), (2, .int a2)]) hx hb dX11_calm_29 rfl hl (by decide) rfl (fun ls hl => ?_)
          refine lv_lconst (v := (1 : Int64)) hx hb dX11_calm_30 rfl ?_
          refine lv_lstore (lv' := [(5, .long (1 : Int64)), (3, .long (1 : Int64)), (0, .ref (B + 0)), (1, .int a1), (2, .int a2)]) hx hb dX11_calm_31 hl (by decide) rfl (fun ls hl => ?_)
          refine lv_iconst (v := (0 : Int32)) hx hb dX11_calm_33 rfl ?_
          refine lv_istore (lv' := [(7, .int (0 : Int32)), (5, .long (1 : Int64)), (3, .long (1 : Int64)), (0, .ref (B + 0)), (1, .int a1), (2, .int a2)]) hx hb dX11_calm_34 hl (by decide) rfl (fun ls hl => ?_)
          exact w11_calm_b36 (F := F) (a1 := a1) (a2 := a2) E hml hret hlk _ _ _ _ _ _ _ hM (lv_sub hl [3, 4, 5, 2, 1, 0] rfl) he
        · rw [if_pos (Int32.not_le.mp h14)] at he
          refine lv_ldc2 (v := (-1 : Int64)) hx hb hown (hts _ kc_X11_507) dX11_calm_24 ?_
          cases he
          exact g_lret E hM hret hlk dX11_calm_27

set_option maxHeartbeats 4000000 in
set_option maxRecDepth 100000 in
theorem w11_holderOf_b34 (E : g_C p s m args c cX11_holderOf RX11 D aC (g_Zs (g_A B 44))) (hml : c.maxLocals = 5) (hret : meth.sig.returnType = (some .int)) (hlk : meth.locks = false) {F : Nat} {q0 : Int32} {a1 : Int32} {a2 : Int32} {mem : g_M} {s5 : Int32 → Int32 → Option (Int32)} (hs5 : ∀ (v3 : Int32) (v4 : Int32) (H : Heap) (locs : List Loc) (ls : Array Slot), g_At D aC B yM 44 mem s.heap H locs → lv_has ls 5 [(0, .ref (B + 0)), (1, .int a1), (2, .int a2), (3, .int v3), (4, .int v4)] → s5 v3 v4 = some q0 → W p l e (g_rm 1) s m args below meth c H locs 0 0 (g_MQ below D aC B yM 44 args s (some (.int q0)) mem) (F0 m 5 ls [])) : ∀ (v3 : Int32) (v4 : Int32) (H : Heap) (locs : List Loc) (ls : Array Slot), g_At D aC B yM 44 mem s.heap H locs → lv_has ls 5 [(0, .ref (B + 0)), (1, .int a1), (2, .int a2), (3, .int v3), (4, .int v4)] → f11_holderOf_b34 F a1 a2 s5 mem v3 v4 = some q0 → W p l e (g_rm 1) s m args below meth c H locs 0 0 (g_MQ below D aC B yM 44 args s (some (.int q0)) mem) (F0 m 34 ls []) := by
  intro v3 v4 H locs ls hM hl he
  unfold f11_holderOf_b34 at he
  have hx := E.1
  have hb := E.2.1
  have hown := E.2.2.1
  have hts := E.2.2.2.1
  obtain ⟨x1, hx1, he⟩ := g_let_ex he
  refine lv_iinc (v := x1) (lv' := [(4, .int x1), (0, .ref (B + 0)), (1, .int a1), (2, .int a2), (3, .int v3)]) hx hb dX11_holderOf_34 hl (k := 4) rfl (by rw [hx1]; rfl) (by decide) rfl (fun ls hl => ?_)
  refine lv_goto (tgt := 5) hx hb dX11_holderOf_37 (by decide) ?_
  exact hs5 _ _ _ _ _ hM (lv_sub hl [1, 2, 3, 4, 0] rfl) he

set_option maxHeartbeats 4000000 in
set_option maxRecDepth 100000 in
theorem w11_holderOf_b5_body (E : g_C p s m args c cX11_holderOf RX11 D aC (g_Zs (g_A B 44))) (hml : c.maxLocals = 5) (hret : meth.sig.returnType = (some .int)) (hlk : meth.locks = false) {F : Nat} {q0 : Int32} {a1 : Int32} {a2 : Int32} {mem : g_M} {s5 : Int32 → Int32 → Option (Int32)} (hs5 : ∀ (v3 : Int32) (v4 : Int32) (H : Heap) (locs : List Loc) (ls : Array Slot), g_At D aC B yM 44 mem s.heap H locs → lv_has ls 5 [(0, .ref (B + 0)), (1, .int a1), (2, .int a2), (3, .int v3), (4, .int v4)] → s5 v3 v4 = some q0 → W p l e (g_rm 1) s m args below meth c H locs 0 0 (g_MQ below D aC B yM 44 args s (some (.int q0)) mem) (F0 m 5 ls [])) : ∀ (v3 : Int32) (v4 : Int32) (H : Heap) (locs : List Loc) (ls : Array Slot), g_At D aC B yM 44 mem s.heap H locs → lv_has ls 5 [(0, .ref (B + 0)), (1, .int a1), (2, .int a2), (3, .int v3), (4, .int v4)] → f11_holderOf_b5_body F a1 a2 s5 mem v3 v4 = some q0 → W p l e (g_rm 1) s m args below meth c H locs 0 0 (g_MQ below D aC B yM 44 args s (some (.int q0)) mem) (F0 m 5 ls []) := by
  intro v3 v4 H locs ls hM hl he
  unfold f11_holderOf_b5_body at he
  have hx := E.1
  have hb := E.2.1
  have hown := E.2.2.1
  have hts := E.2.2.2.1
  refine lv_iload hx hb dX11_holderOf_5 (lv_at hl 4 rfl) ?_
  refine lv_aload_n hx hb dX11_holderOf_7 rfl (lv_at hl 0 rfl) ?_
  refine g_getP E hM (o := 0) (Nat.le_of_ble_eq_true rfl) rfl fl_X11_13 (q := 2) rfl dX11_holderOf_8 ?_
  refine lv_iconst (v := (0 : Int32)) hx hb dX11_holderOf_11 rfl ?_
  obtain ⟨h2, he⟩ := g_ck_some he
  refine g_iald E hM (o := 2) (Nat.le_of_ble_eq_true rfl) rfl h2 dX11_holderOf_12 ?_
  refine lv_icmp_ge (tgt := 40) hx hb dX11_holderOf_13 (by decide) (fun h3 => ?_) (fun h3 => ?_)
  · rw [if_neg (Int32.not_lt.mpr h3)] at he
    refine lv_iload_n hx hb dX11_holderOf_40 rfl (lv_at hl 3 rfl) ?_
    cases he
    exact g_iret E hM hret hlk dX11_holderOf_41
  · rw [if_pos (Int32.not_le.mp h3)] at he
    refine lv_aload_n hx hb dX11_holderOf_16 rfl (lv_at hl 0 rfl) ?_
    refine g_getP E hM (o := 0) (Nat.le_of_ble_eq_true rfl) rfl fl_X11_99 (q := 29) rfl dX11_holderOf_17 ?_
    refine lv_iconst (v := (5 : Int32)) hx hb dX11_holderOf_20 rfl ?_
    refine lv_iload hx hb dX11_holderOf_21 (lv_at hl 4 rfl) ?_
    refine lv_imul hx hb dX11_holderOf_23 ?_
    refine lv_iload_n hx hb dX11_holderOf_24 rfl (lv_at hl 2 rfl) ?_
    refine lv_iadd hx hb dX11_holderOf_25 ?_
    obtain ⟨h4, he⟩ := g_ck_some he
    refine g_iald E hM (o := 29) (Nat.le_of_ble_eq_true rfl) rfl h4 dX11_holderOf_26 ?_
    refine lv_iload_n hx hb dX11_holderOf_27 rfl (lv_at hl 1 rfl) ?_
    refine lv_icmp_ne (tgt := 34) hx hb dX11_holderOf_28 (by decide) (fun h5 => ?_) (fun h5 => ?_)
    · rw [if_neg h5] at he
      exact w11_holderOf_b34 (F := F) (a1 := a1) (a2 := a2) E hml hret hlk hs5 _ _ _ _ _ hM (lv_sub hl [0, 1, 2, 3, 4] rfl) he
    · rw [if_pos h5] at he
      refine lv_iload hx hb dX11_holderOf_31 (lv_at hl 4 rfl) ?_
      refine lv_istore_n (lv' := [(3, .int v4), (0, .ref (B + 0)), (1, .int a1), (2, .int a2), (4, .int v4)]) hx hb dX11_holderOf_33 rfl hl (by decide) rfl (fun ls hl => ?_)
      exact w11_holderOf_b34 (F := F) (a1 := a1) (a2 := a2) E hml hret hlk hs5 _ _ _ _ _ hM (lv_sub hl [1, 2, 3, 0, 4] rfl) he

set_option maxHeartbeats 4000000 in
set_option maxRecDepth 100000 in
theorem w11_holderOf_b5 (E : g_C p s m args c cX11_holderOf RX11 D aC (g_Zs (g_A B 44))) (hml : c.maxLocals = 5) (hret : meth.sig.returnType = (some .int)) (hlk : meth.locks = false) {F : Nat} {q0 : Int32} {a1 : Int32} {a2 : Int32} {mem : g_M} : ∀ (v3 : Int32) (v4 : Int32) (H : Heap) (locs : List Loc) (ls : Array Slot), g_At D aC B yM 44 mem s.heap H locs → lv_has ls 5 [(0, .ref (B + 0)), (1, .int a1), (2, .int a2), (3, .int v3), (4, .int v4)] → f11_holderOf_b5 F a1 a2 mem v3 v4 = some q0 → W p l e (g_rm 1) s m args below meth c H locs 0 0 (g_MQ below D aC B yM 44 args s (some (.int q0)) mem) (F0 m 5 ls []) := by
  have key : ∀ (nn : Nat) (x : Int32 × Int32) (H : Heap) (locs : List Loc) (ls : Array Slot), g_At D aC B yM 44 mem s.heap H locs → lv_has ls 5 [(0, .ref (B + 0)), (1, .int a1), (2, .int a2), (3, .int x.1), (4, .int x.2)] → g_fix (fun sf x => f11_holderOf_b5_body F a1 a2 (fun v3 v4 => sf (v3, v4)) mem x.1 x.2) nn x = some q0 → W p l e (g_rm 1) s m args below meth c H locs 0 0 (g_MQ below D aC B yM 44 args s (some (.int q0)) mem) (F0 m 5 ls []) := by
    intro nn
    induction nn with
    | zero => intro x H locs ls hM hl he; simp [g_fix] at he
    | succ nn ih =>
      intro x H locs ls hM hl he
      exact w11_holderOf_b5_body (F := F) (a1 := a1) (a2 := a2) E hml hret hlk (fun v3 v4 H locs ls hM hl he => ih (v3, v4) H locs ls hM hl he) x.1 x.2 H locs ls hM hl he
  intro v3 v4 H locs ls hM hl he
  exact key F (v3, v4) H locs ls hM hl he

set_option maxHeartbeats 4000000 in
set_option maxRecDepth 100000 in
theorem c11_holderOf (l : Launch) (D : va_G) (aC : Nat → ClassId) (B : Nat) {F : Nat} {a1 : Int32} {a2 : Int32} {mem : g_M} {q0 : Int32} (he : f11_holderOf F a1 a2 mem = some q0) : g_Met l yX11_holderOf cX11_holderOf 5 (some .int) 1 D aC B yM 44 mem [.ref (B + 0), .int a1, .int a2] (some (.int q0)) mem := by
  refine g_ofW (by decide) (Nat.le_of_ble_eq_true rfl) ?_
  intro p e s m args below meth c ls E hml hret hlk hM hl
  have E : g_C p s m args c cX11_holderOf RX11 D aC (g_Zs (g_A B 44)) := E
  have hx := E.1
  have hb := E.2.1
  have hown := E.2.2.1
  have hts := E.2.2.2.1
  have hl : lv_has ls 5 [(0, .ref (B + 0)), (1, .int a1), (2, .int a2)] := hl
  unfold f11_holderOf at he
  refine lv_iconst (v := (-1 : Int32)) hx hb dX11_holderOf_0 rfl ?_
  refine lv_istore_n (lv' := [(3, .int (-1 : Int32)), (0, .ref (B + 0)), (1, .int a1), (2, .int a2)]) hx hb dX11_holderOf_1 rfl hl (by decide) rfl (fun ls hl => ?_)
  refine lv_iconst (v := (0 : Int32)) hx hb dX11_holderOf_2 rfl ?_
  refine lv_istore (lv' := [(4, .int (0 : Int32)), (3, .int (-1 : Int32)), (0, .ref (B + 0)), (1, .int a1), (2, .int a2)]) hx hb dX11_holderOf_3 hl (by decide) rfl (fun ls hl => ?_)
  exact w11_holderOf_b5 (F := F) (a1 := a1) (a2 := a2) E hml hret hlk _ _ _ _ _ hM (lv_sub hl [2, 3, 4, 1, 0] rfl) he

set_option maxHeartbeats 4000000 in
set_option maxRecDepth 100000 in
theorem c11_whose (l : Launch) (D : va_G) (aC : Nat → ClassId) (B : Nat) {F : Nat} {a1 : Int32} {a2 : Int32} {mem : g_M} {q0 : Int32 × g_M} (he : f11_whose F a1 a2 mem = some q0) : g_Met l yX11_whose cX11_whose 3 (some .int) 2 D aC B yM 44 mem [.ref (B + 0), .int a1, .int a2] (some (.int q0.1)) q0.2 := by
  refine g_ofW (by decide) (Nat.le_of_ble_eq_true rfl) ?_
  intro p e s m args below meth c ls E hml hret hlk hM hl
  have E : g_C p s m args c cX11_whose RX11 D aC (g_Zs (g_A B 44)) := E
  have hx := E.1
  have hb := E.2.1
  have hown := E.2.2.1
  have hts := E.2.2.2.1
  have hl : lv_has ls 3 [(0, .ref (B + 0)), (1, .int a1), (2, .int a2)] := hl
  unfold f11_whose at he
  refine lv_aload_n hx hb dX11_whose_0 rfl (lv_at hl 0 rfl) ?_
  refine lv_iconst (v := (0 : Int32)) hx hb dX11_whose_1 rfl ?_
  refine g_putI E hM (o := 0) (Nat.le_of_ble_eq_true rfl) rfl fp_X11_157 dX11_whose_2 (fun H locs hM => ?_)
  obtain ⟨m1, hm1, he⟩ := g_let_ex he
  rw [← hm1] at hM
  refine lv_aload_n hx hb dX11_whose_5 rfl (lv_at hl 0 rfl) ?_
  refine lv_iload_n hx hb dX11_whose_6 rfl (lv_at hl 1 rfl) ?_
  obtain ⟨r2, hcr2, he⟩ := g_bind he
  refine g_callV [.int a1] (rest := []) E hml hl.1 hM cv_X11_426 (c11_isMan l D aC B hcr2) (o := 0) (Nat.le_of_ble_eq_true rfl) rfl (by decide) rfl rfl (Nat.le_of_ble_eq_true rfl) dX11_whose_7 (fun H locs hM => ?_)
  refine W.eq (g2 := F0 m 10 ls [.int r2]) rfl ?_
  refine lv_if_eq (tgt := 30) hx hb dX11_whose_10 (by decide) (fun h3 => ?_) (fun h3 => ?_)
  · rw [if_pos h3] at he
    refine lv_iconst (v := (-1 : Int32)) hx hb dX11_whose_30 rfl ?_
    cases he
    exact g_iret E hM hret hlk dX11_whose_31
  · rw [if_neg h3] at he
    refine lv_aload_n hx hb dX11_whose_13 rfl (lv_at hl 0 rfl) ?_
    refine lv_iload_n hx hb dX11_whose_14 rfl (lv_at hl 2 rfl) ?_
    obtain ⟨r4, hcr4, he⟩ := g_bind he
    refine g_callV [.int a2] (rest := []) E hml hl.1 hM cv_X11_432 (c11_isSort l D aC B hcr4) (o := 0) (Nat.le_of_ble_eq_true rfl) rfl (by decide) rfl rfl (Nat.le_of_ble_eq_true rfl) dX11_whose_15 (fun H locs hM => ?_)
    refine W.eq (g2 := F0 m 18 ls [.int r4]) rfl ?_
    refine lv_if_eq (tgt := 30) hx hb dX11_whose_18 (by decide) (fun h5 => ?_) (fun h5 => ?_)
    · rw [if_pos h5] at he
      refine lv_iconst (v := (-1 : Int32)) hx hb dX11_whose_30 rfl ?_
      cases he
      exact g_iret E hM hret hlk dX11_whose_31
    · rw [if_neg h5] at he
      refine lv_aload_n hx hb dX11_whose_21 rfl (lv_at hl 0 rfl) ?_
      refine lv_iload_n hx hb dX11_whose_22 rfl (lv_at hl 1 rfl) ?_
      refine lv_iload_n hx hb dX11_whose_23 rfl (lv_at hl 2 rfl) ?_
      obtain ⟨r6, hcr6, he⟩ := g_bind he
      refine g_callV [.int a1, .int a2] (rest := []) E hml hl.1 hM cv_X11_514 (c11_holderOf l D aC B hcr6) (o := 0) (Nat.le_of_ble_eq_true rfl) rfl (by decide) rfl rfl (Nat.le_of_ble_eq_true rfl) dX11_whose_24 (fun H locs hM => ?_)
      refine W.eq (g2 := F0 m 27 ls [.int r6]) rfl ?_
      refine lv_goto (tgt := 31) hx hb dX11_whose_27 (by decide) ?_
      cases he
      exact g_iret E hM hret hlk dX11_whose_31

set_option maxHeartbeats 4000000 in
set_option maxRecDepth 100000 in
theorem w11_isLost_b2_body (E : g_C p s m args c cX11_isLost RX11 D aC (g_Zs (g_A B 44))) (hml : c.maxLocals = 3) (hret : meth.sig.returnType = (some .boolean)) (hlk : meth.locks = false) {F : Nat} {q0 : Int32} {a1 : Int32} {mem : g_M} {s2 : Int32 → Option (Int32)} (hs2 : ∀ (v2 : Int32) (H : Heap) (locs : List Loc) (ls : Array Slot), g_At D aC B yM 44 mem s.heap H locs → lv_has ls 3 [(0, .ref (B + 0)), (1, .int a1), (2, .int v2)] → s2 v2 = some q0 → W p l e (g_rm 1) s m args below meth c H locs 0 0 (g_MQ below D aC B yM 44 args s (some (.int q0)) mem) (F0 m 2 ls [])) : ∀ (v2 : Int32) (H : Heap) (locs : List Loc) (ls : Array Slot), g_At D aC B yM 44 mem s.heap H locs → lv_has ls 3 [(0, .ref (B + 0)), (1, .int a1), (2, .int v2)] → f11_isLost_b2_body F a1 s2 mem v2 = some q0 → W p l e (g_rm 1) s m args below meth c H locs 0 0 (g_MQ below D aC B yM 44 args s (some (.int q0)) mem) (F0 m 2 ls []) := by
  intro v2 H locs ls hM hl he
  unfold f11_isLost_b2_body at he
  have hx := E.1
  have hb := E.2.1
  have hown := E.2.2.1
  have hts := E.2.2.2.1
  refine lv_iload_n hx hb dX11_isLost_2 rfl (lv_at hl 2 rfl) ?_
  refine lv_aload_n hx hb dX11_isLost_3 rfl (lv_at hl 0 rfl) ?_
  refine g_getP E hM (o := 0) (Nat.le_of_ble_eq_true rfl) rfl fl_X11_13 (q := 2) rfl dX11_isLost_4 ?_
  refine lv_iconst (v := (1 : Int32)) hx hb dX11_isLost_7 rfl ?_
  obtain ⟨h1, he⟩ := g_ck_some he
  refine g_iald E hM (o := 2) (Nat.le_of_ble_eq_true rfl) rfl h1 dX11_isLost_8 ?_
  refine lv_icmp_ge (tgt := 34) hx hb dX11_isLost_9 (by decide) (fun h2 => ?_) (fun h2 => ?_)
  · rw [if_neg (Int32.not_lt.mpr h2)] at he
    refine lv_aload_n hx hb dX11_isLost_34 rfl (lv_at hl 0 rfl) ?_
    refine g_getP E hM (o := 0) (Nat.le_of_ble_eq_true rfl) rfl fl_X11_13 (q := 2) rfl dX11_isLost_35 ?_
    refine lv_iconst (v := (1 : Int32)) hx hb dX11_isLost_38 rfl ?_
    obtain ⟨h6, he⟩ := g_ck_some he
    refine g_iald E hM (o := 2) (Nat.le_of_ble_eq_true rfl) rfl h6 dX11_isLost_39 ?_
    refine lv_if_le (tgt := 47) hx hb dX11_isLost_40 (by decide) (fun h7 => ?_) (fun h7 => ?_)
    · rw [if_neg (Int32.not_lt.mpr h7)] at he
      refine lv_iconst (v := (0 : Int32)) hx hb dX11_isLost_47 rfl ?_
      cases he
      exact g_zret E hM hret hlk (Or.inl rfl) dX11_isLost_48
    · rw [if_pos (Int32.not_le.mp h7)] at he
      refine lv_iconst (v := (1 : Int32)) hx hb dX11_isLost_43 rfl ?_
      refine lv_goto (tgt := 48) hx hb dX11_isLost_44 (by decide) ?_
      cases he
      exact g_zret E hM hret hlk (Or.inr rfl) dX11_isLost_48
  · rw [if_pos (Int32.not_le.mp h2)] at he
    refine lv_aload_n hx hb dX11_isLost_12 rfl (lv_at hl 0 rfl) ?_
    refine g_getP E hM (o := 0) (Nat.le_of_ble_eq_true rfl) rfl fl_X11_99 (q := 29) rfl dX11_isLost_13 ?_
    refine lv_iconst (v := (5 : Int32)) hx hb dX11_isLost_16 rfl ?_
    refine lv_iload_n hx hb dX11_isLost_17 rfl (lv_at hl 1 rfl) ?_
    refine lv_imul hx hb dX11_isLost_18 ?_
    refine lv_iload_n hx hb dX11_isLost_19 rfl (lv_at hl 2 rfl) ?_
    refine lv_iadd hx hb dX11_isLost_20 ?_
    obtain ⟨h3, he⟩ := g_ck_some he
    refine g_iald E hM (o := 29) (Nat.le_of_ble_eq_true rfl) rfl h3 dX11_isLost_21 ?_
    refine lv_iload_n hx hb dX11_isLost_22 rfl (lv_at hl 1 rfl) ?_
    refine lv_icmp_ne (tgt := 28) hx hb dX11_isLost_23 (by decide) (fun h4 => ?_) (fun h4 => ?_)
    · rw [if_neg h4] at he
      obtain ⟨x5, hx5, he⟩ := g_let_ex he
      refine lv_iinc (v := x5) (lv' := [(2, .int x5), (0, .ref (B + 0)), (1, .int a1)]) hx hb dX11_isLost_28 hl (k := 2) rfl (by rw [hx5]; rfl) (by decide) rfl (fun ls hl => ?_)
      refine lv_goto (tgt := 2) hx hb dX11_isLost_31 (by decide) ?_
      exact hs2 _ _ _ _ hM (lv_sub hl [1, 2, 0] rfl) he
    · rw [if_pos h4] at he
      refine lv_iconst (v := (0 : Int32)) hx hb dX11_isLost_26 rfl ?_
      cases he
      exact g_zret E hM hret hlk (Or.inl rfl) dX11_isLost_27

set_option maxHeartbeats 4000000 in
set_option maxRecDepth 100000 in
theorem w11_isLost_b2 (E : g_C p s m args c cX11_isLost RX11 D aC (g_Zs (g_A B 44))) (hml : c.maxLocals = 3) (hret : meth.sig.returnType = (some .boolean)) (hlk : meth.locks = false) {F : Nat} {q0 : Int32} {a1 : Int32} {mem : g_M} : ∀ (v2 : Int32) (H : Heap) (locs : List Loc) (ls : Array Slot), g_At D aC B yM 44 mem s.heap H locs → lv_has ls 3 [(0, .ref (B + 0)), (1, .int a1), (2, .int v2)] → f11_isLost_b2 F a1 mem v2 = some q0 → W p l e (g_rm 1) s m args below meth c H locs 0 0 (g_MQ below D aC B yM 44 args s (some (.int q0)) mem) (F0 m 2 ls []) := by
  have key : ∀ (nn : Nat) (x : Int32) (H : Heap) (locs : List Loc) (ls : Array Slot), g_At D aC B yM 44 mem s.heap H locs → lv_has ls 3 [(0, .ref (B + 0)), (1, .int a1), (2, .int x)] → g_fix (fun sf x => f11_isLost_b2_body F a1 (fun v2 => sf v2) mem x) nn x = some q0 → W p l e (g_rm 1) s m args below meth c H locs 0 0 (g_MQ below D aC B yM 44 args s (some (.int q0)) mem) (F0 m 2 ls []) := by
    intro nn
    induction nn with
    | zero => intro x H locs ls hM hl he; simp [g_fix] at he
    | succ nn ih =>
      intro x H locs ls hM hl he
      exact w11_isLost_b2_body (F := F) (a1 := a1) E hml hret hlk (fun v2 H locs ls hM hl he => ih v2 H locs ls hM hl he) x H locs ls hM hl he
  intro v2 H locs ls hM hl he
  exact key F v2 H locs ls hM hl he

set_option maxHeartbeats 4000000 in
set_option maxRecDepth 100000 in
theorem c11_isLost (l : Launch) (D : va_G) (aC : Nat → ClassId) (B : Nat) {F : Nat} {a1 : Int32} {mem : g_M} {q0 : Int32} (he : f11_isLost F a1 mem = some q0) : g_Met l yX11_isLost cX11_isLost 3 (some .boolean) 1 D aC B yM 44 mem [.ref (B + 0), .int a1] (some (.int q0)) mem := by
  refine g_ofW (by decide) (Nat.le_of_ble_eq_true rfl) ?_
  intro p e s m args below meth c ls E hml hret hlk hM hl
  have E : g_C p s m args c cX11_isLost RX11 D aC (g_Zs (g_A B 44)) := E
  have hx := E.1
  have hb := E.2.1
  have hown := E.2.2.1
  have hts := E.2.2.2.1
  have hl : lv_has ls 3 [(0, .ref (B + 0)), (1, .int a1)] := hl
  unfold f11_isLost at he
  refine lv_iconst (v := (0 : Int32)) hx hb dX11_isLost_0 rfl ?_
  refine lv_istore_n (lv' := [(2, .int (0 : Int32)), (0, .ref (B + 0)), (1, .int a1)]) hx hb dX11_isLost_1 rfl hl (by decide) rfl (fun ls hl => ?_)
  exact w11_isLost_b2 (F := F) (a1 := a1) E hml hret hlk _ _ _ _ hM (lv_sub hl [1, 2, 0] rfl) he

set_option maxHeartbeats 4000000 in
set_option maxRecDepth 100000 in
theorem w11_those_b133 (E : g_C p s m args c cX11_those RX11 D aC (g_Zs (g_A B 44))) (hml : c.maxLocals = 6) (hret : meth.sig.returnType = (some .int)) (hlk : meth.locks = false) {F : Nat} {q0 : Int32 × g_M} {a1 : Int32} {s101 : Int32 → Int32 → g_M → Option (Int32 × g_M)} (hs101 : ∀ (v2 : Int32) (v3 : Int32) (mem : g_M) (H : Heap) (locs : List Loc) (ls : Array Slot), g_At D aC B yM 44 mem s.heap H locs → lv_has ls 6 [(0, .ref (B + 0)), (1, .int a1), (2, .int v2), (3, .int v3)] → s101 v2 v3 mem = some q0 → W p l e (g_rm 2) s m args below meth c H locs 0 0 (g_MQ below D aC B yM 44 args s (some (.int q0.1)) q0.2) (F0 m 101 ls [])) : ∀ (v3 : Int32) (w0 : Int32) (w1 : Int32) (mem : g_M) (H : Heap) (locs : List Loc) (ls : Array Slot), g_At D aC B yM 44 mem s.heap H locs → lv_has ls 6 [(0, .ref (B + 0)), (1, .int a1), (3, .int v3)] → f11_those_b133 F a1 s101 v3 w0 w1 mem = some q0 → W p l e (g_rm 2) s m args below meth c H locs 0 0 (g_MQ below D aC B yM 44 args s (some (.int q0.1)) q0.2) (F0 m 133 ls [.int w1, .int w0]) := by
  intro v3 w0 w1 mem H locs ls hM hl he
  unfold f11_those_b133 at he
  have hx := E.1
  have hb := E.2.1
  have hown := E.2.2.1
  have hts := E.2.2.2.1
  refine lv_ior hx hb dX11_those_133 ?_
  obtain ⟨x1, hx1, he⟩ := g_let_ex he
  refine g_topI hx1 ?_
  refine lv_istore_n (lv' := [(2, .int x1), (0, .ref (B + 0)), (1, .int a1), (3, .int v3)]) hx hb dX11_those_134 rfl hl (by decide) rfl (fun ls hl => ?_)
  obtain ⟨x2, hx2, he⟩ := g_let_ex he
  refine lv_iinc (v := x2) (lv' := [(3, .int x2), (2, .int x1), (0, .ref (B + 0)), (1, .int a1)]) hx hb dX11_those_135 hl (k := 3) rfl (by rw [hx2]; rfl) (by decide) rfl (fun ls hl => ?_)
  refine lv_goto (tgt := 101) hx hb dX11_those_138 (by decide) ?_
  exact hs101 _ _ _ _ _ _ hM (lv_sub hl [2, 3, 1, 0] rfl) he

set_option maxHeartbeats 4000000 in
set_option maxRecDepth 100000 in
theorem w11_those_b101_body (E : g_C p s m args c cX11_those RX11 D aC (g_Zs (g_A B 44))) (hml : c.maxLocals = 6) (hret : meth.sig.returnType = (some .int)) (hlk : meth.locks = false) {F : Nat} {q0 : Int32 × g_M} {a1 : Int32} {s101 : Int32 → Int32 → g_M → Option (Int32 × g_M)} (hs101 : ∀ (v2 : Int32) (v3 : Int32) (mem : g_M) (H : Heap) (locs : List Loc) (ls : Array Slot), g_At D aC B yM 44 mem s.heap H locs → lv_has ls 6 [(0, .ref (B + 0)), (1, .int a1), (2, .int v2), (3, .int v3)] → s101 v2 v3 mem = some q0 → W p l e (g_rm 2) s m args below meth c H locs 0 0 (g_MQ below D aC B yM 44 args s (some (.int q0.1)) q0.2) (F0 m 101 ls [])) : ∀ (v2 : Int32) (v3 : Int32) (mem : g_M) (H : Heap) (locs : List Loc) (ls : Array Slot), g_At D aC B yM 44 mem s.heap H locs → lv_has ls 6 [(0, .ref (B + 0)), (1, .int a1), (2, .int v2), (3, .int v3)] → f11_those_b101_body F a1 s101 v2 v3 mem = some q0 → W p l e (g_rm 2) s m args below meth c H locs 0 0 (g_MQ below D aC B yM 44 args s (some (.int q0.1)) q0.2) (F0 m 101 ls []) := by
  intro v2 v3 mem H locs ls hM hl he
  unfold f11_those_b101_body at he
  have hx := E.1
  have hb := E.2.1
  have hown := E.2.2.1
  have hts := E.2.2.2.1
  refine lv_iload_n hx hb dX11_those_101 rfl (lv_at hl 3 rfl) ?_
  refine lv_aload_n hx hb dX11_those_102 rfl (lv_at hl 0 rfl) ?_
  refine g_getP E hM (o := 0) (Nat.le_of_ble_eq_true rfl) rfl fl_X11_93 (q := 27) rfl dX11_those_103 ?_
  refine lv_iconst (v := (0 : Int32)) hx hb dX11_those_106 rfl ?_
  obtain ⟨h3, he⟩ := g_ck_some he
  refine g_iald E hM (o := 27) (Nat.le_of_ble_eq_true rfl) rfl h3 dX11_those_107 ?_
  refine lv_icmp_ge (tgt := 141) hx hb dX11_those_108 (by decide) (fun h4 => ?_) (fun h4 => ?_)
  · rw [if_neg (Int32.not_lt.mpr h4)] at he
    refine lv_iload_n hx hb dX11_those_141 rfl (lv_at hl 2 rfl) ?_
    cases he
    exact g_iret E hM hret hlk dX11_those_142
  · rw [if_pos (Int32.not_le.mp h4)] at he
    refine lv_iload_n hx hb dX11_those_111 rfl (lv_at hl 1 rfl) ?_
    refine lv_iconst (v := (2 : Int32)) hx hb dX11_those_112 rfl ?_
    refine lv_icmp_ne (tgt := 141) hx hb dX11_those_113 (by decide) (fun h5 => ?_) (fun h5 => ?_)
    · rw [if_neg h5] at he
      refine lv_iload_n hx hb dX11_those_141 rfl (lv_at hl 2 rfl) ?_
      cases he
      exact g_iret E hM hret hlk dX11_those_142
    · rw [if_pos h5] at he
      refine lv_iload_n hx hb dX11_those_116 rfl (lv_at hl 2 rfl) ?_
      refine lv_aload_n hx hb dX11_those_117 rfl (lv_at hl 0 rfl) ?_
      refine lv_iconst (v := (0 : Int32)) hx hb dX11_those_118 rfl ?_
      refine lv_iload_n hx hb dX11_those_119 rfl (lv_at hl 3 rfl) ?_
      obtain ⟨r6, hcr6, he⟩ := g_bind he
      refine g_callV [.int (0 : Int32), .int v3] (rest := [.int v2]) E hml hl.1 hM cv_X11_385 (c11_isDue l D aC B hcr6) (o := 0) (Nat.le_of_ble_eq_true rfl) rfl (by decide) rfl rfl (Nat.le_of_ble_eq_true rfl) dX11_those_120 (fun H locs hM => ?_)
      refine W.eq (g2 := F0 m 123 ls [.int r6, .int v2]) rfl ?_
      refine lv_if_eq (tgt := 132) hx hb dX11_those_123 (by decide) (fun h7 => ?_) (fun h7 => ?_)
      · rw [if_pos h7] at he
        refine lv_iconst (v := (0 : Int32)) hx hb dX11_those_132 rfl ?_
        exact w11_those_b133 (F := F) (a1 := a1) E hml hret hlk hs101 _ _ _ _ _ _ _ hM (lv_sub hl [0, 1, 3] rfl) he
      · rw [if_neg h7] at he
        refine lv_iconst (v := (1 : Int32)) hx hb dX11_those_126 rfl ?_
        refine lv_iload_n hx hb dX11_those_127 rfl (lv_at hl 3 rfl) ?_
        refine lv_ishl hx hb dX11_those_128 ?_
        refine lv_goto (tgt := 133) hx hb dX11_those_129 (by decide) ?_
        exact w11_those_b133 (F := F) (a1 := a1) E hml hret hlk hs101 _ _ _ _ _ _ _ hM (lv_sub hl [0, 1, 3] rfl) he

set_option maxHeartbeats 4000000 in
set_option maxRecDepth 100000 in
theorem w11_those_b101 (E : g_C p s m args c cX11_those RX11 D aC (g_Zs (g_A B 44))) (hml : c.maxLocals = 6) (hret : meth.sig.returnType = (some .int)) (hlk : meth.locks = false) {F : Nat} {q0 : Int32 × g_M} {a1 : Int32} : ∀ (v2 : Int32) (v3 : Int32) (mem : g_M) (H : Heap) (locs : List Loc) (ls : Array Slot), g_At D aC B yM 44 mem s.heap H locs → lv_has ls 6 [(0, .ref (B + 0)), (1, .int a1), (2, .int v2), (3, .int v3)] → f11_those_b101 F a1 v2 v3 mem = some q0 → W p l e (g_rm 2) s m args below meth c H locs 0 0 (g_MQ below D aC B yM 44 args s (some (.int q0.1)) q0.2) (F0 m 101 ls []) := by
  have key : ∀ (nn : Nat) (x : Int32 × Int32 × g_M) (H : Heap) (locs : List Loc) (ls : Array Slot), g_At D aC B yM 44 x.2.2 s.heap H locs → lv_has ls 6 [(0, .ref (B + 0)), (1, .int a1), (2, .int x.1), (3, .int x.2.1)] → g_fix (fun sf x => f11_those_b101_body F a1 (fun v2 v3 mem => sf (v2, v3, mem)) x.1 x.2.1 x.2.2) nn x = some q0 → W p l e (g_rm 2) s m args below meth c H locs 0 0 (g_MQ below D aC B yM 44 args s (some (.int q0.1)) q0.2) (F0 m 101 ls []) := by
    intro nn
    induction nn with
    | zero => intro x H locs ls hM hl he; simp [g_fix] at he
    | succ nn ih =>
      intro x H locs ls hM hl he
      exact w11_those_b101_body (F := F) (a1 := a1) E hml hret hlk (fun v2 v3 mem H locs ls hM hl he => ih (v2, v3, mem) H locs ls hM hl he) x.1 x.2.1 x.2.2 H locs ls hM hl he
  intro v2 v3 mem H locs ls hM hl he
  exact key F (v2, v3, mem) H locs ls hM hl he

set_option maxHeartbeats 4000000 in
set_option maxRecDepth 100000 in
theorem w11_those_b99 (E : g_C p s m args c cX11_those RX11 D aC (g_Zs (g_A B 44))) (hml : c.maxLocals = 6) (hret : meth.sig.returnType = (some .int)) (hlk : meth.locks = false) {F : Nat} {q0 : Int32 × g_M} {a1 : Int32} : ∀ (v2 : Int32) (mem : g_M) (H : Heap) (locs : List Loc) (ls : Array Slot), g_At D aC B yM 44 mem s.heap H locs → lv_has ls 6 [(0, .ref (B + 0)), (1, .int a1), (2, .int v2)] → f11_those_b99 F a1 v2 mem = some q0 → W p l e (g_rm 2) s m args below meth c H locs 0 0 (g_MQ below D aC B yM 44 args s (some (.int q0.1)) q0.2) (F0 m 99 ls []) := by
  intro v2 mem H locs ls hM hl he
  unfold f11_those_b99 at he
  have hx := E.1
  have hb := E.2.1
  have hown := E.2.2.1
  have hts := E.2.2.2.1
  refine lv_iconst (v := (0 : Int32)) hx hb dX11_those_99 rfl ?_
  refine lv_istore_n (lv' := [(3, .int (0 : Int32)), (0, .ref (B + 0)), (1, .int a1), (2, .int v2)]) hx hb dX11_those_100 rfl hl (by decide) rfl (fun ls hl => ?_)
  exact w11_those_b101 (F := F) (a1 := a1) E hml hret hlk _ _ _ _ _ _ hM (lv_sub hl [1, 2, 3, 0] rfl) he

set_option maxHeartbeats 4000000 in
set_option maxRecDepth 100000 in
theorem w11_those_b91 (E : g_C p s m args c cX11_those RX11 D aC (g_Zs (g_A B 44))) (hml : c.maxLocals = 6) (hret : meth.sig.returnType = (some .int)) (hlk : meth.locks = false) {F : Nat} {q0 : Int32 × g_M} {a1 : Int32} {s20 : Int32 → Int32 → g_M → Option (Int32 × g_M)} (hs20 : ∀ (v2 : Int32) (v3 : Int32) (mem : g_M) (H : Heap) (locs : List Loc) (ls : Array Slot), g_At D aC B yM 44 mem s.heap H locs → lv_has ls 6 [(0, .ref (B + 0)), (1, .int a1), (2, .int v2), (3, .int v3)] → s20 v2 v3 mem = some q0 → W p l e (g_rm 2) s m args below meth c H locs 0 0 (g_MQ below D aC B yM 44 args s (some (.int q0.1)) q0.2) (F0 m 20 ls [])) : ∀ (v3 : Int32) (w0 : Int32) (w1 : Int32) (mem : g_M) (H : Heap) (locs : List Loc) (ls : Array Slot), g_At D aC B yM 44 mem s.heap H locs → lv_has ls 6 [(0, .ref (B + 0)), (1, .int a1), (3, .int v3)] → f11_those_b91 F a1 s20 v3 w0 w1 mem = some q0 → W p l e (g_rm 2) s m args below meth c H locs 0 0 (g_MQ below D aC B yM 44 args s (some (.int q0.1)) q0.2) (F0 m 91 ls [.int w1, .int w0]) := by
  intro v3 w0 w1 mem H locs ls hM hl he
  unfold f11_those_b91 at he
  have hx := E.1
  have hb := E.2.1
  have hown := E.2.2.1
  have hts := E.2.2.2.1
  refine lv_ior hx hb dX11_those_91 ?_
  obtain ⟨x8, hx8, he⟩ := g_let_ex he
  refine g_topI hx8 ?_
  refine lv_istore_n (lv' := [(2, .int x8), (0, .ref (B + 0)), (1, .int a1), (3, .int v3)]) hx hb dX11_those_92 rfl hl (by decide) rfl (fun ls hl => ?_)
  obtain ⟨x9, hx9, he⟩ := g_let_ex he
  refine lv_iinc (v := x9) (lv' := [(3, .int x9), (2, .int x8), (0, .ref (B + 0)), (1, .int a1)]) hx hb dX11_those_93 hl (k := 3) rfl (by rw [hx9]; rfl) (by decide) rfl (fun ls hl => ?_)
  refine lv_goto (tgt := 20) hx hb dX11_those_96 (by decide) ?_
  exact hs20 _ _ _ _ _ _ hM (lv_sub hl [2, 3, 1, 0] rfl) he

set_option maxHeartbeats 4000000 in
set_option maxRecDepth 100000 in
theorem w11_those_b76 (E : g_C p s m args c cX11_those RX11 D aC (g_Zs (g_A B 44))) (hml : c.maxLocals = 6) (hret : meth.sig.returnType = (some .int)) (hlk : meth.locks = false) {F : Nat} {q0 : Int32 × g_M} {a1 : Int32} {s20 : Int32 → Int32 → g_M → Option (Int32 × g_M)} (hs20 : ∀ (v2 : Int32) (v3 : Int32) (mem : g_M) (H : Heap) (locs : List Loc) (ls : Array Slot), g_At D aC B yM 44 mem s.heap H locs → lv_has ls 6 [(0, .ref (B + 0)), (1, .int a1), (2, .int v2), (3, .int v3)] → s20 v2 v3 mem = some q0 → W p l e (g_rm 2) s m args below meth c H locs 0 0 (g_MQ below D aC B yM 44 args s (some (.int q0.1)) q0.2) (F0 m 20 ls [])) : ∀ (v2 : Int32) (v3 : Int32) (w0 : Int32) (mem : g_M) (H : Heap) (locs : List Loc) (ls : Array Slot), g_At D aC B yM 44 mem s.heap H locs → lv_has ls 6 [(0, .ref (B + 0)), (1, .int a1), (2, .int v2), (3, .int v3)] → f11_those_b76 F a1 s20 v2 v3 w0 mem = some q0 → W p l e (g_rm 2) s m args below meth c H locs 0 0 (g_MQ below D aC B yM 44 args s (some (.int q0.1)) q0.2) (F0 m 76 ls [.int w0]) := by
  intro v2 v3 w0 mem H locs ls hM hl he
  unfold f11_those_b76 at he
  have hx := E.1
  have hb := E.2.1
  have hown := E.2.2.1
  have hts := E.2.2.2.1
  refine lv_istore (lv' := [(5, .int w0), (0, .ref (B + 0)), (1, .int a1), (2, .int v2), (3, .int v3)]) hx hb dX11_those_76 hl (by decide) rfl (fun ls hl => ?_)
  refine lv_iload_n hx hb dX11_those_78 rfl (lv_at hl 3 rfl) ?_
  refine lv_iload hx hb dX11_those_79 (lv_at hl 0 rfl) ?_
  refine lv_if_eq (tgt := 90) hx hb dX11_those_81 (by decide) (fun h10 => ?_) (fun h10 => ?_)
  · rw [if_pos h10] at he
    refine lv_iconst (v := (0 : Int32)) hx hb dX11_those_90 rfl ?_
    exact w11_those_b91 (F := F) (a1 := a1) E hml hret hlk hs20 _ _ _ _ _ _ _ hM (lv_sub hl [1, 2, 4] rfl) he
  · rw [if_neg h10] at he
    refine lv_iconst (v := (1 : Int32)) hx hb dX11_those_84 rfl ?_
    refine lv_iload_n hx hb dX11_those_85 rfl (lv_at hl 4 rfl) ?_
    refine lv_ishl hx hb dX11_those_86 ?_
    refine lv_goto (tgt := 91) hx hb dX11_those_87 (by decide) ?_
    exact w11_those_b91 (F := F) (a1 := a1) E hml hret hlk hs20 _ _ _ _ _ _ _ hM (lv_sub hl [1, 2, 4] rfl) he

set_option maxHeartbeats 4000000 in
set_option maxRecDepth 100000 in
theorem w11_those_b75 (E : g_C p s m args c cX11_those RX11 D aC (g_Zs (g_A B 44))) (hml : c.maxLocals = 6) (hret : meth.sig.returnType = (some .int)) (hlk : meth.locks = false) {F : Nat} {q0 : Int32 × g_M} {a1 : Int32} {s20 : Int32 → Int32 → g_M → Option (Int32 × g_M)} (hs20 : ∀ (v2 : Int32) (v3 : Int32) (mem : g_M) (H : Heap) (locs : List Loc) (ls : Array Slot), g_At D aC B yM 44 mem s.heap H locs → lv_has ls 6 [(0, .ref (B + 0)), (1, .int a1), (2, .int v2), (3, .int v3)] → s20 v2 v3 mem = some q0 → W p l e (g_rm 2) s m args below meth c H locs 0 0 (g_MQ below D aC B yM 44 args s (some (.int q0.1)) q0.2) (F0 m 20 ls [])) : ∀ (v2 : Int32) (v3 : Int32) (mem : g_M) (H : Heap) (locs : List Loc) (ls : Array Slot), g_At D aC B yM 44 mem s.heap H locs → lv_has ls 6 [(0, .ref (B + 0)), (1, .int a1), (2, .int v2), (3, .int v3)] → f11_those_b75 F a1 s20 v2 v3 mem = some q0 → W p l e (g_rm 2) s m args below meth c H locs 0 0 (g_MQ below D aC B yM 44 args s (some (.int q0.1)) q0.2) (F0 m 75 ls []) := by
  intro v2 v3 mem H locs ls hM hl he
  unfold f11_those_b75 at he
  have hx := E.1
  have hb := E.2.1
  have hown := E.2.2.1
  have hts := E.2.2.2.1
  refine lv_iconst (v := (0 : Int32)) hx hb dX11_those_75 rfl ?_
  exact w11_those_b76 (F := F) (a1 := a1) E hml hret hlk hs20 _ _ _ _ _ _ _ hM (lv_sub hl [0, 1, 2, 3] rfl) he

set_option maxHeartbeats 4000000 in
set_option maxRecDepth 100000 in
theorem w11_those_b20_body (E : g_C p s m args c cX11_those RX11 D aC (g_Zs (g_A B 44))) (hml : c.maxLocals = 6) (hret : meth.sig.returnType = (some .int)) (hlk : meth.locks = false) {F : Nat} {q0 : Int32 × g_M} {a1 : Int32} {s20 : Int32 → Int32 → g_M → Option (Int32 × g_M)} (hs20 : ∀ (v2 : Int32) (v3 : Int32) (mem : g_M) (H : Heap) (locs : List Loc) (ls : Array Slot), g_At D aC B yM 44 mem s.heap H locs → lv_has ls 6 [(0, .ref (B + 0)), (1, .int a1), (2, .int v2), (3, .int v3)] → s20 v2 v3 mem = some q0 → W p l e (g_rm 2) s m args below meth c H locs 0 0 (g_MQ below D aC B yM 44 args s (some (.int q0.1)) q0.2) (F0 m 20 ls [])) : ∀ (v2 : Int32) (v3 : Int32) (mem : g_M) (H : Heap) (locs : List Loc) (ls : Array Slot), g_At D aC B yM 44 mem s.heap H locs → lv_has ls 6 [(0, .ref (B + 0)), (1, .int a1), (2, .int v2), (3, .int v3)] → f11_those_b20_body F a1 s20 v2 v3 mem = some q0 → W p l e (g_rm 2) s m args below meth c H locs 0 0 (g_MQ below D aC B yM 44 args s (some (.int q0.1)) q0.2) (F0 m 20 ls []) := by
  intro v2 v3 mem H locs ls hM hl he
  unfold f11_those_b20_body at he
  have hx := E.1
  have hb := E.2.1
  have hown := E.2.2.1
  have hts := E.2.2.2.1
  refine lv_iload_n hx hb dX11_those_20 rfl (lv_at hl 3 rfl) ?_
  refine lv_aload_n hx hb dX11_those_21 rfl (lv_at hl 0 rfl) ?_
  refine g_getP E hM (o := 0) (Nat.le_of_ble_eq_true rfl) rfl fl_X11_13 (q := 2) rfl dX11_those_22 ?_
  refine lv_iconst (v := (0 : Int32)) hx hb dX11_those_25 rfl ?_
  obtain ⟨h11, he⟩ := g_ck_some he
  refine g_iald E hM (o := 2) (Nat.le_of_ble_eq_true rfl) rfl h11 dX11_those_26 ?_
  refine lv_icmp_ge (tgt := 99) hx hb dX11_those_27 (by decide) (fun h12 => ?_) (fun h12 => ?_)
  · rw [if_neg (Int32.not_lt.mpr h12)] at he
    exact w11_those_b99 (F := F) (a1 := a1) E hml hret hlk _ _ _ _ _ hM (lv_sub hl [0, 1, 2] rfl) he
  · rw [if_pos (Int32.not_le.mp h12)] at he
    refine lv_iload_n hx hb dX11_those_30 rfl (lv_at hl 1 rfl) ?_
    refine lv_iconst (v := (2 : Int32)) hx hb dX11_those_31 rfl ?_
    refine lv_icmp_ge (tgt := 99) hx hb dX11_those_32 (by decide) (fun h13 => ?_) (fun h13 => ?_)
    · rw [if_neg (Int32.not_lt.mpr h13)] at he
      exact w11_those_b99 (F := F) (a1 := a1) E hml hret hlk _ _ _ _ _ hM (lv_sub hl [0, 1, 2] rfl) he
    · rw [if_pos (Int32.not_le.mp h13)] at he
      refine lv_aload_n hx hb dX11_those_35 rfl (lv_at hl 0 rfl) ?_
      refine lv_iconst (v := (0 : Int32)) hx hb dX11_those_36 rfl ?_
      refine lv_iload_n hx hb dX11_those_37 rfl (lv_at hl 3 rfl) ?_
      obtain ⟨r14, hcr14, he⟩ := g_bind he
      refine g_callV [.int (0 : Int32), .int v3] (rest := []) E hml hl.1 hM cv_X11_369 (c11_awayOf l D aC B hcr14) (o := 0) (Nat.le_of_ble_eq_true rfl) rfl (by decide) rfl rfl (Nat.le_of_ble_eq_true rfl) dX11_those_38 (fun H locs hM => ?_)
      refine W.eq (g2 := F0 m 41 ls [.int r14]) rfl ?_
      refine lv_istore (lv' := [(4, .int r14), (0, .ref (B + 0)), (1, .int a1), (2, .int v2), (3, .int v3)]) hx hb dX11_those_41 hl (by decide) rfl (fun ls hl => ?_)
      refine lv_iload_n hx hb dX11_those_43 rfl (lv_at hl 2 rfl) ?_
      refine lv_if_ne (tgt := 55) hx hb dX11_those_44 (by decide) (fun h15 => ?_) (fun h15 => ?_)
      · rw [if_neg h15] at he
        refine lv_iload hx hb dX11_those_55 (lv_at hl 0 rfl) ?_
        refine lv_if_le (tgt := 75) hx hb dX11_those_57 (by decide) (fun h17 => ?_) (fun h17 => ?_)
        · rw [if_neg (Int32.not_lt.mpr h17)] at he
          exact w11_those_b75 (F := F) (a1 := a1) E hml hret hlk hs20 _ _ _ _ _ _ hM (lv_sub hl [1, 2, 3, 4] rfl) he
        · rw [if_pos (Int32.not_le.mp h17)] at he
          refine lv_iload hx hb dX11_those_60 (lv_at hl 0 rfl) ?_
          refine lv_aload_n hx hb dX11_those_62 rfl (lv_at hl 1 rfl) ?_
          refine g_getP E hM (o := 0) (Nat.le_of_ble_eq_true rfl) rfl fl_X11_13 (q := 2) rfl dX11_those_63 ?_
          refine lv_iconst (v := (1 : Int32)) hx hb dX11_those_66 rfl ?_
          obtain ⟨h18, he⟩ := g_ck_some he
          refine g_iald E hM (o := 2) (Nat.le_of_ble_eq_true rfl) rfl h18 dX11_those_67 ?_
          refine lv_icmp_ge (tgt := 75) hx hb dX11_those_68 (by decide) (fun h19 => ?_) (fun h19 => ?_)
          · rw [if_neg (Int32.not_lt.mpr h19)] at he
            exact w11_those_b75 (F := F) (a1 := a1) E hml hret hlk hs20 _ _ _ _ _ _ hM (lv_sub hl [1, 2, 3, 4] rfl) he
          · rw [if_pos (Int32.not_le.mp h19)] at he
            refine lv_iconst (v := (1 : Int32)) hx hb dX11_those_71 rfl ?_
            refine lv_goto (tgt := 76) hx hb dX11_those_72 (by decide) ?_
            exact w11_those_b76 (F := F) (a1 := a1) E hml hret hlk hs20 _ _ _ _ _ _ _ hM (lv_sub hl [1, 2, 3, 4] rfl) he
      · rw [if_pos h15] at he
        refine lv_aload_n hx hb dX11_those_47 rfl (lv_at hl 1 rfl) ?_
        refine lv_iload_n hx hb dX11_those_48 rfl (lv_at hl 4 rfl) ?_
        obtain ⟨r16, hcr16, he⟩ := g_bind he
        refine g_callV [.int v3] (rest := []) E hml hl.1 hM cv_X11_517 (c11_isLost l D aC B hcr16) (o := 0) (Nat.le_of_ble_eq_true rfl) rfl (by decide) rfl rfl (Nat.le_of_ble_eq_true rfl) dX11_those_49 (fun H locs hM => ?_)
        refine W.eq (g2 := F0 m 52 ls [.int r16]) rfl ?_
        refine lv_goto (tgt := 76) hx hb dX11_those_52 (by decide) ?_
        exact w11_those_b76 (F := F) (a1 := a1) E hml hret hlk hs20 _ _ _ _ _ _ _ hM (lv_sub hl [1, 2, 3, 4] rfl) he

set_option maxHeartbeats 4000000 in
set_option maxRecDepth 100000 in
theorem w11_those_b20 (E : g_C p s m args c cX11_those RX11 D aC (g_Zs (g_A B 44))) (hml : c.maxLocals = 6) (hret : meth.sig.returnType = (some .int)) (hlk : meth.locks = false) {F : Nat} {q0 : Int32 × g_M} {a1 : Int32} : ∀ (v2 : Int32) (v3 : Int32) (mem : g_M) (H : Heap) (locs : List Loc) (ls : Array Slot), g_At D aC B yM 44 mem s.heap H locs → lv_has ls 6 [(0, .ref (B + 0)), (1, .int a1), (2, .int v2), (3, .int v3)] → f11_those_b20 F a1 v2 v3 mem = some q0 → W p l e (g_rm 2) s m args below meth c H locs 0 0 (g_MQ below D aC B yM 44 args s (some (.int q0.1)) q0.2) (F0 m 20 ls []) := by
  have key : ∀ (nn : Nat) (x : Int32 × Int32 × g_M) (H : Heap) (locs : List Loc) (ls : Array Slot), g_At D aC B yM 44 x.2.2 s.heap H locs → lv_has ls 6 [(0, .ref (B + 0)), (1, .int a1), (2, .int x.1), (3, .int x.2.1)] → g_fix (fun sf x => f11_those_b20_body F a1 (fun v2 v3 mem => sf (v2, v3, mem)) x.1 x.2.1 x.2.2) nn x = some q0 → W p l e (g_rm 2) s m args below meth c H locs 0 0 (g_MQ below D aC B yM 44 args s (some (.int q0.1)) q0.2) (F0 m 20 ls []) := by
    intro nn
    induction nn with
    | zero => intro x H locs ls hM hl he; simp [g_fix] at he
    | succ nn ih =>
      intro x H locs ls hM hl he
      exact w11_those_b20_body (F := F) (a1 := a1) E hml hret hlk (fun v2 v3 mem H locs ls hM hl he => ih (v2, v3, mem) H locs ls hM hl he) x.1 x.2.1 x.2.2 H locs ls hM hl he
  intro v2 v3 mem H locs ls hM hl he
  exact key F (v2, v3, mem) H locs ls hM hl he

set_option maxHeartbeats 4000000 in
set_option maxRecDepth 100000 in
theorem c11_those (l : Launch) (D : va_G) (aC : Nat → ClassId) (B : Nat) {F : Nat} {a1 : Int32} {mem : g_M} {q0 : Int32 × g_M} (he : f11_those F a1 mem = some q0) : g_Met l yX11_those cX11_those 6 (some .int) 2 D aC B yM 44 mem [.ref (B + 0), .int a1] (some (.int q0.1)) q0.2 := by
  refine g_ofW (by decide) (Nat.le_of_ble_eq_true rfl) ?_
  intro p e s m args below meth c ls E hml hret hlk hM hl
  have E : g_C p s m args c cX11_those RX11 D aC (g_Zs (g_A B 44)) := E
  have hx := E.1
  have hb := E.2.1
  have hown := E.2.2.1
  have hts := E.2.2.2.1
  have hl : lv_has ls 6 [(0, .ref (B + 0)), (1, .int a1)] := hl
  unfold f11_those at he
  refine lv_aload_n hx hb dX11_those_0 rfl (lv_at hl 0 rfl) ?_
  refine lv_iconst (v := (0 : Int32)) hx hb dX11_those_1 rfl ?_
  refine g_putI E hM (o := 0) (Nat.le_of_ble_eq_true rfl) rfl fp_X11_157 dX11_those_2 (fun H locs hM => ?_)
  obtain ⟨m20, hm20, he⟩ := g_let_ex he
  rw [← hm20] at hM
  refine lv_iload_n hx hb dX11_those_5 rfl (lv_at hl 1 rfl) ?_
  refine lv_if_lt (tgt := 14) hx hb dX11_those_6 (by decide) (fun h21 => ?_) (fun h21 => ?_)
  · rw [if_neg (Int32.not_le.mpr h21)] at he
    refine lv_iconst (v := (-1 : Int32)) hx hb dX11_those_14 rfl ?_
    cases he
    exact g_iret E hM hret hlk dX11_those_15
  · rw [if_pos (Int32.not_lt.mp h21)] at he
    refine lv_iload_n hx hb dX11_those_9 rfl (lv_at hl 1 rfl) ?_
    refine lv_iconst (v := (2 : Int32)) hx hb dX11_those_10 rfl ?_
    refine lv_icmp_le (tgt := 16) hx hb dX11_those_11 (by decide) (fun h22 => ?_) (fun h22 => ?_)
    · rw [if_neg (Int32.not_lt.mpr h22)] at he
      refine lv_iconst (v := (0 : Int32)) hx hb dX11_those_16 rfl ?_
      refine lv_istore_n (lv' := [(2, .int (0 : Int32)), (0, .ref (B + 0)), (1, .int a1)]) hx hb dX11_those_17 rfl hl (by decide) rfl (fun ls hl => ?_)
      refine lv_iconst (v := (0 : Int32)) hx hb dX11_those_18 rfl ?_
      refine lv_istore_n (lv' := [(3, .int (0 : Int32)), (2, .int (0 : Int32)), (0, .ref (B + 0)), (1, .int a1)]) hx hb dX11_those_19 rfl hl (by decide) rfl (fun ls hl => ?_)
      exact w11_those_b20 (F := F) (a1 := a1) E hml hret hlk _ _ _ _ _ _ hM (lv_sub hl [2, 3, 1, 0] rfl) he
    · rw [if_pos (Int32.not_le.mp h22)] at he
      refine lv_iconst (v := (-1 : Int32)) hx hb dX11_those_14 rfl ?_
      cases he
      exact g_iret E hM hret hlk dX11_those_15

set_option maxHeartbeats 4000000 in
set_option maxRecDepth 100000 in
theorem c11_see (l : Launch) (D : va_G) (aC : Nat → ClassId) (B : Nat) {F : Nat} {a1 : Int32} {a2 : Int32} {a3 : Int32} {a4 : Int32} {mem : g_M} {q0 : Int32 × g_M} (he : f11_see F a1 a2 a3 a4 mem = some q0) : g_Met l yX11_see cX11_see 5 (some .int) 2 D aC B yM 44 mem [.ref (B + 0), .int a1, .int a2, .int a3, .int a4] (some (.int q0.1)) q0.2 := by
  refine g_ofW (by decide) (Nat.le_of_ble_eq_true rfl) ?_
  intro p e s m args below meth c ls E hml hret hlk hM hl
  have E : g_C p s m args c cX11_see RX11 D aC (g_Zs (g_A B 44)) := E
  have hx := E.1
  have hb := E.2.1
  have hown := E.2.2.1
  have hts := E.2.2.2.1
  have hl : lv_has ls 5 [(0, .ref (B + 0)), (1, .int a1), (2, .int a2), (3, .int a3), (4, .int a4)] := hl
  unfold f11_see at he
  refine lv_aload_n hx hb dX11_see_0 rfl (lv_at hl 0 rfl) ?_
  refine lv_iconst (v := (0 : Int32)) hx hb dX11_see_1 rfl ?_
  refine g_putI E hM (o := 0) (Nat.le_of_ble_eq_true rfl) rfl fp_X11_157 dX11_see_2 (fun H locs hM => ?_)
  obtain ⟨m1, hm1, he⟩ := g_let_ex he
  rw [← hm1] at hM
  refine lv_iload_n hx hb dX11_see_5 rfl (lv_at hl 1 rfl) ?_
  refine lv_iconst (v := (1 : Int32)) hx hb dX11_see_6 rfl ?_
  refine lv_icmp_lt (tgt := 41) hx hb dX11_see_7 (by decide) (fun h2 => ?_) (fun h2 => ?_)
  · rw [if_neg (Int32.not_le.mpr h2)] at he
    refine lv_iconst (v := (-1 : Int32)) hx hb dX11_see_41 rfl ?_
    cases he
    exact g_iret E hM hret hlk dX11_see_42
  · rw [if_pos (Int32.not_lt.mp h2)] at he
    refine lv_iload_n hx hb dX11_see_10 rfl (lv_at hl 1 rfl) ?_
    refine lv_bipush (v := (40 : Int32)) hx hb dX11_see_11 rfl ?_
    refine lv_icmp_gt (tgt := 41) hx hb dX11_see_13 (by decide) (fun h3 => ?_) (fun h3 => ?_)
    · rw [if_neg (Int32.not_le.mpr h3)] at he
      refine lv_iconst (v := (-1 : Int32)) hx hb dX11_see_41 rfl ?_
      cases he
      exact g_iret E hM hret hlk dX11_see_42
    · rw [if_pos (Int32.not_lt.mp h3)] at he
      refine lv_aload_n hx hb dX11_see_16 rfl (lv_at hl 0 rfl) ?_
      refine lv_iload_n hx hb dX11_see_17 rfl (lv_at hl 2 rfl) ?_
      obtain ⟨r4, hcr4, he⟩ := g_bind he
      refine g_callV [.int a2] (rest := []) E hml hl.1 hM cv_X11_426 (c11_isMan l D aC B hcr4) (o := 0) (Nat.le_of_ble_eq_true rfl) rfl (by decide) rfl rfl (Nat.le_of_ble_eq_true rfl) dX11_see_18 (fun H locs hM => ?_)
      refine W.eq (g2 := F0 m 21 ls [.int r4]) rfl ?_
      refine lv_if_eq (tgt := 41) hx hb dX11_see_21 (by decide) (fun h5 => ?_) (fun h5 => ?_)
      · rw [if_pos h5] at he
        refine lv_iconst (v := (-1 : Int32)) hx hb dX11_see_41 rfl ?_
        cases he
        exact g_iret E hM hret hlk dX11_see_42
      · rw [if_neg h5] at he
        refine lv_aload_n hx hb dX11_see_24 rfl (lv_at hl 0 rfl) ?_
        refine lv_iload_n hx hb dX11_see_25 rfl (lv_at hl 3 rfl) ?_
        obtain ⟨r6, hcr6, he⟩ := g_bind he
        refine g_callV [.int a3] (rest := []) E hml hl.1 hM cv_X11_432 (c11_isSort l D aC B hcr6) (o := 0) (Nat.le_of_ble_eq_true rfl) rfl (by decide) rfl rfl (Nat.le_of_ble_eq_true rfl) dX11_see_26 (fun H locs hM => ?_)
        refine W.eq (g2 := F0 m 29 ls [.int r6]) rfl ?_
        refine lv_if_eq (tgt := 41) hx hb dX11_see_29 (by decide) (fun h7 => ?_) (fun h7 => ?_)
        · rw [if_pos h7] at he
          refine lv_iconst (v := (-1 : Int32)) hx hb dX11_see_41 rfl ?_
          cases he
          exact g_iret E hM hret hlk dX11_see_42
        · rw [if_neg h7] at he
          refine lv_aload_n hx hb dX11_see_32 rfl (lv_at hl 0 rfl) ?_
          refine g_getI E hM (o := 0) (Nat.le_of_ble_eq_true rfl) rfl fl_X11_313 dX11_see_33 ?_
          refine lv_bipush (v := (24 : Int32)) hx hb dX11_see_36 rfl ?_
          refine lv_icmp_ne (tgt := 43) hx hb dX11_see_38 (by decide) (fun h8 => ?_) (fun h8 => ?_)
          · rw [if_neg h8] at he
            refine lv_aload_n hx hb dX11_see_43 rfl (lv_at hl 0 rfl) ?_
            refine g_getP E hM (o := 0) (Nat.le_of_ble_eq_true rfl) rfl fl_X11_138 (q := 39) rfl dX11_see_44 ?_
            refine lv_aload_n hx hb dX11_see_47 rfl (lv_at hl 0 rfl) ?_
            refine g_getI E hM (o := 0) (Nat.le_of_ble_eq_true rfl) rfl fl_X11_313 dX11_see_48 ?_
            refine lv_iload_n hx hb dX11_see_51 rfl (lv_at hl 1 rfl) ?_
            obtain ⟨h9, he⟩ := g_ck_some he
            refine g_iast E hM (o := 39) (Nat.le_of_ble_eq_true rfl) rfl h9 dX11_see_52 (fun H locs hM => ?_)
            obtain ⟨m10, hm10, he⟩ := g_let_ex he
            rw [← hm10] at hM
            refine lv_aload_n hx hb dX11_see_53 rfl (lv_at hl 0 rfl) ?_
            refine g_getP E hM (o := 0) (Nat.le_of_ble_eq_true rfl) rfl fl_X11_141 (q := 40) rfl dX11_see_54 ?_
            refine lv_aload_n hx hb dX11_see_57 rfl (lv_at hl 0 rfl) ?_
            refine g_getI E hM (o := 0) (Nat.le_of_ble_eq_true rfl) rfl fl_X11_313 dX11_see_58 ?_
            refine lv_iconst (v := (5 : Int32)) hx hb dX11_see_61 rfl ?_
            refine lv_iload_n hx hb dX11_see_62 rfl (lv_at hl 2 rfl) ?_
            refine lv_imul hx hb dX11_see_63 ?_
            refine lv_iload_n hx hb dX11_see_64 rfl (lv_at hl 3 rfl) ?_
            refine lv_iadd hx hb dX11_see_65 ?_
            obtain ⟨h11, he⟩ := g_ck_some he
            refine g_iast E hM (o := 40) (Nat.le_of_ble_eq_true rfl) rfl h11 dX11_see_66 (fun H locs hM => ?_)
            obtain ⟨m12, hm12, he⟩ := g_let_ex he
            rw [← hm12] at hM
            refine lv_aload_n hx hb dX11_see_67 rfl (lv_at hl 0 rfl) ?_
            refine g_getP E hM (o := 0) (Nat.le_of_ble_eq_true rfl) rfl fl_X11_144 (q := 41) rfl dX11_see_68 ?_
            refine lv_aload_n hx hb dX11_see_71 rfl (lv_at hl 0 rfl) ?_
            refine g_getI E hM (o := 0) (Nat.le_of_ble_eq_true rfl) rfl fl_X11_313 dX11_see_72 ?_
            refine lv_iload hx hb dX11_see_75 (lv_at hl 4 rfl) ?_
            obtain ⟨h13, he⟩ := g_ck_some he
            obtain ⟨h14, he⟩ := g_fl_some he
            refine g_zast E hM (o := 41) (Nat.le_of_ble_eq_true rfl) rfl h13 h14 dX11_see_77 (fun H locs hM => ?_)
            obtain ⟨m15, hm15, he⟩ := g_let_ex he
            rw [← hm15] at hM
            refine lv_aload_n hx hb dX11_see_78 rfl (lv_at hl 0 rfl) ?_
            refine g_getP E hM (o := 0) (Nat.le_of_ble_eq_true rfl) rfl fl_X11_148 (q := 42) rfl dX11_see_79 ?_
            refine lv_aload_n hx hb dX11_see_82 rfl (lv_at hl 0 rfl) ?_
            refine g_getI E hM (o := 0) (Nat.le_of_ble_eq_true rfl) rfl fl_X11_313 dX11_see_83 ?_
            refine lv_iconst (v := (-1 : Int32)) hx hb dX11_see_86 rfl ?_
            obtain ⟨h16, he⟩ := g_ck_some he
            refine g_iast E hM (o := 42) (Nat.le_of_ble_eq_true rfl) rfl h16 dX11_see_87 (fun H locs hM => ?_)
            obtain ⟨m17, hm17, he⟩ := g_let_ex he
            rw [← hm17] at hM
            refine lv_aload_n hx hb dX11_see_88 rfl (lv_at hl 0 rfl) ?_
            refine lv_dup hx hb dX11_see_89 rfl ?_
            refine g_getI E hM (o := 0) (Nat.le_of_ble_eq_true rfl) rfl fl_X11_313 dX11_see_90 ?_
            refine lv_iconst (v := (1 : Int32)) hx hb dX11_see_93 rfl ?_
            refine lv_iadd hx hb dX11_see_94 ?_
            refine g_putI E hM (o := 0) (Nat.le_of_ble_eq_true rfl) rfl fp_X11_313 dX11_see_95 (fun H locs hM => ?_)
            obtain ⟨m18, hm18, he⟩ := g_let_ex he
            rw [← hm18] at hM
            refine lv_aload_n hx hb dX11_see_98 rfl (lv_at hl 0 rfl) ?_
            refine g_getI E hM (o := 0) (Nat.le_of_ble_eq_true rfl) rfl fl_X11_313 dX11_see_99 ?_
            refine lv_iconst (v := (1 : Int32)) hx hb dX11_see_102 rfl ?_
            refine lv_isub hx hb dX11_see_103 ?_
            cases he
            exact g_iret E hM hret hlk dX11_see_104
          · rw [if_pos h8] at he
            refine lv_iconst (v := (-1 : Int32)) hx hb dX11_see_41 rfl ?_
            cases he
            exact g_iret E hM hret hlk dX11_see_42

set_option maxHeartbeats 4000000 in
set_option maxRecDepth 100000 in
theorem c11_out (l : Launch) (D : va_G) (aC : Nat → ClassId) (B : Nat) {F : Nat} {a1 : Int32} {mem : g_M} {q0 : Int32 × g_M} (he : f11_out F a1 mem = some q0) : g_Met l yX11_out cX11_out 2 (some .int) 1 D aC B yM 44 mem [.ref (B + 0), .int a1] (some (.int q0.1)) q0.2 := by
  refine g_ofW (by decide) (Nat.le_of_ble_eq_true rfl) ?_
  intro p e s m args below meth c ls E hml hret hlk hM hl
  have E : g_C p s m args c cX11_out RX11 D aC (g_Zs (g_A B 44)) := E
  have hx := E.1
  have hb := E.2.1
  have hown := E.2.2.1
  have hts := E.2.2.2.1
  have hl : lv_has ls 2 [(0, .ref (B + 0)), (1, .int a1)] := hl
  unfold f11_out at he
  refine lv_aload_n hx hb dX11_out_0 rfl (lv_at hl 0 rfl) ?_
  refine lv_iconst (v := (0 : Int32)) hx hb dX11_out_1 rfl ?_
  refine g_putI E hM (o := 0) (Nat.le_of_ble_eq_true rfl) rfl fp_X11_157 dX11_out_2 (fun H locs hM => ?_)
  obtain ⟨m1, hm1, he⟩ := g_let_ex he
  rw [← hm1] at hM
  refine lv_iload_n hx hb dX11_out_5 rfl (lv_at hl 1 rfl) ?_
  refine lv_if_lt (tgt := 26) hx hb dX11_out_6 (by decide) (fun h2 => ?_) (fun h2 => ?_)
  · rw [if_neg (Int32.not_le.mpr h2)] at he
    refine lv_iconst (v := (-1 : Int32)) hx hb dX11_out_26 rfl ?_
    cases he
    exact g_iret E hM hret hlk dX11_out_27
  · rw [if_pos (Int32.not_lt.mp h2)] at he
    refine lv_iload_n hx hb dX11_out_9 rfl (lv_at hl 1 rfl) ?_
    refine lv_aload_n hx hb dX11_out_10 rfl (lv_at hl 0 rfl) ?_
    refine g_getI E hM (o := 0) (Nat.le_of_ble_eq_true rfl) rfl fl_X11_313 dX11_out_11 ?_
    refine lv_icmp_ge (tgt := 26) hx hb dX11_out_14 (by decide) (fun h3 => ?_) (fun h3 => ?_)
    · rw [if_neg (Int32.not_lt.mpr h3)] at he
      refine lv_iconst (v := (-1 : Int32)) hx hb dX11_out_26 rfl ?_
      cases he
      exact g_iret E hM hret hlk dX11_out_27
    · rw [if_pos (Int32.not_le.mp h3)] at he
      refine lv_aload_n hx hb dX11_out_17 rfl (lv_at hl 0 rfl) ?_
      refine g_getI E hM (o := 0) (Nat.le_of_ble_eq_true rfl) rfl fl_X11_313 dX11_out_18 ?_
      refine lv_bipush (v := (24 : Int32)) hx hb dX11_out_21 rfl ?_
      refine lv_icmp_ne (tgt := 28) hx hb dX11_out_23 (by decide) (fun h4 => ?_) (fun h4 => ?_)
      · rw [if_neg h4] at he
        refine lv_aload_n hx hb dX11_out_28 rfl (lv_at hl 0 rfl) ?_
        refine g_getP E hM (o := 0) (Nat.le_of_ble_eq_true rfl) rfl fl_X11_148 (q := 42) rfl dX11_out_29 ?_
        refine lv_aload_n hx hb dX11_out_32 rfl (lv_at hl 0 rfl) ?_
        refine g_getI E hM (o := 0) (Nat.le_of_ble_eq_true rfl) rfl fl_X11_313 dX11_out_33 ?_
        refine lv_iload_n hx hb dX11_out_36 rfl (lv_at hl 1 rfl) ?_
        obtain ⟨h5, he⟩ := g_ck_some he
        refine g_iast E hM (o := 42) (Nat.le_of_ble_eq_true rfl) rfl h5 dX11_out_37 (fun H locs hM => ?_)
        obtain ⟨m6, hm6, he⟩ := g_let_ex he
        rw [← hm6] at hM
        refine lv_aload_n hx hb dX11_out_38 rfl (lv_at hl 0 rfl) ?_
        refine lv_dup hx hb dX11_out_39 rfl ?_
        refine g_getI E hM (o := 0) (Nat.le_of_ble_eq_true rfl) rfl fl_X11_313 dX11_out_40 ?_
        refine lv_iconst (v := (1 : Int32)) hx hb dX11_out_43 rfl ?_
        refine lv_iadd hx hb dX11_out_44 ?_
        refine g_putI E hM (o := 0) (Nat.le_of_ble_eq_true rfl) rfl fp_X11_313 dX11_out_45 (fun H locs hM => ?_)
        obtain ⟨m7, hm7, he⟩ := g_let_ex he
        rw [← hm7] at hM
        refine lv_aload_n hx hb dX11_out_48 rfl (lv_at hl 0 rfl) ?_
        refine g_getI E hM (o := 0) (Nat.le_of_ble_eq_true rfl) rfl fl_X11_313 dX11_out_49 ?_
        refine lv_iconst (v := (1 : Int32)) hx hb dX11_out_52 rfl ?_
        refine lv_isub hx hb dX11_out_53 ?_
        cases he
        exact g_iret E hM hret hlk dX11_out_54
      · rw [if_pos h4] at he
        refine lv_iconst (v := (-1 : Int32)) hx hb dX11_out_26 rfl ?_
        cases he
        exact g_iret E hM hret hlk dX11_out_27

set_option maxHeartbeats 4000000 in
set_option maxRecDepth 100000 in
theorem c11_known (l : Launch) (D : va_G) (aC : Nat → ClassId) (B : Nat) {F : Nat} {a1 : Int32} {mem : g_M} {q0 : Int32 × g_M} (he : f11_known F a1 mem = some q0) : g_Met l yX11_known cX11_known 2 (some .boolean) 1 D aC B yM 44 mem [.ref (B + 0), .int a1] (some (.int q0.1)) q0.2 := by
  refine g_ofW (by decide) (Nat.le_of_ble_eq_true rfl) ?_
  intro p e s m args below meth c ls E hml hret hlk hM hl
  have E : g_C p s m args c cX11_known RX11 D aC (g_Zs (g_A B 44)) := E
  have hx := E.1
  have hb := E.2.1
  have hown := E.2.2.1
  have hts := E.2.2.2.1
  have hl : lv_has ls 2 [(0, .ref (B + 0)), (1, .int a1)] := hl
  unfold f11_known at he
  refine lv_aload_n hx hb dX11_known_0 rfl (lv_at hl 0 rfl) ?_
  refine lv_iconst (v := (0 : Int32)) hx hb dX11_known_1 rfl ?_
  refine g_putI E hM (o := 0) (Nat.le_of_ble_eq_true rfl) rfl fp_X11_157 dX11_known_2 (fun H locs hM => ?_)
  obtain ⟨m1, hm1, he⟩ := g_let_ex he
  rw [← hm1] at hM
  refine lv_iload_n hx hb dX11_known_5 rfl (lv_at hl 1 rfl) ?_
  refine lv_iconst (v := (-1 : Int32)) hx hb dX11_known_6 rfl ?_
  refine lv_icmp_lt (tgt := 18) hx hb dX11_known_7 (by decide) (fun h2 => ?_) (fun h2 => ?_)
  · rw [if_neg (Int32.not_le.mpr h2)] at he
    refine lv_iconst (v := (0 : Int32)) hx hb dX11_known_18 rfl ?_
    cases he
    exact g_zret E hM hret hlk (Or.inl rfl) dX11_known_19
  · rw [if_pos (Int32.not_lt.mp h2)] at he
    refine lv_iload_n hx hb dX11_known_10 rfl (lv_at hl 1 rfl) ?_
    refine lv_aload_n hx hb dX11_known_11 rfl (lv_at hl 0 rfl) ?_
    refine g_getI E hM (o := 0) (Nat.le_of_ble_eq_true rfl) rfl fl_X11_313 dX11_known_12 ?_
    refine lv_icmp_le (tgt := 20) hx hb dX11_known_15 (by decide) (fun h3 => ?_) (fun h3 => ?_)
    · rw [if_neg (Int32.not_lt.mpr h3)] at he
      refine lv_aload_n hx hb dX11_known_20 rfl (lv_at hl 0 rfl) ?_
      refine lv_iload_n hx hb dX11_known_21 rfl (lv_at hl 1 rfl) ?_
      refine g_putI E hM (o := 0) (Nat.le_of_ble_eq_true rfl) rfl fp_X11_135 dX11_known_22 (fun H locs hM => ?_)
      obtain ⟨m4, hm4, he⟩ := g_let_ex he
      rw [← hm4] at hM
      refine lv_iconst (v := (1 : Int32)) hx hb dX11_known_25 rfl ?_
      cases he
      exact g_zret E hM hret hlk (Or.inr rfl) dX11_known_26
    · rw [if_pos (Int32.not_le.mp h3)] at he
      refine lv_iconst (v := (0 : Int32)) hx hb dX11_known_18 rfl ?_
      cases he
      exact g_zret E hM hret hlk (Or.inl rfl) dX11_known_19

set_option maxHeartbeats 4000000 in
set_option maxRecDepth 100000 in
theorem c11_knownMany (l : Launch) (D : va_G) (aC : Nat → ClassId) (B : Nat) {F : Nat} {mem : g_M} {q0 : Int32} (he : f11_knownMany F mem = some q0) : g_Met l yX11_knownMany cX11_knownMany 1 (some .int) 1 D aC B yM 44 mem [.ref (B + 0)] (some (.int q0)) mem := by
  refine g_ofW (by decide) (Nat.le_of_ble_eq_true rfl) ?_
  intro p e s m args below meth c ls E hml hret hlk hM hl
  have E : g_C p s m args c cX11_knownMany RX11 D aC (g_Zs (g_A B 44)) := E
  have hx := E.1
  have hb := E.2.1
  have hown := E.2.2.1
  have hts := E.2.2.2.1
  have hl : lv_has ls 1 [(0, .ref (B + 0))] := hl
  unfold f11_knownMany at he
  refine lv_aload_n hx hb dX11_knownMany_0 rfl (lv_at hl 0 rfl) ?_
  refine g_getI E hM (o := 0) (Nat.le_of_ble_eq_true rfl) rfl fl_X11_135 dX11_knownMany_1 ?_
  refine lv_iconst (v := (-1 : Int32)) hx hb dX11_knownMany_4 rfl ?_
  refine lv_icmp_ne (tgt := 15) hx hb dX11_knownMany_5 (by decide) (fun h1 => ?_) (fun h1 => ?_)
  · rw [if_neg h1] at he
    refine lv_aload_n hx hb dX11_knownMany_15 rfl (lv_at hl 0 rfl) ?_
    refine g_getI E hM (o := 0) (Nat.le_of_ble_eq_true rfl) rfl fl_X11_135 dX11_knownMany_16 ?_
    cases he
    exact g_iret E hM hret hlk dX11_knownMany_19
  · rw [if_pos h1] at he
    refine lv_aload_n hx hb dX11_knownMany_8 rfl (lv_at hl 0 rfl) ?_
    refine g_getI E hM (o := 0) (Nat.le_of_ble_eq_true rfl) rfl fl_X11_313 dX11_knownMany_9 ?_
    refine lv_goto (tgt := 19) hx hb dX11_knownMany_12 (by decide) ?_
    cases he
    exact g_iret E hM hret hlk dX11_knownMany_19

set_option maxHeartbeats 4000000 in
set_option maxRecDepth 100000 in
theorem w11_isSo_b76 (E : g_C p s m args c cX11_isSo RX11 D aC (g_Zs (g_A B 44))) (hml : c.maxLocals = 3) (hret : meth.sig.returnType = (some .boolean)) (hlk : meth.locks = false) {F : Nat} {q0 : Int32} {a1 : Int32} {mem : g_M} {s2 : Int32 → Option (Int32)} (hs2 : ∀ (v2 : Int32) (H : Heap) (locs : List Loc) (ls : Array Slot), g_At D aC B yM 44 mem s.heap H locs → lv_has ls 3 [(0, .ref (B + 0)), (1, .int a1), (2, .int v2)] → s2 v2 = some q0 → W p l e (g_rm 2) s m args below meth c H locs 0 0 (g_MQ below D aC B yM 44 args s (some (.int q0)) mem) (F0 m 2 ls [])) : ∀ (v2 : Int32) (H : Heap) (locs : List Loc) (ls : Array Slot), g_At D aC B yM 44 mem s.heap H locs → lv_has ls 3 [(0, .ref (B + 0)), (1, .int a1), (2, .int v2)] → f11_isSo_b76 F a1 s2 mem v2 = some q0 → W p l e (g_rm 2) s m args below meth c H locs 0 0 (g_MQ below D aC B yM 44 args s (some (.int q0)) mem) (F0 m 76 ls []) := by
  intro v2 H locs ls hM hl he
  unfold f11_isSo_b76 at he
  have hx := E.1
  have hb := E.2.1
  have hown := E.2.2.1
  have hts := E.2.2.2.1
  obtain ⟨x1, hx1, he⟩ := g_let_ex he
  refine lv_iinc (v := x1) (lv' := [(2, .int x1), (0, .ref (B + 0)), (1, .int a1)]) hx hb dX11_isSo_76 hl (k := 2) rfl (by rw [hx1]; rfl) (by decide) rfl (fun ls hl => ?_)
  refine lv_goto (tgt := 2) hx hb dX11_isSo_79 (by decide) ?_
  exact hs2 _ _ _ _ hM (lv_sub hl [1, 2, 0] rfl) he

set_option maxHeartbeats 4000000 in
set_option maxRecDepth 100000 in
theorem w11_isSo_b65 (E : g_C p s m args c cX11_isSo RX11 D aC (g_Zs (g_A B 44))) (hml : c.maxLocals = 3) (hret : meth.sig.returnType = (some .boolean)) (hlk : meth.locks = false) {F : Nat} {q0 : Int32} {a1 : Int32} {mem : g_M} {s2 : Int32 → Option (Int32)} (hs2 : ∀ (v2 : Int32) (H : Heap) (locs : List Loc) (ls : Array Slot), g_At D aC B yM 44 mem s.heap H locs → lv_has ls 3 [(0, .ref (B + 0)), (1, .int a1), (2, .int v2)] → s2 v2 = some q0 → W p l e (g_rm 2) s m args below meth c H locs 0 0 (g_MQ below D aC B yM 44 args s (some (.int q0)) mem) (F0 m 2 ls [])) : ∀ (v2 : Int32) (w0 : Int32) (H : Heap) (locs : List Loc) (ls : Array Slot), g_At D aC B yM 44 mem s.heap H locs → lv_has ls 3 [(0, .ref (B + 0)), (1, .int a1), (2, .int v2)] → f11_isSo_b65 F a1 s2 mem v2 w0 = some q0 → W p l e (g_rm 2) s m args below meth c H locs 0 0 (g_MQ below D aC B yM 44 args s (some (.int q0)) mem) (F0 m 65 ls [.int w0]) := by
  intro v2 w0 H locs ls hM hl he
  unfold f11_isSo_b65 at he
  have hx := E.1
  have hb := E.2.1
  have hown := E.2.2.1
  have hts := E.2.2.2.1
  refine lv_aload_n hx hb dX11_isSo_65 rfl (lv_at hl 0 rfl) ?_
  refine g_getP E hM (o := 0) (Nat.le_of_ble_eq_true rfl) rfl fl_X11_144 (q := 41) rfl dX11_isSo_66 ?_
  refine lv_iload_n hx hb dX11_isSo_69 rfl (lv_at hl 2 rfl) ?_
  obtain ⟨h2, he⟩ := g_ck_some he
  refine g_zald E hM (o := 41) (Nat.le_of_ble_eq_true rfl) rfl h2 dX11_isSo_70 ?_
  refine lv_icmp_eq (tgt := 76) hx hb dX11_isSo_71 (by decide) (fun h3 => ?_) (fun h3 => ?_)
  · rw [if_pos h3] at he
    exact w11_isSo_b76 (F := F) (a1 := a1) E hml hret hlk hs2 _ _ _ _ hM (lv_sub hl [0, 1, 2] rfl) he
  · rw [if_neg h3] at he
    refine lv_iconst (v := (0 : Int32)) hx hb dX11_isSo_74 rfl ?_
    cases he
    exact g_zret E hM hret hlk (Or.inl rfl) dX11_isSo_75

set_option maxHeartbeats 4000000 in
set_option maxRecDepth 100000 in
theorem w11_isSo_b2_body (E : g_C p s m args c cX11_isSo RX11 D aC (g_Zs (g_A B 44))) (hml : c.maxLocals = 3) (hret : meth.sig.returnType = (some .boolean)) (hlk : meth.locks = false) {F : Nat} {q0 : Int32} {a1 : Int32} {mem : g_M} {s2 : Int32 → Option (Int32)} (hs2 : ∀ (v2 : Int32) (H : Heap) (locs : List Loc) (ls : Array Slot), g_At D aC B yM 44 mem s.heap H locs → lv_has ls 3 [(0, .ref (B + 0)), (1, .int a1), (2, .int v2)] → s2 v2 = some q0 → W p l e (g_rm 2) s m args below meth c H locs 0 0 (g_MQ below D aC B yM 44 args s (some (.int q0)) mem) (F0 m 2 ls [])) : ∀ (v2 : Int32) (H : Heap) (locs : List Loc) (ls : Array Slot), g_At D aC B yM 44 mem s.heap H locs → lv_has ls 3 [(0, .ref (B + 0)), (1, .int a1), (2, .int v2)] → f11_isSo_b2_body F a1 s2 mem v2 = some q0 → W p l e (g_rm 2) s m args below meth c H locs 0 0 (g_MQ below D aC B yM 44 args s (some (.int q0)) mem) (F0 m 2 ls []) := by
  intro v2 H locs ls hM hl he
  unfold f11_isSo_b2_body at he
  have hx := E.1
  have hb := E.2.1
  have hown := E.2.2.1
  have hts := E.2.2.2.1
  refine lv_iload_n hx hb dX11_isSo_2 rfl (lv_at hl 2 rfl) ?_
  refine lv_aload_n hx hb dX11_isSo_3 rfl (lv_at hl 0 rfl) ?_
  obtain ⟨r4, hcr4, he⟩ := g_bind he
  refine g_callV [] (rest := [.int v2]) E hml hl.1 hM cv_X11_520 (c11_knownMany l D aC B hcr4) (o := 0) (Nat.le_of_ble_eq_true rfl) rfl (by decide) rfl rfl (Nat.le_of_ble_eq_true rfl) dX11_isSo_4 (fun H locs hM => ?_)
  refine W.eq (g2 := F0 m 7 ls [.int r4, .int v2]) rfl ?_
  refine lv_icmp_ge (tgt := 82) hx hb dX11_isSo_7 (by decide) (fun h5 => ?_) (fun h5 => ?_)
  · rw [if_neg (Int32.not_lt.mpr h5)] at he
    refine lv_iconst (v := (1 : Int32)) hx hb dX11_isSo_82 rfl ?_
    cases he
    exact g_zret E hM hret hlk (Or.inr rfl) dX11_isSo_83
  · rw [if_pos (Int32.not_le.mp h5)] at he
    refine lv_aload_n hx hb dX11_isSo_10 rfl (lv_at hl 0 rfl) ?_
    refine g_getP E hM (o := 0) (Nat.le_of_ble_eq_true rfl) rfl fl_X11_151 (q := 43) rfl dX11_isSo_11 ?_
    refine lv_iload_n hx hb dX11_isSo_14 rfl (lv_at hl 2 rfl) ?_
    obtain ⟨h6, he⟩ := g_ck_some he
    refine g_zald E hM (o := 43) (Nat.le_of_ble_eq_true rfl) rfl h6 dX11_isSo_15 ?_
    refine lv_if_ne (tgt := 76) hx hb dX11_isSo_16 (by decide) (fun h7 => ?_) (fun h7 => ?_)
    · rw [if_neg h7] at he
      exact w11_isSo_b76 (F := F) (a1 := a1) E hml hret hlk hs2 _ _ _ _ hM (lv_sub hl [0, 1, 2] rfl) he
    · rw [if_pos h7] at he
      refine lv_aload_n hx hb dX11_isSo_19 rfl (lv_at hl 0 rfl) ?_
      refine g_getP E hM (o := 0) (Nat.le_of_ble_eq_true rfl) rfl fl_X11_148 (q := 42) rfl dX11_isSo_20 ?_
      refine lv_iload_n hx hb dX11_isSo_23 rfl (lv_at hl 2 rfl) ?_
      obtain ⟨h8, he⟩ := g_ck_some he
      refine g_iald E hM (o := 42) (Nat.le_of_ble_eq_true rfl) rfl h8 dX11_isSo_24 ?_
      refine lv_iconst (v := (-1 : Int32)) hx hb dX11_isSo_25 rfl ?_
      refine lv_icmp_ne (tgt := 76) hx hb dX11_isSo_26 (by decide) (fun h9 => ?_) (fun h9 => ?_)
      · rw [if_neg h9] at he
        exact w11_isSo_b76 (F := F) (a1 := a1) E hml hret hlk hs2 _ _ _ _ hM (lv_sub hl [0, 1, 2] rfl) he
      · rw [if_pos h9] at he
        refine lv_aload_n hx hb dX11_isSo_29 rfl (lv_at hl 0 rfl) ?_
        refine g_getP E hM (o := 0) (Nat.le_of_ble_eq_true rfl) rfl fl_X11_138 (q := 39) rfl dX11_isSo_30 ?_
        refine lv_iload_n hx hb dX11_isSo_33 rfl (lv_at hl 2 rfl) ?_
        obtain ⟨h10, he⟩ := g_ck_some he
        refine g_iald E hM (o := 39) (Nat.le_of_ble_eq_true rfl) rfl h10 dX11_isSo_34 ?_
        refine lv_iload_n hx hb dX11_isSo_35 rfl (lv_at hl 1 rfl) ?_
        refine lv_icmp_eq (tgt := 42) hx hb dX11_isSo_36 (by decide) (fun h11 => ?_) (fun h11 => ?_)
        · rw [if_pos h11] at he
          refine lv_aload_n hx hb dX11_isSo_42 rfl (lv_at hl 0 rfl) ?_
          refine g_getP E hM (o := 0) (Nat.le_of_ble_eq_true rfl) rfl fl_X11_102 (q := 30) rfl dX11_isSo_43 ?_
          refine lv_bipush (v := (25 : Int32)) hx hb dX11_isSo_46 rfl ?_
          refine lv_aload_n hx hb dX11_isSo_48 rfl (lv_at hl 0 rfl) ?_
          refine g_getP E hM (o := 0) (Nat.le_of_ble_eq_true rfl) rfl fl_X11_141 (q := 40) rfl dX11_isSo_49 ?_
          refine lv_iload_n hx hb dX11_isSo_52 rfl (lv_at hl 2 rfl) ?_
          obtain ⟨h12, he⟩ := g_ck_some he
          refine g_iald E hM (o := 40) (Nat.le_of_ble_eq_true rfl) rfl h12 dX11_isSo_53 ?_
          refine lv_iadd hx hb dX11_isSo_54 ?_
          obtain ⟨h13, he⟩ := g_ck_some he
          refine g_iald E hM (o := 30) (Nat.le_of_ble_eq_true rfl) rfl h13 dX11_isSo_55 ?_
          refine lv_iconst (v := (1 : Int32)) hx hb dX11_isSo_56 rfl ?_
          refine lv_icmp_ne (tgt := 64) hx hb dX11_isSo_57 (by decide) (fun h14 => ?_) (fun h14 => ?_)
          · rw [if_neg h14] at he
            refine lv_iconst (v := (0 : Int32)) hx hb dX11_isSo_64 rfl ?_
            exact w11_isSo_b65 (F := F) (a1 := a1) E hml hret hlk hs2 _ _ _ _ _ hM (lv_sub hl [0, 1, 2] rfl) he
          · rw [if_pos h14] at he
            refine lv_iconst (v := (1 : Int32)) hx hb dX11_isSo_60 rfl ?_
            refine lv_goto (tgt := 65) hx hb dX11_isSo_61 (by decide) ?_
            exact w11_isSo_b65 (F := F) (a1 := a1) E hml hret hlk hs2 _ _ _ _ _ hM (lv_sub hl [0, 1, 2] rfl) he
        · rw [if_neg h11] at he
          refine lv_goto (tgt := 76) hx hb dX11_isSo_39 (by decide) ?_
          exact w11_isSo_b76 (F := F) (a1 := a1) E hml hret hlk hs2 _ _ _ _ hM (lv_sub hl [0, 1, 2] rfl) he

set_option maxHeartbeats 4000000 in
set_option maxRecDepth 100000 in
theorem w11_isSo_b2 (E : g_C p s m args c cX11_isSo RX11 D aC (g_Zs (g_A B 44))) (hml : c.maxLocals = 3) (hret : meth.sig.returnType = (some .boolean)) (hlk : meth.locks = false) {F : Nat} {q0 : Int32} {a1 : Int32} {mem : g_M} : ∀ (v2 : Int32) (H : Heap) (locs : List Loc) (ls : Array Slot), g_At D aC B yM 44 mem s.heap H locs → lv_has ls 3 [(0, .ref (B + 0)), (1, .int a1), (2, .int v2)] → f11_isSo_b2 F a1 mem v2 = some q0 → W p l e (g_rm 2) s m args below meth c H locs 0 0 (g_MQ below D aC B yM 44 args s (some (.int q0)) mem) (F0 m 2 ls []) := by
  have key : ∀ (nn : Nat) (x : Int32) (H : Heap) (locs : List Loc) (ls : Array Slot), g_At D aC B yM 44 mem s.heap H locs → lv_has ls 3 [(0, .ref (B + 0)), (1, .int a1), (2, .int x)] → g_fix (fun sf x => f11_isSo_b2_body F a1 (fun v2 => sf v2) mem x) nn x = some q0 → W p l e (g_rm 2) s m args below meth c H locs 0 0 (g_MQ below D aC B yM 44 args s (some (.int q0)) mem) (F0 m 2 ls []) := by
    intro nn
    induction nn with
    | zero => intro x H locs ls hM hl he; simp [g_fix] at he
    | succ nn ih =>
      intro x H locs ls hM hl he
      exact w11_isSo_b2_body (F := F) (a1 := a1) E hml hret hlk (fun v2 H locs ls hM hl he => ih v2 H locs ls hM hl he) x H locs ls hM hl he
  intro v2 H locs ls hM hl he
  exact key F v2 H locs ls hM hl he

set_option maxHeartbeats 4000000 in
set_option maxRecDepth 100000 in
theorem c11_isSo (l : Launch) (D : va_G) (aC : Nat → ClassId) (B : Nat) {F : Nat} {a1 : Int32} {mem : g_M} {q0 : Int32} (he : f11_isSo F a1 mem = some q0) : g_Met l yX11_isSo cX11_isSo 3 (some .boolean) 2 D aC B yM 44 mem [.ref (B + 0), .int a1] (some (.int q0)) mem := by
  refine g_ofW (by decide) (Nat.le_of_ble_eq_true rfl) ?_
  intro p e s m args below meth c ls E hml hret hlk hM hl
  have E : g_C p s m args c cX11_isSo RX11 D aC (g_Zs (g_A B 44)) := E
  have hx := E.1
  have hb := E.2.1
  have hown := E.2.2.1
  have hts := E.2.2.2.1
  have hl : lv_has ls 3 [(0, .ref (B + 0)), (1, .int a1)] := hl
  unfold f11_isSo at he
  refine lv_iconst (v := (0 : Int32)) hx hb dX11_isSo_0 rfl ?_
  refine lv_istore_n (lv' := [(2, .int (0 : Int32)), (0, .ref (B + 0)), (1, .int a1)]) hx hb dX11_isSo_1 rfl hl (by decide) rfl (fun ls hl => ?_)
  exact w11_isSo_b2 (F := F) (a1 := a1) E hml hret hlk _ _ _ _ hM (lv_sub hl [1, 2, 0] rfl) he

set_option maxHeartbeats 4000000 in
set_option maxRecDepth 100000 in
theorem w11_fitsRoom_b7_body (E : g_C p s m args c cX11_fitsRoom RX11 D aC (g_Zs (g_A B 44))) (hml : c.maxLocals = 3) (hret : meth.sig.returnType = (some .boolean)) (hlk : meth.locks = false) {F : Nat} {q0 : Int32 × g_M} {a1 : Int32} {s7 : Int32 → g_M → Option (Int32 × g_M)} (hs7 : ∀ (v2 : Int32) (mem : g_M) (H : Heap) (locs : List Loc) (ls : Array Slot), g_At D aC B yM 44 mem s.heap H locs → lv_has ls 3 [(0, .ref (B + 0)), (1, .int a1), (2, .int v2)] → s7 v2 mem = some q0 → W p l e (g_rm 8) s m args below meth c H locs 0 0 (g_MQ below D aC B yM 44 args s (some (.int q0.1)) q0.2) (F0 m 7 ls [])) : ∀ (v2 : Int32) (mem : g_M) (H : Heap) (locs : List Loc) (ls : Array Slot), g_At D aC B yM 44 mem s.heap H locs → lv_has ls 3 [(0, .ref (B + 0)), (1, .int a1), (2, .int v2)] → f11_fitsRoom_b7_body F a1 s7 v2 mem = some q0 → W p l e (g_rm 8) s m args below meth c H locs 0 0 (g_MQ below D aC B yM 44 args s (some (.int q0.1)) q0.2) (F0 m 7 ls []) := by
  intro v2 mem H locs ls hM hl he
  unfold f11_fitsRoom_b7_body at he
  have hx := E.1
  have hb := E.2.1
  have hown := E.2.2.1
  have hts := E.2.2.2.1
  refine lv_iload_n hx hb dX11_fitsRoom_7 rfl (lv_at hl 2 rfl) ?_
  refine lv_iload_n hx hb dX11_fitsRoom_8 rfl (lv_at hl 1 rfl) ?_
  refine lv_icmp_gt (tgt := 34) hx hb dX11_fitsRoom_9 (by decide) (fun h1 => ?_) (fun h1 => ?_)
  · rw [if_neg (Int32.not_le.mpr h1)] at he
    refine lv_iconst (v := (1 : Int32)) hx hb dX11_fitsRoom_34 rfl ?_
    cases he
    exact g_zret E hM hret hlk (Or.inr rfl) dX11_fitsRoom_35
  · rw [if_pos (Int32.not_lt.mp h1)] at he
    refine lv_aload_n hx hb dX11_fitsRoom_12 rfl (lv_at hl 0 rfl) ?_
    refine lv_iconst (v := (1 : Int32)) hx hb dX11_fitsRoom_13 rfl ?_
    refine lv_iconst (v := (0 : Int32)) hx hb dX11_fitsRoom_14 rfl ?_
    obtain ⟨r2, hcr2, he⟩ := g_bind he
    refine g_callV [.int (1 : Int32), .int (0 : Int32)] (rest := []) E hml hl.1 hM cv_X11_416 (c11_passes l D aC B hcr2) (o := 0) (Nat.le_of_ble_eq_true rfl) rfl (by decide) rfl rfl (Nat.le_of_ble_eq_true rfl) dX11_fitsRoom_15 (fun H locs hM => ?_)
    refine W.eq (g2 := F0 m 18 ls []) rfl ?_
    refine lv_aload_n hx hb dX11_fitsRoom_18 rfl (lv_at hl 0 rfl) ?_
    refine lv_iload_n hx hb dX11_fitsRoom_19 rfl (lv_at hl 2 rfl) ?_
    obtain ⟨r3, hcr3, he⟩ := g_bind he
    refine g_callV [.int v2] (rest := []) E hml hl.1 hM cv_X11_523 (c11_isSo l D aC B hcr3) (o := 0) (Nat.le_of_ble_eq_true rfl) rfl (by decide) rfl rfl (Nat.le_of_ble_eq_true rfl) dX11_fitsRoom_20 (fun H locs hM => ?_)
    refine W.eq (g2 := F0 m 23 ls [.int r3]) rfl ?_
    refine lv_if_ne (tgt := 28) hx hb dX11_fitsRoom_23 (by decide) (fun h4 => ?_) (fun h4 => ?_)
    · rw [if_neg h4] at he
      obtain ⟨x5, hx5, he⟩ := g_let_ex he
      refine lv_iinc (v := x5) (lv' := [(2, .int x5), (0, .ref (B + 0)), (1, .int a1)]) hx hb dX11_fitsRoom_28 hl (k := 2) rfl (by rw [hx5]; rfl) (by decide) rfl (fun ls hl => ?_)
      refine lv_goto (tgt := 7) hx hb dX11_fitsRoom_31 (by decide) ?_
      exact hs7 _ _ _ _ _ hM (lv_sub hl [1, 2, 0] rfl) he
    · rw [if_pos h4] at he
      refine lv_iconst (v := (0 : Int32)) hx hb dX11_fitsRoom_26 rfl ?_
      cases he
      exact g_zret E hM hret hlk (Or.inl rfl) dX11_fitsRoom_27

set_option maxHeartbeats 4000000 in
set_option maxRecDepth 100000 in
theorem w11_fitsRoom_b7 (E : g_C p s m args c cX11_fitsRoom RX11 D aC (g_Zs (g_A B 44))) (hml : c.maxLocals = 3) (hret : meth.sig.returnType = (some .boolean)) (hlk : meth.locks = false) {F : Nat} {q0 : Int32 × g_M} {a1 : Int32} : ∀ (v2 : Int32) (mem : g_M) (H : Heap) (locs : List Loc) (ls : Array Slot), g_At D aC B yM 44 mem s.heap H locs → lv_has ls 3 [(0, .ref (B + 0)), (1, .int a1), (2, .int v2)] → f11_fitsRoom_b7 F a1 v2 mem = some q0 → W p l e (g_rm 8) s m args below meth c H locs 0 0 (g_MQ below D aC B yM 44 args s (some (.int q0.1)) q0.2) (F0 m 7 ls []) := by
  have key : ∀ (nn : Nat) (x : Int32 × g_M) (H : Heap) (locs : List Loc) (ls : Array Slot), g_At D aC B yM 44 x.2 s.heap H locs → lv_has ls 3 [(0, .ref (B + 0)), (1, .int a1), (2, .int x.1)] → g_fix (fun sf x => f11_fitsRoom_b7_body F a1 (fun v2 mem => sf (v2, mem)) x.1 x.2) nn x = some q0 → W p l e (g_rm 8) s m args below meth c H locs 0 0 (g_MQ below D aC B yM 44 args s (some (.int q0.1)) q0.2) (F0 m 7 ls []) := by
    intro nn
    induction nn with
    | zero => intro x H locs ls hM hl he; simp [g_fix] at he
    | succ nn ih =>
      intro x H locs ls hM hl he
      exact w11_fitsRoom_b7_body (F := F) (a1 := a1) E hml hret hlk (fun v2 mem H locs ls hM hl he => ih (v2, mem) H locs ls hM hl he) x.1 x.2 H locs ls hM hl he
  intro v2 mem H locs ls hM hl he
  exact key F (v2, mem) H locs ls hM hl he

set_option maxHeartbeats 4000000 in
set_option maxRecDepth 100000 in
theorem c11_fitsRoom (l : Launch) (D : va_G) (aC : Nat → ClassId) (B : Nat) {F : Nat} {a1 : Int32} {mem : g_M} {q0 : Int32 × g_M} (he : f11_fitsRoom F a1 mem = some q0) : g_Met l yX11_fitsRoom cX11_fitsRoom 3 (some .boolean) 8 D aC B yM 44 mem [.ref (B + 0), .int a1] (some (.int q0.1)) q0.2 := by
  refine g_ofW (by decide) (Nat.le_of_ble_eq_true rfl) ?_
  intro p e s m args below meth c ls E hml hret hlk hM hl
  have E : g_C p s m args c cX11_fitsRoom RX11 D aC (g_Zs (g_A B 44)) := E
  have hx := E.1
  have hb := E.2.1
  have hown := E.2.2.1
  have hts := E.2.2.2.1
  have hl : lv_has ls 3 [(0, .ref (B + 0)), (1, .int a1)] := hl
  unfold f11_fitsRoom at he
  refine lv_aload_n hx hb dX11_fitsRoom_0 rfl (lv_at hl 0 rfl) ?_
  refine lv_iconst (v := (1 : Int32)) hx hb dX11_fitsRoom_1 rfl ?_
  obtain ⟨r6, hcr6, he⟩ := g_bind he
  refine g_callV [.int (1 : Int32)] (rest := []) E hml hl.1 hM cv_X11_343 (c11_starts l D aC B hcr6) (o := 0) (Nat.le_of_ble_eq_true rfl) rfl (by decide) rfl rfl (Nat.le_of_ble_eq_true rfl) dX11_fitsRoom_2 (fun H locs hM => ?_)
  refine W.eq (g2 := F0 m 5 ls []) rfl ?_
  refine lv_iconst (v := (1 : Int32)) hx hb dX11_fitsRoom_5 rfl ?_
  refine lv_istore_n (lv' := [(2, .int (1 : Int32)), (0, .ref (B + 0)), (1, .int a1)]) hx hb dX11_fitsRoom_6 rfl hl (by decide) rfl (fun ls hl => ?_)
  exact w11_fitsRoom_b7 (F := F) (a1 := a1) E hml hret hlk _ _ _ _ _ hM (lv_sub hl [1, 2, 0] rfl) he

set_option maxHeartbeats 4000000 in
set_option maxRecDepth 100000 in
theorem w11_rooms_b72 (E : g_C p s m args c cX11_rooms RX11 D aC (g_Zs (g_A B 44))) (hml : c.maxLocals = 4) (hret : meth.sig.returnType = (some .int)) (hlk : meth.locks = false) {F : Nat} {q0 : Int32 × g_M} {s37 : Int32 → Int32 → g_M → Option (Int32 × g_M)} (hs37 : ∀ (v1 : Int32) (v2 : Int32) (mem : g_M) (H : Heap) (locs : List Loc) (ls : Array Slot), g_At D aC B yM 44 mem s.heap H locs → lv_has ls 4 [(0, .ref (B + 0)), (1, .int v1), (2, .int v2)] → s37 v1 v2 mem = some q0 → W p l e (g_rm 9) s m args below meth c H locs 0 0 (g_MQ below D aC B yM 44 args s (some (.int q0.1)) q0.2) (F0 m 37 ls [])) : ∀ (v1 : Int32) (v2 : Int32) (mem : g_M) (H : Heap) (locs : List Loc) (ls : Array Slot), g_At D aC B yM 44 mem s.heap H locs → lv_has ls 4 [(0, .ref (B + 0)), (1, .int v1), (2, .int v2)] → f11_rooms_b72 F s37 v1 v2 mem = some q0 → W p l e (g_rm 9) s m args below meth c H locs 0 0 (g_MQ below D aC B yM 44 args s (some (.int q0.1)) q0.2) (F0 m 72 ls []) := by
  intro v1 v2 mem H locs ls hM hl he
  unfold f11_rooms_b72 at he
  have hx := E.1
  have hb := E.2.1
  have hown := E.2.2.1
  have hts := E.2.2.2.1
  obtain ⟨x1, hx1, he⟩ := g_let_ex he
  refine lv_iinc (v := x1) (lv' := [(2, .int x1), (0, .ref (B + 0)), (1, .int v1)]) hx hb dX11_rooms_72 hl (k := 2) rfl (by rw [hx1]; rfl) (by decide) rfl (fun ls hl => ?_)
  refine lv_goto (tgt := 37) hx hb dX11_rooms_75 (by decide) ?_
  exact hs37 _ _ _ _ _ _ hM (lv_sub hl [1, 2, 0] rfl) he

set_option maxHeartbeats 4000000 in
set_option maxRecDepth 100000 in
theorem w11_rooms_b118 (E : g_C p s m args c cX11_rooms RX11 D aC (g_Zs (g_A B 44))) (hml : c.maxLocals = 4) (hret : meth.sig.returnType = (some .int)) (hlk : meth.locks = false) {F : Nat} {q0 : Int32 × g_M} {s80 : Int32 → Int32 → g_M → Option (Int32 × g_M)} (hs80 : ∀ (v1 : Int32) (v2 : Int32) (mem : g_M) (H : Heap) (locs : List Loc) (ls : Array Slot), g_At D aC B yM 44 mem s.heap H locs → lv_has ls 4 [(0, .ref (B + 0)), (1, .int v1), (2, .int v2)] → s80 v1 v2 mem = some q0 → W p l e (g_rm 9) s m args below meth c H locs 0 0 (g_MQ below D aC B yM 44 args s (some (.int q0.1)) q0.2) (F0 m 80 ls [])) : ∀ (v1 : Int32) (v2 : Int32) (mem : g_M) (H : Heap) (locs : List Loc) (ls : Array Slot), g_At D aC B yM 44 mem s.heap H locs → lv_has ls 4 [(0, .ref (B + 0)), (1, .int v1), (2, .int v2)] → f11_rooms_b118 F s80 v1 v2 mem = some q0 → W p l e (g_rm 9) s m args below meth c H locs 0 0 (g_MQ below D aC B yM 44 args s (some (.int q0.1)) q0.2) (F0 m 118 ls []) := by
  intro v1 v2 mem H locs ls hM hl he
  unfold f11_rooms_b118 at he
  have hx := E.1
  have hb := E.2.1
  have hown := E.2.2.1
  have hts := E.2.2.2.1
  obtain ⟨x2, hx2, he⟩ := g_let_ex he
  refine lv_iinc (v := x2) (lv' := [(2, .int x2), (0, .ref (B + 0)), (1, .int v1)]) hx hb dX11_rooms_118 hl (k := 2) rfl (by rw [hx2]; rfl) (by decide) rfl (fun ls hl => ?_)
  refine lv_goto (tgt := 80) hx hb dX11_rooms_121 (by decide) ?_
  exact hs80 _ _ _ _ _ _ hM (lv_sub hl [1, 2, 0] rfl) he

set_option maxHeartbeats 4000000 in
set_option maxRecDepth 100000 in
theorem w11_rooms_b157 (E : g_C p s m args c cX11_rooms RX11 D aC (g_Zs (g_A B 44))) (hml : c.maxLocals = 4) (hret : meth.sig.returnType = (some .int)) (hlk : meth.locks = false) {F : Nat} {q0 : Int32 × g_M} {s128 : Int32 → Int32 → Int32 → g_M → Option (Int32 × g_M)} (hs128 : ∀ (v1 : Int32) (v2 : Int32) (v3 : Int32) (mem : g_M) (H : Heap) (locs : List Loc) (ls : Array Slot), g_At D aC B yM 44 mem s.heap H locs → lv_has ls 4 [(0, .ref (B + 0)), (1, .int v1), (2, .int v2), (3, .int v3)] → s128 v1 v2 v3 mem = some q0 → W p l e (g_rm 9) s m args below meth c H locs 0 0 (g_MQ below D aC B yM 44 args s (some (.int q0.1)) q0.2) (F0 m 128 ls [])) : ∀ (v1 : Int32) (v3 : Int32) (w0 : Int32) (w1 : Int32) (mem : g_M) (H : Heap) (locs : List Loc) (ls : Array Slot), g_At D aC B yM 44 mem s.heap H locs → lv_has ls 4 [(0, .ref (B + 0)), (1, .int v1), (3, .int v3)] → f11_rooms_b157 F s128 v1 v3 w0 w1 mem = some q0 → W p l e (g_rm 9) s m args below meth c H locs 0 0 (g_MQ below D aC B yM 44 args s (some (.int q0.1)) q0.2) (F0 m 157 ls [.int w1, .int w0]) := by
  intro v1 v3 w0 w1 mem H locs ls hM hl he
  unfold f11_rooms_b157 at he
  have hx := E.1
  have hb := E.2.1
  have hown := E.2.2.1
  have hts := E.2.2.2.1
  refine lv_ior hx hb dX11_rooms_157 ?_
  obtain ⟨x3, hx3, he⟩ := g_let_ex he
  refine g_topI hx3 ?_
  refine lv_istore_n (lv' := [(2, .int x3), (0, .ref (B + 0)), (1, .int v1), (3, .int v3)]) hx hb dX11_rooms_158 rfl hl (by decide) rfl (fun ls hl => ?_)
  obtain ⟨x4, hx4, he⟩ := g_let_ex he
  refine lv_iinc (v := x4) (lv' := [(3, .int x4), (2, .int x3), (0, .ref (B + 0)), (1, .int v1)]) hx hb dX11_rooms_159 hl (k := 3) rfl (by rw [hx4]; rfl) (by decide) rfl (fun ls hl => ?_)
  refine lv_goto (tgt := 128) hx hb dX11_rooms_162 (by decide) ?_
  exact hs128 _ _ _ _ _ _ _ hM (lv_sub hl [2, 3, 1, 0] rfl) he

set_option maxHeartbeats 4000000 in
set_option maxRecDepth 100000 in
theorem w11_rooms_b128_body (E : g_C p s m args c cX11_rooms RX11 D aC (g_Zs (g_A B 44))) (hml : c.maxLocals = 4) (hret : meth.sig.returnType = (some .int)) (hlk : meth.locks = false) {F : Nat} {q0 : Int32 × g_M} {s128 : Int32 → Int32 → Int32 → g_M → Option (Int32 × g_M)} (hs128 : ∀ (v1 : Int32) (v2 : Int32) (v3 : Int32) (mem : g_M) (H : Heap) (locs : List Loc) (ls : Array Slot), g_At D aC B yM 44 mem s.heap H locs → lv_has ls 4 [(0, .ref (B + 0)), (1, .int v1), (2, .int v2), (3, .int v3)] → s128 v1 v2 v3 mem = some q0 → W p l e (g_rm 9) s m args below meth c H locs 0 0 (g_MQ below D aC B yM 44 args s (some (.int q0.1)) q0.2) (F0 m 128 ls [])) : ∀ (v1 : Int32) (v2 : Int32) (v3 : Int32) (mem : g_M) (H : Heap) (locs : List Loc) (ls : Array Slot), g_At D aC B yM 44 mem s.heap H locs → lv_has ls 4 [(0, .ref (B + 0)), (1, .int v1), (2, .int v2), (3, .int v3)] → f11_rooms_b128_body F s128 v1 v2 v3 mem = some q0 → W p l e (g_rm 9) s m args below meth c H locs 0 0 (g_MQ below D aC B yM 44 args s (some (.int q0.1)) q0.2) (F0 m 128 ls []) := by
  intro v1 v2 v3 mem H locs ls hM hl he
  unfold f11_rooms_b128_body at he
  have hx := E.1
  have hb := E.2.1
  have hown := E.2.2.1
  have hts := E.2.2.2.1
  refine lv_iload_n hx hb dX11_rooms_128 rfl (lv_at hl 3 rfl) ?_
  refine lv_bipush (v := (10 : Int32)) hx hb dX11_rooms_129 rfl ?_
  refine lv_icmp_ge (tgt := 165) hx hb dX11_rooms_131 (by decide) (fun h5 => ?_) (fun h5 => ?_)
  · rw [if_neg (Int32.not_lt.mpr h5)] at he
    refine lv_aload_n hx hb dX11_rooms_165 rfl (lv_at hl 0 rfl) ?_
    refine lv_iconst (v := (-1 : Int32)) hx hb dX11_rooms_166 rfl ?_
    refine g_putI E hM (o := 0) (Nat.le_of_ble_eq_true rfl) rfl fp_X11_123 dX11_rooms_167 (fun H locs hM => ?_)
    obtain ⟨m9, hm9, he⟩ := g_let_ex he
    rw [← hm9] at hM
    refine lv_iload_n hx hb dX11_rooms_170 rfl (lv_at hl 2 rfl) ?_
    cases he
    exact g_iret E hM hret hlk dX11_rooms_171
  · rw [if_pos (Int32.not_le.mp h5)] at he
    refine lv_aload_n hx hb dX11_rooms_134 rfl (lv_at hl 0 rfl) ?_
    refine lv_iload_n hx hb dX11_rooms_135 rfl (lv_at hl 3 rfl) ?_
    refine lv_iconst (v := (1 : Int32)) hx hb dX11_rooms_136 rfl ?_
    refine lv_iadd hx hb dX11_rooms_137 ?_
    refine g_putI E hM (o := 0) (Nat.le_of_ble_eq_true rfl) rfl fp_X11_123 dX11_rooms_138 (fun H locs hM => ?_)
    obtain ⟨m6, hm6, he⟩ := g_let_ex he
    rw [← hm6] at hM
    refine lv_iload_n hx hb dX11_rooms_141 rfl (lv_at hl 2 rfl) ?_
    refine lv_aload_n hx hb dX11_rooms_142 rfl (lv_at hl 0 rfl) ?_
    refine lv_iload_n hx hb dX11_rooms_143 rfl (lv_at hl 1 rfl) ?_
    obtain ⟨r7, hcr7, he⟩ := g_bind he
    refine g_callV [.int v1] (rest := [.int v2]) E hml hl.1 hM cv_X11_528 (c11_fitsRoom l D aC B hcr7) (o := 0) (Nat.le_of_ble_eq_true rfl) rfl (by decide) rfl rfl (Nat.le_of_ble_eq_true rfl) dX11_rooms_144 (fun H locs hM => ?_)
    refine W.eq (g2 := F0 m 147 ls [.int r7.1, .int v2]) rfl ?_
    refine lv_if_eq (tgt := 156) hx hb dX11_rooms_147 (by decide) (fun h8 => ?_) (fun h8 => ?_)
    · rw [if_pos h8] at he
      refine lv_iconst (v := (0 : Int32)) hx hb dX11_rooms_156 rfl ?_
      exact w11_rooms_b157 (F := F) E hml hret hlk hs128 _ _ _ _ _ _ _ _ hM (lv_sub hl [0, 1, 3] rfl) he
    · rw [if_neg h8] at he
      refine lv_iconst (v := (1 : Int32)) hx hb dX11_rooms_150 rfl ?_
      refine lv_iload_n hx hb dX11_rooms_151 rfl (lv_at hl 3 rfl) ?_
      refine lv_ishl hx hb dX11_rooms_152 ?_
      refine lv_goto (tgt := 157) hx hb dX11_rooms_153 (by decide) ?_
      exact w11_rooms_b157 (F := F) E hml hret hlk hs128 _ _ _ _ _ _ _ _ hM (lv_sub hl [0, 1, 3] rfl) he

set_option maxHeartbeats 4000000 in
set_option maxRecDepth 100000 in
theorem w11_rooms_b128 (E : g_C p s m args c cX11_rooms RX11 D aC (g_Zs (g_A B 44))) (hml : c.maxLocals = 4) (hret : meth.sig.returnType = (some .int)) (hlk : meth.locks = false) {F : Nat} {q0 : Int32 × g_M} : ∀ (v1 : Int32) (v2 : Int32) (v3 : Int32) (mem : g_M) (H : Heap) (locs : List Loc) (ls : Array Slot), g_At D aC B yM 44 mem s.heap H locs → lv_has ls 4 [(0, .ref (B + 0)), (1, .int v1), (2, .int v2), (3, .int v3)] → f11_rooms_b128 F v1 v2 v3 mem = some q0 → W p l e (g_rm 9) s m args below meth c H locs 0 0 (g_MQ below D aC B yM 44 args s (some (.int q0.1)) q0.2) (F0 m 128 ls []) := by
  have key : ∀ (nn : Nat) (x : Int32 × Int32 × Int32 × g_M) (H : Heap) (locs : List Loc) (ls : Array Slot), g_At D aC B yM 44 x.2.2.2 s.heap H locs → lv_has ls 4 [(0, .ref (B + 0)), (1, .int x.1), (2, .int x.2.1), (3, .int x.2.2.1)] → g_fix (fun sf x => f11_rooms_b128_body F (fun v1 v2 v3 mem => sf (v1, v2, v3, mem)) x.1 x.2.1 x.2.2.1 x.2.2.2) nn x = some q0 → W p l e (g_rm 9) s m args below meth c H locs 0 0 (g_MQ below D aC B yM 44 args s (some (.int q0.1)) q0.2) (F0 m 128 ls []) := by
    intro nn
    induction nn with
    | zero => intro x H locs ls hM hl he; simp [g_fix] at he
    | succ nn ih =>
      intro x H locs ls hM hl he
      exact w11_rooms_b128_body (F := F) E hml hret hlk (fun v1 v2 v3 mem H locs ls hM hl he => ih (v1, v2, v3, mem) H locs ls hM hl he) x.1 x.2.1 x.2.2.1 x.2.2.2 H locs ls hM hl he
  intro v1 v2 v3 mem H locs ls hM hl he
  exact key F (v1, v2, v3, mem) H locs ls hM hl he

set_option maxHeartbeats 4000000 in
set_option maxRecDepth 100000 in
theorem w11_rooms_b80_body (E : g_C p s m args c cX11_rooms RX11 D aC (g_Zs (g_A B 44))) (hml : c.maxLocals = 4) (hret : meth.sig.returnType = (some .int)) (hlk : meth.locks = false) {F : Nat} {q0 : Int32 × g_M} {s80 : Int32 → Int32 → g_M → Option (Int32 × g_M)} (hs80 : ∀ (v1 : Int32) (v2 : Int32) (mem : g_M) (H : Heap) (locs : List Loc) (ls : Array Slot), g_At D aC B yM 44 mem s.heap H locs → lv_has ls 4 [(0, .ref (B + 0)), (1, .int v1), (2, .int v2)] → s80 v1 v2 mem = some q0 → W p l e (g_rm 9) s m args below meth c H locs 0 0 (g_MQ below D aC B yM 44 args s (some (.int q0.1)) q0.2) (F0 m 80 ls [])) : ∀ (v1 : Int32) (v2 : Int32) (mem : g_M) (H : Heap) (locs : List Loc) (ls : Array Slot), g_At D aC B yM 44 mem s.heap H locs → lv_has ls 4 [(0, .ref (B + 0)), (1, .int v1), (2, .int v2)] → f11_rooms_b80_body F s80 v1 v2 mem = some q0 → W p l e (g_rm 9) s m args below meth c H locs 0 0 (g_MQ below D aC B yM 44 args s (some (.int q0.1)) q0.2) (F0 m 80 ls []) := by
  intro v1 v2 mem H locs ls hM hl he
  unfold f11_rooms_b80_body at he
  have hx := E.1
  have hb := E.2.1
  have hown := E.2.2.1
  have hts := E.2.2.2.1
  refine lv_iload_n hx hb dX11_rooms_80 rfl (lv_at hl 2 rfl) ?_
  refine lv_aload_n hx hb dX11_rooms_81 rfl (lv_at hl 0 rfl) ?_
  obtain ⟨r10, hcr10, he⟩ := g_bind he
  refine g_callV [] (rest := [.int v2]) E hml hl.1 hM cv_X11_520 (c11_knownMany l D aC B hcr10) (o := 0) (Nat.le_of_ble_eq_true rfl) rfl (by decide) rfl rfl (Nat.le_of_ble_eq_true rfl) dX11_rooms_82 (fun H locs hM => ?_)
  refine W.eq (g2 := F0 m 85 ls [.int r10, .int v2]) rfl ?_
  refine lv_icmp_ge (tgt := 124) hx hb dX11_rooms_85 (by decide) (fun h11 => ?_) (fun h11 => ?_)
  · rw [if_neg (Int32.not_lt.mpr h11)] at he
    refine lv_iconst (v := (0 : Int32)) hx hb dX11_rooms_124 rfl ?_
    refine lv_istore_n (lv' := [(2, .int (0 : Int32)), (0, .ref (B + 0)), (1, .int v1)]) hx hb dX11_rooms_125 rfl hl (by decide) rfl (fun ls hl => ?_)
    refine lv_iconst (v := (0 : Int32)) hx hb dX11_rooms_126 rfl ?_
    refine lv_istore_n (lv' := [(3, .int (0 : Int32)), (2, .int (0 : Int32)), (0, .ref (B + 0)), (1, .int v1)]) hx hb dX11_rooms_127 rfl hl (by decide) rfl (fun ls hl => ?_)
    exact w11_rooms_b128 (F := F) E hml hret hlk _ _ _ _ _ _ _ hM (lv_sub hl [2, 3, 1, 0] rfl) he
  · rw [if_pos (Int32.not_le.mp h11)] at he
    refine lv_aload_n hx hb dX11_rooms_88 rfl (lv_at hl 0 rfl) ?_
    refine g_getP E hM (o := 0) (Nat.le_of_ble_eq_true rfl) rfl fl_X11_151 (q := 43) rfl dX11_rooms_89 ?_
    refine lv_iload_n hx hb dX11_rooms_92 rfl (lv_at hl 2 rfl) ?_
    obtain ⟨h12, he⟩ := g_ck_some he
    refine g_zald E hM (o := 43) (Nat.le_of_ble_eq_true rfl) rfl h12 dX11_rooms_93 ?_
    refine lv_if_ne (tgt := 118) hx hb dX11_rooms_94 (by decide) (fun h13 => ?_) (fun h13 => ?_)
    · rw [if_neg h13] at he
      exact w11_rooms_b118 (F := F) E hml hret hlk hs80 _ _ _ _ _ _ hM (lv_sub hl [0, 1, 2] rfl) he
    · rw [if_pos h13] at he
      refine lv_aload_n hx hb dX11_rooms_97 rfl (lv_at hl 0 rfl) ?_
      refine g_getP E hM (o := 0) (Nat.le_of_ble_eq_true rfl) rfl fl_X11_148 (q := 42) rfl dX11_rooms_98 ?_
      refine lv_iload_n hx hb dX11_rooms_101 rfl (lv_at hl 2 rfl) ?_
      obtain ⟨h14, he⟩ := g_ck_some he
      refine g_iald E hM (o := 42) (Nat.le_of_ble_eq_true rfl) rfl h14 dX11_rooms_102 ?_
      refine lv_iconst (v := (-1 : Int32)) hx hb dX11_rooms_103 rfl ?_
      refine lv_icmp_ne (tgt := 118) hx hb dX11_rooms_104 (by decide) (fun h15 => ?_) (fun h15 => ?_)
      · rw [if_neg h15] at he
        exact w11_rooms_b118 (F := F) E hml hret hlk hs80 _ _ _ _ _ _ hM (lv_sub hl [0, 1, 2] rfl) he
      · rw [if_pos h15] at he
        refine lv_iload_n hx hb dX11_rooms_107 rfl (lv_at hl 1 rfl) ?_
        refine lv_aload_n hx hb dX11_rooms_108 rfl (lv_at hl 0 rfl) ?_
        refine g_getP E hM (o := 0) (Nat.le_of_ble_eq_true rfl) rfl fl_X11_138 (q := 39) rfl dX11_rooms_109 ?_
        refine lv_iload_n hx hb dX11_rooms_112 rfl (lv_at hl 2 rfl) ?_
        obtain ⟨h16, he⟩ := g_ck_some he
        refine g_iald E hM (o := 39) (Nat.le_of_ble_eq_true rfl) rfl h16 dX11_rooms_113 ?_
        refine va_mmax hx hb (hml.trans hl.1.symm) hown (hts _ mm_X11_526) (hts _ km_max.1) (hts _ ki_Math) (hts _ km_max.2) (Nat.le_of_ble_eq_true rfl) (Nat.le_of_ble_eq_true rfl) (Nat.zero_le _) (Nat.zero_le _) dX11_rooms_114 ?_
        obtain ⟨x17, hx17, he⟩ := g_let_ex he
        refine g_topI hx17 ?_
        refine lv_istore_n (lv' := [(1, .int x17), (0, .ref (B + 0)), (2, .int v2)]) hx hb dX11_rooms_117 rfl hl (by decide) rfl (fun ls hl => ?_)
        exact w11_rooms_b118 (F := F) E hml hret hlk hs80 _ _ _ _ _ _ hM (lv_sub hl [1, 0, 2] rfl) he

set_option maxHeartbeats 4000000 in
set_option maxRecDepth 100000 in
theorem w11_rooms_b80 (E : g_C p s m args c cX11_rooms RX11 D aC (g_Zs (g_A B 44))) (hml : c.maxLocals = 4) (hret : meth.sig.returnType = (some .int)) (hlk : meth.locks = false) {F : Nat} {q0 : Int32 × g_M} : ∀ (v1 : Int32) (v2 : Int32) (mem : g_M) (H : Heap) (locs : List Loc) (ls : Array Slot), g_At D aC B yM 44 mem s.heap H locs → lv_has ls 4 [(0, .ref (B + 0)), (1, .int v1), (2, .int v2)] → f11_rooms_b80 F v1 v2 mem = some q0 → W p l e (g_rm 9) s m args below meth c H locs 0 0 (g_MQ below D aC B yM 44 args s (some (.int q0.1)) q0.2) (F0 m 80 ls []) := by
  have key : ∀ (nn : Nat) (x : Int32 × Int32 × g_M) (H : Heap) (locs : List Loc) (ls : Array Slot), g_At D aC B yM 44 x.2.2 s.heap H locs → lv_has ls 4 [(0, .ref (B + 0)), (1, .int x.1), (2, .int x.2.1)] → g_fix (fun sf x => f11_rooms_b80_body F (fun v1 v2 mem => sf (v1, v2, mem)) x.1 x.2.1 x.2.2) nn x = some q0 → W p l e (g_rm 9) s m args below meth c H locs 0 0 (g_MQ below D aC B yM 44 args s (some (.int q0.1)) q0.2) (F0 m 80 ls []) := by
    intro nn
    induction nn with
    | zero => intro x H locs ls hM hl he; simp [g_fix] at he
    | succ nn ih =>
      intro x H locs ls hM hl he
      exact w11_rooms_b80_body (F := F) E hml hret hlk (fun v1 v2 mem H locs ls hM hl he => ih (v1, v2, mem) H locs ls hM hl he) x.1 x.2.1 x.2.2 H locs ls hM hl he
  intro v1 v2 mem H locs ls hM hl he
  exact key F (v1, v2, mem) H locs ls hM hl he

set_option maxHeartbeats 4000000 in
set_option maxRecDepth 100000 in
theorem w11_rooms_b37_body (E : g_C p s m args c cX11_rooms RX11 D aC (g_Zs (g_A B 44))) (hml : c.maxLocals = 4) (hret : meth.sig.returnType = (some .int)) (hlk : meth.locks = false) {F : Nat} {q0 : Int32 × g_M} {s37 : Int32 → Int32 → g_M → Option (Int32 × g_M)} (hs37 : ∀ (v1 : Int32) (v2 : Int32) (mem : g_M) (H : Heap) (locs : List Loc) (ls : Array Slot), g_At D aC B yM 44 mem s.heap H locs → lv_has ls 4 [(0, .ref (B + 0)), (1, .int v1), (2, .int v2)] → s37 v1 v2 mem = some q0 → W p l e (g_rm 9) s m args below meth c H locs 0 0 (g_MQ below D aC B yM 44 args s (some (.int q0.1)) q0.2) (F0 m 37 ls [])) : ∀ (v1 : Int32) (v2 : Int32) (mem : g_M) (H : Heap) (locs : List Loc) (ls : Array Slot), g_At D aC B yM 44 mem s.heap H locs → lv_has ls 4 [(0, .ref (B + 0)), (1, .int v1), (2, .int v2)] → f11_rooms_b37_body F s37 v1 v2 mem = some q0 → W p l e (g_rm 9) s m args below meth c H locs 0 0 (g_MQ below D aC B yM 44 args s (some (.int q0.1)) q0.2) (F0 m 37 ls []) := by
  intro v1 v2 mem H locs ls hM hl he
  unfold f11_rooms_b37_body at he
  have hx := E.1
  have hb := E.2.1
  have hown := E.2.2.1
  have hts := E.2.2.2.1
  refine lv_iload_n hx hb dX11_rooms_37 rfl (lv_at hl 2 rfl) ?_
  refine lv_if_lt (tgt := 78) hx hb dX11_rooms_38 (by decide) (fun h18 => ?_) (fun h18 => ?_)
  · rw [if_neg (Int32.not_le.mpr h18)] at he
    refine lv_iconst (v := (0 : Int32)) hx hb dX11_rooms_78 rfl ?_
    refine lv_istore_n (lv' := [(2, .int (0 : Int32)), (0, .ref (B + 0)), (1, .int v1)]) hx hb dX11_rooms_79 rfl hl (by decide) rfl (fun ls hl => ?_)
    exact w11_rooms_b80 (F := F) E hml hret hlk _ _ _ _ _ _ hM (lv_sub hl [1, 2, 0] rfl) he
  · rw [if_pos (Int32.not_lt.mp h18)] at he
    refine lv_aload_n hx hb dX11_rooms_41 rfl (lv_at hl 0 rfl) ?_
    refine g_getP E hM (o := 0) (Nat.le_of_ble_eq_true rfl) rfl fl_X11_151 (q := 43) rfl dX11_rooms_42 ?_
    refine lv_iload_n hx hb dX11_rooms_45 rfl (lv_at hl 2 rfl) ?_
    obtain ⟨h19, he⟩ := g_ck_some he
    refine g_zald E hM (o := 43) (Nat.le_of_ble_eq_true rfl) rfl h19 dX11_rooms_46 ?_
    refine lv_if_ne (tgt := 72) hx hb dX11_rooms_47 (by decide) (fun h20 => ?_) (fun h20 => ?_)
    · rw [if_neg h20] at he
      exact w11_rooms_b72 (F := F) E hml hret hlk hs37 _ _ _ _ _ _ hM (lv_sub hl [0, 1, 2] rfl) he
    · rw [if_pos h20] at he
      refine lv_aload_n hx hb dX11_rooms_50 rfl (lv_at hl 0 rfl) ?_
      refine g_getP E hM (o := 0) (Nat.le_of_ble_eq_true rfl) rfl fl_X11_148 (q := 42) rfl dX11_rooms_51 ?_
      refine lv_iload_n hx hb dX11_rooms_54 rfl (lv_at hl 2 rfl) ?_
      obtain ⟨h21, he⟩ := g_ck_some he
      refine g_iald E hM (o := 42) (Nat.le_of_ble_eq_true rfl) rfl h21 dX11_rooms_55 ?_
      refine lv_iconst (v := (-1 : Int32)) hx hb dX11_rooms_56 rfl ?_
      refine lv_icmp_eq (tgt := 72) hx hb dX11_rooms_57 (by decide) (fun h22 => ?_) (fun h22 => ?_)
      · rw [if_pos h22] at he
        exact w11_rooms_b72 (F := F) E hml hret hlk hs37 _ _ _ _ _ _ hM (lv_sub hl [0, 1, 2] rfl) he
      · rw [if_neg h22] at he
        refine lv_aload_n hx hb dX11_rooms_60 rfl (lv_at hl 0 rfl) ?_
        refine g_getP E hM (o := 0) (Nat.le_of_ble_eq_true rfl) rfl fl_X11_151 (q := 43) rfl dX11_rooms_61 ?_
        refine lv_aload_n hx hb dX11_rooms_64 rfl (lv_at hl 0 rfl) ?_
        refine g_getP E hM (o := 0) (Nat.le_of_ble_eq_true rfl) rfl fl_X11_148 (q := 42) rfl dX11_rooms_65 ?_
        refine lv_iload_n hx hb dX11_rooms_68 rfl (lv_at hl 2 rfl) ?_
        obtain ⟨h23, he⟩ := g_ck_some he
        refine g_iald E hM (o := 42) (Nat.le_of_ble_eq_true rfl) rfl h23 dX11_rooms_69 ?_
        refine lv_iconst (v := (1 : Int32)) hx hb dX11_rooms_70 rfl ?_
        obtain ⟨h24, he⟩ := g_ck_some he
        refine g_zast E hM (o := 43) (Nat.le_of_ble_eq_true rfl) rfl h24 (Or.inr rfl) dX11_rooms_71 (fun H locs hM => ?_)
        obtain ⟨m25, hm25, he⟩ := g_let_ex he
        rw [← hm25] at hM
        exact w11_rooms_b72 (F := F) E hml hret hlk hs37 _ _ _ _ _ _ hM (lv_sub hl [0, 1, 2] rfl) he

set_option maxHeartbeats 4000000 in
set_option maxRecDepth 100000 in
theorem w11_rooms_b37 (E : g_C p s m args c cX11_rooms RX11 D aC (g_Zs (g_A B 44))) (hml : c.maxLocals = 4) (hret : meth.sig.returnType = (some .int)) (hlk : meth.locks = false) {F : Nat} {q0 : Int32 × g_M} : ∀ (v1 : Int32) (v2 : Int32) (mem : g_M) (H : Heap) (locs : List Loc) (ls : Array Slot), g_At D aC B yM 44 mem s.heap H locs → lv_has ls 4 [(0, .ref (B + 0)), (1, .int v1), (2, .int v2)] → f11_rooms_b37 F v1 v2 mem = some q0 → W p l e (g_rm 9) s m args below meth c H locs 0 0 (g_MQ below D aC B yM 44 args s (some (.int q0.1)) q0.2) (F0 m 37 ls []) := by
  have key : ∀ (nn : Nat) (x : Int32 × Int32 × g_M) (H : Heap) (locs : List Loc) (ls : Array Slot), g_At D aC B yM 44 x.2.2 s.heap H locs → lv_has ls 4 [(0, .ref (B + 0)), (1, .int x.1), (2, .int x.2.1)] → g_fix (fun sf x => f11_rooms_b37_body F (fun v1 v2 mem => sf (v1, v2, mem)) x.1 x.2.1 x.2.2) nn x = some q0 → W p l e (g_rm 9) s m args below meth c H locs 0 0 (g_MQ below D aC B yM 44 args s (some (.int q0.1)) q0.2) (F0 m 37 ls []) := by
    intro nn
    induction nn with
    | zero => intro x H locs ls hM hl he; simp [g_fix] at he
    | succ nn ih =>
      intro x H locs ls hM hl he
      exact w11_rooms_b37_body (F := F) E hml hret hlk (fun v1 v2 mem H locs ls hM hl he => ih (v1, v2, mem) H locs ls hM hl he) x.1 x.2.1 x.2.2 H locs ls hM hl he
  intro v1 v2 mem H locs ls hM hl he
  exact key F (v1, v2, mem) H locs ls hM hl he

set_option maxHeartbeats 4000000 in
set_option maxRecDepth 100000 in
theorem w11_rooms_b9_body (E : g_C p s m args c cX11_rooms RX11 D aC (g_Zs (g_A B 44))) (hml : c.maxLocals = 4) (hret : meth.sig.returnType = (some .int)) (hlk : meth.locks = false) {F : Nat} {q0 : Int32 × g_M} {s9 : Int32 → Int32 → g_M → Option (Int32 × g_M)} (hs9 : ∀ (v1 : Int32) (v2 : Int32) (mem : g_M) (H : Heap) (locs : List Loc) (ls : Array Slot), g_At D aC B yM 44 mem s.heap H locs → lv_has ls 4 [(0, .ref (B + 0)), (1, .int v1), (2, .int v2)] → s9 v1 v2 mem = some q0 → W p l e (g_rm 9) s m args below meth c H locs 0 0 (g_MQ below D aC B yM 44 args s (some (.int q0.1)) q0.2) (F0 m 9 ls [])) : ∀ (v1 : Int32) (v2 : Int32) (mem : g_M) (H : Heap) (locs : List Loc) (ls : Array Slot), g_At D aC B yM 44 mem s.heap H locs → lv_has ls 4 [(0, .ref (B + 0)), (1, .int v1), (2, .int v2)] → f11_rooms_b9_body F s9 v1 v2 mem = some q0 → W p l e (g_rm 9) s m args below meth c H locs 0 0 (g_MQ below D aC B yM 44 args s (some (.int q0.1)) q0.2) (F0 m 9 ls []) := by
  intro v1 v2 mem H locs ls hM hl he
  unfold f11_rooms_b9_body at he
  have hx := E.1
  have hb := E.2.1
  have hown := E.2.2.1
  have hts := E.2.2.2.1
  refine lv_iload_n hx hb dX11_rooms_9 rfl (lv_at hl 2 rfl) ?_
  refine lv_aload_n hx hb dX11_rooms_10 rfl (lv_at hl 0 rfl) ?_
  obtain ⟨r26, hcr26, he⟩ := g_bind he
  refine g_callV [] (rest := [.int v2]) E hml hl.1 hM cv_X11_520 (c11_knownMany l D aC B hcr26) (o := 0) (Nat.le_of_ble_eq_true rfl) rfl (by decide) rfl rfl (Nat.le_of_ble_eq_true rfl) dX11_rooms_11 (fun H locs hM => ?_)
  refine W.eq (g2 := F0 m 14 ls [.int r26, .int v2]) rfl ?_
  refine lv_icmp_ge (tgt := 30) hx hb dX11_rooms_14 (by decide) (fun h27 => ?_) (fun h27 => ?_)
  · rw [if_neg (Int32.not_lt.mpr h27)] at he
    refine lv_aload_n hx hb dX11_rooms_30 rfl (lv_at hl 0 rfl) ?_
    obtain ⟨r31, hcr31, he⟩ := g_bind he
    refine g_callV [] (rest := []) E hml hl.1 hM cv_X11_520 (c11_knownMany l D aC B hcr31) (o := 0) (Nat.le_of_ble_eq_true rfl) rfl (by decide) rfl rfl (Nat.le_of_ble_eq_true rfl) dX11_rooms_31 (fun H locs hM => ?_)
    refine W.eq (g2 := F0 m 34 ls [.int r31]) rfl ?_
    refine lv_iconst (v := (1 : Int32)) hx hb dX11_rooms_34 rfl ?_
    refine lv_isub hx hb dX11_rooms_35 ?_
    obtain ⟨x32, hx32, he⟩ := g_let_ex he
    refine g_topI hx32 ?_
    refine lv_istore_n (lv' := [(2, .int x32), (0, .ref (B + 0)), (1, .int v1)]) hx hb dX11_rooms_36 rfl hl (by decide) rfl (fun ls hl => ?_)
    exact w11_rooms_b37 (F := F) E hml hret hlk _ _ _ _ _ _ hM (lv_sub hl [1, 2, 0] rfl) he
  · rw [if_pos (Int32.not_le.mp h27)] at he
    refine lv_aload_n hx hb dX11_rooms_17 rfl (lv_at hl 0 rfl) ?_
    refine g_getP E hM (o := 0) (Nat.le_of_ble_eq_true rfl) rfl fl_X11_151 (q := 43) rfl dX11_rooms_18 ?_
    refine lv_iload_n hx hb dX11_rooms_21 rfl (lv_at hl 2 rfl) ?_
    refine lv_iconst (v := (0 : Int32)) hx hb dX11_rooms_22 rfl ?_
    obtain ⟨h28, he⟩ := g_ck_some he
    refine g_zast E hM (o := 43) (Nat.le_of_ble_eq_true rfl) rfl h28 (Or.inl rfl) dX11_rooms_23 (fun H locs hM => ?_)
    obtain ⟨m29, hm29, he⟩ := g_let_ex he
    rw [← hm29] at hM
    obtain ⟨x30, hx30, he⟩ := g_let_ex he
    refine lv_iinc (v := x30) (lv' := [(2, .int x30), (0, .ref (B + 0)), (1, .int v1)]) hx hb dX11_rooms_24 hl (k := 2) rfl (by rw [hx30]; rfl) (by decide) rfl (fun ls hl => ?_)
    refine lv_goto (tgt := 9) hx hb dX11_rooms_27 (by decide) ?_
    exact hs9 _ _ _ _ _ _ hM (lv_sub hl [1, 2, 0] rfl) he

set_option maxHeartbeats 4000000 in
set_option maxRecDepth 100000 in
theorem w11_rooms_b9 (E : g_C p s m args c cX11_rooms RX11 D aC (g_Zs (g_A B 44))) (hml : c.maxLocals = 4) (hret : meth.sig.returnType = (some .int)) (hlk : meth.locks = false) {F : Nat} {q0 : Int32 × g_M} : ∀ (v1 : Int32) (v2 : Int32) (mem : g_M) (H : Heap) (locs : List Loc) (ls : Array Slot), g_At D aC B yM 44 mem s.heap H locs → lv_has ls 4 [(0, .ref (B + 0)), (1, .int v1), (2, .int v2)] → f11_rooms_b9 F v1 v2 mem = some q0 → W p l e (g_rm 9) s m args below meth c H locs 0 0 (g_MQ below D aC B yM 44 args s (some (.int q0.1)) q0.2) (F0 m 9 ls []) := by
  have key : ∀ (nn : Nat) (x : Int32 × Int32 × g_M) (H : Heap) (locs : List Loc) (ls : Array Slot), g_At D aC B yM 44 x.2.2 s.heap H locs → lv_has ls 4 [(0, .ref (B + 0)), (1, .int x.1), (2, .int x.2.1)] → g_fix (fun sf x => f11_rooms_b9_body F (fun v1 v2 mem => sf (v1, v2, mem)) x.1 x.2.1 x.2.2) nn x = some q0 → W p l e (g_rm 9) s m args below meth c H locs 0 0 (g_MQ below D aC B yM 44 args s (some (.int q0.1)) q0.2) (F0 m 9 ls []) := by
    intro nn
    induction nn with
    | zero => intro x H locs ls hM hl he; simp [g_fix] at he
    | succ nn ih =>
      intro x H locs ls hM hl he
      exact w11_rooms_b9_body (F := F) E hml hret hlk (fun v1 v2 mem H locs ls hM hl he => ih (v1, v2, mem) H locs ls hM hl he) x.1 x.2.1 x.2.2 H locs ls hM hl he
  intro v1 v2 mem H locs ls hM hl he
  exact key F (v1, v2, mem) H locs ls hM hl he

set_option maxHeartbeats 4000000 in
set_option maxRecDepth 100000 in
theorem c11_rooms (l : Launch) (D : va_G) (aC : Nat → ClassId) (B : Nat) {F : Nat} {mem : g_M} {q0 : Int32 × g_M} (he : f11_rooms F mem = some q0) : g_Met l yX11_rooms cX11_rooms 4 (some .int) 9 D aC B yM 44 mem [.ref (B + 0)] (some (.int q0.1)) q0.2 := by
  refine g_ofW (by decide) (Nat.le_of_ble_eq_true rfl) ?_
  intro p e s m args below meth c ls E hml hret hlk hM hl
  have E : g_C p s m args c cX11_rooms RX11 D aC (g_Zs (g_A B 44)) := E
  have hx := E.1
  have hb := E.2.1
  have hown := E.2.2.1
  have hts := E.2.2.2.1
  have hl : lv_has ls 4 [(0, .ref (B + 0))] := hl
  unfold f11_rooms at he
  refine lv_aload_n hx hb dX11_rooms_0 rfl (lv_at hl 0 rfl) ?_
  refine lv_iconst (v := (0 : Int32)) hx hb dX11_rooms_1 rfl ?_
  refine g_putI E hM (o := 0) (Nat.le_of_ble_eq_true rfl) rfl fp_X11_157 dX11_rooms_2 (fun H locs hM => ?_)
  obtain ⟨m33, hm33, he⟩ := g_let_ex he
  rw [← hm33] at hM
  refine lv_iconst (v := (0 : Int32)) hx hb dX11_rooms_5 rfl ?_
  refine lv_istore_n (lv' := [(1, .int (0 : Int32)), (0, .ref (B + 0))]) hx hb dX11_rooms_6 rfl hl (by decide) rfl (fun ls hl => ?_)
  refine lv_iconst (v := (0 : Int32)) hx hb dX11_rooms_7 rfl ?_
  refine lv_istore_n (lv' := [(2, .int (0 : Int32)), (1, .int (0 : Int32)), (0, .ref (B + 0))]) hx hb dX11_rooms_8 rfl hl (by decide) rfl (fun ls hl => ?_)
  exact w11_rooms_b9 (F := F) E hml hret hlk _ _ _ _ _ _ hM (lv_sub hl [2, 1, 0] rfl) he

set_option maxHeartbeats 4000000 in
set_option maxRecDepth 100000 in
theorem w11_chance_b107 (E : g_C p s m args c cX11_chance RX11 D aC (g_Zs (g_A B 44))) (hml : c.maxLocals = 8) (hret : meth.sig.returnType = (some .int)) (hlk : meth.locks = false) {F : Nat} {q0 : Int32 × g_M} {a1 : Int32} {a2 : Int32} {a3 : Int32} {s41 : Int32 → Int32 → Int32 → g_M → Option (Int32 × g_M)} (hs41 : ∀ (v4 : Int32) (v5 : Int32) (v6 : Int32) (mem : g_M) (H : Heap) (locs : List Loc) (ls : Array Slot), g_At D aC B yM 44 mem s.heap H locs → lv_has ls 8 [(0, .ref (B + 0)), (2, .int a2), (3, .int a3), (4, .int v4), (5, .int v5), (6, .int v6)] → s41 v4 v5 v6 mem = some q0 → W p l e (g_rm 8) s m args below meth c H locs 0 0 (g_MQ below D aC B yM 44 args s (some (.int q0.1)) q0.2) (F0 m 41 ls [])) : ∀ (v4 : Int32) (v6 : Int32) (w0 : Int32) (w1 : Int32) (mem : g_M) (H : Heap) (locs : List Loc) (ls : Array Slot), g_At D aC B yM 44 mem s.heap H locs → lv_has ls 8 [(0, .ref (B + 0)), (2, .int a2), (3, .int a3), (4, .int v4), (6, .int v6)] → f11_chance_b107 F a1 a2 a3 s41 v4 v6 w0 w1 mem = some q0 → W p l e (g_rm 8) s m args below meth c H locs 0 0 (g_MQ below D aC B yM 44 args s (some (.int q0.1)) q0.2) (F0 m 107 ls [.int w1, .int w0]) := by
  intro v4 v6 w0 w1 mem H locs ls hM hl he
  unfold f11_chance_b107 at he
  have hx := E.1
  have hb := E.2.1
  have hown := E.2.2.1
  have hts := E.2.2.2.1
  refine lv_iadd hx hb dX11_chance_107 ?_
  obtain ⟨x1, hx1, he⟩ := g_let_ex he
  refine g_topI hx1 ?_
  refine lv_istore (lv' := [(5, .int x1), (0, .ref (B + 0)), (2, .int a2), (3, .int a3), (4, .int v4), (6, .int v6)]) hx hb dX11_chance_108 hl (by decide) rfl (fun ls hl => ?_)
  obtain ⟨x2, hx2, he⟩ := g_let_ex he
  refine lv_iinc (v := x2) (lv' := [(6, .int x2), (5, .int x1), (0, .ref (B + 0)), (2, .int a2), (3, .int a3), (4, .int v4)]) hx hb dX11_chance_110 hl (k := 5) rfl (by rw [hx2]; rfl) (by decide) rfl (fun ls hl => ?_)
  refine lv_goto (tgt := 41) hx hb dX11_chance_113 (by decide) ?_
  exact hs41 _ _ _ _ _ _ _ hM (lv_sub hl [2, 3, 4, 5, 1, 0] rfl) he

set_option maxHeartbeats 4000000 in
set_option maxRecDepth 100000 in
theorem w11_chance_b65_body (E : g_C p s m args c cX11_chance RX11 D aC (g_Zs (g_A B 44))) (hml : c.maxLocals = 8) (hret : meth.sig.returnType = (some .int)) (hlk : meth.locks = false) {F : Nat} {q0 : Int32 × g_M} {a1 : Int32} {a2 : Int32} {a3 : Int32} {s41 : Int32 → Int32 → Int32 → g_M → Option (Int32 × g_M)} (hs41 : ∀ (v4 : Int32) (v5 : Int32) (v6 : Int32) (mem : g_M) (H : Heap) (locs : List Loc) (ls : Array Slot), g_At D aC B yM 44 mem s.heap H locs → lv_has ls 8 [(0, .ref (B + 0)), (2, .int a2), (3, .int a3), (4, .int v4), (5, .int v5), (6, .int v6)] → s41 v4 v5 v6 mem = some q0 → W p l e (g_rm 8) s m args below meth c H locs 0 0 (g_MQ below D aC B yM 44 args s (some (.int q0.1)) q0.2) (F0 m 41 ls [])) {s65 : Int32 → Int32 → Int32 → g_M → Option (Int32 × g_M)} (hs65 : ∀ (v5 : Int32) (v6 : Int32) (v7 : Int32) (mem : g_M) (H : Heap) (locs : List Loc) (ls : Array Slot), g_At D aC B yM 44 mem s.heap H locs → lv_has ls 8 [(0, .ref (B + 0)), (2, .int a2), (3, .int a3), (5, .int v5), (6, .int v6), (7, .int v7)] → s65 v5 v6 v7 mem = some q0 → W p l e (g_rm 8) s m args below meth c H locs 0 0 (g_MQ below D aC B yM 44 args s (some (.int q0.1)) q0.2) (F0 m 65 ls [])) : ∀ (v5 : Int32) (v6 : Int32) (v7 : Int32) (mem : g_M) (H : Heap) (locs : List Loc) (ls : Array Slot), g_At D aC B yM 44 mem s.heap H locs → lv_has ls 8 [(0, .ref (B + 0)), (2, .int a2), (3, .int a3), (5, .int v5), (6, .int v6), (7, .int v7)] → f11_chance_b65_body F a1 a2 a3 s41 s65 v5 v6 v7 mem = some q0 → W p l e (g_rm 8) s m args below meth c H locs 0 0 (g_MQ below D aC B yM 44 args s (some (.int q0.1)) q0.2) (F0 m 65 ls []) := by
  intro v5 v6 v7 mem H locs ls hM hl he
  unfold f11_chance_b65_body at he
  have hx := E.1
  have hb := E.2.1
  have hown := E.2.2.1
  have hts := E.2.2.2.1
  refine lv_iload hx hb dX11_chance_65 (lv_at hl 5 rfl) ?_
  refine lv_iload_n hx hb dX11_chance_67 rfl (lv_at hl 1 rfl) ?_
  refine lv_icmp_ge (tgt := 83) hx hb dX11_chance_68 (by decide) (fun h3 => ?_) (fun h3 => ?_)
  · rw [if_neg (Int32.not_lt.mpr h3)] at he
    refine lv_aload_n hx hb dX11_chance_83 rfl (lv_at hl 0 rfl) ?_
    refine g_getP E hM (o := 0) (Nat.le_of_ble_eq_true rfl) rfl fl_X11_87 (q := 25) rfl dX11_chance_84 ?_
    refine lv_iconst (v := (1 : Int32)) hx hb dX11_chance_87 rfl ?_
    obtain ⟨h6, he⟩ := g_ck_some he
    refine g_iald E hM (o := 25) (Nat.le_of_ble_eq_true rfl) rfl h6 dX11_chance_88 ?_
    obtain ⟨x7, hx7, he⟩ := g_let_ex he
    refine g_topI hx7 ?_
    refine lv_istore (lv' := [(4, .int x7), (0, .ref (B + 0)), (2, .int a2), (3, .int a3), (5, .int v5), (6, .int v6), (7, .int v7)]) hx hb dX11_chance_89 hl (by decide) rfl (fun ls hl => ?_)
    refine lv_iload hx hb dX11_chance_91 (lv_at hl 4 rfl) ?_
    refine lv_aload_n hx hb dX11_chance_93 rfl (lv_at hl 1 rfl) ?_
    refine lv_iconst (v := (1 : Int32)) hx hb dX11_chance_94 rfl ?_
    obtain ⟨r8, hcr8, he⟩ := g_bind he
    refine g_callV [.int (1 : Int32)] (rest := [.int v5]) E hml hl.1 hM cv_X11_463 (c11_mixedMany l D aC B hcr8) (o := 0) (Nat.le_of_ble_eq_true rfl) rfl (by decide) rfl rfl (Nat.le_of_ble_eq_true rfl) dX11_chance_95 (fun H locs hM => ?_)
    refine W.eq (g2 := F0 m 98 ls [.int r8, .int v5]) rfl ?_
    refine lv_iload_n hx hb dX11_chance_98 rfl (lv_at hl 3 rfl) ?_
    refine lv_icmp_lt (tgt := 106) hx hb dX11_chance_99 (by decide) (fun h9 => ?_) (fun h9 => ?_)
    · rw [if_neg (Int32.not_le.mpr h9)] at he
      refine lv_iconst (v := (0 : Int32)) hx hb dX11_chance_106 rfl ?_
      exact w11_chance_b107 (F := F) (a1 := a1) (a2 := a2) (a3 := a3) E hml hret hlk hs41 _ _ _ _ _ _ _ _ hM (lv_sub hl [1, 2, 3, 0, 5] rfl) he
    · rw [if_pos (Int32.not_lt.mp h9)] at he
      refine lv_iconst (v := (1 : Int32)) hx hb dX11_chance_102 rfl ?_
      refine lv_goto (tgt := 107) hx hb dX11_chance_103 (by decide) ?_
      exact w11_chance_b107 (F := F) (a1 := a1) (a2 := a2) (a3 := a3) E hml hret hlk hs41 _ _ _ _ _ _ _ _ hM (lv_sub hl [1, 2, 3, 0, 5] rfl) he
  · rw [if_pos (Int32.not_le.mp h3)] at he
    refine lv_aload_n hx hb dX11_chance_71 rfl (lv_at hl 0 rfl) ?_
    refine lv_iconst (v := (1 : Int32)) hx hb dX11_chance_72 rfl ?_
    refine lv_iconst (v := (1 : Int32)) hx hb dX11_chance_73 rfl ?_
    obtain ⟨r4, hcr4, he⟩ := g_bind he
    refine g_callV [.int (1 : Int32), .int (1 : Int32)] (rest := []) E hml hl.1 hM cv_X11_416 (c11_passes l D aC B hcr4) (o := 0) (Nat.le_of_ble_eq_true rfl) rfl (by decide) rfl rfl (Nat.le_of_ble_eq_true rfl) dX11_chance_74 (fun H locs hM => ?_)
    refine W.eq (g2 := F0 m 77 ls []) rfl ?_
    obtain ⟨x5, hx5, he⟩ := g_let_ex he
    refine lv_iinc (v := x5) (lv' := [(7, .int x5), (0, .ref (B + 0)), (2, .int a2), (3, .int a3), (5, .int v5), (6, .int v6)]) hx hb dX11_chance_77 hl (k := 5) rfl (by rw [hx5]; rfl) (by decide) rfl (fun ls hl => ?_)
    refine lv_goto (tgt := 65) hx hb dX11_chance_80 (by decide) ?_
    exact hs65 _ _ _ _ _ _ _ hM (lv_sub hl [1, 2, 3, 4, 5, 0] rfl) he

set_option maxHeartbeats 4000000 in
set_option maxRecDepth 100000 in
theorem w11_chance_b65 (E : g_C p s m args c cX11_chance RX11 D aC (g_Zs (g_A B 44))) (hml : c.maxLocals = 8) (hret : meth.sig.returnType = (some .int)) (hlk : meth.locks = false) {F : Nat} {q0 : Int32 × g_M} {a1 : Int32} {a2 : Int32} {a3 : Int32} {s41 : Int32 → Int32 → Int32 → g_M → Option (Int32 × g_M)} (hs41 : ∀ (v4 : Int32) (v5 : Int32) (v6 : Int32) (mem : g_M) (H : Heap) (locs : List Loc) (ls : Array Slot), g_At D aC B yM 44 mem s.heap H locs → lv_has ls 8 [(0, .ref (B + 0)), (2, .int a2), (3, .int a3), (4, .int v4), (5, .int v5), (6, .int v6)] → s41 v4 v5 v6 mem = some q0 → W p l e (g_rm 8) s m args below meth c H locs 0 0 (g_MQ below D aC B yM 44 args s (some (.int q0.1)) q0.2) (F0 m 41 ls [])) : ∀ (v5 : Int32) (v6 : Int32) (v7 : Int32) (mem : g_M) (H : Heap) (locs : List Loc) (ls : Array Slot), g_At D aC B yM 44 mem s.heap H locs → lv_has ls 8 [(0, .ref (B + 0)), (2, .int a2), (3, .int a3), (5, .int v5), (6, .int v6), (7, .int v7)] → f11_chance_b65 F a1 a2 a3 s41 v5 v6 v7 mem = some q0 → W p l e (g_rm 8) s m args below meth c H locs 0 0 (g_MQ below D aC B yM 44 args s (some (.int q0.1)) q0.2) (F0 m 65 ls []) := by
  have key : ∀ (nn : Nat) (x : Int32 × Int32 × Int32 × g_M) (H : Heap) (locs : List Loc) (ls : Array Slot), g_At D aC B yM 44 x.2.2.2 s.heap H locs → lv_has ls 8 [(0, .ref (B + 0)), (2, .int a2), (3, .int a3), (5, .int x.1), (6, .int x.2.1), (7, .int x.2.2.1)] → g_fix (fun sf x => f11_chance_b65_body F a1 a2 a3 s41 (fun v5 v6 v7 mem => sf (v5, v6, v7, mem)) x.1 x.2.1 x.2.2.1 x.2.2.2) nn x = some q0 → W p l e (g_rm 8) s m args below meth c H locs 0 0 (g_MQ below D aC B yM 44 args s (some (.int q0.1)) q0.2) (F0 m 65 ls []) := by
    intro nn
    induction nn with
    | zero => intro x H locs ls hM hl he; simp [g_fix] at he
    | succ nn ih =>
      intro x H locs ls hM hl he
      exact w11_chance_b65_body (F := F) (a1 := a1) (a2 := a2) (a3 := a3) E hml hret hlk hs41 (fun v5 v6 v7 mem H locs ls hM hl he => ih (v5, v6, v7, mem) H locs ls hM hl he) x.1 x.2.1 x.2.2.1 x.2.2.2 H locs ls hM hl he
  intro v5 v6 v7 mem H locs ls hM hl he
  exact key F (v5, v6, v7, mem) H locs ls hM hl he

set_option maxHeartbeats 4000000 in
set_option maxRecDepth 100000 in
theorem w11_chance_b41_body (E : g_C p s m args c cX11_chance RX11 D aC (g_Zs (g_A B 44))) (hml : c.maxLocals = 8) (hret : meth.sig.returnType = (some .int)) (hlk : meth.locks = false) {F : Nat} {q0 : Int32 × g_M} {a1 : Int32} {a2 : Int32} {a3 : Int32} {s41 : Int32 → Int32 → Int32 → g_M → Option (Int32 × g_M)} (hs41 : ∀ (v4 : Int32) (v5 : Int32) (v6 : Int32) (mem : g_M) (H : Heap) (locs : List Loc) (ls : Array Slot), g_At D aC B yM 44 mem s.heap H locs → lv_has ls 8 [(0, .ref (B + 0)), (2, .int a2), (3, .int a3), (4, .int v4), (5, .int v5), (6, .int v6)] → s41 v4 v5 v6 mem = some q0 → W p l e (g_rm 8) s m args below meth c H locs 0 0 (g_MQ below D aC B yM 44 args s (some (.int q0.1)) q0.2) (F0 m 41 ls [])) : ∀ (v4 : Int32) (v5 : Int32) (v6 : Int32) (mem : g_M) (H : Heap) (locs : List Loc) (ls : Array Slot), g_At D aC B yM 44 mem s.heap H locs → lv_has ls 8 [(0, .ref (B + 0)), (2, .int a2), (3, .int a3), (4, .int v4), (5, .int v5), (6, .int v6)] → f11_chance_b41_body F a1 a2 a3 s41 v4 v5 v6 mem = some q0 → W p l e (g_rm 8) s m args below meth c H locs 0 0 (g_MQ below D aC B yM 44 args s (some (.int q0.1)) q0.2) (F0 m 41 ls []) := by
  intro v4 v5 v6 mem H locs ls hM hl he
  unfold f11_chance_b41_body at he
  have hx := E.1
  have hb := E.2.1
  have hown := E.2.2.1
  have hts := E.2.2.2.1
  refine lv_iload hx hb dX11_chance_41 (lv_at hl 5 rfl) ?_
  refine lv_bipush (v := (10 : Int32)) hx hb dX11_chance_43 rfl ?_
  refine lv_icmp_ge (tgt := 116) hx hb dX11_chance_45 (by decide) (fun h10 => ?_) (fun h10 => ?_)
  · rw [if_neg (Int32.not_lt.mpr h10)] at he
    refine lv_iload hx hb dX11_chance_116 (lv_at hl 4 rfl) ?_
    cases he
    exact g_iret E hM hret hlk dX11_chance_118
  · rw [if_pos (Int32.not_le.mp h10)] at he
    refine lv_aload_n hx hb dX11_chance_48 rfl (lv_at hl 0 rfl) ?_
    refine lv_iconst (v := (1 : Int32)) hx hb dX11_chance_49 rfl ?_
    refine lv_iconst (v := (0 : Int32)) hx hb dX11_chance_50 rfl ?_
    obtain ⟨r11, hcr11, he⟩ := g_bind he
    refine g_callV [.int (1 : Int32), .int (0 : Int32)] (rest := []) E hml hl.1 hM cv_X11_420 (c11_copies l D aC B hcr11) (o := 0) (Nat.le_of_ble_eq_true rfl) rfl (by decide) rfl rfl (Nat.le_of_ble_eq_true rfl) dX11_chance_51 (fun H locs hM => ?_)
    refine W.eq (g2 := F0 m 54 ls []) rfl ?_
    refine lv_aload_n hx hb dX11_chance_54 rfl (lv_at hl 0 rfl) ?_
    refine g_getP E hM (o := 0) (Nat.le_of_ble_eq_true rfl) rfl fl_X11_87 (q := 25) rfl dX11_chance_55 ?_
    refine lv_iconst (v := (1 : Int32)) hx hb dX11_chance_58 rfl ?_
    refine lv_iload hx hb dX11_chance_59 (lv_at hl 3 rfl) ?_
    obtain ⟨h12, he⟩ := g_ck_some he
    refine g_iast E hM (o := 25) (Nat.le_of_ble_eq_true rfl) rfl h12 dX11_chance_61 (fun H locs hM => ?_)
    obtain ⟨m13, hm13, he⟩ := g_let_ex he
    rw [← hm13] at hM
    refine lv_iconst (v := (0 : Int32)) hx hb dX11_chance_62 rfl ?_
    refine lv_istore (lv' := [(7, .int (0 : Int32)), (0, .ref (B + 0)), (2, .int a2), (3, .int a3), (4, .int v4), (5, .int v5), (6, .int v6)]) hx hb dX11_chance_63 hl (by decide) rfl (fun ls hl => ?_)
    exact w11_chance_b65 (F := F) (a1 := a1) (a2 := a2) (a3 := a3) E hml hret hlk hs41 _ _ _ _ _ _ _ hM (lv_sub hl [1, 2, 3, 5, 6, 0] rfl) he

set_option maxHeartbeats 4000000 in
set_option maxRecDepth 100000 in
theorem w11_chance_b41 (E : g_C p s m args c cX11_chance RX11 D aC (g_Zs (g_A B 44))) (hml : c.maxLocals = 8) (hret : meth.sig.returnType = (some .int)) (hlk : meth.locks = false) {F : Nat} {q0 : Int32 × g_M} {a1 : Int32} {a2 : Int32} {a3 : Int32} : ∀ (v4 : Int32) (v5 : Int32) (v6 : Int32) (mem : g_M) (H : Heap) (locs : List Loc) (ls : Array Slot), g_At D aC B yM 44 mem s.heap H locs → lv_has ls 8 [(0, .ref (B + 0)), (2, .int a2), (3, .int a3), (4, .int v4), (5, .int v5), (6, .int v6)] → f11_chance_b41 F a1 a2 a3 v4 v5 v6 mem = some q0 → W p l e (g_rm 8) s m args below meth c H locs 0 0 (g_MQ below D aC B yM 44 args s (some (.int q0.1)) q0.2) (F0 m 41 ls []) := by
  have key : ∀ (nn : Nat) (x : Int32 × Int32 × Int32 × g_M) (H : Heap) (locs : List Loc) (ls : Array Slot), g_At D aC B yM 44 x.2.2.2 s.heap H locs → lv_has ls 8 [(0, .ref (B + 0)), (2, .int a2), (3, .int a3), (4, .int x.1), (5, .int x.2.1), (6, .int x.2.2.1)] → g_fix (fun sf x => f11_chance_b41_body F a1 a2 a3 (fun v4 v5 v6 mem => sf (v4, v5, v6, mem)) x.1 x.2.1 x.2.2.1 x.2.2.2) nn x = some q0 → W p l e (g_rm 8) s m args below meth c H locs 0 0 (g_MQ below D aC B yM 44 args s (some (.int q0.1)) q0.2) (F0 m 41 ls []) := by
    intro nn
    induction nn with
    | zero => intro x H locs ls hM hl he; simp [g_fix] at he
    | succ nn ih =>
      intro x H locs ls hM hl he
      exact w11_chance_b41_body (F := F) (a1 := a1) (a2 := a2) (a3 := a3) E hml hret hlk (fun v4 v5 v6 mem H locs ls hM hl he => ih (v4, v5, v6, mem) H locs ls hM hl he) x.1 x.2.1 x.2.2.1 x.2.2.2 H locs ls hM hl he
  intro v4 v5 v6 mem H locs ls hM hl he
  exact key F (v4, v5, v6, mem) H locs ls hM hl he

set_option maxHeartbeats 4000000 in
set_option maxRecDepth 100000 in
theorem c11_chance (l : Launch) (D : va_G) (aC : Nat → ClassId) (B : Nat) {F : Nat} {a1 : Int32} {a2 : Int32} {a3 : Int32} {mem : g_M} {q0 : Int32 × g_M} (he : f11_chance F a1 a2 a3 mem = some q0) : g_Met l yX11_chance cX11_chance 8 (some .int) 8 D aC B yM 44 mem [.ref (B + 0), .int a1, .int a2, .int a3] (some (.int q0.1)) q0.2 := by
  refine g_ofW (by decide) (Nat.le_of_ble_eq_true rfl) ?_
  intro p e s m args below meth c ls E hml hret hlk hM hl
  have E : g_C p s m args c cX11_chance RX11 D aC (g_Zs (g_A B 44)) := E
  have hx := E.1
  have hb := E.2.1
  have hown := E.2.2.1
  have hts := E.2.2.2.1
  have hl : lv_has ls 8 [(0, .ref (B + 0)), (1, .int a1), (2, .int a2), (3, .int a3)] := hl
  unfold f11_chance at he
  refine lv_aload_n hx hb dX11_chance_0 rfl (lv_at hl 0 rfl) ?_
  refine lv_iconst (v := (0 : Int32)) hx hb dX11_chance_1 rfl ?_
  refine g_putI E hM (o := 0) (Nat.le_of_ble_eq_true rfl) rfl fp_X11_157 dX11_chance_2 (fun H locs hM => ?_)
  obtain ⟨m14, hm14, he⟩ := g_let_ex he
  rw [← hm14] at hM
  refine lv_iload_n hx hb dX11_chance_5 rfl (lv_at hl 1 rfl) ?_
  refine lv_if_lt (tgt := 30) hx hb dX11_chance_6 (by decide) (fun h15 => ?_) (fun h15 => ?_)
  · rw [if_neg (Int32.not_le.mpr h15)] at he
    refine lv_iconst (v := (-1 : Int32)) hx hb dX11_chance_30 rfl ?_
    cases he
    exact g_iret E hM hret hlk dX11_chance_31
  · rw [if_pos (Int32.not_lt.mp h15)] at he
    refine lv_iload_n hx hb dX11_chance_9 rfl (lv_at hl 2 rfl) ?_
    refine lv_iconst (v := (1 : Int32)) hx hb dX11_chance_10 rfl ?_
    refine lv_icmp_lt (tgt := 30) hx hb dX11_chance_11 (by decide) (fun h16 => ?_) (fun h16 => ?_)
    · rw [if_neg (Int32.not_le.mpr h16)] at he
      refine lv_iconst (v := (-1 : Int32)) hx hb dX11_chance_30 rfl ?_
      cases he
      exact g_iret E hM hret hlk dX11_chance_31
    · rw [if_pos (Int32.not_lt.mp h16)] at he
      refine lv_iload_n hx hb dX11_chance_14 rfl (lv_at hl 2 rfl) ?_
      refine lv_bipush (v := (99 : Int32)) hx hb dX11_chance_15 rfl ?_
      refine lv_icmp_gt (tgt := 30) hx hb dX11_chance_17 (by decide) (fun h17 => ?_) (fun h17 => ?_)
      · rw [if_neg (Int32.not_le.mpr h17)] at he
        refine lv_iconst (v := (-1 : Int32)) hx hb dX11_chance_30 rfl ?_
        cases he
        exact g_iret E hM hret hlk dX11_chance_31
      · rw [if_pos (Int32.not_lt.mp h17)] at he
        refine lv_iload_n hx hb dX11_chance_20 rfl (lv_at hl 3 rfl) ?_
        refine lv_if_lt (tgt := 30) hx hb dX11_chance_21 (by decide) (fun h18 => ?_) (fun h18 => ?_)
        · rw [if_neg (Int32.not_le.mpr h18)] at he
          refine lv_iconst (v := (-1 : Int32)) hx hb dX11_chance_30 rfl ?_
          cases he
          exact g_iret E hM hret hlk dX11_chance_31
        · rw [if_pos (Int32.not_lt.mp h18)] at he
          refine lv_iload_n hx hb dX11_chance_24 rfl (lv_at hl 3 rfl) ?_
          refine lv_bipush (v := (25 : Int32)) hx hb dX11_chance_25 rfl ?_
          refine lv_icmp_le (tgt := 32) hx hb dX11_chance_27 (by decide) (fun h19 => ?_) (fun h19 => ?_)
          · rw [if_neg (Int32.not_lt.mpr h19)] at he
            refine lv_iload_n hx hb dX11_chance_32 rfl (lv_at hl 1 rfl) ?_
            refine lv_istore (lv' := [(4, .int a1), (0, .ref (B + 0)), (1, .int a1), (2, .int a2), (3, .int a3)]) hx hb dX11_chance_33 hl (by decide) rfl (fun ls hl => ?_)
            refine lv_iconst (v := (0 : Int32)) hx hb dX11_chance_35 rfl ?_
            refine lv_istore (lv' := [(5, .int (0 : Int32)), (4, .int a1), (0, .ref (B + 0)), (1, .int a1), (2, .int a2), (3, .int a3)]) hx hb dX11_chance_36 hl (by decide) rfl (fun ls hl => ?_)
            refine lv_iconst (v := (0 : Int32)) hx hb dX11_chance_38 rfl ?_
            refine lv_istore (lv' := [(6, .int (0 : Int32)), (5, .int (0 : Int32)), (4, .int a1), (0, .ref (B + 0)), (1, .int a1), (2, .int a2), (3, .int a3)]) hx hb dX11_chance_39 hl (by decide) rfl (fun ls hl => ?_)
            exact w11_chance_b41 (F := F) (a1 := a1) (a2 := a2) (a3 := a3) E hml hret hlk _ _ _ _ _ _ _ hM (lv_sub hl [3, 5, 6, 2, 1, 0] rfl) he
          · rw [if_pos (Int32.not_le.mp h19)] at he
            refine lv_iconst (v := (-1 : Int32)) hx hb dX11_chance_30 rfl ?_
            cases he
            exact g_iret E hM hret hlk dX11_chance_31

set_option maxHeartbeats 4000000 in
set_option maxRecDepth 100000 in
theorem w11_ownsAgain_b14_body (E : g_C p s m args c cX11_ownsAgain RX11 D aC (g_Zs (g_A B 44))) (hml : c.maxLocals = 4) (hret : meth.sig.returnType = none) (hlk : meth.locks = false) {F : Nat} {q0 : g_M} {a1 : Int32} {s2 : Int32 → g_M → Option (g_M)} (hs2 : ∀ (v2 : Int32) (mem : g_M) (H : Heap) (locs : List Loc) (ls : Array Slot), g_At D aC B yM 44 mem s.heap H locs → lv_has ls 4 [(0, .ref (B + 0)), (1, .int a1), (2, .int v2)] → s2 v2 mem = some q0 → W p l e (g_rm 1) s m args below meth c H locs 0 0 (g_MQ below D aC B yM 44 args s none q0) (F0 m 2 ls [])) {s14 : Int32 → Int32 → g_M → Option (g_M)} (hs14 : ∀ (v2 : Int32) (v3 : Int32) (mem : g_M) (H : Heap) (locs : List Loc) (ls : Array Slot), g_At D aC B yM 44 mem s.heap H locs → lv_has ls 4 [(0, .ref (B + 0)), (1, .int a1), (2, .int v2), (3, .int v3)] → s14 v2 v3 mem = some q0 → W p l e (g_rm 1) s m args below meth c H locs 0 0 (g_MQ below D aC B yM 44 args s none q0) (F0 m 14 ls [])) : ∀ (v2 : Int32) (v3 : Int32) (mem : g_M) (H : Heap) (locs : List Loc) (ls : Array Slot), g_At D aC B yM 44 mem s.heap H locs → lv_has ls 4 [(0, .ref (B + 0)), (1, .int a1), (2, .int v2), (3, .int v3)] → f11_ownsAgain_b14_body F a1 s2 s14 v2 v3 mem = some q0 → W p l e (g_rm 1) s m args below meth c H locs 0 0 (g_MQ below D aC B yM 44 args s none q0) (F0 m 14 ls []) := by
  intro v2 v3 mem H locs ls hM hl he
  unfold f11_ownsAgain_b14_body at he
  have hx := E.1
  have hb := E.2.1
  have hown := E.2.2.1
  have hts := E.2.2.2.1
  refine lv_iload_n hx hb dX11_ownsAgain_14 rfl (lv_at hl 3 rfl) ?_
  refine lv_aload_n hx hb dX11_ownsAgain_15 rfl (lv_at hl 0 rfl) ?_
  refine g_getP E hM (o := 0) (Nat.le_of_ble_eq_true rfl) rfl fl_X11_13 (q := 2) rfl dX11_ownsAgain_16 ?_
  refine lv_iconst (v := (1 : Int32)) hx hb dX11_ownsAgain_19 rfl ?_
  obtain ⟨h1, he⟩ := g_ck_some he
  refine g_iald E hM (o := 2) (Nat.le_of_ble_eq_true rfl) rfl h1 dX11_ownsAgain_20 ?_
  refine lv_icmp_ge (tgt := 46) hx hb dX11_ownsAgain_21 (by decide) (fun h2 => ?_) (fun h2 => ?_)
  · rw [if_neg (Int32.not_lt.mpr h2)] at he
    obtain ⟨x6, hx6, he⟩ := g_let_ex he
    refine lv_iinc (v := x6) (lv' := [(2, .int x6), (0, .ref (B + 0)), (1, .int a1), (3, .int v3)]) hx hb dX11_ownsAgain_46 hl (k := 2) rfl (by rw [hx6]; rfl) (by decide) rfl (fun ls hl => ?_)
    refine lv_goto (tgt := 2) hx hb dX11_ownsAgain_49 (by decide) ?_
    exact hs2 _ _ _ _ _ hM (lv_sub hl [1, 2, 0] rfl) he
  · rw [if_pos (Int32.not_le.mp h2)] at he
    refine lv_aload_n hx hb dX11_ownsAgain_24 rfl (lv_at hl 0 rfl) ?_
    refine g_getP E hM (o := 0) (Nat.le_of_ble_eq_true rfl) rfl fl_X11_99 (q := 29) rfl dX11_ownsAgain_25 ?_
    refine lv_bipush (v := (25 : Int32)) hx hb dX11_ownsAgain_28 rfl ?_
    refine lv_iload_n hx hb dX11_ownsAgain_30 rfl (lv_at hl 1 rfl) ?_
    refine lv_imul hx hb dX11_ownsAgain_31 ?_
    refine lv_iconst (v := (5 : Int32)) hx hb dX11_ownsAgain_32 rfl ?_
    refine lv_iload_n hx hb dX11_ownsAgain_33 rfl (lv_at hl 2 rfl) ?_
    refine lv_imul hx hb dX11_ownsAgain_34 ?_
    refine lv_iadd hx hb dX11_ownsAgain_35 ?_
    refine lv_iload_n hx hb dX11_ownsAgain_36 rfl (lv_at hl 3 rfl) ?_
    refine lv_iadd hx hb dX11_ownsAgain_37 ?_
    refine lv_iload_n hx hb dX11_ownsAgain_38 rfl (lv_at hl 2 rfl) ?_
    obtain ⟨h3, he⟩ := g_ck_some he
    refine g_iast E hM (o := 29) (Nat.le_of_ble_eq_true rfl) rfl h3 dX11_ownsAgain_39 (fun H locs hM => ?_)
    obtain ⟨m4, hm4, he⟩ := g_let_ex he
    rw [← hm4] at hM
    obtain ⟨x5, hx5, he⟩ := g_let_ex he
    refine lv_iinc (v := x5) (lv' := [(3, .int x5), (0, .ref (B + 0)), (1, .int a1), (2, .int v2)]) hx hb dX11_ownsAgain_40 hl (k := 3) rfl (by rw [hx5]; rfl) (by decide) rfl (fun ls hl => ?_)
    refine lv_goto (tgt := 14) hx hb dX11_ownsAgain_43 (by decide) ?_
    exact hs14 _ _ _ _ _ _ hM (lv_sub hl [1, 2, 3, 0] rfl) he

set_option maxHeartbeats 4000000 in
set_option maxRecDepth 100000 in
theorem w11_ownsAgain_b14 (E : g_C p s m args c cX11_ownsAgain RX11 D aC (g_Zs (g_A B 44))) (hml : c.maxLocals = 4) (hret : meth.sig.returnType = none) (hlk : meth.locks = false) {F : Nat} {q0 : g_M} {a1 : Int32} {s2 : Int32 → g_M → Option (g_M)} (hs2 : ∀ (v2 : Int32) (mem : g_M) (H : Heap) (locs : List Loc) (ls : Array Slot), g_At D aC B yM 44 mem s.heap H locs → lv_has ls 4 [(0, .ref (B + 0)), (1, .int a1), (2, .int v2)] → s2 v2 mem = some q0 → W p l e (g_rm 1) s m args below meth c H locs 0 0 (g_MQ below D aC B yM 44 args s none q0) (F0 m 2 ls [])) : ∀ (v2 : Int32) (v3 : Int32) (mem : g_M) (H : Heap) (locs : List Loc) (ls : Array Slot), g_At D aC B yM 44 mem s.heap H locs → lv_has ls 4 [(0, .ref (B + 0)), (1, .int a1), (2, .int v2), (3, .int v3)] → f11_ownsAgain_b14 F a1 s2 v2 v3 mem = some q0 → W p l e (g_rm 1) s m args below meth c H locs 0 0 (g_MQ below D aC B yM 44 args s none q0) (F0 m 14 ls []) := by
  have key : ∀ (nn : Nat) (x : Int32 × Int32 × g_M) (H : Heap) (locs : List Loc) (ls : Array Slot), g_At D aC B yM 44 x.2.2 s.heap H locs → lv_has ls 4 [(0, .ref (B + 0)), (1, .int a1), (2, .int x.1), (3, .int x.2.1)] → g_fix (fun sf x => f11_ownsAgain_b14_body F a1 s2 (fun v2 v3 mem => sf (v2, v3, mem)) x.1 x.2.1 x.2.2) nn x = some q0 → W p l e (g_rm 1) s m args below meth c H locs 0 0 (g_MQ below D aC B yM 44 args s none q0) (F0 m 14 ls []) := by
    intro nn
    induction nn with
    | zero => intro x H locs ls hM hl he; simp [g_fix] at he
    | succ nn ih =>
      intro x H locs ls hM hl he
      exact w11_ownsAgain_b14_body (F := F) (a1 := a1) E hml hret hlk hs2 (fun v2 v3 mem H locs ls hM hl he => ih (v2, v3, mem) H locs ls hM hl he) x.1 x.2.1 x.2.2 H locs ls hM hl he
  intro v2 v3 mem H locs ls hM hl he
  exact key F (v2, v3, mem) H locs ls hM hl he

set_option maxHeartbeats 4000000 in
set_option maxRecDepth 100000 in
theorem w11_ownsAgain_b2_body (E : g_C p s m args c cX11_ownsAgain RX11 D aC (g_Zs (g_A B 44))) (hml : c.maxLocals = 4) (hret : meth.sig.returnType = none) (hlk : meth.locks = false) {F : Nat} {q0 : g_M} {a1 : Int32} {s2 : Int32 → g_M → Option (g_M)} (hs2 : ∀ (v2 : Int32) (mem : g_M) (H : Heap) (locs : List Loc) (ls : Array Slot), g_At D aC B yM 44 mem s.heap H locs → lv_has ls 4 [(0, .ref (B + 0)), (1, .int a1), (2, .int v2)] → s2 v2 mem = some q0 → W p l e (g_rm 1) s m args below meth c H locs 0 0 (g_MQ below D aC B yM 44 args s none q0) (F0 m 2 ls [])) : ∀ (v2 : Int32) (mem : g_M) (H : Heap) (locs : List Loc) (ls : Array Slot), g_At D aC B yM 44 mem s.heap H locs → lv_has ls 4 [(0, .ref (B + 0)), (1, .int a1), (2, .int v2)] → f11_ownsAgain_b2_body F a1 s2 v2 mem = some q0 → W p l e (g_rm 1) s m args below meth c H locs 0 0 (g_MQ below D aC B yM 44 args s none q0) (F0 m 2 ls []) := by
  intro v2 mem H locs ls hM hl he
  unfold f11_ownsAgain_b2_body at he
  have hx := E.1
  have hb := E.2.1
  have hown := E.2.2.1
  have hts := E.2.2.2.1
  refine lv_iload_n hx hb dX11_ownsAgain_2 rfl (lv_at hl 2 rfl) ?_
  refine lv_aload_n hx hb dX11_ownsAgain_3 rfl (lv_at hl 0 rfl) ?_
  refine g_getP E hM (o := 0) (Nat.le_of_ble_eq_true rfl) rfl fl_X11_13 (q := 2) rfl dX11_ownsAgain_4 ?_
  refine lv_iconst (v := (0 : Int32)) hx hb dX11_ownsAgain_7 rfl ?_
  obtain ⟨h7, he⟩ := g_ck_some he
  refine g_iald E hM (o := 2) (Nat.le_of_ble_eq_true rfl) rfl h7 dX11_ownsAgain_8 ?_
  refine lv_icmp_ge (tgt := 52) hx hb dX11_ownsAgain_9 (by decide) (fun h8 => ?_) (fun h8 => ?_)
  · rw [if_neg (Int32.not_lt.mpr h8)] at he
    cases he
    exact g_vret E hM hret hlk dX11_ownsAgain_52
  · rw [if_pos (Int32.not_le.mp h8)] at he
    refine lv_iconst (v := (0 : Int32)) hx hb dX11_ownsAgain_12 rfl ?_
    refine lv_istore_n (lv' := [(3, .int (0 : Int32)), (0, .ref (B + 0)), (1, .int a1), (2, .int v2)]) hx hb dX11_ownsAgain_13 rfl hl (by decide) rfl (fun ls hl => ?_)
    exact w11_ownsAgain_b14 (F := F) (a1 := a1) E hml hret hlk hs2 _ _ _ _ _ _ hM (lv_sub hl [1, 2, 3, 0] rfl) he

set_option maxHeartbeats 4000000 in
set_option maxRecDepth 100000 in
theorem w11_ownsAgain_b2 (E : g_C p s m args c cX11_ownsAgain RX11 D aC (g_Zs (g_A B 44))) (hml : c.maxLocals = 4) (hret : meth.sig.returnType = none) (hlk : meth.locks = false) {F : Nat} {q0 : g_M} {a1 : Int32} : ∀ (v2 : Int32) (mem : g_M) (H : Heap) (locs : List Loc) (ls : Array Slot), g_At D aC B yM 44 mem s.heap H locs → lv_has ls 4 [(0, .ref (B + 0)), (1, .int a1), (2, .int v2)] → f11_ownsAgain_b2 F a1 v2 mem = some q0 → W p l e (g_rm 1) s m args below meth c H locs 0 0 (g_MQ below D aC B yM 44 args s none q0) (F0 m 2 ls []) := by
  have key : ∀ (nn : Nat) (x : Int32 × g_M) (H : Heap) (locs : List Loc) (ls : Array Slot), g_At D aC B yM 44 x.2 s.heap H locs → lv_has ls 4 [(0, .ref (B + 0)), (1, .int a1), (2, .int x.1)] → g_fix (fun sf x => f11_ownsAgain_b2_body F a1 (fun v2 mem => sf (v2, mem)) x.1 x.2) nn x = some q0 → W p l e (g_rm 1) s m args below meth c H locs 0 0 (g_MQ below D aC B yM 44 args s none q0) (F0 m 2 ls []) := by
    intro nn
    induction nn with
    | zero => intro x H locs ls hM hl he; simp [g_fix] at he
    | succ nn ih =>
      intro x H locs ls hM hl he
      exact w11_ownsAgain_b2_body (F := F) (a1 := a1) E hml hret hlk (fun v2 mem H locs ls hM hl he => ih (v2, mem) H locs ls hM hl he) x.1 x.2 H locs ls hM hl he
  intro v2 mem H locs ls hM hl he
  exact key F (v2, mem) H locs ls hM hl he

set_option maxHeartbeats 4000000 in
set_option maxRecDepth 100000 in
theorem c11_ownsAgain (l : Launch) (D : va_G) (aC : Nat → ClassId) (B : Nat) {F : Nat} {a1 : Int32} {mem : g_M} {q0 : g_M} (he : f11_ownsAgain F a1 mem = some q0) : g_Met l yX11_ownsAgain cX11_ownsAgain 4 none 1 D aC B yM 44 mem [.ref (B + 0), .int a1] none q0 := by
  refine g_ofW (by decide) (Nat.le_of_ble_eq_true rfl) ?_
  intro p e s m args below meth c ls E hml hret hlk hM hl
  have E : g_C p s m args c cX11_ownsAgain RX11 D aC (g_Zs (g_A B 44)) := E
  have hx := E.1
  have hb := E.2.1
  have hown := E.2.2.1
  have hts := E.2.2.2.1
  have hl : lv_has ls 4 [(0, .ref (B + 0)), (1, .int a1)] := hl
  unfold f11_ownsAgain at he
  refine lv_iconst (v := (0 : Int32)) hx hb dX11_ownsAgain_0 rfl ?_
  refine lv_istore_n (lv' := [(2, .int (0 : Int32)), (0, .ref (B + 0)), (1, .int a1)]) hx hb dX11_ownsAgain_1 rfl hl (by decide) rfl (fun ls hl => ?_)
  exact w11_ownsAgain_b2 (F := F) (a1 := a1) E hml hret hlk _ _ _ _ _ hM (lv_sub hl [1, 2, 0] rfl) he

set_option maxHeartbeats 4000000 in
set_option maxRecDepth 100000 in
theorem w11_tried_b71 (E : g_C p s m args c cX11_tried RX11 D aC (g_Zs (g_A B 44))) (hml : c.maxLocals = 5) (hret : meth.sig.returnType = (some .int)) (hlk : meth.locks = false) {F : Nat} {q0 : Int32 × g_M} {a1 : Int32} {a2 : Int32} {a3 : Int32} : ∀ (mem : g_M) (H : Heap) (locs : List Loc) (ls : Array Slot), g_At D aC B yM 44 mem s.heap H locs → lv_has ls 5 [(0, .ref (B + 0)), (1, .int a1), (2, .int a2), (3, .int a3)] → f11_tried_b71 F a1 a2 a3 mem = some q0 → W p l e (g_rm 9) s m args below meth c H locs 0 0 (g_MQ below D aC B yM 44 args s (some (.int q0.1)) q0.2) (F0 m 71 ls []) := by
  intro mem H locs ls hM hl he
  unfold f11_tried_b71 at he
  have hx := E.1
  have hb := E.2.1
  have hown := E.2.2.1
  have hts := E.2.2.2.1
  refine lv_aload_n hx hb dX11_tried_71 rfl (lv_at hl 0 rfl) ?_
  refine lv_iload_n hx hb dX11_tried_72 rfl (lv_at hl 1 rfl) ?_
  refine g_putI E hM (o := 0) (Nat.le_of_ble_eq_true rfl) rfl fp_X11_382 dX11_tried_73 (fun H locs hM => ?_)
  obtain ⟨m1, hm1, he⟩ := g_let_ex he
  rw [← hm1] at hM
  refine lv_aload_n hx hb dX11_tried_76 rfl (lv_at hl 0 rfl) ?_
  refine lv_iload_n hx hb dX11_tried_77 rfl (lv_at hl 2 rfl) ?_
  refine g_putI E hM (o := 0) (Nat.le_of_ble_eq_true rfl) rfl fp_X11_120 dX11_tried_78 (fun H locs hM => ?_)
  obtain ⟨m2, hm2, he⟩ := g_let_ex he
  rw [← hm2] at hM
  refine lv_aload_n hx hb dX11_tried_81 rfl (lv_at hl 0 rfl) ?_
  refine lv_iload_n hx hb dX11_tried_82 rfl (lv_at hl 3 rfl) ?_
  obtain ⟨r3, hcr3, he⟩ := g_bind he
  refine g_callV [.int a3] (rest := []) E hml hl.1 hM cv_X11_423 (c11_goesOn l D aC B hcr3) (o := 0) (Nat.le_of_ble_eq_true rfl) rfl (by decide) rfl rfl (Nat.le_of_ble_eq_true rfl) dX11_tried_83 (fun H locs hM => ?_)
  refine W.eq (g2 := F0 m 86 ls []) rfl ?_
  refine lv_aload_n hx hb dX11_tried_86 rfl (lv_at hl 0 rfl) ?_
  refine lv_iconst (v := (0 : Int32)) hx hb dX11_tried_87 rfl ?_
  refine g_putI E hM (o := 0) (Nat.le_of_ble_eq_true rfl) rfl fp_X11_382 dX11_tried_88 (fun H locs hM => ?_)
  obtain ⟨m4, hm4, he⟩ := g_let_ex he
  rw [← hm4] at hM
  refine lv_aload_n hx hb dX11_tried_91 rfl (lv_at hl 0 rfl) ?_
  refine lv_iconst (v := (-1 : Int32)) hx hb dX11_tried_92 rfl ?_
  refine g_putI E hM (o := 0) (Nat.le_of_ble_eq_true rfl) rfl fp_X11_120 dX11_tried_93 (fun H locs hM => ?_)
  obtain ⟨m5, hm5, he⟩ := g_let_ex he
  rw [← hm5] at hM
  refine lv_aload_n hx hb dX11_tried_96 rfl (lv_at hl 0 rfl) ?_
  refine lv_iconst (v := (1 : Int32)) hx hb dX11_tried_97 rfl ?_
  refine lv_iconst (v := (1 : Int32)) hx hb dX11_tried_98 rfl ?_
  obtain ⟨r6, hcr6, he⟩ := g_bind he
  refine g_callV [.int (1 : Int32), .int (1 : Int32)] (rest := []) E hml hl.1 hM cv_X11_457 (c11_outcomes l D aC B hcr6) (o := 0) (Nat.le_of_ble_eq_true rfl) rfl (by decide) rfl rfl (Nat.le_of_ble_eq_true rfl) dX11_tried_99 (fun H locs hM => ?_)
  refine W.eq (g2 := F0 m 102 ls [.int r6]) rfl ?_
  refine lv_aload_n hx hb dX11_tried_102 rfl (lv_at hl 0 rfl) ?_
  refine lv_iconst (v := (0 : Int32)) hx hb dX11_tried_103 rfl ?_
  refine lv_iconst (v := (1 : Int32)) hx hb dX11_tried_104 rfl ?_
  obtain ⟨r7, hcr7, he⟩ := g_bind he
  refine g_callV [.int (0 : Int32), .int (1 : Int32)] (rest := [.int r6]) E hml hl.1 hM cv_X11_457 (c11_outcomes l D aC B hcr7) (o := 0) (Nat.le_of_ble_eq_true rfl) rfl (by decide) rfl rfl (Nat.le_of_ble_eq_true rfl) dX11_tried_105 (fun H locs hM => ?_)
  refine W.eq (g2 := F0 m 108 ls [.int r7, .int r6]) rfl ?_
  refine lv_isub hx hb dX11_tried_108 ?_
  cases he
  exact g_iret E hM hret hlk dX11_tried_109

set_option maxHeartbeats 4000000 in
set_option maxRecDepth 100000 in
theorem w11_tried_b36 (E : g_C p s m args c cX11_tried RX11 D aC (g_Zs (g_A B 44))) (hml : c.maxLocals = 5) (hret : meth.sig.returnType = (some .int)) (hlk : meth.locks = false) {F : Nat} {q0 : Int32 × g_M} {a1 : Int32} {a2 : Int32} {a3 : Int32} : ∀ (w0 : Int32) (mem : g_M) (H : Heap) (locs : List Loc) (ls : Array Slot), g_At D aC B yM 44 mem s.heap H locs → lv_has ls 5 [(0, .ref (B + 0)), (1, .int a1), (2, .int a2), (3, .int a3)] → f11_tried_b36 F a1 a2 a3 w0 mem = some q0 → W p l e (g_rm 9) s m args below meth c H locs 0 0 (g_MQ below D aC B yM 44 args s (some (.int q0.1)) q0.2) (F0 m 36 ls [.int w0]) := by
  intro w0 mem H locs ls hM hl he
  unfold f11_tried_b36 at he
  have hx := E.1
  have hb := E.2.1
  have hown := E.2.2.1
  have hts := E.2.2.2.1
  refine lv_istore (lv' := [(4, .int w0), (0, .ref (B + 0)), (1, .int a1), (2, .int a2), (3, .int a3)]) hx hb dX11_tried_36 hl (by decide) rfl (fun ls hl => ?_)
  refine lv_iload hx hb dX11_tried_38 (lv_at hl 0 rfl) ?_
  refine lv_if_eq (tgt := 53) hx hb dX11_tried_40 (by decide) (fun h8 => ?_) (fun h8 => ?_)
  · rw [if_pos h8] at he
    refine lv_iconst (v := (-1 : Int32)) hx hb dX11_tried_53 rfl ?_
    cases he
    exact g_iret E hM hret hlk dX11_tried_54
  · rw [if_neg h8] at he
    refine lv_iload_n hx hb dX11_tried_43 rfl (lv_at hl 4 rfl) ?_
    refine lv_if_lt (tgt := 53) hx hb dX11_tried_44 (by decide) (fun h9 => ?_) (fun h9 => ?_)
    · rw [if_neg (Int32.not_le.mpr h9)] at he
      refine lv_iconst (v := (-1 : Int32)) hx hb dX11_tried_53 rfl ?_
      cases he
      exact g_iret E hM hret hlk dX11_tried_54
    · rw [if_pos (Int32.not_lt.mp h9)] at he
      refine lv_iload_n hx hb dX11_tried_47 rfl (lv_at hl 4 rfl) ?_
      refine lv_bipush (v := (99 : Int32)) hx hb dX11_tried_48 rfl ?_
      refine lv_icmp_le (tgt := 55) hx hb dX11_tried_50 (by decide) (fun h10 => ?_) (fun h10 => ?_)
      · rw [if_neg (Int32.not_lt.mpr h10)] at he
        refine lv_aload_n hx hb dX11_tried_55 rfl (lv_at hl 1 rfl) ?_
        refine lv_iconst (v := (1 : Int32)) hx hb dX11_tried_56 rfl ?_
        refine lv_iconst (v := (0 : Int32)) hx hb dX11_tried_57 rfl ?_
        obtain ⟨r11, hcr11, he⟩ := g_bind he
        refine g_callV [.int (1 : Int32), .int (0 : Int32)] (rest := []) E hml hl.1 hM cv_X11_420 (c11_copies l D aC B hcr11) (o := 0) (Nat.le_of_ble_eq_true rfl) rfl (by decide) rfl rfl (Nat.le_of_ble_eq_true rfl) dX11_tried_58 (fun H locs hM => ?_)
        refine W.eq (g2 := F0 m 61 ls []) rfl ?_
        refine lv_iload_n hx hb dX11_tried_61 rfl (lv_at hl 2 rfl) ?_
        refine lv_iconst (v := (5 : Int32)) hx hb dX11_tried_62 rfl ?_
        refine lv_icmp_ne (tgt := 71) hx hb dX11_tried_63 (by decide) (fun h12 => ?_) (fun h12 => ?_)
        · rw [if_neg h12] at he
          exact w11_tried_b71 (F := F) (a1 := a1) (a2 := a2) (a3 := a3) E hml hret hlk _ _ _ _ hM (lv_sub hl [1, 2, 3, 4] rfl) he
        · rw [if_pos h12] at he
          refine lv_aload_n hx hb dX11_tried_66 rfl (lv_at hl 1 rfl) ?_
          refine lv_iconst (v := (1 : Int32)) hx hb dX11_tried_67 rfl ?_
          obtain ⟨r13, hcr13, he⟩ := g_bind he
          refine g_callV [.int (1 : Int32)] (rest := []) E hml hl.1 hM cv_X11_531 (c11_ownsAgain l D aC B hcr13) (o := 0) (Nat.le_of_ble_eq_true rfl) rfl (by decide) rfl rfl (Nat.le_of_ble_eq_true rfl) dX11_tried_68 (fun H locs hM => ?_)
          refine W.eq (g2 := F0 m 71 ls []) rfl ?_
          exact w11_tried_b71 (F := F) (a1 := a1) (a2 := a2) (a3 := a3) E hml hret hlk _ _ _ _ hM (lv_sub hl [1, 2, 3, 4] rfl) he
      · rw [if_pos (Int32.not_le.mp h10)] at he
        refine lv_iconst (v := (-1 : Int32)) hx hb dX11_tried_53 rfl ?_
        cases he
        exact g_iret E hM hret hlk dX11_tried_54

set_option maxHeartbeats 4000000 in
set_option maxRecDepth 100000 in
theorem w11_tried_b35 (E : g_C p s m args c cX11_tried RX11 D aC (g_Zs (g_A B 44))) (hml : c.maxLocals = 5) (hret : meth.sig.returnType = (some .int)) (hlk : meth.locks = false) {F : Nat} {q0 : Int32 × g_M} {a1 : Int32} {a2 : Int32} {a3 : Int32} : ∀ (mem : g_M) (H : Heap) (locs : List Loc) (ls : Array Slot), g_At D aC B yM 44 mem s.heap H locs → lv_has ls 5 [(0, .ref (B + 0)), (1, .int a1), (2, .int a2), (3, .int a3)] → f11_tried_b35 F a1 a2 a3 mem = some q0 → W p l e (g_rm 9) s m args below meth c H locs 0 0 (g_MQ below D aC B yM 44 args s (some (.int q0.1)) q0.2) (F0 m 35 ls []) := by
  intro mem H locs ls hM hl he
  unfold f11_tried_b35 at he
  have hx := E.1
  have hb := E.2.1
  have hown := E.2.2.1
  have hts := E.2.2.2.1
  refine lv_iconst (v := (0 : Int32)) hx hb dX11_tried_35 rfl ?_
  exact w11_tried_b36 (F := F) (a1 := a1) (a2 := a2) (a3 := a3) E hml hret hlk _ _ _ _ _ hM (lv_sub hl [0, 1, 2, 3] rfl) he

set_option maxHeartbeats 4000000 in
set_option maxRecDepth 100000 in
theorem c11_tried (l : Launch) (D : va_G) (aC : Nat → ClassId) (B : Nat) {F : Nat} {a1 : Int32} {a2 : Int32} {a3 : Int32} {mem : g_M} {q0 : Int32 × g_M} (he : f11_tried F a1 a2 a3 mem = some q0) : g_Met l yX11_tried cX11_tried 5 (some .int) 9 D aC B yM 44 mem [.ref (B + 0), .int a1, .int a2, .int a3] (some (.int q0.1)) q0.2 := by
  refine g_ofW (by decide) (Nat.le_of_ble_eq_true rfl) ?_
  intro p e s m args below meth c ls E hml hret hlk hM hl
  have E : g_C p s m args c cX11_tried RX11 D aC (g_Zs (g_A B 44)) := E
  have hx := E.1
  have hb := E.2.1
  have hown := E.2.2.1
  have hts := E.2.2.2.1
  have hl : lv_has ls 5 [(0, .ref (B + 0)), (1, .int a1), (2, .int a2), (3, .int a3)] := hl
  unfold f11_tried at he
  refine lv_aload_n hx hb dX11_tried_0 rfl (lv_at hl 0 rfl) ?_
  refine lv_iconst (v := (0 : Int32)) hx hb dX11_tried_1 rfl ?_
  refine g_putI E hM (o := 0) (Nat.le_of_ble_eq_true rfl) rfl fp_X11_157 dX11_tried_2 (fun H locs hM => ?_)
  obtain ⟨m14, hm14, he⟩ := g_let_ex he
  rw [← hm14] at hM
  refine lv_iload_n hx hb dX11_tried_5 rfl (lv_at hl 1 rfl) ?_
  refine lv_iconst (v := (2 : Int32)) hx hb dX11_tried_6 rfl ?_
  refine lv_icmp_ne (tgt := 18) hx hb dX11_tried_7 (by decide) (fun h15 => ?_) (fun h15 => ?_)
  · rw [if_neg h15] at he
    refine lv_iload_n hx hb dX11_tried_18 rfl (lv_at hl 1 rfl) ?_
    refine lv_if_lt (tgt := 35) hx hb dX11_tried_19 (by decide) (fun h17 => ?_) (fun h17 => ?_)
    · rw [if_neg (Int32.not_le.mpr h17)] at he
      exact w11_tried_b35 (F := F) (a1 := a1) (a2 := a2) (a3 := a3) E hml hret hlk _ _ _ _ hM (lv_sub hl [0, 1, 2, 3] rfl) he
    · rw [if_pos (Int32.not_lt.mp h17)] at he
      refine lv_iload_n hx hb dX11_tried_22 rfl (lv_at hl 1 rfl) ?_
      refine lv_iconst (v := (5 : Int32)) hx hb dX11_tried_23 rfl ?_
      refine lv_icmp_gt (tgt := 35) hx hb dX11_tried_24 (by decide) (fun h18 => ?_) (fun h18 => ?_)
      · rw [if_neg (Int32.not_le.mpr h18)] at he
        exact w11_tried_b35 (F := F) (a1 := a1) (a2 := a2) (a3 := a3) E hml hret hlk _ _ _ _ hM (lv_sub hl [0, 1, 2, 3] rfl) he
      · rw [if_pos (Int32.not_lt.mp h18)] at he
        refine lv_iload_n hx hb dX11_tried_27 rfl (lv_at hl 2 rfl) ?_
        refine lv_if_ne (tgt := 35) hx hb dX11_tried_28 (by decide) (fun h19 => ?_) (fun h19 => ?_)
        · rw [if_neg h19] at he
          exact w11_tried_b35 (F := F) (a1 := a1) (a2 := a2) (a3 := a3) E hml hret hlk _ _ _ _ hM (lv_sub hl [0, 1, 2, 3] rfl) he
        · rw [if_pos h19] at he
          refine lv_iconst (v := (1 : Int32)) hx hb dX11_tried_31 rfl ?_
          refine lv_goto (tgt := 36) hx hb dX11_tried_32 (by decide) ?_
          exact w11_tried_b36 (F := F) (a1 := a1) (a2 := a2) (a3 := a3) E hml hret hlk _ _ _ _ _ hM (lv_sub hl [0, 1, 2, 3] rfl) he
  · rw [if_pos h15] at he
    refine lv_aload_n hx hb dX11_tried_10 rfl (lv_at hl 0 rfl) ?_
    refine lv_iload_n hx hb dX11_tried_11 rfl (lv_at hl 2 rfl) ?_
    obtain ⟨r16, hcr16, he⟩ := g_bind he
    refine g_callV [.int a2] (rest := []) E hml hl.1 hM cv_X11_426 (c11_isMan l D aC B hcr16) (o := 0) (Nat.le_of_ble_eq_true rfl) rfl (by decide) rfl rfl (Nat.le_of_ble_eq_true rfl) dX11_tried_12 (fun H locs hM => ?_)
    refine W.eq (g2 := F0 m 15 ls [.int r16]) rfl ?_
    refine lv_goto (tgt := 36) hx hb dX11_tried_15 (by decide) ?_
    exact w11_tried_b36 (F := F) (a1 := a1) (a2 := a2) (a3 := a3) E hml hret hlk _ _ _ _ _ hM (lv_sub hl [0, 1, 2, 3] rfl) he

set_option maxHeartbeats 4000000 in
set_option maxRecDepth 100000 in
theorem c11_undo (l : Launch) (D : va_G) (aC : Nat → ClassId) (B : Nat) {F : Nat} {mem : g_M} {q0 : Int32 × g_M} (he : f11_undo F mem = some q0) : g_Met l yX11_undo cX11_undo 1 (some .int) 2 D aC B yM 44 mem [.ref (B + 0)] (some (.int q0.1)) q0.2 := by
  refine g_ofW (by decide) (Nat.le_of_ble_eq_true rfl) ?_
  intro p e s m args below meth c ls E hml hret hlk hM hl
  have E : g_C p s m args c cX11_undo RX11 D aC (g_Zs (g_A B 44)) := E
  have hx := E.1
  have hb := E.2.1
  have hown := E.2.2.1
  have hts := E.2.2.2.1
  have hl : lv_has ls 1 [(0, .ref (B + 0))] := hl
  unfold f11_undo at he
  refine lv_aload_n hx hb dX11_undo_0 rfl (lv_at hl 0 rfl) ?_
  refine lv_iconst (v := (0 : Int32)) hx hb dX11_undo_1 rfl ?_
  refine g_putI E hM (o := 0) (Nat.le_of_ble_eq_true rfl) rfl fp_X11_157 dX11_undo_2 (fun H locs hM => ?_)
  obtain ⟨m1, hm1, he⟩ := g_let_ex he
  rw [← hm1] at hM
  refine lv_aload_n hx hb dX11_undo_5 rfl (lv_at hl 0 rfl) ?_
  refine g_getI E hM (o := 0) (Nat.le_of_ble_eq_true rfl) rfl fl_X11_320 dX11_undo_6 ?_
  refine lv_if_ne (tgt := 14) hx hb dX11_undo_9 (by decide) (fun h2 => ?_) (fun h2 => ?_)
  · rw [if_neg h2] at he
    refine lv_aload_n hx hb dX11_undo_14 rfl (lv_at hl 0 rfl) ?_
    refine lv_dup hx hb dX11_undo_15 rfl ?_
    refine g_getI E hM (o := 0) (Nat.le_of_ble_eq_true rfl) rfl fl_X11_320 dX11_undo_16 ?_
    refine lv_iconst (v := (1 : Int32)) hx hb dX11_undo_19 rfl ?_
    refine lv_isub hx hb dX11_undo_20 ?_
    refine g_putI E hM (o := 0) (Nat.le_of_ble_eq_true rfl) rfl fp_X11_320 dX11_undo_21 (fun H locs hM => ?_)
    obtain ⟨m3, hm3, he⟩ := g_let_ex he
    rw [← hm3] at hM
    refine lv_aload_n hx hb dX11_undo_24 rfl (lv_at hl 0 rfl) ?_
    refine lv_iconst (v := (0 : Int32)) hx hb dX11_undo_25 rfl ?_
    refine lv_iconst (v := (3 : Int32)) hx hb dX11_undo_26 rfl ?_
    refine lv_aload_n hx hb dX11_undo_27 rfl (lv_at hl 0 rfl) ?_
    refine g_getI E hM (o := 0) (Nat.le_of_ble_eq_true rfl) rfl fl_X11_320 dX11_undo_28 ?_
    refine lv_iadd hx hb dX11_undo_31 ?_
    obtain ⟨r4, hcr4, he⟩ := g_bind he
    refine g_callV [.int (0 : Int32), .int ((3 : Int32) + (m3.1 0 52))] (rest := []) E hml hl.1 hM cv_X11_420 (c11_copies l D aC B hcr4) (o := 0) (Nat.le_of_ble_eq_true rfl) rfl (by decide) rfl rfl (Nat.le_of_ble_eq_true rfl) dX11_undo_32 (fun H locs hM => ?_)
    refine W.eq (g2 := F0 m 35 ls []) rfl ?_
    refine lv_aload_n hx hb dX11_undo_35 rfl (lv_at hl 0 rfl) ?_
    refine g_getI E hM (o := 0) (Nat.le_of_ble_eq_true rfl) rfl fl_X11_320 dX11_undo_36 ?_
    cases he
    exact g_iret E hM hret hlk dX11_undo_39
  · rw [if_pos h2] at he
    refine lv_iconst (v := (-1 : Int32)) hx hb dX11_undo_12 rfl ?_
    cases he
    exact g_iret E hM hret hlk dX11_undo_13

set_option maxHeartbeats 4000000 in
set_option maxRecDepth 100000 in
theorem c11_keep (l : Launch) (D : va_G) (aC : Nat → ClassId) (B : Nat) {F : Nat} {mem : g_M} {q0 : Int32 × g_M} (he : f11_keep F mem = some q0) : g_Met l yX11_keep cX11_keep 1 (some .int) 2 D aC B yM 44 mem [.ref (B + 0)] (some (.int q0.1)) q0.2 := by
  refine g_ofW (by decide) (Nat.le_of_ble_eq_true rfl) ?_
  intro p e s m args below meth c ls E hml hret hlk hM hl
  have E : g_C p s m args c cX11_keep RX11 D aC (g_Zs (g_A B 44)) := E
  have hx := E.1
  have hb := E.2.1
  have hown := E.2.2.1
  have hts := E.2.2.2.1
  have hl : lv_has ls 1 [(0, .ref (B + 0))] := hl
  unfold f11_keep at he
  refine lv_aload_n hx hb dX11_keep_0 rfl (lv_at hl 0 rfl) ?_
  refine lv_iconst (v := (0 : Int32)) hx hb dX11_keep_1 rfl ?_
  refine g_putI E hM (o := 0) (Nat.le_of_ble_eq_true rfl) rfl fp_X11_157 dX11_keep_2 (fun H locs hM => ?_)
  obtain ⟨m1, hm1, he⟩ := g_let_ex he
  rw [← hm1] at hM
  refine lv_aload_n hx hb dX11_keep_5 rfl (lv_at hl 0 rfl) ?_
  refine lv_iconst (v := (2 : Int32)) hx hb dX11_keep_6 rfl ?_
  refine lv_iconst (v := (0 : Int32)) hx hb dX11_keep_7 rfl ?_
  obtain ⟨r2, hcr2, he⟩ := g_bind he
  refine g_callV [.int (2 : Int32), .int (0 : Int32)] (rest := []) E hml hl.1 hM cv_X11_420 (c11_copies l D aC B hcr2) (o := 0) (Nat.le_of_ble_eq_true rfl) rfl (by decide) rfl rfl (Nat.le_of_ble_eq_true rfl) dX11_keep_8 (fun H locs hM => ?_)
  refine W.eq (g2 := F0 m 11 ls []) rfl ?_
  refine lv_aload_n hx hb dX11_keep_11 rfl (lv_at hl 0 rfl) ?_
  refine lv_iconst (v := (1 : Int32)) hx hb dX11_keep_12 rfl ?_
  refine g_putZ E hM (o := 0) (Nat.le_of_ble_eq_true rfl) rfl fp_X11_316 (Or.inr rfl) dX11_keep_13 (fun H locs hM => ?_)
  obtain ⟨m3, hm3, he⟩ := g_let_ex he
  rw [← hm3] at hM
  refine lv_aload_n hx hb dX11_keep_16 rfl (lv_at hl 0 rfl) ?_
  refine g_getP E hM (o := 0) (Nat.le_of_ble_eq_true rfl) rfl fl_X11_84 (q := 24) rfl dX11_keep_17 ?_
  refine lv_iconst (v := (0 : Int32)) hx hb dX11_keep_20 rfl ?_
  obtain ⟨h4, he⟩ := g_ck_some he
  refine g_iald E hM (o := 24) (Nat.le_of_ble_eq_true rfl) rfl h4 dX11_keep_21 ?_
  cases he
  exact g_iret E hM hret hlk dX11_keep_22

set_option maxHeartbeats 4000000 in
set_option maxRecDepth 100000 in
theorem c11_back (l : Launch) (D : va_G) (aC : Nat → ClassId) (B : Nat) {F : Nat} {mem : g_M} {q0 : Int32 × g_M} (he : f11_back F mem = some q0) : g_Met l yX11_back cX11_back 1 (some .int) 2 D aC B yM 44 mem [.ref (B + 0)] (some (.int q0.1)) q0.2 := by
  refine g_ofW (by decide) (Nat.le_of_ble_eq_true rfl) ?_
  intro p e s m args below meth c ls E hml hret hlk hM hl
  have E : g_C p s m args c cX11_back RX11 D aC (g_Zs (g_A B 44)) := E
  have hx := E.1
  have hb := E.2.1
  have hown := E.2.2.1
  have hts := E.2.2.2.1
  have hl : lv_has ls 1 [(0, .ref (B + 0))] := hl
  unfold f11_back at he
  refine lv_aload_n hx hb dX11_back_0 rfl (lv_at hl 0 rfl) ?_
  refine lv_iconst (v := (0 : Int32)) hx hb dX11_back_1 rfl ?_
  refine g_putI E hM (o := 0) (Nat.le_of_ble_eq_true rfl) rfl fp_X11_157 dX11_back_2 (fun H locs hM => ?_)
  obtain ⟨m1, hm1, he⟩ := g_let_ex he
  rw [← hm1] at hM
  refine lv_aload_n hx hb dX11_back_5 rfl (lv_at hl 0 rfl) ?_
  refine g_getI E hM (o := 0) (Nat.le_of_ble_eq_true rfl) rfl fl_X11_316 dX11_back_6 ?_
  refine lv_if_ne (tgt := 14) hx hb dX11_back_9 (by decide) (fun h2 => ?_) (fun h2 => ?_)
  · rw [if_neg h2] at he
    refine lv_aload_n hx hb dX11_back_14 rfl (lv_at hl 0 rfl) ?_
    refine lv_iconst (v := (0 : Int32)) hx hb dX11_back_15 rfl ?_
    refine lv_iconst (v := (2 : Int32)) hx hb dX11_back_16 rfl ?_
    obtain ⟨r3, hcr3, he⟩ := g_bind he
    refine g_callV [.int (0 : Int32), .int (2 : Int32)] (rest := []) E hml hl.1 hM cv_X11_420 (c11_copies l D aC B hcr3) (o := 0) (Nat.le_of_ble_eq_true rfl) rfl (by decide) rfl rfl (Nat.le_of_ble_eq_true rfl) dX11_back_17 (fun H locs hM => ?_)
    refine W.eq (g2 := F0 m 20 ls []) rfl ?_
    refine lv_aload_n hx hb dX11_back_20 rfl (lv_at hl 0 rfl) ?_
    refine lv_iconst (v := (0 : Int32)) hx hb dX11_back_21 rfl ?_
    refine g_putI E hM (o := 0) (Nat.le_of_ble_eq_true rfl) rfl fp_X11_320 dX11_back_22 (fun H locs hM => ?_)
    obtain ⟨m4, hm4, he⟩ := g_let_ex he
    rw [← hm4] at hM
    refine lv_aload_n hx hb dX11_back_25 rfl (lv_at hl 0 rfl) ?_
    refine g_getP E hM (o := 0) (Nat.le_of_ble_eq_true rfl) rfl fl_X11_84 (q := 24) rfl dX11_back_26 ?_
    refine lv_iconst (v := (0 : Int32)) hx hb dX11_back_29 rfl ?_
    obtain ⟨h5, he⟩ := g_ck_some he
    refine g_iald E hM (o := 24) (Nat.le_of_ble_eq_true rfl) rfl h5 dX11_back_30 ?_
    cases he
    exact g_iret E hM hret hlk dX11_back_31
  · rw [if_pos h2] at he
    refine lv_iconst (v := (-1 : Int32)) hx hb dX11_back_12 rfl ?_
    cases he
    exact g_iret E hM hret hlk dX11_back_13

set_option maxHeartbeats 4000000 in
set_option maxRecDepth 100000 in
theorem c11_count (l : Launch) (D : va_G) (aC : Nat → ClassId) (B : Nat) {F : Nat} {a1 : Int32} {mem : g_M} {q0 : Int32 × g_M} (he : f11_count F a1 mem = some q0) : g_Met l yX11_count cX11_count 2 (some .int) 2 D aC B yM 44 mem [.ref (B + 0), .int a1] (some (.int q0.1)) q0.2 := by
  refine g_ofW (by decide) (Nat.le_of_ble_eq_true rfl) ?_
  intro p e s m args below meth c ls E hml hret hlk hM hl
  have E : g_C p s m args c cX11_count RX11 D aC (g_Zs (g_A B 44)) := E
  have hx := E.1
  have hb := E.2.1
  have hown := E.2.2.1
  have hts := E.2.2.2.1
  have hl : lv_has ls 2 [(0, .ref (B + 0)), (1, .int a1)] := hl
  unfold f11_count at he
  refine lv_aload_n hx hb dX11_count_0 rfl (lv_at hl 0 rfl) ?_
  refine lv_iconst (v := (0 : Int32)) hx hb dX11_count_1 rfl ?_
  refine g_putI E hM (o := 0) (Nat.le_of_ble_eq_true rfl) rfl fp_X11_157 dX11_count_2 (fun H locs hM => ?_)
  obtain ⟨m1, hm1, he⟩ := g_let_ex he
  rw [← hm1] at hM
  refine lv_iload_n hx hb dX11_count_5 rfl (lv_at hl 1 rfl) ?_
  by_cases h2 : a1 = (0 : Int32)
  · rw [if_pos h2] at he
    refine lv_tableIn (tgt := 84) (off := 78) hx hb dX11_count_6 (by rw [h2]; decide) (by rw [h2]; decide) (by rw [h2]; rfl) (by decide) ?_
    refine lv_aload_n hx hb dX11_count_84 rfl (lv_at hl 0 rfl) ?_
    refine g_getP E hM (o := 0) (Nat.le_of_ble_eq_true rfl) rfl fl_X11_13 (q := 2) rfl dX11_count_85 ?_
    refine lv_iconst (v := (0 : Int32)) hx hb dX11_count_88 rfl ?_
    obtain ⟨h3, he⟩ := g_ck_some he
    refine g_iald E hM (o := 2) (Nat.le_of_ble_eq_true rfl) rfl h3 dX11_count_89 ?_
    cases he
    exact g_iret E hM hret hlk dX11_count_90
  rw [if_neg h2] at he
  by_cases h4 : a1 = (1 : Int32)
  · rw [if_pos h4] at he
    refine lv_tableIn (tgt := 91) (off := 85) hx hb dX11_count_6 (by rw [h4]; decide) (by rw [h4]; decide) (by rw [h4]; rfl) (by decide) ?_
    refine lv_aload_n hx hb dX11_count_91 rfl (lv_at hl 0 rfl) ?_
    refine g_getP E hM (o := 0) (Nat.le_of_ble_eq_true rfl) rfl fl_X11_13 (q := 2) rfl dX11_count_92 ?_
    refine lv_iconst (v := (1 : Int32)) hx hb dX11_count_95 rfl ?_
    obtain ⟨h5, he⟩ := g_ck_some he
    refine g_iald E hM (o := 2) (Nat.le_of_ble_eq_true rfl) rfl h5 dX11_count_96 ?_
    cases he
    exact g_iret E hM hret hlk dX11_count_97
  rw [if_neg h4] at he
  by_cases h6 : a1 = (2 : Int32)
  · rw [if_pos h6] at he
    refine lv_tableIn (tgt := 98) (off := 92) hx hb dX11_count_6 (by rw [h6]; decide) (by rw [h6]; decide) (by rw [h6]; rfl) (by decide) ?_
    refine lv_aload_n hx hb dX11_count_98 rfl (lv_at hl 0 rfl) ?_
    refine g_getP E hM (o := 0) (Nat.le_of_ble_eq_true rfl) rfl fl_X11_13 (q := 2) rfl dX11_count_99 ?_
    refine lv_iconst (v := (2 : Int32)) hx hb dX11_count_102 rfl ?_
    obtain ⟨h7, he⟩ := g_ck_some he
    refine g_iald E hM (o := 2) (Nat.le_of_ble_eq_true rfl) rfl h7 dX11_count_103 ?_
    cases he
    exact g_iret E hM hret hlk dX11_count_104
  rw [if_neg h6] at he
  by_cases h8 : a1 = (3 : Int32)
  · rw [if_pos h8] at he
    refine lv_tableIn (tgt := 105) (off := 99) hx hb dX11_count_6 (by rw [h8]; decide) (by rw [h8]; decide) (by rw [h8]; rfl) (by decide) ?_
    refine lv_aload_n hx hb dX11_count_105 rfl (lv_at hl 0 rfl) ?_
    refine g_getP E hM (o := 0) (Nat.le_of_ble_eq_true rfl) rfl fl_X11_93 (q := 27) rfl dX11_count_106 ?_
    refine lv_iconst (v := (0 : Int32)) hx hb dX11_count_109 rfl ?_
    obtain ⟨h9, he⟩ := g_ck_some he
    refine g_iald E hM (o := 27) (Nat.le_of_ble_eq_true rfl) rfl h9 dX11_count_110 ?_
    cases he
    exact g_iret E hM hret hlk dX11_count_111
  rw [if_neg h8] at he
  by_cases h10 : a1 = (4 : Int32)
  · rw [if_pos h10] at he
    refine lv_tableIn (tgt := 112) (off := 106) hx hb dX11_count_6 (by rw [h10]; decide) (by rw [h10]; decide) (by rw [h10]; rfl) (by decide) ?_
    refine lv_aload_n hx hb dX11_count_112 rfl (lv_at hl 0 rfl) ?_
    refine g_getP E hM (o := 0) (Nat.le_of_ble_eq_true rfl) rfl fl_X11_13 (q := 2) rfl dX11_count_113 ?_
    refine lv_iconst (v := (4 : Int32)) hx hb dX11_count_116 rfl ?_
    obtain ⟨h11, he⟩ := g_ck_some he
    refine g_iald E hM (o := 2) (Nat.le_of_ble_eq_true rfl) rfl h11 dX11_count_117 ?_
    cases he
    exact g_iret E hM hret hlk dX11_count_118
  rw [if_neg h10] at he
  by_cases h12 : a1 = (5 : Int32)
  · rw [if_pos h12] at he
    refine lv_tableIn (tgt := 119) (off := 113) hx hb dX11_count_6 (by rw [h12]; decide) (by rw [h12]; decide) (by rw [h12]; rfl) (by decide) ?_
    refine lv_aload_n hx hb dX11_count_119 rfl (lv_at hl 0 rfl) ?_
    refine g_getP E hM (o := 0) (Nat.le_of_ble_eq_true rfl) rfl fl_X11_13 (q := 2) rfl dX11_count_120 ?_
    refine lv_bipush (v := (8 : Int32)) hx hb dX11_count_123 rfl ?_
    obtain ⟨h13, he⟩ := g_ck_some he
    refine g_iald E hM (o := 2) (Nat.le_of_ble_eq_true rfl) rfl h13 dX11_count_125 ?_
    cases he
    exact g_iret E hM hret hlk dX11_count_126
  rw [if_neg h12] at he
  by_cases h14 : a1 = (6 : Int32)
  · rw [if_pos h14] at he
    refine lv_tableIn (tgt := 127) (off := 121) hx hb dX11_count_6 (by rw [h14]; decide) (by rw [h14]; decide) (by rw [h14]; rfl) (by decide) ?_
    refine lv_aload_n hx hb dX11_count_127 rfl (lv_at hl 0 rfl) ?_
    refine g_getP E hM (o := 0) (Nat.le_of_ble_eq_true rfl) rfl fl_X11_84 (q := 24) rfl dX11_count_128 ?_
    refine lv_iconst (v := (0 : Int32)) hx hb dX11_count_131 rfl ?_
    obtain ⟨h15, he⟩ := g_ck_some he
    refine g_iald E hM (o := 24) (Nat.le_of_ble_eq_true rfl) rfl h15 dX11_count_132 ?_
    cases he
    exact g_iret E hM hret hlk dX11_count_133
  rw [if_neg h14] at he
  by_cases h16 : a1 = (7 : Int32)
  · rw [if_pos h16] at he
    refine lv_tableIn (tgt := 134) (off := 128) hx hb dX11_count_6 (by rw [h16]; decide) (by rw [h16]; decide) (by rw [h16]; rfl) (by decide) ?_
    refine lv_aload_n hx hb dX11_count_134 rfl (lv_at hl 0 rfl) ?_
    refine lv_iconst (v := (0 : Int32)) hx hb dX11_count_135 rfl ?_
    refine lv_iconst (v := (1 : Int32)) hx hb dX11_count_136 rfl ?_
    obtain ⟨r17, hcr17, he⟩ := g_bind he
    refine g_callV [.int (0 : Int32), .int (1 : Int32)] (rest := []) E hml hl.1 hM cv_X11_457 (c11_outcomes l D aC B hcr17) (o := 0) (Nat.le_of_ble_eq_true rfl) rfl (by decide) rfl rfl (Nat.le_of_ble_eq_true rfl) dX11_count_137 (fun H locs hM => ?_)
    refine W.eq (g2 := F0 m 140 ls [.int r17]) rfl ?_
    cases he
    exact g_iret E hM hret hlk dX11_count_140
  rw [if_neg h16] at he
  by_cases h18 : a1 = (8 : Int32)
  · rw [if_pos h18] at he
    refine lv_tableIn (tgt := 141) (off := 135) hx hb dX11_count_6 (by rw [h18]; decide) (by rw [h18]; decide) (by rw [h18]; rfl) (by decide) ?_
    refine lv_aload_n hx hb dX11_count_141 rfl (lv_at hl 0 rfl) ?_
    refine lv_iconst (v := (0 : Int32)) hx hb dX11_count_142 rfl ?_
    refine lv_iconst (v := (2 : Int32)) hx hb dX11_count_143 rfl ?_
    obtain ⟨r19, hcr19, he⟩ := g_bind he
    refine g_callV [.int (0 : Int32), .int (2 : Int32)] (rest := []) E hml hl.1 hM cv_X11_457 (c11_outcomes l D aC B hcr19) (o := 0) (Nat.le_of_ble_eq_true rfl) rfl (by decide) rfl rfl (Nat.le_of_ble_eq_true rfl) dX11_count_144 (fun H locs hM => ?_)
    refine W.eq (g2 := F0 m 147 ls [.int r19]) rfl ?_
    cases he
    exact g_iret E hM hret hlk dX11_count_147
  rw [if_neg h18] at he
  by_cases h20 : a1 = (9 : Int32)
  · rw [if_pos h20] at he
    refine lv_tableIn (tgt := 148) (off := 142) hx hb dX11_count_6 (by rw [h20]; decide) (by rw [h20]; decide) (by rw [h20]; rfl) (by decide) ?_
    refine lv_aload_n hx hb dX11_count_148 rfl (lv_at hl 0 rfl) ?_
    refine lv_iconst (v := (0 : Int32)) hx hb dX11_count_149 rfl ?_
    obtain ⟨r21, hcr21, he⟩ := g_bind he
    refine g_callV [.int (0 : Int32)] (rest := []) E hml hl.1 hM cv_X11_460 (c11_goneMany l D aC B hcr21) (o := 0) (Nat.le_of_ble_eq_true rfl) rfl (by decide) rfl rfl (Nat.le_of_ble_eq_true rfl) dX11_count_150 (fun H locs hM => ?_)
    refine W.eq (g2 := F0 m 153 ls [.int r21]) rfl ?_
    cases he
    exact g_iret E hM hret hlk dX11_count_153
  rw [if_neg h20] at he
  by_cases h22 : a1 = (10 : Int32)
  · rw [if_pos h22] at he
    refine lv_tableIn (tgt := 154) (off := 148) hx hb dX11_count_6 (by rw [h22]; decide) (by rw [h22]; decide) (by rw [h22]; rfl) (by decide) ?_
    refine lv_aload_n hx hb dX11_count_154 rfl (lv_at hl 0 rfl) ?_
    refine lv_iconst (v := (0 : Int32)) hx hb dX11_count_155 rfl ?_
    obtain ⟨r23, hcr23, he⟩ := g_bind he
    refine g_callV [.int (0 : Int32)] (rest := []) E hml hl.1 hM cv_X11_481 (c11_penceAll l D aC B hcr23) (o := 0) (Nat.le_of_ble_eq_true rfl) rfl (by decide) rfl rfl (Nat.le_of_ble_eq_true rfl) dX11_count_156 (fun H locs hM => ?_)
    refine W.eq (g2 := F0 m 159 ls [.int r23]) rfl ?_
    cases he
    exact g_iret E hM hret hlk dX11_count_159
  rw [if_neg h22] at he
  by_cases h24 : a1 = (11 : Int32)
  · rw [if_pos h24] at he
    refine lv_tableIn (tgt := 160) (off := 154) hx hb dX11_count_6 (by rw [h24]; decide) (by rw [h24]; decide) (by rw [h24]; rfl) (by decide) ?_
    refine lv_aload_n hx hb dX11_count_160 rfl (lv_at hl 0 rfl) ?_
    refine lv_iconst (v := (0 : Int32)) hx hb dX11_count_161 rfl ?_
    obtain ⟨r25, hcr25, he⟩ := g_bind he
    refine g_callV [.int (0 : Int32)] (rest := []) E hml hl.1 hM cv_X11_463 (c11_mixedMany l D aC B hcr25) (o := 0) (Nat.le_of_ble_eq_true rfl) rfl (by decide) rfl rfl (Nat.le_of_ble_eq_true rfl) dX11_count_162 (fun H locs hM => ?_)
    refine W.eq (g2 := F0 m 165 ls [.int r25]) rfl ?_
    cases he
    exact g_iret E hM hret hlk dX11_count_165
  rw [if_neg h24] at he
  by_cases h26 : a1 = (12 : Int32)
  · rw [if_pos h26] at he
    refine lv_tableIn (tgt := 166) (off := 160) hx hb dX11_count_6 (by rw [h26]; decide) (by rw [h26]; decide) (by rw [h26]; rfl) (by decide) ?_
    refine lv_aload_n hx hb dX11_count_166 rfl (lv_at hl 0 rfl) ?_
    refine g_getP E hM (o := 0) (Nat.le_of_ble_eq_true rfl) rfl fl_X11_90 (q := 26) rfl dX11_count_167 ?_
    refine lv_iconst (v := (0 : Int32)) hx hb dX11_count_170 rfl ?_
    obtain ⟨h27, he⟩ := g_ck_some he
    refine g_iald E hM (o := 26) (Nat.le_of_ble_eq_true rfl) rfl h27 dX11_count_171 ?_
    cases he
    exact g_iret E hM hret hlk dX11_count_172
  rw [if_neg h26] at he
  by_cases h28 : a1 = (13 : Int32)
  · rw [if_pos h28] at he
    refine lv_tableIn (tgt := 173) (off := 167) hx hb dX11_count_6 (by rw [h28]; decide) (by rw [h28]; decide) (by rw [h28]; rfl) (by decide) ?_
    refine lv_aload_n hx hb dX11_count_173 rfl (lv_at hl 0 rfl) ?_
    refine g_getI E hM (o := 0) (Nat.le_of_ble_eq_true rfl) rfl fl_X11_313 dX11_count_174 ?_
    cases he
    exact g_iret E hM hret hlk dX11_count_177
  rw [if_neg h28] at he
  by_cases h29 : a1 = (14 : Int32)
  · rw [if_pos h29] at he
    refine lv_tableIn (tgt := 178) (off := 172) hx hb dX11_count_6 (by rw [h29]; decide) (by rw [h29]; decide) (by rw [h29]; rfl) (by decide) ?_
    refine lv_aload_n hx hb dX11_count_178 rfl (lv_at hl 0 rfl) ?_
    obtain ⟨r30, hcr30, he⟩ := g_bind he
    refine g_callV [] (rest := []) E hml hl.1 hM cv_X11_520 (c11_knownMany l D aC B hcr30) (o := 0) (Nat.le_of_ble_eq_true rfl) rfl (by decide) rfl rfl (Nat.le_of_ble_eq_true rfl) dX11_count_179 (fun H locs hM => ?_)
    refine W.eq (g2 := F0 m 182 ls [.int r30]) rfl ?_
    cases he
    exact g_iret E hM hret hlk dX11_count_182
  rw [if_neg h29] at he
  by_cases h31 : a1 = (15 : Int32)
  · rw [if_pos h31] at he
    refine lv_tableIn (tgt := 183) (off := 177) hx hb dX11_count_6 (by rw [h31]; decide) (by rw [h31]; decide) (by rw [h31]; rfl) (by decide) ?_
    refine lv_aload_n hx hb dX11_count_183 rfl (lv_at hl 0 rfl) ?_
    refine g_getI E hM (o := 0) (Nat.le_of_ble_eq_true rfl) rfl fl_X11_320 dX11_count_184 ?_
    cases he
    exact g_iret E hM hret hlk dX11_count_187
  rw [if_neg h31] at he
  refine lv_tableOut (tgt := 188) hx hb dX11_count_6 (by have zh2 := lv_neT (a := 0) h2 rfl; have zh4 := lv_neT (a := 1) h4 rfl; have zh6 := lv_neT (a := 2) h6 rfl; have zh8 := lv_neT (a := 3) h8 rfl; have zh10 := lv_neT (a := 4) h10 rfl; have zh12 := lv_neT (a := 5) h12 rfl; have zh14 := lv_neT (a := 6) h14 rfl; have zh16 := lv_neT (a := 7) h16 rfl; have zh18 := lv_neT (a := 8) h18 rfl; have zh20 := lv_neT (a := 9) h20 rfl; have zh22 := lv_neT (a := 10) h22 rfl; have zh24 := lv_neT (a := 11) h24 rfl; have zh26 := lv_neT (a := 12) h26 rfl; have zh28 := lv_neT (a := 13) h28 rfl; have zh29 := lv_neT (a := 14) h29 rfl; have zh31 := lv_neT (a := 15) h31 rfl; omega) (by decide) ?_
  refine lv_iconst (v := (-1 : Int32)) hx hb dX11_count_188 rfl ?_
  cases he
  exact g_iret E hM hret hlk dX11_count_189

end
