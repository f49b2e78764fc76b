theorem dX11_mixes_0 : decode cX11_mixes 0 = .ok (.aload_n 0, 1) := by decide +kernel
theorem dX11_mixes_1 : decode cX11_mixes 1 = .ok (.iload_n 1, 1) := by decide +kernel
theorem dX11_mixes_2 : decode cX11_mixes 2 = .ok (.iconst (-1), 1) := by decide +kernel
theorem dX11_mixes_3 : decode cX11_mixes 3 = .ok (.iload_n 2, 1) := by decide +kernel
theorem dX11_mixes_4 : decode cX11_mixes 4 = .ok (.aload_n 0, 1) := by decide +kernel
theorem dX11_mixes_5 : decode cX11_mixes 5 = .ok (.iload_n 2, 1) := by decide +kernel
theorem dX11_mixes_6 : decode cX11_mixes 6 = .ok (.invokevirtual 400, 3) := by decide +kernel
theorem dX11_mixes_9 : decode cX11_mixes 9 = .ok (.iconst 0, 1) := by decide +kernel
theorem dX11_mixes_10 : decode cX11_mixes 10 = .ok (.invokevirtual 372, 3) := by decide +kernel
theorem dX11_mixes_13 : decode cX11_mixes 13 = .ok (.aload_n 0, 1) := by decide +kernel
theorem dX11_mixes_14 : decode cX11_mixes 14 = .ok (.iconst 2, 1) := by decide +kernel
theorem dX11_mixes_15 : decode cX11_mixes 15 = .ok (.invokevirtual 352, 3) := by decide +kernel
theorem dX11_mixes_18 : decode cX11_mixes 18 = .ok (.ifCond .eq 23, 3) := by decide +kernel
theorem dX11_mixes_21 : decode cX11_mixes 21 = .ok (.aload_n 0, 1) := by decide +kernel
theorem dX11_mixes_22 : decode cX11_mixes 22 = .ok (.iconst 2, 1) := by decide +kernel
theorem dX11_mixes_23 : decode cX11_mixes 23 = .ok (.invokevirtual 355, 3) := by decide +kernel
theorem dX11_mixes_26 : decode cX11_mixes 26 = .ok (.ifCond .eq 15, 3) := by decide +kernel
theorem dX11_mixes_29 : decode cX11_mixes 29 = .ok (.aload_n 0, 1) := by decide +kernel
theorem dX11_mixes_30 : decode cX11_mixes 30 = .ok (.getfield 81, 3) := by decide +kernel
theorem dX11_mixes_33 : decode cX11_mixes 33 = .ok (.iconst 0, 1) := by decide +kernel
theorem dX11_mixes_34 : decode cX11_mixes 34 = .ok (.laload, 1) := by decide +kernel
theorem dX11_mixes_35 : decode cX11_mixes 35 = .ok (.lconst 0, 1) := by decide +kernel
theorem dX11_mixes_36 : decode cX11_mixes 36 = .ok (.lcmp, 1) := by decide +kernel
theorem dX11_mixes_37 : decode cX11_mixes 37 = .ok (.ifCond .ne 4, 3) := by decide +kernel
theorem dX11_mixes_40 : decode cX11_mixes 40 = .ok (.return_, 1) := by decide +kernel
theorem dX11_mixes_41 : decode cX11_mixes 41 = .ok (.iconst (-1), 1) := by decide +kernel
theorem dX11_mixes_42 : decode cX11_mixes 42 = .ok (.istore_n 3, 1) := by decide +kernel
theorem dX11_mixes_43 : decode cX11_mixes 43 = .ok (.iconst 0, 1) := by decide +kernel
theorem dX11_mixes_44 : decode cX11_mixes 44 = .ok (.istore 4, 2) := by decide +kernel
theorem dX11_mixes_46 : decode cX11_mixes 46 = .ok (.iload 4, 2) := by decide +kernel
theorem dX11_mixes_48 : decode cX11_mixes 48 = .ok (.aload_n 0, 1) := by decide +kernel
theorem dX11_mixes_49 : decode cX11_mixes 49 = .ok (.getfield 13, 3) := by decide +kernel
theorem dX11_mixes_52 : decode cX11_mixes 52 = .ok (.iconst 0, 1) := by decide +kernel
theorem dX11_mixes_53 : decode cX11_mixes 53 = .ok (.iaload, 1) := by decide +kernel
theorem dX11_mixes_54 : decode cX11_mixes 54 = .ok (.if_icmp .ge 97, 3) := by decide +kernel
theorem dX11_mixes_57 : decode cX11_mixes 57 = .ok (.aload_n 0, 1) := by decide +kernel
theorem dX11_mixes_58 : decode cX11_mixes 58 = .ok (.getfield 346, 3) := by decide +kernel
theorem dX11_mixes_61 : decode cX11_mixes 61 = .ok (.iconst 5, 1) := by decide +kernel
theorem dX11_mixes_62 : decode cX11_mixes 62 = .ok (.iload 4, 2) := by decide +kernel
theorem dX11_mixes_64 : decode cX11_mixes 64 = .ok (.imul, 1) := by decide +kernel
theorem dX11_mixes_65 : decode cX11_mixes 65 = .ok (.iload_n 2, 1) := by decide +kernel
theorem dX11_mixes_66 : decode cX11_mixes 66 = .ok (.iadd, 1) := by decide +kernel
theorem dX11_mixes_67 : decode cX11_mixes 67 = .ok (.ishr, 1) := by decide +kernel
theorem dX11_mixes_68 : decode cX11_mixes 68 = .ok (.iconst 1, 1) := by decide +kernel
theorem dX11_mixes_69 : decode cX11_mixes 69 = .ok (.iand, 1) := by decide +kernel
theorem dX11_mixes_70 : decode cX11_mixes 70 = .ok (.ifCond .ne 6, 3) := by decide +kernel
theorem dX11_mixes_73 : decode cX11_mixes 73 = .ok (.goto 72, 3) := by decide +kernel
theorem dX11_mixes_76 : decode cX11_mixes 76 = .ok (.iload_n 3, 1) := by decide +kernel
theorem dX11_mixes_77 : decode cX11_mixes 77 = .ok (.iconst (-1), 1) := by decide +kernel
theorem dX11_mixes_78 : decode cX11_mixes 78 = .ok (.if_icmp .ne 9, 3) := by decide +kernel
theorem dX11_mixes_81 : decode cX11_mixes 81 = .ok (.iload 4, 2) := by decide +kernel
theorem dX11_mixes_83 : decode cX11_mixes 83 = .ok (.istore_n 3, 1) := by decide +kernel
theorem dX11_mixes_84 : decode cX11_mixes 84 = .ok (.goto 61, 3) := by decide +kernel
theorem dX11_mixes_87 : decode cX11_mixes 87 = .ok (.bipush 25, 2) := by decide +kernel
theorem dX11_mixes_89 : decode cX11_mixes 89 = .ok (.iload_n 1, 1) := by decide +kernel
theorem dX11_mixes_90 : decode cX11_mixes 90 = .ok (.imul, 1) := by decide +kernel
theorem dX11_mixes_91 : decode cX11_mixes 91 = .ok (.iconst 5, 1) := by decide +kernel
theorem dX11_mixes_92 : decode cX11_mixes 92 = .ok (.iload_n 3, 1) := by decide +kernel
theorem dX11_mixes_93 : decode cX11_mixes 93 = .ok (.imul, 1) := by decide +kernel
theorem dX11_mixes_94 : decode cX11_mixes 94 = .ok (.iadd, 1) := by decide +kernel
theorem dX11_mixes_95 : decode cX11_mixes 95 = .ok (.iload_n 2, 1) := by decide +kernel
theorem dX11_mixes_96 : decode cX11_mixes 96 = .ok (.iadd, 1) := by decide +kernel
theorem dX11_mixes_97 : decode cX11_mixes 97 = .ok (.istore 5, 2) := by decide +kernel
theorem dX11_mixes_99 : decode cX11_mixes 99 = .ok (.bipush 25, 2) := by decide +kernel
theorem dX11_mixes_101 : decode cX11_mixes 101 = .ok (.iload_n 1, 1) := by decide +kernel
theorem dX11_mixes_102 : decode cX11_mixes 102 = .ok (.imul, 1) := by decide +kernel
theorem dX11_mixes_103 : decode cX11_mixes 103 = .ok (.iconst 5, 1) := by decide +kernel
theorem dX11_mixes_104 : decode cX11_mixes 104 = .ok (.iload 4, 2) := by decide +kernel
theorem dX11_mixes_106 : decode cX11_mixes 106 = .ok (.imul, 1) := by decide +kernel
theorem dX11_mixes_107 : decode cX11_mixes 107 = .ok (.iadd, 1) := by decide +kernel
theorem dX11_mixes_108 : decode cX11_mixes 108 = .ok (.iload_n 2, 1) := by decide +kernel
theorem dX11_mixes_109 : decode cX11_mixes 109 = .ok (.iadd, 1) := by decide +kernel
theorem dX11_mixes_110 : decode cX11_mixes 110 = .ok (.istore 6, 2) := by decide +kernel
theorem dX11_mixes_112 : decode cX11_mixes 112 = .ok (.aload_n 0, 1) := by decide +kernel
theorem dX11_mixes_113 : decode cX11_mixes 113 = .ok (.getfield 99, 3) := by decide +kernel
theorem dX11_mixes_116 : decode cX11_mixes 116 = .ok (.iload 5, 2) := by decide +kernel
theorem dX11_mixes_118 : decode cX11_mixes 118 = .ok (.iaload, 1) := by decide +kernel
theorem dX11_mixes_119 : decode cX11_mixes 119 = .ok (.istore 7, 2) := by decide +kernel
theorem dX11_mixes_121 : decode cX11_mixes 121 = .ok (.aload_n 0, 1) := by decide +kernel
theorem dX11_mixes_122 : decode cX11_mixes 122 = .ok (.getfield 99, 3) := by decide +kernel
theorem dX11_mixes_125 : decode cX11_mixes 125 = .ok (.iload 5, 2) := by decide +kernel
theorem dX11_mixes_127 : decode cX11_mixes 127 = .ok (.aload_n 0, 1) := by decide +kernel
theorem dX11_mixes_128 : decode cX11_mixes 128 = .ok (.getfield 99, 3) := by decide +kernel
theorem dX11_mixes_131 : decode cX11_mixes 131 = .ok (.iload 6, 2) := by decide +kernel
theorem dX11_mixes_133 : decode cX11_mixes 133 = .ok (.iaload, 1) := by decide +kernel
theorem dX11_mixes_134 : decode cX11_mixes 134 = .ok (.iastore, 1) := by decide +kernel
theorem dX11_mixes_135 : decode cX11_mixes 135 = .ok (.aload_n 0, 1) := by decide +kernel
theorem dX11_mixes_136 : decode cX11_mixes 136 = .ok (.getfield 99, 3) := by decide +kernel
theorem dX11_mixes_139 : decode cX11_mixes 139 = .ok (.iload 6, 2) := by decide +kernel
theorem dX11_mixes_141 : decode cX11_mixes 141 = .ok (.iload 7, 2) := by decide +kernel
theorem dX11_mixes_143 : decode cX11_mixes 143 = .ok (.iastore, 1) := by decide +kernel
theorem dX11_mixes_144 : decode cX11_mixes 144 = .ok (.return_, 1) := by decide +kernel
theorem dX11_mixes_145 : decode cX11_mixes 145 = .ok (.iinc 4 1, 3) := by decide +kernel
theorem dX11_mixes_148 : decode cX11_mixes 148 = .ok (.goto (-102), 3) := by decide +kernel
theorem dX11_mixes_151 : decode cX11_mixes 151 = .ok (.return_, 1) := by decide +kernel
theorem dX11_passes_0 : decode cX11_passes 0 = .ok (.aload_n 0, 1) := by decide +kernel
theorem dX11_passes_1 : decode cX11_passes 1 = .ok (.iconst 0, 1) := by decide +kernel
theorem dX11_passes_2 : decode cX11_passes 2 = .ok (.putfield 346, 3) := by decide +kernel
theorem dX11_passes_5 : decode cX11_passes 5 = .ok (.iconst 0, 1) := by decide +kernel
theorem dX11_passes_6 : decode cX11_passes 6 = .ok (.istore_n 3, 1) := by decide +kernel
theorem dX11_passes_7 : decode cX11_passes 7 = .ok (.iload_n 3, 1) := by decide +kernel
theorem dX11_passes_8 : decode cX11_passes 8 = .ok (.aload_n 0, 1) := by decide +kernel
theorem dX11_passes_9 : decode cX11_passes 9 = .ok (.getfield 13, 3) := by decide +kernel
theorem dX11_passes_12 : decode cX11_passes 12 = .ok (.iconst 4, 1) := by decide +kernel
theorem dX11_passes_13 : decode cX11_passes 13 = .ok (.iaload, 1) := by decide +kernel
theorem dX11_passes_14 : decode cX11_passes 14 = .ok (.if_icmp .ge 30, 3) := by decide +kernel
theorem dX11_passes_17 : decode cX11_passes 17 = .ok (.aload_n 0, 1) := by decide +kernel
theorem dX11_passes_18 : decode cX11_passes 18 = .ok (.getfield 55, 3) := by decide +kernel
theorem dX11_passes_21 : decode cX11_passes 21 = .ok (.iload_n 3, 1) := by decide +kernel
theorem dX11_passes_22 : decode cX11_passes 22 = .ok (.iaload, 1) := by decide +kernel
theorem dX11_passes_23 : decode cX11_passes 23 = .ok (.aload_n 0, 1) := by decide +kernel
theorem dX11_passes_24 : decode cX11_passes 24 = .ok (.getfield 84, 3) := by decide +kernel
theorem dX11_passes_27 : decode cX11_passes 27 = .ok (.iload_n 1, 1) := by decide +kernel
theorem dX11_passes_28 : decode cX11_passes 28 = .ok (.iaload, 1) := by decide +kernel
theorem dX11_passes_29 : decode cX11_passes 29 = .ok (.if_icmp .ne 9, 3) := by decide +kernel
theorem dX11_passes_32 : decode cX11_passes 32 = .ok (.aload_n 0, 1) := by decide +kernel
theorem dX11_passes_33 : decode cX11_passes 33 = .ok (.iload_n 1, 1) := by decide +kernel
theorem dX11_passes_34 : decode cX11_passes 34 = .ok (.iload_n 3, 1) := by decide +kernel
theorem dX11_passes_35 : decode cX11_passes 35 = .ok (.invokevirtual 403, 3) := by decide +kernel
theorem dX11_passes_38 : decode cX11_passes 38 = .ok (.iinc 3 1, 3) := by decide +kernel
theorem dX11_passes_41 : decode cX11_passes 41 = .ok (.goto (-34), 3) := by decide +kernel
theorem dX11_passes_44 : decode cX11_passes 44 = .ok (.aload_n 0, 1) := by decide +kernel
theorem dX11_passes_45 : decode cX11_passes 45 = .ok (.iload_n 1, 1) := by decide +kernel
theorem dX11_passes_46 : decode cX11_passes 46 = .ok (.invokevirtual 406, 3) := by decide +kernel
theorem dX11_passes_49 : decode cX11_passes 49 = .ok (.aload_n 0, 1) := by decide +kernel
theorem dX11_passes_50 : decode cX11_passes 50 = .ok (.iload_n 1, 1) := by decide +kernel
theorem dX11_passes_51 : decode cX11_passes 51 = .ok (.iload_n 2, 1) := by decide +kernel
theorem dX11_passes_52 : decode cX11_passes 52 = .ok (.invokevirtual 409, 3) := by decide +kernel
theorem dX11_passes_55 : decode cX11_passes 55 = .ok (.ifCond .eq 37, 3) := by decide +kernel
theorem dX11_passes_58 : decode cX11_passes 58 = .ok (.aload_n 0, 1) := by decide +kernel
theorem dX11_passes_59 : decode cX11_passes 59 = .ok (.getfield 90, 3) := by decide +kernel
theorem dX11_passes_62 : decode cX11_passes 62 = .ok (.iload_n 1, 1) := by decide +kernel
theorem dX11_passes_63 : decode cX11_passes 63 = .ok (.dup2, 1) := by decide +kernel
theorem dX11_passes_64 : decode cX11_passes 64 = .ok (.iaload, 1) := by decide +kernel
theorem dX11_passes_65 : decode cX11_passes 65 = .ok (.iconst 1, 1) := by decide +kernel
theorem dX11_passes_66 : decode cX11_passes 66 = .ok (.iadd, 1) := by decide +kernel
theorem dX11_passes_67 : decode cX11_passes 67 = .ok (.iastore, 1) := by decide +kernel
theorem dX11_passes_68 : decode cX11_passes 68 = .ok (.iconst 0, 1) := by decide +kernel
theorem dX11_passes_69 : decode cX11_passes 69 = .ok (.istore_n 3, 1) := by decide +kernel
theorem dX11_passes_70 : decode cX11_passes 70 = .ok (.iload_n 3, 1) := by decide +kernel
theorem dX11_passes_71 : decode cX11_passes 71 = .ok (.aload_n 0, 1) := by decide +kernel
theorem dX11_passes_72 : decode cX11_passes 72 = .ok (.getfield 13, 3) := by decide +kernel
theorem dX11_passes_75 : decode cX11_passes 75 = .ok (.iconst 1, 1) := by decide +kernel
theorem dX11_passes_76 : decode cX11_passes 76 = .ok (.iaload, 1) := by decide +kernel
theorem dX11_passes_77 : decode cX11_passes 77 = .ok (.if_icmp .ge 15, 3) := by decide +kernel
theorem dX11_passes_80 : decode cX11_passes 80 = .ok (.aload_n 0, 1) := by decide +kernel
theorem dX11_passes_81 : decode cX11_passes 81 = .ok (.iload_n 1, 1) := by decide +kernel
theorem dX11_passes_82 : decode cX11_passes 82 = .ok (.iload_n 3, 1) := by decide +kernel
theorem dX11_passes_83 : decode cX11_passes 83 = .ok (.invokevirtual 413, 3) := by decide +kernel
theorem dX11_passes_86 : decode cX11_passes 86 = .ok (.iinc 3 1, 3) := by decide +kernel
theorem dX11_passes_89 : decode cX11_passes 89 = .ok (.goto (-19), 3) := by decide +kernel
theorem dX11_passes_92 : decode cX11_passes 92 = .ok (.iconst 0, 1) := by decide +kernel
theorem dX11_passes_93 : decode cX11_passes 93 = .ok (.istore_n 3, 1) := by decide +kernel
theorem dX11_passes_94 : decode cX11_passes 94 = .ok (.iload_n 3, 1) := by decide +kernel
theorem dX11_passes_95 : decode cX11_passes 95 = .ok (.bipush 25, 2) := by decide +kernel
theorem dX11_passes_97 : decode cX11_passes 97 = .ok (.if_icmp .ge 45, 3) := by decide +kernel
theorem dX11_passes_100 : decode cX11_passes 100 = .ok (.aload_n 0, 1) := by decide +kernel
theorem dX11_passes_101 : decode cX11_passes 101 = .ok (.getfield 346, 3) := by decide +kernel
theorem dX11_passes_104 : decode cX11_passes 104 = .ok (.iload_n 3, 1) := by decide +kernel
theorem dX11_passes_105 : decode cX11_passes 105 = .ok (.ishr, 1) := by decide +kernel
theorem dX11_passes_106 : decode cX11_passes 106 = .ok (.iconst 1, 1) := by decide +kernel
theorem dX11_passes_107 : decode cX11_passes 107 = .ok (.iand, 1) := by decide +kernel
theorem dX11_passes_108 : decode cX11_passes 108 = .ok (.iconst 1, 1) := by decide +kernel
theorem dX11_passes_109 : decode cX11_passes 109 = .ok (.if_icmp .ne 27, 3) := by decide +kernel
theorem dX11_passes_112 : decode cX11_passes 112 = .ok (.aload_n 0, 1) := by decide +kernel
theorem dX11_passes_113 : decode cX11_passes 113 = .ok (.getfield 102, 3) := by decide +kernel
theorem dX11_passes_116 : decode cX11_passes 116 = .ok (.bipush 25, 2) := by decide +kernel
theorem dX11_passes_118 : decode cX11_passes 118 = .ok (.iload_n 1, 1) := by decide +kernel
theorem dX11_passes_119 : decode cX11_passes 119 = .ok (.imul, 1) := by decide +kernel
theorem dX11_passes_120 : decode cX11_passes 120 = .ok (.iload_n 3, 1) := by decide +kernel
theorem dX11_passes_121 : decode cX11_passes 121 = .ok (.iadd, 1) := by decide +kernel
theorem dX11_passes_122 : decode cX11_passes 122 = .ok (.iconst 1, 1) := by decide +kernel
theorem dX11_passes_123 : decode cX11_passes 123 = .ok (.aload_n 0, 1) := by decide +kernel
theorem dX11_passes_124 : decode cX11_passes 124 = .ok (.getfield 102, 3) := by decide +kernel
theorem dX11_passes_127 : decode cX11_passes 127 = .ok (.bipush 25, 2) := by decide +kernel
theorem dX11_passes_129 : decode cX11_passes 129 = .ok (.iload_n 1, 1) := by decide +kernel
theorem dX11_passes_130 : decode cX11_passes 130 = .ok (.imul, 1) := by decide +kernel
theorem dX11_passes_131 : decode cX11_passes 131 = .ok (.iload_n 3, 1) := by decide +kernel
theorem dX11_passes_132 : decode cX11_passes 132 = .ok (.iadd, 1) := by decide +kernel
theorem dX11_passes_133 : decode cX11_passes 133 = .ok (.iaload, 1) := by decide +kernel
theorem dX11_passes_134 : decode cX11_passes 134 = .ok (.isub, 1) := by decide +kernel
theorem dX11_passes_135 : decode cX11_passes 135 = .ok (.iastore, 1) := by decide +kernel
theorem dX11_passes_136 : decode cX11_passes 136 = .ok (.iinc 3 1, 3) := by decide +kernel
theorem dX11_passes_139 : decode cX11_passes 139 = .ok (.goto (-45), 3) := by decide +kernel
theorem dX11_passes_142 : decode cX11_passes 142 = .ok (.aload_n 0, 1) := by decide +kernel
theorem dX11_passes_143 : decode cX11_passes 143 = .ok (.iconst 0, 1) := by decide +kernel
theorem dX11_passes_144 : decode cX11_passes 144 = .ok (.putfield 346, 3) := by decide +kernel
theorem dX11_passes_147 : decode cX11_passes 147 = .ok (.aload_n 0, 1) := by decide +kernel
theorem dX11_passes_148 : decode cX11_passes 148 = .ok (.getfield 84, 3) := by decide +kernel
theorem dX11_passes_151 : decode cX11_passes 151 = .ok (.iload_n 1, 1) := by decide +kernel
theorem dX11_passes_152 : decode cX11_passes 152 = .ok (.dup2, 1) := by decide +kernel
theorem dX11_passes_153 : decode cX11_passes 153 = .ok (.iaload, 1) := by decide +kernel
theorem dX11_passes_154 : decode cX11_passes 154 = .ok (.iconst 1, 1) := by decide +kernel
theorem dX11_passes_155 : decode cX11_passes 155 = .ok (.iadd, 1) := by decide +kernel
theorem dX11_passes_156 : decode cX11_passes 156 = .ok (.iastore, 1) := by decide +kernel
theorem dX11_passes_157 : decode cX11_passes 157 = .ok (.return_, 1) := by decide +kernel
theorem dX11_goesOn_0 : decode cX11_goesOn 0 = .ok (.iconst 0, 1) := by decide +kernel
theorem dX11_goesOn_1 : decode cX11_goesOn 1 = .ok (.istore_n 2, 1) := by decide +kernel
theorem dX11_goesOn_2 : decode cX11_goesOn 2 = .ok (.iload_n 2, 1) := by decide +kernel
theorem dX11_goesOn_3 : decode cX11_goesOn 3 = .ok (.iload_n 1, 1) := by decide +kernel
theorem dX11_goesOn_4 : decode cX11_goesOn 4 = .ok (.if_icmp .ge 15, 3) := by decide +kernel
theorem dX11_goesOn_7 : decode cX11_goesOn 7 = .ok (.aload_n 0, 1) := by decide +kernel
theorem dX11_goesOn_8 : decode cX11_goesOn 8 = .ok (.iconst 1, 1) := by decide +kernel
theorem dX11_goesOn_9 : decode cX11_goesOn 9 = .ok (.iconst 0, 1) := by decide +kernel
theorem dX11_goesOn_10 : decode cX11_goesOn 10 = .ok (.invokevirtual 416, 3) := by decide +kernel
theorem dX11_goesOn_13 : decode cX11_goesOn 13 = .ok (.iinc 2 1, 3) := by decide +kernel
theorem dX11_goesOn_16 : decode cX11_goesOn 16 = .ok (.goto (-14), 3) := by decide +kernel
theorem dX11_goesOn_19 : decode cX11_goesOn 19 = .ok (.return_, 1) := by decide +kernel
theorem dX11_runs_0 : decode cX11_runs 0 = .ok (.aload_n 0, 1) := by decide +kernel
theorem dX11_runs_1 : decode cX11_runs 1 = .ok (.iconst 1, 1) := by decide +kernel
theorem dX11_runs_2 : decode cX11_runs 2 = .ok (.iconst 0, 1) := by decide +kernel
theorem dX11_runs_3 : decode cX11_runs 3 = .ok (.invokevirtual 420, 3) := by decide +kernel
theorem dX11_runs_6 : decode cX11_runs 6 = .ok (.aload_n 0, 1) := by decide +kernel
theorem dX11_runs_7 : decode cX11_runs 7 = .ok (.iload_n 1, 1) := by decide +kernel
theorem dX11_runs_8 : decode cX11_runs 8 = .ok (.invokevirtual 423, 3) := by decide +kernel
theorem dX11_runs_11 : decode cX11_runs 11 = .ok (.return_, 1) := by decide +kernel
theorem dX11_outcomes_0 : decode cX11_outcomes 0 = .ok (.iconst 0, 1) := by decide +kernel
theorem dX11_outcomes_1 : decode cX11_outcomes 1 = .ok (.istore_n 3, 1) := by decide +kernel
theorem dX11_outcomes_2 : decode cX11_outcomes 2 = .ok (.iconst 0, 1) := by decide +kernel
theorem dX11_outcomes_3 : decode cX11_outcomes 3 = .ok (.istore 4, 2) := by decide +kernel
theorem dX11_outcomes_5 : decode cX11_outcomes 5 = .ok (.iload 4, 2) := by decide +kernel
theorem dX11_outcomes_7 : decode cX11_outcomes 7 = .ok (.aload_n 0, 1) := by decide +kernel
theorem dX11_outcomes_8 : decode cX11_outcomes 8 = .ok (.getfield 13, 3) := by decide +kernel
theorem dX11_outcomes_11 : decode cX11_outcomes 11 = .ok (.iconst 4, 1) := by decide +kernel
theorem dX11_outcomes_12 : decode cX11_outcomes 12 = .ok (.iaload, 1) := by decide +kernel
theorem dX11_outcomes_13 : decode cX11_outcomes 13 = .ok (.if_icmp .ge 33, 3) := by decide +kernel
theorem dX11_outcomes_16 : decode cX11_outcomes 16 = .ok (.iload_n 3, 1) := by decide +kernel
theorem dX11_outcomes_17 : decode cX11_outcomes 17 = .ok (.aload_n 0, 1) := by decide +kernel
theorem dX11_outcomes_18 : decode cX11_outcomes 18 = .ok (.getfield 105, 3) := by decide +kernel
theorem dX11_outcomes_21 : decode cX11_outcomes 21 = .ok (.bipush 8, 2) := by decide +kernel
theorem dX11_outcomes_23 : decode cX11_outcomes 23 = .ok (.iload_n 1, 1) := by decide +kernel
theorem dX11_outcomes_24 : decode cX11_outcomes 24 = .ok (.imul, 1) := by decide +kernel
theorem dX11_outcomes_25 : decode cX11_outcomes 25 = .ok (.iload 4, 2) := by decide +kernel
theorem dX11_outcomes_27 : decode cX11_outcomes 27 = .ok (.iadd, 1) := by decide +kernel
theorem dX11_outcomes_28 : decode cX11_outcomes 28 = .ok (.iaload, 1) := by decide +kernel
theorem dX11_outcomes_29 : decode cX11_outcomes 29 = .ok (.iload_n 2, 1) := by decide +kernel
theorem dX11_outcomes_30 : decode cX11_outcomes 30 = .ok (.if_icmp .ne 7, 3) := by decide +kernel
theorem dX11_outcomes_33 : decode cX11_outcomes 33 = .ok (.iconst 1, 1) := by decide +kernel
theorem dX11_outcomes_34 : decode cX11_outcomes 34 = .ok (.goto 4, 3) := by decide +kernel
theorem dX11_outcomes_37 : decode cX11_outcomes 37 = .ok (.iconst 0, 1) := by decide +kernel
theorem dX11_outcomes_38 : decode cX11_outcomes 38 = .ok (.iadd, 1) := by decide +kernel
theorem dX11_outcomes_39 : decode cX11_outcomes 39 = .ok (.istore_n 3, 1) := by decide +kernel
theorem dX11_outcomes_40 : decode cX11_outcomes 40 = .ok (.iinc 4 1, 3) := by decide +kernel
theorem dX11_outcomes_43 : decode cX11_outcomes 43 = .ok (.goto (-38), 3) := by decide +kernel
theorem dX11_outcomes_46 : decode cX11_outcomes 46 = .ok (.iload_n 3, 1) := by decide +kernel
theorem dX11_outcomes_47 : decode cX11_outcomes 47 = .ok (.ireturn, 1) := by decide +kernel
theorem dX11_goneMany_0 : decode cX11_goneMany 0 = .ok (.iconst 0, 1) := by decide +kernel
theorem dX11_goneMany_1 : decode cX11_goneMany 1 = .ok (.istore_n 2, 1) := by decide +kernel
theorem dX11_goneMany_2 : decode cX11_goneMany 2 = .ok (.iconst 0, 1) := by decide +kernel
theorem dX11_goneMany_3 : decode cX11_goneMany 3 = .ok (.istore_n 3, 1) := by decide +kernel
theorem dX11_goneMany_4 : decode cX11_goneMany 4 = .ok (.iload_n 3, 1) := by decide +kernel
theorem dX11_goneMany_5 : decode cX11_goneMany 5 = .ok (.aload_n 0, 1) := by decide +kernel
theorem dX11_goneMany_6 : decode cX11_goneMany 6 = .ok (.getfield 93, 3) := by decide +kernel
theorem dX11_goneMany_9 : decode cX11_goneMany 9 = .ok (.iload_n 1, 1) := by decide +kernel
theorem dX11_goneMany_10 : decode cX11_goneMany 10 = .ok (.iaload, 1) := by decide +kernel
theorem dX11_goneMany_11 : decode cX11_goneMany 11 = .ok (.if_icmp .ge 32, 3) := by decide +kernel
theorem dX11_goneMany_14 : decode cX11_goneMany 14 = .ok (.iload_n 2, 1) := by decide +kernel
theorem dX11_goneMany_15 : decode cX11_goneMany 15 = .ok (.aload_n 0, 1) := by decide +kernel
theorem dX11_goneMany_16 : decode cX11_goneMany 16 = .ok (.getfield 117, 3) := by decide +kernel
theorem dX11_goneMany_19 : decode cX11_goneMany 19 = .ok (.bipush 12, 2) := by decide +kernel
theorem dX11_goneMany_21 : decode cX11_goneMany 21 = .ok (.iload_n 1, 1) := by decide +kernel
theorem dX11_goneMany_22 : decode cX11_goneMany 22 = .ok (.imul, 1) := by decide +kernel
theorem dX11_goneMany_23 : decode cX11_goneMany 23 = .ok (.iload_n 3, 1) := by decide +kernel
theorem dX11_goneMany_24 : decode cX11_goneMany 24 = .ok (.iadd, 1) := by decide +kernel
theorem dX11_goneMany_25 : decode cX11_goneMany 25 = .ok (.iaload, 1) := by decide +kernel
theorem dX11_goneMany_26 : decode cX11_goneMany 26 = .ok (.iconst 1, 1) := by decide +kernel
theorem dX11_goneMany_27 : decode cX11_goneMany 27 = .ok (.if_icmp .ne 7, 3) := by decide +kernel
theorem dX11_goneMany_30 : decode cX11_goneMany 30 = .ok (.iconst 1, 1) := by decide +kernel
theorem dX11_goneMany_31 : decode cX11_goneMany 31 = .ok (.goto 4, 3) := by decide +kernel
theorem dX11_goneMany_34 : decode cX11_goneMany 34 = .ok (.iconst 0, 1) := by decide +kernel
theorem dX11_goneMany_35 : decode cX11_goneMany 35 = .ok (.iadd, 1) := by decide +kernel
theorem dX11_goneMany_36 : decode cX11_goneMany 36 = .ok (.istore_n 2, 1) := by decide +kernel
theorem dX11_goneMany_37 : decode cX11_goneMany 37 = .ok (.iinc 3 1, 3) := by decide +kernel
theorem dX11_goneMany_40 : decode cX11_goneMany 40 = .ok (.goto (-36), 3) := by decide +kernel
theorem dX11_goneMany_43 : decode cX11_goneMany 43 = .ok (.iload_n 2, 1) := by decide +kernel
theorem dX11_goneMany_44 : decode cX11_goneMany 44 = .ok (.ireturn, 1) := by decide +kernel
theorem dX11_mixedMany_0 : decode cX11_mixedMany 0 = .ok (.iconst 0, 1) := by decide +kernel
theorem dX11_mixedMany_1 : decode cX11_mixedMany 1 = .ok (.istore_n 2, 1) := by decide +kernel
theorem dX11_mixedMany_2 : decode cX11_mixedMany 2 = .ok (.iconst 0, 1) := by decide +kernel
theorem dX11_mixedMany_3 : decode cX11_mixedMany 3 = .ok (.istore_n 3, 1) := by decide +kernel
theorem dX11_mixedMany_4 : decode cX11_mixedMany 4 = .ok (.iload_n 3, 1) := by decide +kernel
theorem dX11_mixedMany_5 : decode cX11_mixedMany 5 = .ok (.aload_n 0, 1) := by decide +kernel
theorem dX11_mixedMany_6 : decode cX11_mixedMany 6 = .ok (.getfield 13, 3) := by decide +kernel
theorem dX11_mixedMany_9 : decode cX11_mixedMany 9 = .ok (.iconst 0, 1) := by decide +kernel
theorem dX11_mixedMany_10 : decode cX11_mixedMany 10 = .ok (.iaload, 1) := by decide +kernel
theorem dX11_mixedMany_11 : decode cX11_mixedMany 11 = .ok (.if_icmp .ge 57, 3) := by decide +kernel
theorem dX11_mixedMany_14 : decode cX11_mixedMany 14 = .ok (.iconst 0, 1) := by decide +kernel
theorem dX11_mixedMany_15 : decode cX11_mixedMany 15 = .ok (.istore 4, 2) := by decide +kernel
theorem dX11_mixedMany_17 : decode cX11_mixedMany 17 = .ok (.iload 4, 2) := by decide +kernel
theorem dX11_mixedMany_19 : decode cX11_mixedMany 19 = .ok (.aload_n 0, 1) := by decide +kernel
theorem dX11_mixedMany_20 : decode cX11_mixedMany 20 = .ok (.getfield 13, 3) := by decide +kernel
theorem dX11_mixedMany_23 : decode cX11_mixedMany 23 = .ok (.iconst 1, 1) := by decide +kernel
theorem dX11_mixedMany_24 : decode cX11_mixedMany 24 = .ok (.iaload, 1) := by decide +kernel
theorem dX11_mixedMany_25 : decode cX11_mixedMany 25 = .ok (.if_icmp .ge 37, 3) := by decide +kernel
theorem dX11_mixedMany_28 : decode cX11_mixedMany 28 = .ok (.iload_n 2, 1) := by decide +kernel
theorem dX11_mixedMany_29 : decode cX11_mixedMany 29 = .ok (.aload_n 0, 1) := by decide +kernel
theorem dX11_mixedMany_30 : decode cX11_mixedMany 30 = .ok (.getfield 99, 3) := by decide +kernel
theorem dX11_mixedMany_33 : decode cX11_mixedMany 33 = .ok (.bipush 25, 2) := by decide +kernel
theorem dX11_mixedMany_35 : decode cX11_mixedMany 35 = .ok (.iload_n 1, 1) := by decide +kernel
theorem dX11_mixedMany_36 : decode cX11_mixedMany 36 = .ok (.imul, 1) := by decide +kernel
theorem dX11_mixedMany_37 : decode cX11_mixedMany 37 = .ok (.iconst 5, 1) := by decide +kernel
theorem dX11_mixedMany_38 : decode cX11_mixedMany 38 = .ok (.iload_n 3, 1) := by decide +kernel
theorem dX11_mixedMany_39 : decode cX11_mixedMany 39 = .ok (.imul, 1) := by decide +kernel
theorem dX11_mixedMany_40 : decode cX11_mixedMany 40 = .ok (.iadd, 1) := by decide +kernel
theorem dX11_mixedMany_41 : decode cX11_mixedMany 41 = .ok (.iload 4, 2) := by decide +kernel
theorem dX11_mixedMany_43 : decode cX11_mixedMany 43 = .ok (.iadd, 1) := by decide +kernel
theorem dX11_mixedMany_44 : decode cX11_mixedMany 44 = .ok (.iaload, 1) := by decide +kernel
theorem dX11_mixedMany_45 : decode cX11_mixedMany 45 = .ok (.iload_n 3, 1) := by decide +kernel
theorem dX11_mixedMany_46 : decode cX11_mixedMany 46 = .ok (.if_icmp .eq 7, 3) := by decide +kernel
theorem dX11_mixedMany_49 : decode cX11_mixedMany 49 = .ok (.iconst 1, 1) := by decide +kernel
theorem dX11_mixedMany_50 : decode cX11_mixedMany 50 = .ok (.goto 4, 3) := by decide +kernel
theorem dX11_mixedMany_53 : decode cX11_mixedMany 53 = .ok (.iconst 0, 1) := by decide +kernel
theorem dX11_mixedMany_54 : decode cX11_mixedMany 54 = .ok (.iadd, 1) := by decide +kernel
theorem dX11_mixedMany_55 : decode cX11_mixedMany 55 = .ok (.istore_n 2, 1) := by decide +kernel
theorem dX11_mixedMany_56 : decode cX11_mixedMany 56 = .ok (.iinc 4 1, 3) := by decide +kernel
theorem dX11_mixedMany_59 : decode cX11_mixedMany 59 = .ok (.goto (-42), 3) := by decide +kernel
theorem dX11_mixedMany_62 : decode cX11_mixedMany 62 = .ok (.iinc 3 1, 3) := by decide +kernel
theorem dX11_mixedMany_65 : decode cX11_mixedMany 65 = .ok (.goto (-61), 3) := by decide +kernel
theorem dX11_mixedMany_68 : decode cX11_mixedMany 68 = .ok (.iload_n 2, 1) := by decide +kernel
theorem dX11_mixedMany_69 : decode cX11_mixedMany 69 = .ok (.ireturn, 1) := by decide +kernel
theorem dX11_penceAll_0 : decode cX11_penceAll 0 = .ok (.iconst 0, 1) := by decide +kernel
theorem dX11_penceAll_1 : decode cX11_penceAll 1 = .ok (.istore_n 2, 1) := by decide +kernel
theorem dX11_penceAll_2 : decode cX11_penceAll 2 = .ok (.iconst 0, 1) := by decide +kernel
theorem dX11_penceAll_3 : decode cX11_penceAll 3 = .ok (.istore_n 3, 1) := by decide +kernel
theorem dX11_penceAll_4 : decode cX11_penceAll 4 = .ok (.iload_n 3, 1) := by decide +kernel
theorem dX11_penceAll_5 : decode cX11_penceAll 5 = .ok (.aload_n 0, 1) := by decide +kernel
theorem dX11_penceAll_6 : decode cX11_penceAll 6 = .ok (.getfield 13, 3) := by decide +kernel
theorem dX11_penceAll_9 : decode cX11_penceAll 9 = .ok (.iconst 0, 1) := by decide +kernel
theorem dX11_penceAll_10 : decode cX11_penceAll 10 = .ok (.iaload, 1) := by decide +kernel
theorem dX11_penceAll_11 : decode cX11_penceAll 11 = .ok (.if_icmp .ge 22, 3) := by decide +kernel
theorem dX11_penceAll_14 : decode cX11_penceAll 14 = .ok (.iload_n 2, 1) := by decide +kernel
theorem dX11_penceAll_15 : decode cX11_penceAll 15 = .ok (.aload_n 0, 1) := by decide +kernel
theorem dX11_penceAll_16 : decode cX11_penceAll 16 = .ok (.getfield 96, 3) := by decide +kernel
theorem dX11_penceAll_19 : decode cX11_penceAll 19 = .ok (.iconst 5, 1) := by decide +kernel
theorem dX11_penceAll_20 : decode cX11_penceAll 20 = .ok (.iload_n 1, 1) := by decide +kernel
theorem dX11_penceAll_21 : decode cX11_penceAll 21 = .ok (.imul, 1) := by decide +kernel
theorem dX11_penceAll_22 : decode cX11_penceAll 22 = .ok (.iload_n 3, 1) := by decide +kernel
theorem dX11_penceAll_23 : decode cX11_penceAll 23 = .ok (.iadd, 1) := by decide +kernel
theorem dX11_penceAll_24 : decode cX11_penceAll 24 = .ok (.iaload, 1) := by decide +kernel
theorem dX11_penceAll_25 : decode cX11_penceAll 25 = .ok (.iadd, 1) := by decide +kernel
theorem dX11_penceAll_26 : decode cX11_penceAll 26 = .ok (.istore_n 2, 1) := by decide +kernel
theorem dX11_penceAll_27 : decode cX11_penceAll 27 = .ok (.iinc 3 1, 3) := by decide +kernel
theorem dX11_penceAll_30 : decode cX11_penceAll 30 = .ok (.goto (-26), 3) := by decide +kernel
theorem dX11_penceAll_33 : decode cX11_penceAll 33 = .ok (.iload_n 2, 1) := by decide +kernel
theorem dX11_penceAll_34 : decode cX11_penceAll 34 = .ok (.ireturn, 1) := by decide +kernel
theorem dX11_wantsOf_0 : decode cX11_wantsOf 0 = .ok (.iconst 0, 1) := by decide +kernel
theorem dX11_wantsOf_1 : decode cX11_wantsOf 1 = .ok (.istore_n 3, 1) := by decide +kernel
theorem dX11_wantsOf_2 : decode cX11_wantsOf 2 = .ok (.iconst 0, 1) := by decide +kernel
theorem dX11_wantsOf_3 : decode cX11_wantsOf 3 = .ok (.istore 4, 2) := by decide +kernel
theorem dX11_wantsOf_5 : decode cX11_wantsOf 5 = .ok (.iload 4, 2) := by decide +kernel
theorem dX11_wantsOf_7 : decode cX11_wantsOf 7 = .ok (.aload_n 0, 1) := by decide +kernel
theorem dX11_wantsOf_8 : decode cX11_wantsOf 8 = .ok (.getfield 13, 3) := by decide +kernel
theorem dX11_wantsOf_11 : decode cX11_wantsOf 11 = .ok (.iconst 4, 1) := by decide +kernel
theorem dX11_wantsOf_12 : decode cX11_wantsOf 12 = .ok (.iaload, 1) := by decide +kernel
theorem dX11_wantsOf_13 : decode cX11_wantsOf 13 = .ok (.if_icmp .ge 39, 3) := by decide +kernel
theorem dX11_wantsOf_16 : decode cX11_wantsOf 16 = .ok (.iload_n 3, 1) := by decide +kernel
theorem dX11_wantsOf_17 : decode cX11_wantsOf 17 = .ok (.aload_n 0, 1) := by decide +kernel
theorem dX11_wantsOf_18 : decode cX11_wantsOf 18 = .ok (.getfield 46, 3) := by decide +kernel
theorem dX11_wantsOf_21 : decode cX11_wantsOf 21 = .ok (.iload 4, 2) := by decide +kernel
theorem dX11_wantsOf_23 : decode cX11_wantsOf 23 = .ok (.iaload, 1) := by decide +kernel
theorem dX11_wantsOf_24 : decode cX11_wantsOf 24 = .ok (.iload_n 1, 1) := by decide +kernel
theorem dX11_wantsOf_25 : decode cX11_wantsOf 25 = .ok (.if_icmp .ne 18, 3) := by decide +kernel
theorem dX11_wantsOf_28 : decode cX11_wantsOf 28 = .ok (.aload_n 0, 1) := by decide +kernel
theorem dX11_wantsOf_29 : decode cX11_wantsOf 29 = .ok (.getfield 105, 3) := by decide +kernel
theorem dX11_wantsOf_32 : decode cX11_wantsOf 32 = .ok (.iload 4, 2) := by decide +kernel
theorem dX11_wantsOf_34 : decode cX11_wantsOf 34 = .ok (.iaload, 1) := by decide +kernel
theorem dX11_wantsOf_35 : decode cX11_wantsOf 35 = .ok (.iload_n 2, 1) := by decide +kernel
theorem dX11_wantsOf_36 : decode cX11_wantsOf 36 = .ok (.if_icmp .ne 7, 3) := by decide +kernel
theorem dX11_wantsOf_39 : decode cX11_wantsOf 39 = .ok (.iconst 1, 1) := by decide +kernel
theorem dX11_wantsOf_40 : decode cX11_wantsOf 40 = .ok (.goto 4, 3) := by decide +kernel
theorem dX11_wantsOf_43 : decode cX11_wantsOf 43 = .ok (.iconst 0, 1) := by decide +kernel
theorem dX11_wantsOf_44 : decode cX11_wantsOf 44 = .ok (.iadd, 1) := by decide +kernel
theorem dX11_wantsOf_45 : decode cX11_wantsOf 45 = .ok (.istore_n 3, 1) := by decide +kernel
theorem dX11_wantsOf_46 : decode cX11_wantsOf 46 = .ok (.iinc 4 1, 3) := by decide +kernel
theorem dX11_wantsOf_49 : decode cX11_wantsOf 49 = .ok (.goto (-44), 3) := by decide +kernel
theorem dX11_wantsOf_52 : decode cX11_wantsOf 52 = .ok (.iload_n 3, 1) := by decide +kernel
theorem dX11_wantsOf_53 : decode cX11_wantsOf 53 = .ok (.ireturn, 1) := by decide +kernel
theorem dX11_man_0 : decode cX11_man 0 = .ok (.aload_n 0, 1) := by decide +kernel
theorem dX11_man_1 : decode cX11_man 1 = .ok (.aload_n 0, 1) := by decide +kernel
theorem dX11_man_2 : decode cX11_man 2 = .ok (.iload_n 1, 1) := by decide +kernel
theorem dX11_man_3 : decode cX11_man 3 = .ok (.invokevirtual 426, 3) := by decide +kernel
theorem dX11_man_6 : decode cX11_man 6 = .ok (.ifCond .ne 7, 3) := by decide +kernel
theorem dX11_man_9 : decode cX11_man 9 = .ok (.iconst 1, 1) := by decide +kernel
theorem dX11_man_10 : decode cX11_man 10 = .ok (.goto 17, 3) := by decide +kernel
theorem dX11_man_13 : decode cX11_man 13 = .ok (.iload_n 2, 1) := by decide +kernel
theorem dX11_man_14 : decode cX11_man 14 = .ok (.ifCond .lt 8, 3) := by decide +kernel
theorem dX11_man_17 : decode cX11_man 17 = .ok (.iload_n 2, 1) := by decide +kernel
theorem dX11_man_18 : decode cX11_man 18 = .ok (.iconst 4, 1) := by decide +kernel
theorem dX11_man_19 : decode cX11_man 19 = .ok (.if_icmp .le 7, 3) := by decide +kernel
theorem dX11_man_22 : decode cX11_man 22 = .ok (.iconst 2, 1) := by decide +kernel
theorem dX11_man_23 : decode cX11_man 23 = .ok (.goto 4, 3) := by decide +kernel
theorem dX11_man_26 : decode cX11_man 26 = .ok (.iconst 0, 1) := by decide +kernel
theorem dX11_man_27 : decode cX11_man 27 = .ok (.putfield 157, 3) := by decide +kernel
theorem dX11_man_30 : decode cX11_man 30 = .ok (.aload_n 0, 1) := by decide +kernel
theorem dX11_man_31 : decode cX11_man 31 = .ok (.getfield 157, 3) := by decide +kernel
theorem dX11_man_34 : decode cX11_man 34 = .ok (.ifCond .eq 5, 3) := by decide +kernel
theorem dX11_man_37 : decode cX11_man 37 = .ok (.iconst 0, 1) := by decide +kernel
theorem dX11_man_38 : decode cX11_man 38 = .ok (.ireturn, 1) := by decide +kernel
theorem dX11_man_39 : decode cX11_man 39 = .ok (.iconst 0, 1) := by decide +kernel
theorem dX11_man_40 : decode cX11_man 40 = .ok (.istore_n 3, 1) := by decide +kernel
theorem dX11_man_41 : decode cX11_man 41 = .ok (.iconst 0, 1) := by decide +kernel
theorem dX11_man_42 : decode cX11_man 42 = .ok (.istore 4, 2) := by decide +kernel
theorem dX11_man_44 : decode cX11_man 44 = .ok (.iconst 0, 1) := by decide +kernel
theorem dX11_man_45 : decode cX11_man 45 = .ok (.istore 5, 2) := by decide +kernel
theorem dX11_man_47 : decode cX11_man 47 = .ok (.iload 5, 2) := by decide +kernel
theorem dX11_man_49 : decode cX11_man 49 = .ok (.aload_n 0, 1) := by decide +kernel
theorem dX11_man_50 : decode cX11_man 50 = .ok (.getfield 13, 3) := by decide +kernel
theorem dX11_man_53 : decode cX11_man 53 = .ok (.iconst 1, 1) := by decide +kernel
theorem dX11_man_54 : decode cX11_man 54 = .ok (.iaload, 1) := by decide +kernel
theorem dX11_man_55 : decode cX11_man 55 = .ok (.if_icmp .ge 54, 3) := by decide +kernel
theorem dX11_man_58 : decode cX11_man 58 = .ok (.iload_n 3, 1) := by decide +kernel
theorem dX11_man_59 : decode cX11_man 59 = .ok (.aload_n 0, 1) := by decide +kernel
theorem dX11_man_60 : decode cX11_man 60 = .ok (.getfield 102, 3) := by decide +kernel
theorem dX11_man_63 : decode cX11_man 63 = .ok (.iconst 5, 1) := by decide +kernel
theorem dX11_man_64 : decode cX11_man 64 = .ok (.iload_n 1, 1) := by decide +kernel
theorem dX11_man_65 : decode cX11_man 65 = .ok (.imul, 1) := by decide +kernel
theorem dX11_man_66 : decode cX11_man 66 = .ok (.iload 5, 2) := by decide +kernel
theorem dX11_man_68 : decode cX11_man 68 = .ok (.iadd, 1) := by decide +kernel
theorem dX11_man_69 : decode cX11_man 69 = .ok (.iaload, 1) := by decide +kernel
theorem dX11_man_70 : decode cX11_man 70 = .ok (.iload 5, 2) := by decide +kernel
theorem dX11_man_72 : decode cX11_man 72 = .ok (.ishl, 1) := by decide +kernel
theorem dX11_man_73 : decode cX11_man 73 = .ok (.ior, 1) := by decide +kernel
theorem dX11_man_74 : decode cX11_man 74 = .ok (.istore_n 3, 1) := by decide +kernel
theorem dX11_man_75 : decode cX11_man 75 = .ok (.iload 4, 2) := by decide +kernel
theorem dX11_man_77 : decode cX11_man 77 = .ok (.aload_n 0, 1) := by decide +kernel
theorem dX11_man_78 : decode cX11_man 78 = .ok (.getfield 99, 3) := by decide +kernel
theorem dX11_man_81 : decode cX11_man 81 = .ok (.iconst 5, 1) := by decide +kernel
theorem dX11_man_82 : decode cX11_man 82 = .ok (.iload_n 1, 1) := by decide +kernel
theorem dX11_man_83 : decode cX11_man 83 = .ok (.imul, 1) := by decide +kernel
theorem dX11_man_84 : decode cX11_man 84 = .ok (.iload 5, 2) := by decide +kernel
theorem dX11_man_86 : decode cX11_man 86 = .ok (.iadd, 1) := by decide +kernel
theorem dX11_man_87 : decode cX11_man 87 = .ok (.iaload, 1) := by decide +kernel
theorem dX11_man_88 : decode cX11_man 88 = .ok (.iload_n 1, 1) := by decide +kernel
theorem dX11_man_89 : decode cX11_man 89 = .ok (.if_icmp .ne 10, 3) := by decide +kernel
theorem dX11_man_92 : decode cX11_man 92 = .ok (.iconst 1, 1) := by decide +kernel
theorem dX11_man_93 : decode cX11_man 93 = .ok (.iload 5, 2) := by decide +kernel
theorem dX11_man_95 : decode cX11_man 95 = .ok (.ishl, 1) := by decide +kernel
theorem dX11_man_96 : decode cX11_man 96 = .ok (.goto 4, 3) := by decide +kernel
theorem dX11_man_99 : decode cX11_man 99 = .ok (.iconst 0, 1) := by decide +kernel
theorem dX11_man_100 : decode cX11_man 100 = .ok (.ior, 1) := by decide +kernel
theorem dX11_man_101 : decode cX11_man 101 = .ok (.istore 4, 2) := by decide +kernel
theorem dX11_man_103 : decode cX11_man 103 = .ok (.iinc 5 1, 3) := by decide +kernel
theorem dX11_man_106 : decode cX11_man 106 = .ok (.goto (-59), 3) := by decide +kernel
theorem dX11_man_109 : decode cX11_man 109 = .ok (.iload_n 2, 1) := by decide +kernel
theorem dX11_man_110 : decode cX11_man 110 = .ok (.tableswitch 49 0 3 #[30, 37, 39, 42], 30) := by decide +kernel
theorem dX11_man_140 : decode cX11_man 140 = .ok (.aload_n 0, 1) := by decide +kernel
theorem dX11_man_141 : decode cX11_man 141 = .ok (.getfield 96, 3) := by decide +kernel
theorem dX11_man_144 : decode cX11_man 144 = .ok (.iload_n 1, 1) := by decide +kernel
theorem dX11_man_145 : decode cX11_man 145 = .ok (.iaload, 1) := by decide +kernel
theorem dX11_man_146 : decode cX11_man 146 = .ok (.ireturn, 1) := by decide +kernel
theorem dX11_man_147 : decode cX11_man 147 = .ok (.iload_n 3, 1) := by decide +kernel
theorem dX11_man_148 : decode cX11_man 148 = .ok (.ireturn, 1) := by decide +kernel
theorem dX11_man_149 : decode cX11_man 149 = .ok (.iload 4, 2) := by decide +kernel
theorem dX11_man_151 : decode cX11_man 151 = .ok (.ireturn, 1) := by decide +kernel
theorem dX11_man_152 : decode cX11_man 152 = .ok (.aload_n 0, 1) := by decide +kernel
theorem dX11_man_153 : decode cX11_man 153 = .ok (.iload_n 1, 1) := by decide +kernel
theorem dX11_man_154 : decode cX11_man 154 = .ok (.iconst 1, 1) := by decide +kernel
theorem dX11_man_155 : decode cX11_man 155 = .ok (.invokevirtual 429, 3) := by decide +kernel
theorem dX11_man_158 : decode cX11_man 158 = .ok (.ireturn, 1) := by decide +kernel
theorem dX11_man_159 : decode cX11_man 159 = .ok (.aload_n 0, 1) := by decide +kernel
theorem dX11_man_160 : decode cX11_man 160 = .ok (.iload_n 1, 1) := by decide +kernel
theorem dX11_man_161 : decode cX11_man 161 = .ok (.iconst 2, 1) := by decide +kernel
theorem dX11_man_162 : decode cX11_man 162 = .ok (.invokevirtual 429, 3) := by decide +kernel
theorem dX11_man_165 : decode cX11_man 165 = .ok (.ireturn, 1) := by decide +kernel
theorem dX11_sort_0 : decode cX11_sort 0 = .ok (.aload_n 0, 1) := by decide +kernel
theorem dX11_sort_1 : decode cX11_sort 1 = .ok (.iconst 0, 1) := by decide +kernel
theorem dX11_sort_2 : decode cX11_sort 2 = .ok (.putfield 157, 3) := by decide +kernel
theorem dX11_sort_5 : decode cX11_sort 5 = .ok (.aload_n 0, 1) := by decide +kernel
theorem dX11_sort_6 : decode cX11_sort 6 = .ok (.iload_n 1, 1) := by decide +kernel
theorem dX11_sort_7 : decode cX11_sort 7 = .ok (.invokevirtual 432, 3) := by decide +kernel
theorem dX11_sort_10 : decode cX11_sort 10 = .ok (.ifCond .ne 5, 3) := by decide +kernel
theorem dX11_sort_13 : decode cX11_sort 13 = .ok (.iconst (-1), 1) := by decide +kernel
theorem dX11_sort_14 : decode cX11_sort 14 = .ok (.ireturn, 1) := by decide +kernel
theorem dX11_sort_15 : decode cX11_sort 15 = .ok (.iload_n 2, 1) := by decide +kernel
theorem dX11_sort_16 : decode cX11_sort 16 = .ok (.ifCond .ne 12, 3) := by decide +kernel
theorem dX11_sort_19 : decode cX11_sort 19 = .ok (.aload_n 0, 1) := by decide +kernel
theorem dX11_sort_20 : decode cX11_sort 20 = .ok (.getfield 25, 3) := by decide +kernel
theorem dX11_sort_23 : decode cX11_sort 23 = .ok (.iload_n 1, 1) := by decide +kernel
theorem dX11_sort_24 : decode cX11_sort 24 = .ok (.iaload, 1) := by decide +kernel
theorem dX11_sort_25 : decode cX11_sort 25 = .ok (.goto 18, 3) := by decide +kernel
theorem dX11_sort_28 : decode cX11_sort 28 = .ok (.iload_n 2, 1) := by decide +kernel
theorem dX11_sort_29 : decode cX11_sort 29 = .ok (.iconst 1, 1) := by decide +kernel
theorem dX11_sort_30 : decode cX11_sort 30 = .ok (.if_icmp .ne 12, 3) := by decide +kernel
theorem dX11_sort_33 : decode cX11_sort 33 = .ok (.aload_n 0, 1) := by decide +kernel
theorem dX11_sort_34 : decode cX11_sort 34 = .ok (.getfield 28, 3) := by decide +kernel
theorem dX11_sort_37 : decode cX11_sort 37 = .ok (.iload_n 1, 1) := by decide +kernel
theorem dX11_sort_38 : decode cX11_sort 38 = .ok (.iaload, 1) := by decide +kernel
theorem dX11_sort_39 : decode cX11_sort 39 = .ok (.goto 4, 3) := by decide +kernel
theorem dX11_sort_42 : decode cX11_sort 42 = .ok (.iconst (-1), 1) := by decide +kernel
theorem dX11_sort_43 : decode cX11_sort 43 = .ok (.ireturn, 1) := by decide +kernel
theorem dX11_deed_0 : decode cX11_deed 0 = .ok (.aload_n 0, 1) := by decide +kernel
theorem dX11_deed_1 : decode cX11_deed 1 = .ok (.iconst 0, 1) := by decide +kernel
theorem dX11_deed_2 : decode cX11_deed 2 = .ok (.putfield 157, 3) := by decide +kernel
theorem dX11_deed_5 : decode cX11_deed 5 = .ok (.aload_n 0, 1) := by decide +kernel
theorem dX11_deed_6 : decode cX11_deed 6 = .ok (.iload_n 1, 1) := by decide +kernel
theorem dX11_deed_7 : decode cX11_deed 7 = .ok (.invokevirtual 435, 3) := by decide +kernel
theorem dX11_deed_10 : decode cX11_deed 10 = .ok (.ifCond .eq 12, 3) := by decide +kernel
theorem dX11_deed_13 : decode cX11_deed 13 = .ok (.aload_n 0, 1) := by decide +kernel
theorem dX11_deed_14 : decode cX11_deed 14 = .ok (.getfield 34, 3) := by decide +kernel
theorem dX11_deed_17 : decode cX11_deed 17 = .ok (.iload_n 1, 1) := by decide +kernel
theorem dX11_deed_18 : decode cX11_deed 18 = .ok (.iaload, 1) := by decide +kernel
theorem dX11_deed_19 : decode cX11_deed 19 = .ok (.goto 4, 3) := by decide +kernel
theorem dX11_deed_22 : decode cX11_deed 22 = .ok (.iconst (-1), 1) := by decide +kernel
theorem dX11_deed_23 : decode cX11_deed 23 = .ok (.ireturn, 1) := by decide +kernel
theorem dX11_sending_0 : decode cX11_sending 0 = .ok (.aload_n 0, 1) := by decide +kernel
theorem dX11_sending_1 : decode cX11_sending 1 = .ok (.iconst 0, 1) := by decide +kernel
theorem dX11_sending_2 : decode cX11_sending 2 = .ok (.putfield 157, 3) := by decide +kernel
theorem dX11_sending_5 : decode cX11_sending 5 = .ok (.aload_n 0, 1) := by decide +kernel
theorem dX11_sending_6 : decode cX11_sending 6 = .ok (.iload_n 1, 1) := by decide +kernel
theorem dX11_sending_7 : decode cX11_sending 7 = .ok (.invokevirtual 438, 3) := by decide +kernel
theorem dX11_sending_10 : decode cX11_sending 10 = .ok (.ifCond .ne 5, 3) := by decide +kernel
theorem dX11_sending_13 : decode cX11_sending 13 = .ok (.iconst (-1), 1) := by decide +kernel
theorem dX11_sending_14 : decode cX11_sending 14 = .ok (.ireturn, 1) := by decide +kernel
theorem dX11_sending_15 : decode cX11_sending 15 = .ok (.iload_n 2, 1) := by decide +kernel
theorem dX11_sending_16 : decode cX11_sending 16 = .ok (.ifCond .ne 12, 3) := by decide +kernel
theorem dX11_sending_19 : decode cX11_sending 19 = .ok (.aload_n 0, 1) := by decide +kernel
theorem dX11_sending_20 : decode cX11_sending 20 = .ok (.getfield 108, 3) := by decide +kernel
theorem dX11_sending_23 : decode cX11_sending 23 = .ok (.iload_n 1, 1) := by decide +kernel
theorem dX11_sending_24 : decode cX11_sending 24 = .ok (.iaload, 1) := by decide +kernel
theorem dX11_sending_25 : decode cX11_sending 25 = .ok (.goto 46, 3) := by decide +kernel
theorem dX11_sending_28 : decode cX11_sending 28 = .ok (.iload_n 2, 1) := by decide +kernel
theorem dX11_sending_29 : decode cX11_sending 29 = .ok (.iconst 1, 1) := by decide +kernel
theorem dX11_sending_30 : decode cX11_sending 30 = .ok (.if_icmp .ne 12, 3) := by decide +kernel
theorem dX11_sending_33 : decode cX11_sending 33 = .ok (.aload_n 0, 1) := by decide +kernel
theorem dX11_sending_34 : decode cX11_sending 34 = .ok (.getfield 111, 3) := by decide +kernel
theorem dX11_sending_37 : decode cX11_sending 37 = .ok (.iload_n 1, 1) := by decide +kernel
theorem dX11_sending_38 : decode cX11_sending 38 = .ok (.iaload, 1) := by decide +kernel
theorem dX11_sending_39 : decode cX11_sending 39 = .ok (.goto 32, 3) := by decide +kernel
theorem dX11_sending_42 : decode cX11_sending 42 = .ok (.iload_n 2, 1) := by decide +kernel
theorem dX11_sending_43 : decode cX11_sending 43 = .ok (.iconst 2, 1) := by decide +kernel
theorem dX11_sending_44 : decode cX11_sending 44 = .ok (.if_icmp .ne 12, 3) := by decide +kernel
theorem dX11_sending_47 : decode cX11_sending 47 = .ok (.aload_n 0, 1) := by decide +kernel
theorem dX11_sending_48 : decode cX11_sending 48 = .ok (.getfield 114, 3) := by decide +kernel
theorem dX11_sending_51 : decode cX11_sending 51 = .ok (.iload_n 1, 1) := by decide +kernel
theorem dX11_sending_52 : decode cX11_sending 52 = .ok (.iaload, 1) := by decide +kernel
theorem dX11_sending_53 : decode cX11_sending 53 = .ok (.goto 18, 3) := by decide +kernel
theorem dX11_sending_56 : decode cX11_sending 56 = .ok (.iload_n 2, 1) := by decide +kernel
theorem dX11_sending_57 : decode cX11_sending 57 = .ok (.iconst 3, 1) := by decide +kernel
theorem dX11_sending_58 : decode cX11_sending 58 = .ok (.if_icmp .ne 12, 3) := by decide +kernel
theorem dX11_sending_61 : decode cX11_sending 61 = .ok (.aload_n 0, 1) := by decide +kernel
theorem dX11_sending_62 : decode cX11_sending 62 = .ok (.getfield 117, 3) := by decide +kernel
theorem dX11_sending_65 : decode cX11_sending 65 = .ok (.iload_n 1, 1) := by decide +kernel
theorem dX11_sending_66 : decode cX11_sending 66 = .ok (.iaload, 1) := by decide +kernel
theorem dX11_sending_67 : decode cX11_sending 67 = .ok (.goto 4, 3) := by decide +kernel
theorem dX11_sending_70 : decode cX11_sending 70 = .ok (.iconst (-1), 1) := by decide +kernel
theorem dX11_sending_71 : decode cX11_sending 71 = .ok (.ireturn, 1) := by decide +kernel
theorem dX11_want_0 : decode cX11_want 0 = .ok (.aload_n 0, 1) := by decide +kernel
theorem dX11_want_1 : decode cX11_want 1 = .ok (.iconst 0, 1) := by decide +kernel
theorem dX11_want_2 : decode cX11_want 2 = .ok (.putfield 157, 3) := by decide +kernel
theorem dX11_want_5 : decode cX11_want 5 = .ok (.iload_n 1, 1) := by decide +kernel
theorem dX11_want_6 : decode cX11_want 6 = .ok (.ifCond .lt 13, 3) := by decide +kernel
theorem dX11_want_9 : decode cX11_want 9 = .ok (.iload_n 1, 1) := by decide +kernel
theorem dX11_want_10 : decode cX11_want 10 = .ok (.aload_n 0, 1) := by decide +kernel
theorem dX11_want_11 : decode cX11_want 11 = .ok (.getfield 13, 3) := by decide +kernel
theorem dX11_want_14 : decode cX11_want 14 = .ok (.iconst 4, 1) := by decide +kernel
theorem dX11_want_15 : decode cX11_want 15 = .ok (.iaload, 1) := by decide +kernel
theorem dX11_want_16 : decode cX11_want 16 = .ok (.if_icmp .lt 5, 3) := by decide +kernel
theorem dX11_want_19 : decode cX11_want 19 = .ok (.iconst (-1), 1) := by decide +kernel
theorem dX11_want_20 : decode cX11_want 20 = .ok (.ireturn, 1) := by decide +kernel
theorem dX11_want_21 : decode cX11_want 21 = .ok (.iload_n 2, 1) := by decide +kernel
theorem dX11_want_22 : decode cX11_want 22 = .ok (.tableswitch 80 0 5 #[38, 45, 52, 59, 66, 73], 38) := by decide +kernel
theorem dX11_want_60 : decode cX11_want 60 = .ok (.aload_n 0, 1) := by decide +kernel
theorem dX11_want_61 : decode cX11_want 61 = .ok (.getfield 46, 3) := by decide +kernel
theorem dX11_want_64 : decode cX11_want 64 = .ok (.iload_n 1, 1) := by decide +kernel
theorem dX11_want_65 : decode cX11_want 65 = .ok (.iaload, 1) := by decide +kernel
theorem dX11_want_66 : decode cX11_want 66 = .ok (.ireturn, 1) := by decide +kernel
theorem dX11_want_67 : decode cX11_want 67 = .ok (.aload_n 0, 1) := by decide +kernel
theorem dX11_want_68 : decode cX11_want 68 = .ok (.getfield 49, 3) := by decide +kernel
theorem dX11_want_71 : decode cX11_want 71 = .ok (.iload_n 1, 1) := by decide +kernel
theorem dX11_want_72 : decode cX11_want 72 = .ok (.iaload, 1) := by decide +kernel
theorem dX11_want_73 : decode cX11_want 73 = .ok (.ireturn, 1) := by decide +kernel
theorem dX11_want_74 : decode cX11_want 74 = .ok (.aload_n 0, 1) := by decide +kernel
theorem dX11_want_75 : decode cX11_want 75 = .ok (.getfield 52, 3) := by decide +kernel
theorem dX11_want_78 : decode cX11_want 78 = .ok (.iload_n 1, 1) := by decide +kernel
theorem dX11_want_79 : decode cX11_want 79 = .ok (.iaload, 1) := by decide +kernel
theorem dX11_want_80 : decode cX11_want 80 = .ok (.ireturn, 1) := by decide +kernel
theorem dX11_want_81 : decode cX11_want 81 = .ok (.aload_n 0, 1) := by decide +kernel
theorem dX11_want_82 : decode cX11_want 82 = .ok (.getfield 55, 3) := by decide +kernel
theorem dX11_want_85 : decode cX11_want 85 = .ok (.iload_n 1, 1) := by decide +kernel
theorem dX11_want_86 : decode cX11_want 86 = .ok (.iaload, 1) := by decide +kernel
theorem dX11_want_87 : decode cX11_want 87 = .ok (.ireturn, 1) := by decide +kernel
theorem dX11_want_88 : decode cX11_want 88 = .ok (.aload_n 0, 1) := by decide +kernel
theorem dX11_want_89 : decode cX11_want 89 = .ok (.getfield 58, 3) := by decide +kernel
theorem dX11_want_92 : decode cX11_want 92 = .ok (.iload_n 1, 1) := by decide +kernel
theorem dX11_want_93 : decode cX11_want 93 = .ok (.iaload, 1) := by decide +kernel
theorem dX11_want_94 : decode cX11_want 94 = .ok (.ireturn, 1) := by decide +kernel
theorem dX11_want_95 : decode cX11_want 95 = .ok (.aload_n 0, 1) := by decide +kernel
theorem dX11_want_96 : decode cX11_want 96 = .ok (.getfield 105, 3) := by decide +kernel
theorem dX11_want_99 : decode cX11_want 99 = .ok (.iload_n 1, 1) := by decide +kernel
theorem dX11_want_100 : decode cX11_want 100 = .ok (.iaload, 1) := by decide +kernel
theorem dX11_want_101 : decode cX11_want 101 = .ok (.ireturn, 1) := by decide +kernel
theorem dX11_want_102 : decode cX11_want 102 = .ok (.iconst (-1), 1) := by decide +kernel
theorem dX11_want_103 : decode cX11_want 103 = .ok (.ireturn, 1) := by decide +kernel
theorem dX11_holds_0 : decode cX11_holds 0 = .ok (.aload_n 0, 1) := by decide +kernel
theorem dX11_holds_1 : decode cX11_holds 1 = .ok (.iconst 0, 1) := by decide +kernel
theorem dX11_holds_2 : decode cX11_holds 2 = .ok (.putfield 157, 3) := by decide +kernel
theorem dX11_holds_5 : decode cX11_holds 5 = .ok (.aload_n 0, 1) := by decide +kernel
theorem dX11_holds_6 : decode cX11_holds 6 = .ok (.iload_n 1, 1) := by decide +kernel
theorem dX11_holds_7 : decode cX11_holds 7 = .ok (.invokevirtual 426, 3) := by decide +kernel
theorem dX11_holds_10 : decode cX11_holds 10 = .ok (.ifCond .eq 24, 3) := by decide +kernel
theorem dX11_holds_13 : decode cX11_holds 13 = .ok (.aload_n 0, 1) := by decide +kernel
theorem dX11_holds_14 : decode cX11_holds 14 = .ok (.iload_n 2, 1) := by decide +kernel
theorem dX11_holds_15 : decode cX11_holds 15 = .ok (.invokevirtual 432, 3) := by decide +kernel
theorem dX11_holds_18 : decode cX11_holds 18 = .ok (.ifCond .eq 16, 3) := by decide +kernel
theorem dX11_holds_21 : decode cX11_holds 21 = .ok (.aload_n 0, 1) := by decide +kernel
theorem dX11_holds_22 : decode cX11_holds 22 = .ok (.getfield 99, 3) := by decide +kernel
theorem dX11_holds_25 : decode cX11_holds 25 = .ok (.iconst 5, 1) := by decide +kernel
theorem dX11_holds_26 : decode cX11_holds 26 = .ok (.iload_n 1, 1) := by decide +kernel
theorem dX11_holds_27 : decode cX11_holds 27 = .ok (.imul, 1) := by decide +kernel
theorem dX11_holds_28 : decode cX11_holds 28 = .ok (.iload_n 2, 1) := by decide +kernel
theorem dX11_holds_29 : decode cX11_holds 29 = .ok (.iadd, 1) := by decide +kernel
theorem dX11_holds_30 : decode cX11_holds 30 = .ok (.iaload, 1) := by decide +kernel
theorem dX11_holds_31 : decode cX11_holds 31 = .ok (.goto 4, 3) := by decide +kernel
theorem dX11_holds_34 : decode cX11_holds 34 = .ok (.iconst (-1), 1) := by decide +kernel
theorem dX11_holds_35 : decode cX11_holds 35 = .ok (.ireturn, 1) := by decide +kernel
theorem dX11_port_0 : decode cX11_port 0 = .ok (.aload_n 0, 1) := by decide +kernel
theorem dX11_port_1 : decode cX11_port 1 = .ok (.iconst 0, 1) := by decide +kernel
theorem dX11_port_2 : decode cX11_port 2 = .ok (.putfield 157, 3) := by decide +kernel
theorem dX11_port_5 : decode cX11_port 5 = .ok (.aload_n 0, 1) := by decide +kernel
theorem dX11_port_6 : decode cX11_port 6 = .ok (.iload_n 1, 1) := by decide +kernel
theorem dX11_port_7 : decode cX11_port 7 = .ok (.invokevirtual 426, 3) := by decide +kernel
theorem dX11_port_10 : decode cX11_port 10 = .ok (.ifCond .eq 24, 3) := by decide +kernel
theorem dX11_port_13 : decode cX11_port 13 = .ok (.aload_n 0, 1) := by decide +kernel
theorem dX11_port_14 : decode cX11_port 14 = .ok (.iload_n 2, 1) := by decide +kernel
theorem dX11_port_15 : decode cX11_port 15 = .ok (.invokevirtual 432, 3) := by decide +kernel
theorem dX11_port_18 : decode cX11_port 18 = .ok (.ifCond .eq 16, 3) := by decide +kernel
theorem dX11_port_21 : decode cX11_port 21 = .ok (.aload_n 0, 1) := by decide +kernel
theorem dX11_port_22 : decode cX11_port 22 = .ok (.getfield 102, 3) := by decide +kernel
theorem dX11_port_25 : decode cX11_port 25 = .ok (.iconst 5, 1) := by decide +kernel
theorem dX11_port_26 : decode cX11_port 26 = .ok (.iload_n 1, 1) := by decide +kernel
theorem dX11_port_27 : decode cX11_port 27 = .ok (.imul, 1) := by decide +kernel
theorem dX11_port_28 : decode cX11_port 28 = .ok (.iload_n 2, 1) := by decide +kernel
theorem dX11_port_29 : decode cX11_port 29 = .ok (.iadd, 1) := by decide +kernel
theorem dX11_port_30 : decode cX11_port 30 = .ok (.iaload, 1) := by decide +kernel
theorem dX11_port_31 : decode cX11_port 31 = .ok (.goto 4, 3) := by decide +kernel
theorem dX11_port_34 : decode cX11_port 34 = .ok (.iconst (-1), 1) := by decide +kernel
theorem dX11_port_35 : decode cX11_port 35 = .ok (.ireturn, 1) := by decide +kernel
theorem dX11_areThese_0 : decode cX11_areThese 0 = .ok (.aload_n 0, 1) := by decide +kernel
theorem dX11_areThese_1 : decode cX11_areThese 1 = .ok (.iload_n 1, 1) := by decide +kernel
theorem dX11_areThese_2 : decode cX11_areThese 2 = .ok (.invokevirtual 426, 3) := by decide +kernel
theorem dX11_areThese_5 : decode cX11_areThese 5 = .ok (.ifCond .eq 22, 3) := by decide +kernel
theorem dX11_areThese_8 : decode cX11_areThese 8 = .ok (.aload_n 0, 1) := by decide +kernel
theorem dX11_areThese_9 : decode cX11_areThese 9 = .ok (.iload_n 2, 1) := by decide +kernel
theorem dX11_areThese_10 : decode cX11_areThese 10 = .ok (.invokevirtual 435, 3) := by decide +kernel
theorem dX11_areThese_13 : decode cX11_areThese 13 = .ok (.ifCond .eq 14, 3) := by decide +kernel
theorem dX11_areThese_16 : decode cX11_areThese 16 = .ok (.iload_n 3, 1) := by decide +kernel
theorem dX11_areThese_17 : decode cX11_areThese 17 = .ok (.invokestatic 441, 3) := by decide +kernel
theorem dX11_areThese_20 : decode cX11_areThese 20 = .ok (.ifCond .eq 7, 3) := by decide +kernel
theorem dX11_areThese_23 : decode cX11_areThese 23 = .ok (.iconst 1, 1) := by decide +kernel
theorem dX11_areThese_24 : decode cX11_areThese 24 = .ok (.goto 4, 3) := by decide +kernel
theorem dX11_areThese_27 : decode cX11_areThese 27 = .ok (.iconst 0, 1) := by decide +kernel
theorem dX11_areThese_28 : decode cX11_areThese 28 = .ok (.ireturn, 1) := by decide +kernel
theorem dX11_can_0 : decode cX11_can 0 = .ok (.aload_n 0, 1) := by decide +kernel
theorem dX11_can_1 : decode cX11_can 1 = .ok (.iconst 0, 1) := by decide +kernel
theorem dX11_can_2 : decode cX11_can 2 = .ok (.putfield 157, 3) := by decide +kernel
theorem dX11_can_5 : decode cX11_can 5 = .ok (.aload_n 0, 1) := by decide +kernel
theorem dX11_can_6 : decode cX11_can 6 = .ok (.iload_n 1, 1) := by decide +kernel
theorem dX11_can_7 : decode cX11_can 7 = .ok (.iload_n 2, 1) := by decide +kernel
theorem dX11_can_8 : decode cX11_can 8 = .ok (.iload_n 3, 1) := by decide +kernel
theorem dX11_can_9 : decode cX11_can 9 = .ok (.invokevirtual 444, 3) := by decide +kernel
theorem dX11_can_12 : decode cX11_can 12 = .ok (.ifCond .ne 7, 3) := by decide +kernel
theorem dX11_can_15 : decode cX11_can 15 = .ok (.iconst (-1), 1) := by decide +kernel
theorem dX11_can_16 : decode cX11_can 16 = .ok (.goto 19, 3) := by decide +kernel
theorem dX11_can_19 : decode cX11_can 19 = .ok (.aload_n 0, 1) := by decide +kernel
theorem dX11_can_20 : decode cX11_can 20 = .ok (.iconst 0, 1) := by decide +kernel
theorem dX11_can_21 : decode cX11_can 21 = .ok (.iload_n 1, 1) := by decide +kernel
theorem dX11_can_22 : decode cX11_can 22 = .ok (.iload_n 2, 1) := by decide +kernel
theorem dX11_can_23 : decode cX11_can 23 = .ok (.iload_n 3, 1) := by decide +kernel
theorem dX11_can_24 : decode cX11_can 24 = .ok (.invokevirtual 365, 3) := by decide +kernel
theorem dX11_can_27 : decode cX11_can 27 = .ok (.ifCond .eq 7, 3) := by decide +kernel
theorem dX11_can_30 : decode cX11_can 30 = .ok (.iconst 1, 1) := by decide +kernel
theorem dX11_can_31 : decode cX11_can 31 = .ok (.goto 4, 3) := by decide +kernel
theorem dX11_can_34 : decode cX11_can 34 = .ok (.iconst 0, 1) := by decide +kernel
theorem dX11_can_35 : decode cX11_can 35 = .ok (.ireturn, 1) := by decide +kernel
theorem dX11_law_0 : decode cX11_law 0 = .ok (.aload_n 0, 1) := by decide +kernel
theorem dX11_law_1 : decode cX11_law 1 = .ok (.iconst 0, 1) := by decide +kernel
theorem dX11_law_2 : decode cX11_law 2 = .ok (.putfield 157, 3) := by decide +kernel
theorem dX11_law_5 : decode cX11_law 5 = .ok (.iload_n 1, 1) := by decide +kernel
theorem dX11_law_6 : decode cX11_law 6 = .ok (.ifCond .lt 29, 3) := by decide +kernel
theorem dX11_law_9 : decode cX11_law 9 = .ok (.iload_n 1, 1) := by decide +kernel
theorem dX11_law_10 : decode cX11_law 10 = .ok (.iconst 2, 1) := by decide +kernel
theorem dX11_law_11 : decode cX11_law 11 = .ok (.if_icmp .gt 24, 3) := by decide +kernel
theorem dX11_law_14 : decode cX11_law 14 = .ok (.aload_n 0, 1) := by decide +kernel
theorem dX11_law_15 : decode cX11_law 15 = .ok (.iload_n 1, 1) := by decide +kernel
theorem dX11_law_16 : decode cX11_law 16 = .ok (.invokevirtual 352, 3) := by decide +kernel
theorem dX11_law_19 : decode cX11_law 19 = .ok (.ifCond .eq 16, 3) := by decide +kernel
theorem dX11_law_22 : decode cX11_law 22 = .ok (.iload_n 1, 1) := by decide +kernel
theorem dX11_law_23 : decode cX11_law 23 = .ok (.iconst 2, 1) := by decide +kernel
theorem dX11_law_24 : decode cX11_law 24 = .ok (.if_icmp .eq 15, 3) := by decide +kernel
theorem dX11_law_27 : decode cX11_law 27 = .ok (.aload_n 0, 1) := by decide +kernel
theorem dX11_law_28 : decode cX11_law 28 = .ok (.iload_n 2, 1) := by decide +kernel
theorem dX11_law_29 : decode cX11_law 29 = .ok (.invokevirtual 426, 3) := by decide +kernel
theorem dX11_law_32 : decode cX11_law 32 = .ok (.ifCond .ne 7, 3) := by decide +kernel
theorem dX11_law_35 : decode cX11_law 35 = .ok (.ldc2_w 449, 3) := by decide +kernel
theorem dX11_law_38 : decode cX11_law 38 = .ok (.lreturn, 1) := by decide +kernel
theorem dX11_law_39 : decode cX11_law 39 = .ok (.iload_n 1, 1) := by decide +kernel
theorem dX11_law_40 : decode cX11_law 40 = .ok (.iconst 1, 1) := by decide +kernel
theorem dX11_law_41 : decode cX11_law 41 = .ok (.if_icmp .ne 20, 3) := by decide +kernel
theorem dX11_law_44 : decode cX11_law 44 = .ok (.iload_n 3, 1) := by decide +kernel
theorem dX11_law_45 : decode cX11_law 45 = .ok (.ifCond .lt 24, 3) := by decide +kernel
theorem dX11_law_48 : decode cX11_law 48 = .ok (.iload_n 3, 1) := by decide +kernel
theorem dX11_law_49 : decode cX11_law 49 = .ok (.aload_n 0, 1) := by decide +kernel
theorem dX11_law_50 : decode cX11_law 50 = .ok (.getfield 13, 3) := by decide +kernel
theorem dX11_law_53 : decode cX11_law 53 = .ok (.iconst 4, 1) := by decide +kernel
theorem dX11_law_54 : decode cX11_law 54 = .ok (.iaload, 1) := by decide +kernel
theorem dX11_law_55 : decode cX11_law 55 = .ok (.if_icmp .lt 18, 3) := by decide +kernel
theorem dX11_law_58 : decode cX11_law 58 = .ok (.goto 11, 3) := by decide +kernel
theorem dX11_law_61 : decode cX11_law 61 = .ok (.aload_n 0, 1) := by decide +kernel
theorem dX11_law_62 : decode cX11_law 62 = .ok (.iload_n 3, 1) := by decide +kernel
theorem dX11_law_63 : decode cX11_law 63 = .ok (.invokevirtual 432, 3) := by decide +kernel
theorem dX11_law_66 : decode cX11_law 66 = .ok (.ifCond .ne 7, 3) := by decide +kernel
theorem dX11_law_69 : decode cX11_law 69 = .ok (.ldc2_w 449, 3) := by decide +kernel
theorem dX11_law_72 : decode cX11_law 72 = .ok (.lreturn, 1) := by decide +kernel
theorem dX11_law_73 : decode cX11_law 73 = .ok (.iload_n 1, 1) := by decide +kernel
theorem dX11_law_74 : decode cX11_law 74 = .ok (.ifCond .ne 20, 3) := by decide +kernel
theorem dX11_law_77 : decode cX11_law 77 = .ok (.aload_n 0, 1) := by decide +kernel
theorem dX11_law_78 : decode cX11_law 78 = .ok (.iconst 0, 1) := by decide +kernel
theorem dX11_law_79 : decode cX11_law 79 = .ok (.iload_n 2, 1) := by decide +kernel
theorem dX11_law_80 : decode cX11_law 80 = .ok (.iload_n 3, 1) := by decide +kernel
theorem dX11_law_81 : decode cX11_law 81 = .ok (.aload_n 0, 1) := by decide +kernel
theorem dX11_law_82 : decode cX11_law 82 = .ok (.iconst 0, 1) := by decide +kernel
theorem dX11_law_83 : decode cX11_law 83 = .ok (.iload_n 2, 1) := by decide +kernel
theorem dX11_law_84 : decode cX11_law 84 = .ok (.invokevirtual 369, 3) := by decide +kernel
theorem dX11_law_87 : decode cX11_law 87 = .ok (.iconst 0, 1) := by decide +kernel
theorem dX11_law_88 : decode cX11_law 88 = .ok (.invokevirtual 372, 3) := by decide +kernel
theorem dX11_law_91 : decode cX11_law 91 = .ok (.goto 39, 3) := by decide +kernel
theorem dX11_law_94 : decode cX11_law 94 = .ok (.iload_n 1, 1) := by decide +kernel
theorem dX11_law_95 : decode cX11_law 95 = .ok (.iconst 1, 1) := by decide +kernel
theorem dX11_law_96 : decode cX11_law 96 = .ok (.if_icmp .ne 25, 3) := by decide +kernel
theorem dX11_law_99 : decode cX11_law 99 = .ok (.aload_n 0, 1) := by decide +kernel
theorem dX11_law_100 : decode cX11_law 100 = .ok (.iconst 0, 1) := by decide +kernel
theorem dX11_law_101 : decode cX11_law 101 = .ok (.iload_n 2, 1) := by decide +kernel
theorem dX11_law_102 : decode cX11_law 102 = .ok (.iconst (-1), 1) := by decide +kernel
theorem dX11_law_103 : decode cX11_law 103 = .ok (.aload_n 0, 1) := by decide +kernel
theorem dX11_law_104 : decode cX11_law 104 = .ok (.iconst 0, 1) := by decide +kernel
theorem dX11_law_105 : decode cX11_law 105 = .ok (.iload_n 2, 1) := by decide +kernel
theorem dX11_law_106 : decode cX11_law 106 = .ok (.invokevirtual 369, 3) := by decide +kernel
theorem dX11_law_109 : decode cX11_law 109 = .ok (.aload_n 0, 1) := by decide +kernel
theorem dX11_law_110 : decode cX11_law 110 = .ok (.getfield 58, 3) := by decide +kernel
theorem dX11_law_113 : decode cX11_law 113 = .ok (.iload_n 3, 1) := by decide +kernel
theorem dX11_law_114 : decode cX11_law 114 = .ok (.iaload, 1) := by decide +kernel
theorem dX11_law_115 : decode cX11_law 115 = .ok (.invokevirtual 372, 3) := by decide +kernel
theorem dX11_law_118 : decode cX11_law 118 = .ok (.goto 12, 3) := by decide +kernel
theorem dX11_law_121 : decode cX11_law 121 = .ok (.aload_n 0, 1) := by decide +kernel
theorem dX11_law_122 : decode cX11_law 122 = .ok (.iconst 0, 1) := by decide +kernel
theorem dX11_law_123 : decode cX11_law 123 = .ok (.iconst (-1), 1) := by decide +kernel
theorem dX11_law_124 : decode cX11_law 124 = .ok (.iload_n 3, 1) := by decide +kernel
theorem dX11_law_125 : decode cX11_law 125 = .ok (.iconst 0, 1) := by decide +kernel
theorem dX11_law_126 : decode cX11_law 126 = .ok (.iconst 0, 1) := by decide +kernel
theorem dX11_law_127 : decode cX11_law 127 = .ok (.invokevirtual 372, 3) := by decide +kernel
theorem dX11_law_130 : decode cX11_law 130 = .ok (.aload_n 0, 1) := by decide +kernel
theorem dX11_law_131 : decode cX11_law 131 = .ok (.iload_n 1, 1) := by decide +kernel
theorem dX11_law_132 : decode cX11_law 132 = .ok (.invokevirtual 355, 3) := by decide +kernel
theorem dX11_law_135 : decode cX11_law 135 = .ok (.ifCond .eq 12, 3) := by decide +kernel
theorem dX11_law_138 : decode cX11_law 138 = .ok (.aload_n 0, 1) := by decide +kernel
theorem dX11_law_139 : decode cX11_law 139 = .ok (.getfield 81, 3) := by decide +kernel
theorem dX11_law_142 : decode cX11_law 142 = .ok (.iconst 0, 1) := by decide +kernel
theorem dX11_law_143 : decode cX11_law 143 = .ok (.laload, 1) := by decide +kernel
theorem dX11_law_144 : decode cX11_law 144 = .ok (.goto 6, 3) := by decide +kernel
theorem dX11_law_147 : decode cX11_law 147 = .ok (.ldc2_w 449, 3) := by decide +kernel
theorem dX11_law_150 : decode cX11_law 150 = .ok (.lreturn, 1) := by decide +kernel
theorem dX11_keepNow_0 : decode cX11_keepNow 0 = .ok (.aload_n 0, 1) := by decide +kernel
theorem dX11_keepNow_1 : decode cX11_keepNow 1 = .ok (.getfield 320, 3) := by decide +kernel
theorem dX11_keepNow_4 : decode cX11_keepNow 4 = .ok (.bipush 20, 2) := by decide +kernel
theorem dX11_keepNow_6 : decode cX11_keepNow 6 = .ok (.if_icmp .ne 39, 3) := by decide +kernel
theorem dX11_keepNow_9 : decode cX11_keepNow 9 = .ok (.iconst 1, 1) := by decide +kernel
theorem dX11_keepNow_10 : decode cX11_keepNow 10 = .ok (.istore_n 1, 1) := by decide +kernel
theorem dX11_keepNow_11 : decode cX11_keepNow 11 = .ok (.iload_n 1, 1) := by decide +kernel
theorem dX11_keepNow_12 : decode cX11_keepNow 12 = .ok (.bipush 20, 2) := by decide +kernel
theorem dX11_keepNow_14 : decode cX11_keepNow 14 = .ok (.if_icmp .ge 21, 3) := by decide +kernel
theorem dX11_keepNow_17 : decode cX11_keepNow 17 = .ok (.aload_n 0, 1) := by decide +kernel
theorem dX11_keepNow_18 : decode cX11_keepNow 18 = .ok (.iconst 3, 1) := by decide +kernel
theorem dX11_keepNow_19 : decode cX11_keepNow 19 = .ok (.iload_n 1, 1) := by decide +kernel
theorem dX11_keepNow_20 : decode cX11_keepNow 20 = .ok (.iadd, 1) := by decide +kernel
theorem dX11_keepNow_21 : decode cX11_keepNow 21 = .ok (.iconst 1, 1) := by decide +kernel
theorem dX11_keepNow_22 : decode cX11_keepNow 22 = .ok (.isub, 1) := by decide +kernel
theorem dX11_keepNow_23 : decode cX11_keepNow 23 = .ok (.iconst 3, 1) := by decide +kernel
theorem dX11_keepNow_24 : decode cX11_keepNow 24 = .ok (.iload_n 1, 1) := by decide +kernel
theorem dX11_keepNow_25 : decode cX11_keepNow 25 = .ok (.iadd, 1) := by decide +kernel
theorem dX11_keepNow_26 : decode cX11_keepNow 26 = .ok (.invokevirtual 420, 3) := by decide +kernel
theorem dX11_keepNow_29 : decode cX11_keepNow 29 = .ok (.iinc 1 1, 3) := by decide +kernel
theorem dX11_keepNow_32 : decode cX11_keepNow 32 = .ok (.goto (-21), 3) := by decide +kernel
theorem dX11_keepNow_35 : decode cX11_keepNow 35 = .ok (.aload_n 0, 1) := by decide +kernel
theorem dX11_keepNow_36 : decode cX11_keepNow 36 = .ok (.dup, 1) := by decide +kernel
theorem dX11_keepNow_37 : decode cX11_keepNow 37 = .ok (.getfield 320, 3) := by decide +kernel
theorem dX11_keepNow_40 : decode cX11_keepNow 40 = .ok (.iconst 1, 1) := by decide +kernel
theorem dX11_keepNow_41 : decode cX11_keepNow 41 = .ok (.isub, 1) := by decide +kernel
theorem dX11_keepNow_42 : decode cX11_keepNow 42 = .ok (.putfield 320, 3) := by decide +kernel
theorem dX11_keepNow_45 : decode cX11_keepNow 45 = .ok (.aload_n 0, 1) := by decide +kernel
theorem dX11_keepNow_46 : decode cX11_keepNow 46 = .ok (.iconst 3, 1) := by decide +kernel
theorem dX11_keepNow_47 : decode cX11_keepNow 47 = .ok (.aload_n 0, 1) := by decide +kernel
theorem dX11_keepNow_48 : decode cX11_keepNow 48 = .ok (.getfield 320, 3) := by decide +kernel
theorem dX11_keepNow_51 : decode cX11_keepNow 51 = .ok (.iadd, 1) := by decide +kernel
theorem dX11_keepNow_52 : decode cX11_keepNow 52 = .ok (.iconst 0, 1) := by decide +kernel
theorem dX11_keepNow_53 : decode cX11_keepNow 53 = .ok (.invokevirtual 420, 3) := by decide +kernel
theorem dX11_keepNow_56 : decode cX11_keepNow 56 = .ok (.aload_n 0, 1) := by decide +kernel
theorem dX11_keepNow_57 : decode cX11_keepNow 57 = .ok (.dup, 1) := by decide +kernel
theorem dX11_keepNow_58 : decode cX11_keepNow 58 = .ok (.getfield 320, 3) := by decide +kernel
theorem dX11_keepNow_61 : decode cX11_keepNow 61 = .ok (.iconst 1, 1) := by decide +kernel
theorem dX11_keepNow_62 : decode cX11_keepNow 62 = .ok (.iadd, 1) := by decide +kernel
theorem dX11_keepNow_63 : decode cX11_keepNow 63 = .ok (.putfield 320, 3) := by decide +kernel
theorem dX11_keepNow_66 : decode cX11_keepNow 66 = .ok (.return_, 1) := by decide +kernel
theorem dX11_send_0 : decode cX11_send 0 = .ok (.aload_n 0, 1) := by decide +kernel
theorem dX11_send_1 : decode cX11_send 1 = .ok (.iconst 0, 1) := by decide +kernel
theorem dX11_send_2 : decode cX11_send 2 = .ok (.putfield 157, 3) := by decide +kernel
theorem dX11_send_5 : decode cX11_send 5 = .ok (.aload_n 0, 1) := by decide +kernel
theorem dX11_send_6 : decode cX11_send 6 = .ok (.iload_n 1, 1) := by decide +kernel
theorem dX11_send_7 : decode cX11_send 7 = .ok (.invokevirtual 426, 3) := by decide +kernel
theorem dX11_send_10 : decode cX11_send 10 = .ok (.ifCond .eq 39, 3) := by decide +kernel
theorem dX11_send_13 : decode cX11_send 13 = .ok (.aload_n 0, 1) := by decide +kernel
theorem dX11_send_14 : decode cX11_send 14 = .ok (.iload_n 2, 1) := by decide +kernel
theorem dX11_send_15 : decode cX11_send 15 = .ok (.invokevirtual 432, 3) := by decide +kernel
theorem dX11_send_18 : decode cX11_send 18 = .ok (.ifCond .eq 31, 3) := by decide +kernel
theorem dX11_send_21 : decode cX11_send 21 = .ok (.iload_n 3, 1) := by decide +kernel
theorem dX11_send_22 : decode cX11_send 22 = .ok (.aload_n 0, 1) := by decide +kernel
theorem dX11_send_23 : decode cX11_send 23 = .ok (.getfield 84, 3) := by decide +kernel
theorem dX11_send_26 : decode cX11_send 26 = .ok (.iconst 0, 1) := by decide +kernel
theorem dX11_send_27 : decode cX11_send 27 = .ok (.iaload, 1) := by decide +kernel
theorem dX11_send_28 : decode cX11_send 28 = .ok (.if_icmp .lt 21, 3) := by decide +kernel
theorem dX11_send_31 : decode cX11_send 31 = .ok (.iload_n 3, 1) := by decide +kernel
theorem dX11_send_32 : decode cX11_send 32 = .ok (.sipush 9999, 3) := by decide +kernel
theorem dX11_send_35 : decode cX11_send 35 = .ok (.if_icmp .gt 14, 3) := by decide +kernel
theorem dX11_send_38 : decode cX11_send 38 = .ok (.aload_n 0, 1) := by decide +kernel
theorem dX11_send_39 : decode cX11_send 39 = .ok (.getfield 93, 3) := by decide +kernel
theorem dX11_send_42 : decode cX11_send 42 = .ok (.iconst 0, 1) := by decide +kernel
theorem dX11_send_43 : decode cX11_send 43 = .ok (.iaload, 1) := by decide +kernel
theorem dX11_send_44 : decode cX11_send 44 = .ok (.bipush 12, 2) := by decide +kernel
theorem dX11_send_46 : decode cX11_send 46 = .ok (.if_icmp .ne 5, 3) := by decide +kernel
theorem dX11_send_49 : decode cX11_send 49 = .ok (.iconst (-1), 1) := by decide +kernel
theorem dX11_send_50 : decode cX11_send 50 = .ok (.ireturn, 1) := by decide +kernel
theorem dX11_send_51 : decode cX11_send 51 = .ok (.aload_n 0, 1) := by decide +kernel
theorem dX11_send_52 : decode cX11_send 52 = .ok (.invokevirtual 451, 3) := by decide +kernel
theorem dX11_send_55 : decode cX11_send 55 = .ok (.aload_n 0, 1) := by decide +kernel
theorem dX11_send_56 : decode cX11_send 56 = .ok (.getfield 93, 3) := by decide +kernel
theorem dX11_send_59 : decode cX11_send 59 = .ok (.iconst 0, 1) := by decide +kernel
theorem dX11_send_60 : decode cX11_send 60 = .ok (.iaload, 1) := by decide +kernel
theorem dX11_send_61 : decode cX11_send 61 = .ok (.istore 4, 2) := by decide +kernel
theorem dX11_send_63 : decode cX11_send 63 = .ok (.aload_n 0, 1) := by decide +kernel
theorem dX11_send_64 : decode cX11_send 64 = .ok (.getfield 108, 3) := by decide +kernel
theorem dX11_send_67 : decode cX11_send 67 = .ok (.iload 4, 2) := by decide +kernel
theorem dX11_send_69 : decode cX11_send 69 = .ok (.iload_n 1, 1) := by decide +kernel
theorem dX11_send_70 : decode cX11_send 70 = .ok (.iastore, 1) := by decide +kernel
theorem dX11_send_71 : decode cX11_send 71 = .ok (.aload_n 0, 1) := by decide +kernel
theorem dX11_send_72 : decode cX11_send 72 = .ok (.getfield 111, 3) := by decide +kernel
theorem dX11_send_75 : decode cX11_send 75 = .ok (.iload 4, 2) := by decide +kernel
theorem dX11_send_77 : decode cX11_send 77 = .ok (.iload_n 2, 1) := by decide +kernel
theorem dX11_send_78 : decode cX11_send 78 = .ok (.iastore, 1) := by decide +kernel
theorem dX11_send_79 : decode cX11_send 79 = .ok (.aload_n 0, 1) := by decide +kernel
theorem dX11_send_80 : decode cX11_send 80 = .ok (.getfield 114, 3) := by decide +kernel
theorem dX11_send_83 : decode cX11_send 83 = .ok (.iload 4, 2) := by decide +kernel
theorem dX11_send_85 : decode cX11_send 85 = .ok (.iload_n 3, 1) := by decide +kernel
theorem dX11_send_86 : decode cX11_send 86 = .ok (.iastore, 1) := by decide +kernel
theorem dX11_send_87 : decode cX11_send 87 = .ok (.aload_n 0, 1) := by decide +kernel
theorem dX11_send_88 : decode cX11_send 88 = .ok (.getfield 117, 3) := by decide +kernel
theorem dX11_send_91 : decode cX11_send 91 = .ok (.iload 4, 2) := by decide +kernel
theorem dX11_send_93 : decode cX11_send 93 = .ok (.iconst 0, 1) := by decide +kernel
theorem dX11_send_94 : decode cX11_send 94 = .ok (.iastore, 1) := by decide +kernel
theorem dX11_send_95 : decode cX11_send 95 = .ok (.aload_n 0, 1) := by decide +kernel
theorem dX11_send_96 : decode cX11_send 96 = .ok (.getfield 93, 3) := by decide +kernel
theorem dX11_send_99 : decode cX11_send 99 = .ok (.iconst 0, 1) := by decide +kernel
theorem dX11_send_100 : decode cX11_send 100 = .ok (.dup2, 1) := by decide +kernel
theorem dX11_send_101 : decode cX11_send 101 = .ok (.iaload, 1) := by decide +kernel
theorem dX11_send_102 : decode cX11_send 102 = .ok (.iconst 1, 1) := by decide +kernel
theorem dX11_send_103 : decode cX11_send 103 = .ok (.iadd, 1) := by decide +kernel
theorem dX11_send_104 : decode cX11_send 104 = .ok (.iastore, 1) := by decide +kernel
theorem dX11_send_105 : decode cX11_send 105 = .ok (.iload 4, 2) := by decide +kernel
theorem dX11_send_107 : decode cX11_send 107 = .ok (.ireturn, 1) := by decide +kernel
theorem dX11_take_0 : decode cX11_take 0 = .ok (.aload_n 0, 1) := by decide +kernel
theorem dX11_take_1 : decode cX11_take 1 = .ok (.iconst 0, 1) := by decide +kernel
theorem dX11_take_2 : decode cX11_take 2 = .ok (.putfield 157, 3) := by decide +kernel
theorem dX11_take_5 : decode cX11_take 5 = .ok (.aload_n 0, 1) := by decide +kernel
theorem dX11_take_6 : decode cX11_take 6 = .ok (.iload_n 1, 1) := by decide +kernel
theorem dX11_take_7 : decode cX11_take 7 = .ok (.invokevirtual 438, 3) := by decide +kernel
theorem dX11_take_10 : decode cX11_take 10 = .ok (.ifCond .eq 12, 3) := by decide +kernel
theorem dX11_take_13 : decode cX11_take 13 = .ok (.aload_n 0, 1) := by decide +kernel
theorem dX11_take_14 : decode cX11_take 14 = .ok (.getfield 117, 3) := by decide +kernel
theorem dX11_take_17 : decode cX11_take 17 = .ok (.iload_n 1, 1) := by decide +kernel
theorem dX11_take_18 : decode cX11_take 18 = .ok (.iaload, 1) := by decide +kernel
theorem dX11_take_19 : decode cX11_take 19 = .ok (.ifCond .eq 5, 3) := by decide +kernel
theorem dX11_take_22 : decode cX11_take 22 = .ok (.iconst 0, 1) := by decide +kernel
theorem dX11_take_23 : decode cX11_take 23 = .ok (.ireturn, 1) := by decide +kernel
theorem dX11_take_24 : decode cX11_take 24 = .ok (.aload_n 0, 1) := by decide +kernel
theorem dX11_take_25 : decode cX11_take 25 = .ok (.invokevirtual 451, 3) := by decide +kernel
theorem dX11_take_28 : decode cX11_take 28 = .ok (.aload_n 0, 1) := by decide +kernel
theorem dX11_take_29 : decode cX11_take 29 = .ok (.getfield 117, 3) := by decide +kernel
theorem dX11_take_32 : decode cX11_take 32 = .ok (.iload_n 1, 1) := by decide +kernel
theorem dX11_take_33 : decode cX11_take 33 = .ok (.iconst 2, 1) := by decide +kernel
theorem dX11_take_34 : decode cX11_take 34 = .ok (.iastore, 1) := by decide +kernel
theorem dX11_take_35 : decode cX11_take 35 = .ok (.iconst 1, 1) := by decide +kernel
theorem dX11_take_36 : decode cX11_take 36 = .ok (.ireturn, 1) := by decide +kernel
theorem dX11_swap_0 : decode cX11_swap 0 = .ok (.aload_n 0, 1) := by decide +kernel
theorem dX11_swap_1 : decode cX11_swap 1 = .ok (.iconst 0, 1) := by decide +kernel
theorem dX11_swap_2 : decode cX11_swap 2 = .ok (.putfield 157, 3) := by decide +kernel
theorem dX11_swap_5 : decode cX11_swap 5 = .ok (.aload_n 0, 1) := by decide +kernel
theorem dX11_swap_6 : decode cX11_swap 6 = .ok (.iload_n 1, 1) := by decide +kernel
theorem dX11_swap_7 : decode cX11_swap 7 = .ok (.invokevirtual 426, 3) := by decide +kernel
theorem dX11_swap_10 : decode cX11_swap 10 = .ok (.ifCond .eq 47, 3) := by decide +kernel
theorem dX11_swap_13 : decode cX11_swap 13 = .ok (.aload_n 0, 1) := by decide +kernel
theorem dX11_swap_14 : decode cX11_swap 14 = .ok (.iload_n 2, 1) := by decide +kernel
theorem dX11_swap_15 : decode cX11_swap 15 = .ok (.invokevirtual 426, 3) := by decide +kernel
theorem dX11_swap_18 : decode cX11_swap 18 = .ok (.ifCond .eq 39, 3) := by decide +kernel
theorem dX11_swap_21 : decode cX11_swap 21 = .ok (.iload_n 1, 1) := by decide +kernel
theorem dX11_swap_22 : decode cX11_swap 22 = .ok (.iload_n 2, 1) := by decide +kernel
theorem dX11_swap_23 : decode cX11_swap 23 = .ok (.if_icmp .eq 34, 3) := by decide +kernel
theorem dX11_swap_26 : decode cX11_swap 26 = .ok (.aload_n 0, 1) := by decide +kernel
theorem dX11_swap_27 : decode cX11_swap 27 = .ok (.iload_n 3, 1) := by decide +kernel
theorem dX11_swap_28 : decode cX11_swap 28 = .ok (.invokevirtual 432, 3) := by decide +kernel
theorem dX11_swap_31 : decode cX11_swap 31 = .ok (.ifCond .eq 26, 3) := by decide +kernel
theorem dX11_swap_34 : decode cX11_swap 34 = .ok (.aload_n 0, 1) := by decide +kernel
theorem dX11_swap_35 : decode cX11_swap 35 = .ok (.getfield 102, 3) := by decide +kernel
theorem dX11_swap_38 : decode cX11_swap 38 = .ok (.iconst 5, 1) := by decide +kernel
theorem dX11_swap_39 : decode cX11_swap 39 = .ok (.iload_n 1, 1) := by decide +kernel
theorem dX11_swap_40 : decode cX11_swap 40 = .ok (.imul, 1) := by decide +kernel
theorem dX11_swap_41 : decode cX11_swap 41 = .ok (.iload_n 3, 1) := by decide +kernel
theorem dX11_swap_42 : decode cX11_swap 42 = .ok (.iadd, 1) := by decide +kernel
theorem dX11_swap_43 : decode cX11_swap 43 = .ok (.iaload, 1) := by decide +kernel
theorem dX11_swap_44 : decode cX11_swap 44 = .ok (.aload_n 0, 1) := by decide +kernel
theorem dX11_swap_45 : decode cX11_swap 45 = .ok (.getfield 102, 3) := by decide +kernel
theorem dX11_swap_48 : decode cX11_swap 48 = .ok (.iconst 5, 1) := by decide +kernel
theorem dX11_swap_49 : decode cX11_swap 49 = .ok (.iload_n 2, 1) := by decide +kernel
theorem dX11_swap_50 : decode cX11_swap 50 = .ok (.imul, 1) := by decide +kernel
theorem dX11_swap_51 : decode cX11_swap 51 = .ok (.iload_n 3, 1) := by decide +kernel
theorem dX11_swap_52 : decode cX11_swap 52 = .ok (.iadd, 1) := by decide +kernel
theorem dX11_swap_53 : decode cX11_swap 53 = .ok (.iaload, 1) := by decide +kernel
theorem dX11_swap_54 : decode cX11_swap 54 = .ok (.if_icmp .eq 5, 3) := by decide +kernel
theorem dX11_swap_57 : decode cX11_swap 57 = .ok (.iconst 0, 1) := by decide +kernel
theorem dX11_swap_58 : decode cX11_swap 58 = .ok (.ireturn, 1) := by decide +kernel
theorem dX11_swap_59 : decode cX11_swap 59 = .ok (.aload_n 0, 1) := by decide +kernel
theorem dX11_swap_60 : decode cX11_swap 60 = .ok (.invokevirtual 451, 3) := by decide +kernel
theorem dX11_swap_63 : decode cX11_swap 63 = .ok (.aload_n 0, 1) := by decide +kernel
theorem dX11_swap_64 : decode cX11_swap 64 = .ok (.getfield 99, 3) := by decide +kernel
theorem dX11_swap_67 : decode cX11_swap 67 = .ok (.iconst 5, 1) := by decide +kernel
theorem dX11_swap_68 : decode cX11_swap 68 = .ok (.iload_n 1, 1) := by decide +kernel
theorem dX11_swap_69 : decode cX11_swap 69 = .ok (.imul, 1) := by decide +kernel
theorem dX11_swap_70 : decode cX11_swap 70 = .ok (.iload_n 3, 1) := by decide +kernel
theorem dX11_swap_71 : decode cX11_swap 71 = .ok (.iadd, 1) := by decide +kernel
theorem dX11_swap_72 : decode cX11_swap 72 = .ok (.iaload, 1) := by decide +kernel
theorem dX11_swap_73 : decode cX11_swap 73 = .ok (.istore 4, 2) := by decide +kernel
theorem dX11_swap_75 : decode cX11_swap 75 = .ok (.aload_n 0, 1) := by decide +kernel
theorem dX11_swap_76 : decode cX11_swap 76 = .ok (.getfield 99, 3) := by decide +kernel
theorem dX11_swap_79 : decode cX11_swap 79 = .ok (.iconst 5, 1) := by decide +kernel
theorem dX11_swap_80 : decode cX11_swap 80 = .ok (.iload_n 1, 1) := by decide +kernel
theorem dX11_swap_81 : decode cX11_swap 81 = .ok (.imul, 1) := by decide +kernel
theorem dX11_swap_82 : decode cX11_swap 82 = .ok (.iload_n 3, 1) := by decide +kernel
theorem dX11_swap_83 : decode cX11_swap 83 = .ok (.iadd, 1) := by decide +kernel
theorem dX11_swap_84 : decode cX11_swap 84 = .ok (.aload_n 0, 1) := by decide +kernel
theorem dX11_swap_85 : decode cX11_swap 85 = .ok (.getfield 99, 3) := by decide +kernel
theorem dX11_swap_88 : decode cX11_swap 88 = .ok (.iconst 5, 1) := by decide +kernel
theorem dX11_swap_89 : decode cX11_swap 89 = .ok (.iload_n 2, 1) := by decide +kernel
theorem dX11_swap_90 : decode cX11_swap 90 = .ok (.imul, 1) := by decide +kernel
theorem dX11_swap_91 : decode cX11_swap 91 = .ok (.iload_n 3, 1) := by decide +kernel
theorem dX11_swap_92 : decode cX11_swap 92 = .ok (.iadd, 1) := by decide +kernel
theorem dX11_swap_93 : decode cX11_swap 93 = .ok (.iaload, 1) := by decide +kernel
theorem dX11_swap_94 : decode cX11_swap 94 = .ok (.iastore, 1) := by decide +kernel
theorem dX11_swap_95 : decode cX11_swap 95 = .ok (.aload_n 0, 1) := by decide +kernel
theorem dX11_swap_96 : decode cX11_swap 96 = .ok (.getfield 99, 3) := by decide +kernel
theorem dX11_swap_99 : decode cX11_swap 99 = .ok (.iconst 5, 1) := by decide +kernel
theorem dX11_swap_100 : decode cX11_swap 100 = .ok (.iload_n 2, 1) := by decide +kernel
theorem dX11_swap_101 : decode cX11_swap 101 = .ok (.imul, 1) := by decide +kernel
theorem dX11_swap_102 : decode cX11_swap 102 = .ok (.iload_n 3, 1) := by decide +kernel
theorem dX11_swap_103 : decode cX11_swap 103 = .ok (.iadd, 1) := by decide +kernel
theorem dX11_swap_104 : decode cX11_swap 104 = .ok (.iload 4, 2) := by decide +kernel
theorem dX11_swap_106 : decode cX11_swap 106 = .ok (.iastore, 1) := by decide +kernel
theorem dX11_swap_107 : decode cX11_swap 107 = .ok (.iconst 1, 1) := by decide +kernel
theorem dX11_swap_108 : decode cX11_swap 108 = .ok (.ireturn, 1) := by decide +kernel
theorem dX11_lend_0 : decode cX11_lend 0 = .ok (.aload_n 0, 1) := by decide +kernel
theorem dX11_lend_1 : decode cX11_lend 1 = .ok (.iconst 0, 1) := by decide +kernel
theorem dX11_lend_2 : decode cX11_lend 2 = .ok (.putfield 157, 3) := by decide +kernel
theorem dX11_lend_5 : decode cX11_lend 5 = .ok (.aload_n 0, 1) := by decide +kernel
theorem dX11_lend_6 : decode cX11_lend 6 = .ok (.iload_n 1, 1) := by decide +kernel
theorem dX11_lend_7 : decode cX11_lend 7 = .ok (.invokevirtual 426, 3) := by decide +kernel
theorem dX11_lend_10 : decode cX11_lend 10 = .ok (.ifCond .eq 27, 3) := by decide +kernel
theorem dX11_lend_13 : decode cX11_lend 13 = .ok (.iload_n 2, 1) := by decide +kernel
theorem dX11_lend_14 : decode cX11_lend 14 = .ok (.iconst 1, 1) := by decide +kernel
theorem dX11_lend_15 : decode cX11_lend 15 = .ok (.if_icmp .lt 22, 3) := by decide +kernel
theorem dX11_lend_18 : decode cX11_lend 18 = .ok (.iload_n 2, 1) := by decide +kernel
theorem dX11_lend_19 : decode cX11_lend 19 = .ok (.bipush 99, 2) := by decide +kernel
theorem dX11_lend_21 : decode cX11_lend 21 = .ok (.if_icmp .gt 16, 3) := by decide +kernel
theorem dX11_lend_24 : decode cX11_lend 24 = .ok (.aload_n 0, 1) := by decide +kernel
theorem dX11_lend_25 : decode cX11_lend 25 = .ok (.getfield 96, 3) := by decide +kernel
theorem dX11_lend_28 : decode cX11_lend 28 = .ok (.iload_n 1, 1) := by decide +kernel
theorem dX11_lend_29 : decode cX11_lend 29 = .ok (.iaload, 1) := by decide +kernel
theorem dX11_lend_30 : decode cX11_lend 30 = .ok (.iload_n 2, 1) := by decide +kernel
theorem dX11_lend_31 : decode cX11_lend 31 = .ok (.iadd, 1) := by decide +kernel
theorem dX11_lend_32 : decode cX11_lend 32 = .ok (.ldc 195, 2) := by decide +kernel
theorem dX11_lend_34 : decode cX11_lend 34 = .ok (.if_icmp .le 5, 3) := by decide +kernel
theorem dX11_lend_37 : decode cX11_lend 37 = .ok (.iconst (-1), 1) := by decide +kernel
theorem dX11_lend_38 : decode cX11_lend 38 = .ok (.ireturn, 1) := by decide +kernel
theorem dX11_lend_39 : decode cX11_lend 39 = .ok (.aload_n 0, 1) := by decide +kernel
theorem dX11_lend_40 : decode cX11_lend 40 = .ok (.invokevirtual 451, 3) := by decide +kernel
theorem dX11_lend_43 : decode cX11_lend 43 = .ok (.aload_n 0, 1) := by decide +kernel
theorem dX11_lend_44 : decode cX11_lend 44 = .ok (.getfield 96, 3) := by decide +kernel
theorem dX11_lend_47 : decode cX11_lend 47 = .ok (.iload_n 1, 1) := by decide +kernel
theorem dX11_lend_48 : decode cX11_lend 48 = .ok (.dup2, 1) := by decide +kernel
theorem dX11_lend_49 : decode cX11_lend 49 = .ok (.iaload, 1) := by decide +kernel
theorem dX11_lend_50 : decode cX11_lend 50 = .ok (.iload_n 2, 1) := by decide +kernel
theorem dX11_lend_51 : decode cX11_lend 51 = .ok (.iadd, 1) := by decide +kernel
theorem dX11_lend_52 : decode cX11_lend 52 = .ok (.iastore, 1) := by decide +kernel
theorem dX11_lend_53 : decode cX11_lend 53 = .ok (.aload_n 0, 1) := by decide +kernel
theorem dX11_lend_54 : decode cX11_lend 54 = .ok (.getfield 96, 3) := by decide +kernel
theorem dX11_lend_57 : decode cX11_lend 57 = .ok (.iload_n 1, 1) := by decide +kernel
theorem dX11_lend_58 : decode cX11_lend 58 = .ok (.iaload, 1) := by decide +kernel
theorem dX11_lend_59 : decode cX11_lend 59 = .ok (.ireturn, 1) := by decide +kernel
theorem dX11_go_0 : decode cX11_go 0 = .ok (.aload_n 0, 1) := by decide +kernel
theorem dX11_go_1 : decode cX11_go 1 = .ok (.iconst 0, 1) := by decide +kernel
theorem dX11_go_2 : decode cX11_go 2 = .ok (.putfield 157, 3) := by decide +kernel
theorem dX11_go_5 : decode cX11_go 5 = .ok (.iload_n 1, 1) := by decide +kernel
theorem dX11_go_6 : decode cX11_go 6 = .ok (.ifCond .lt 23, 3) := by decide +kernel
theorem dX11_go_9 : decode cX11_go 9 = .ok (.iload_n 1, 1) := by decide +kernel
theorem dX11_go_10 : decode cX11_go 10 = .ok (.bipush 99, 2) := by decide +kernel
theorem dX11_go_12 : decode cX11_go 12 = .ok (.if_icmp .gt 17, 3) := by decide +kernel
theorem dX11_go_15 : decode cX11_go 15 = .ok (.aload_n 0, 1) := by decide +kernel
theorem dX11_go_16 : decode cX11_go 16 = .ok (.getfield 84, 3) := by decide +kernel
theorem dX11_go_19 : decode cX11_go 19 = .ok (.iconst 0, 1) := by decide +kernel
theorem dX11_go_20 : decode cX11_go 20 = .ok (.iaload, 1) := by decide +kernel
theorem dX11_go_21 : decode cX11_go 21 = .ok (.iload_n 1, 1) := by decide +kernel
theorem dX11_go_22 : decode cX11_go 22 = .ok (.iadd, 1) := by decide +kernel
theorem dX11_go_23 : decode cX11_go 23 = .ok (.sipush 9900, 3) := by decide +kernel
theorem dX11_go_26 : decode cX11_go 26 = .ok (.if_icmp .le 5, 3) := by decide +kernel
theorem dX11_go_29 : decode cX11_go 29 = .ok (.iconst (-1), 1) := by decide +kernel
theorem dX11_go_30 : decode cX11_go 30 = .ok (.ireturn, 1) := by decide +kernel
theorem dX11_go_31 : decode cX11_go 31 = .ok (.iload_n 1, 1) := by decide +kernel
theorem dX11_go_32 : decode cX11_go 32 = .ok (.ifCond .le 8, 3) := by decide +kernel
theorem dX11_go_35 : decode cX11_go 35 = .ok (.aload_n 0, 1) := by decide +kernel
theorem dX11_go_36 : decode cX11_go 36 = .ok (.iconst 0, 1) := by decide +kernel
theorem dX11_go_37 : decode cX11_go 37 = .ok (.putfield 320, 3) := by decide +kernel
theorem dX11_go_40 : decode cX11_go 40 = .ok (.iconst 0, 1) := by decide +kernel
theorem dX11_go_41 : decode cX11_go 41 = .ok (.istore_n 2, 1) := by decide +kernel
theorem dX11_go_42 : decode cX11_go 42 = .ok (.iload_n 2, 1) := by decide +kernel
theorem dX11_go_43 : decode cX11_go 43 = .ok (.iload_n 1, 1) := by decide +kernel
theorem dX11_go_44 : decode cX11_go 44 = .ok (.if_icmp .ge 15, 3) := by decide +kernel
theorem dX11_go_47 : decode cX11_go 47 = .ok (.aload_n 0, 1) := by decide +kernel
theorem dX11_go_48 : decode cX11_go 48 = .ok (.iconst 0, 1) := by decide +kernel
theorem dX11_go_49 : decode cX11_go 49 = .ok (.iconst 1, 1) := by decide +kernel
theorem dX11_go_50 : decode cX11_go 50 = .ok (.invokevirtual 416, 3) := by decide +kernel
theorem dX11_go_53 : decode cX11_go 53 = .ok (.iinc 2 1, 3) := by decide +kernel
theorem dX11_go_56 : decode cX11_go 56 = .ok (.goto (-14), 3) := by decide +kernel
theorem dX11_go_59 : decode cX11_go 59 = .ok (.aload_n 0, 1) := by decide +kernel
theorem dX11_go_60 : decode cX11_go 60 = .ok (.getfield 84, 3) := by decide +kernel
theorem dX11_go_63 : decode cX11_go 63 = .ok (.iconst 0, 1) := by decide +kernel
theorem dX11_go_64 : decode cX11_go 64 = .ok (.iaload, 1) := by decide +kernel
theorem dX11_go_65 : decode cX11_go 65 = .ok (.ireturn, 1) := by decide +kernel
theorem dX11_ahead_0 : decode cX11_ahead 0 = .ok (.aload_n 0, 1) := by decide +kernel
theorem dX11_ahead_1 : decode cX11_ahead 1 = .ok (.iconst 0, 1) := by decide +kernel
theorem dX11_ahead_2 : decode cX11_ahead 2 = .ok (.putfield 157, 3) := by decide +kernel
theorem dX11_ahead_5 : decode cX11_ahead 5 = .ok (.iload_n 1, 1) := by decide +kernel
theorem dX11_ahead_6 : decode cX11_ahead 6 = .ok (.ifCond .lt 31, 3) := by decide +kernel
theorem dX11_ahead_9 : decode cX11_ahead 9 = .ok (.iload_n 1, 1) := by decide +kernel
theorem dX11_ahead_10 : decode cX11_ahead 10 = .ok (.bipush 99, 2) := by decide +kernel
theorem dX11_ahead_12 : decode cX11_ahead 12 = .ok (.if_icmp .gt 25, 3) := by decide +kernel
theorem dX11_ahead_15 : decode cX11_ahead 15 = .ok (.iload_n 2, 1) := by decide +kernel
theorem dX11_ahead_16 : decode cX11_ahead 16 = .ok (.ifCond .lt 21, 3) := by decide +kernel
theorem dX11_ahead_19 : decode cX11_ahead 19 = .ok (.iload_n 2, 1) := by decide +kernel
theorem dX11_ahead_20 : decode cX11_ahead 20 = .ok (.iconst 4, 1) := by decide +kernel
theorem dX11_ahead_21 : decode cX11_ahead 21 = .ok (.if_icmp .gt 16, 3) := by decide +kernel
theorem dX11_ahead_24 : decode cX11_ahead 24 = .ok (.iload_n 2, 1) := by decide +kernel
theorem dX11_ahead_25 : decode cX11_ahead 25 = .ok (.iconst 3, 1) := by decide +kernel
theorem dX11_ahead_26 : decode cX11_ahead 26 = .ok (.if_icmp .ne 13, 3) := by decide +kernel
theorem dX11_ahead_29 : decode cX11_ahead 29 = .ok (.aload_n 0, 1) := by decide +kernel
theorem dX11_ahead_30 : decode cX11_ahead 30 = .ok (.iload_n 3, 1) := by decide +kernel
theorem dX11_ahead_31 : decode cX11_ahead 31 = .ok (.invokevirtual 426, 3) := by decide +kernel
theorem dX11_ahead_34 : decode cX11_ahead 34 = .ok (.ifCond .ne 5, 3) := by decide +kernel
theorem dX11_ahead_37 : decode cX11_ahead 37 = .ok (.iconst (-1), 1) := by decide +kernel
theorem dX11_ahead_38 : decode cX11_ahead 38 = .ok (.ireturn, 1) := by decide +kernel
theorem dX11_ahead_39 : decode cX11_ahead 39 = .ok (.aload_n 0, 1) := by decide +kernel
theorem dX11_ahead_40 : decode cX11_ahead 40 = .ok (.iload_n 1, 1) := by decide +kernel
theorem dX11_ahead_41 : decode cX11_ahead 41 = .ok (.invokevirtual 454, 3) := by decide +kernel
theorem dX11_ahead_44 : decode cX11_ahead 44 = .ok (.iload_n 2, 1) := by decide +kernel
theorem dX11_ahead_45 : decode cX11_ahead 45 = .ok (.tableswitch 80 0 3 #[31, 45, 59, 71], 31) := by decide +kernel
theorem dX11_ahead_76 : decode cX11_ahead 76 = .ok (.aload_n 0, 1) := by decide +kernel
theorem dX11_ahead_77 : decode cX11_ahead 77 = .ok (.iconst 1, 1) := by decide +kernel
theorem dX11_ahead_78 : decode cX11_ahead 78 = .ok (.iconst 1, 1) := by decide +kernel
theorem dX11_ahead_79 : decode cX11_ahead 79 = .ok (.invokevirtual 457, 3) := by decide +kernel
theorem dX11_ahead_82 : decode cX11_ahead 82 = .ok (.aload_n 0, 1) := by decide +kernel
theorem dX11_ahead_83 : decode cX11_ahead 83 = .ok (.iconst 0, 1) := by decide +kernel
theorem dX11_ahead_84 : decode cX11_ahead 84 = .ok (.iconst 1, 1) := by decide +kernel
theorem dX11_ahead_85 : decode cX11_ahead 85 = .ok (.invokevirtual 457, 3) := by decide +kernel
theorem dX11_ahead_88 : decode cX11_ahead 88 = .ok (.isub, 1) := by decide +kernel
theorem dX11_ahead_89 : decode cX11_ahead 89 = .ok (.ireturn, 1) := by decide +kernel
theorem dX11_ahead_90 : decode cX11_ahead 90 = .ok (.aload_n 0, 1) := by decide +kernel
theorem dX11_ahead_91 : decode cX11_ahead 91 = .ok (.iconst 1, 1) := by decide +kernel
theorem dX11_ahead_92 : decode cX11_ahead 92 = .ok (.iconst 2, 1) := by decide +kernel
theorem dX11_ahead_93 : decode cX11_ahead 93 = .ok (.invokevirtual 457, 3) := by decide +kernel
theorem dX11_ahead_96 : decode cX11_ahead 96 = .ok (.aload_n 0, 1) := by decide +kernel
theorem dX11_ahead_97 : decode cX11_ahead 97 = .ok (.iconst 0, 1) := by decide +kernel
theorem dX11_ahead_98 : decode cX11_ahead 98 = .ok (.iconst 2, 1) := by decide +kernel
theorem dX11_ahead_99 : decode cX11_ahead 99 = .ok (.invokevirtual 457, 3) := by decide +kernel
theorem dX11_ahead_102 : decode cX11_ahead 102 = .ok (.isub, 1) := by decide +kernel
theorem dX11_ahead_103 : decode cX11_ahead 103 = .ok (.ireturn, 1) := by decide +kernel
theorem dX11_ahead_104 : decode cX11_ahead 104 = .ok (.aload_n 0, 1) := by decide +kernel
theorem dX11_ahead_105 : decode cX11_ahead 105 = .ok (.iconst 1, 1) := by decide +kernel
theorem dX11_ahead_106 : decode cX11_ahead 106 = .ok (.invokevirtual 460, 3) := by decide +kernel
theorem dX11_ahead_109 : decode cX11_ahead 109 = .ok (.aload_n 0, 1) := by decide +kernel
theorem dX11_ahead_110 : decode cX11_ahead 110 = .ok (.iconst 0, 1) := by decide +kernel
theorem dX11_ahead_111 : decode cX11_ahead 111 = .ok (.invokevirtual 460, 3) := by decide +kernel
theorem dX11_ahead_114 : decode cX11_ahead 114 = .ok (.isub, 1) := by decide +kernel
theorem dX11_ahead_115 : decode cX11_ahead 115 = .ok (.ireturn, 1) := by decide +kernel
theorem dX11_ahead_116 : decode cX11_ahead 116 = .ok (.aload_n 0, 1) := by decide +kernel
theorem dX11_ahead_117 : decode cX11_ahead 117 = .ok (.getfield 96, 3) := by decide +kernel
theorem dX11_ahead_120 : decode cX11_ahead 120 = .ok (.iconst 5, 1) := by decide +kernel
theorem dX11_ahead_121 : decode cX11_ahead 121 = .ok (.iload_n 3, 1) := by decide +kernel
theorem dX11_ahead_122 : decode cX11_ahead 122 = .ok (.iadd, 1) := by decide +kernel
theorem dX11_ahead_123 : decode cX11_ahead 123 = .ok (.iaload, 1) := by decide +kernel
theorem dX11_ahead_124 : decode cX11_ahead 124 = .ok (.ireturn, 1) := by decide +kernel
theorem dX11_ahead_125 : decode cX11_ahead 125 = .ok (.aload_n 0, 1) := by decide +kernel
theorem dX11_ahead_126 : decode cX11_ahead 126 = .ok (.iconst 1, 1) := by decide +kernel
theorem dX11_ahead_127 : decode cX11_ahead 127 = .ok (.invokevirtual 463, 3) := by decide +kernel
theorem dX11_ahead_130 : decode cX11_ahead 130 = .ok (.ireturn, 1) := by decide +kernel
theorem dX11_first_0 : decode cX11_first 0 = .ok (.aload_n 0, 1) := by decide +kernel
theorem dX11_first_1 : decode cX11_first 1 = .ok (.iconst 0, 1) := by decide +kernel
theorem dX11_first_2 : decode cX11_first 2 = .ok (.putfield 157, 3) := by decide +kernel
theorem dX11_first_5 : decode cX11_first 5 = .ok (.aload_n 0, 1) := by decide +kernel
theorem dX11_first_6 : decode cX11_first 6 = .ok (.iload_n 1, 1) := by decide +kernel
theorem dX11_first_7 : decode cX11_first 7 = .ok (.iload_n 2, 1) := by decide +kernel
theorem dX11_first_8 : decode cX11_first 8 = .ok (.iload_n 3, 1) := by decide +kernel
theorem dX11_first_9 : decode cX11_first 9 = .ok (.invokevirtual 444, 3) := by decide +kernel
theorem dX11_first_12 : decode cX11_first 12 = .ok (.ifCond .ne 5, 3) := by decide +kernel
theorem dX11_first_15 : decode cX11_first 15 = .ok (.iconst (-1), 1) := by decide +kernel
theorem dX11_first_16 : decode cX11_first 16 = .ok (.ireturn, 1) := by decide +kernel
theorem dX11_first_17 : decode cX11_first 17 = .ok (.aload_n 0, 1) := by decide +kernel
theorem dX11_first_18 : decode cX11_first 18 = .ok (.iconst 1, 1) := by decide +kernel
theorem dX11_first_19 : decode cX11_first 19 = .ok (.iconst 0, 1) := by decide +kernel
theorem dX11_first_20 : decode cX11_first 20 = .ok (.invokevirtual 420, 3) := by decide +kernel
theorem dX11_first_23 : decode cX11_first 23 = .ok (.iconst 0, 1) := by decide +kernel
theorem dX11_first_24 : decode cX11_first 24 = .ok (.istore 4, 2) := by decide +kernel
theorem dX11_first_26 : decode cX11_first 26 = .ok (.iload 4, 2) := by decide +kernel
theorem dX11_first_28 : decode cX11_first 28 = .ok (.bipush 99, 2) := by decide +kernel
theorem dX11_first_30 : decode cX11_first 30 = .ok (.if_icmp .gt 29, 3) := by decide +kernel
theorem dX11_first_33 : decode cX11_first 33 = .ok (.aload_n 0, 1) := by decide +kernel
theorem dX11_first_34 : decode cX11_first 34 = .ok (.iconst 1, 1) := by decide +kernel
theorem dX11_first_35 : decode cX11_first 35 = .ok (.iload_n 1, 1) := by decide +kernel
theorem dX11_first_36 : decode cX11_first 36 = .ok (.iload_n 2, 1) := by decide +kernel
theorem dX11_first_37 : decode cX11_first 37 = .ok (.iload_n 3, 1) := by decide +kernel
theorem dX11_first_38 : decode cX11_first 38 = .ok (.invokevirtual 365, 3) := by decide +kernel
theorem dX11_first_41 : decode cX11_first 41 = .ok (.ifCond .eq 6, 3) := by decide +kernel
theorem dX11_first_44 : decode cX11_first 44 = .ok (.iload 4, 2) := by decide +kernel
theorem dX11_first_46 : decode cX11_first 46 = .ok (.ireturn, 1) := by decide +kernel
theorem dX11_first_47 : decode cX11_first 47 = .ok (.aload_n 0, 1) := by decide +kernel
theorem dX11_first_48 : decode cX11_first 48 = .ok (.iconst 1, 1) := by decide +kernel
theorem dX11_first_49 : decode cX11_first 49 = .ok (.iconst 0, 1) := by decide +kernel
theorem dX11_first_50 : decode cX11_first 50 = .ok (.invokevirtual 416, 3) := by decide +kernel
theorem dX11_first_53 : decode cX11_first 53 = .ok (.iinc 4 1, 3) := by decide +kernel
theorem dX11_first_56 : decode cX11_first 56 = .ok (.goto (-30), 3) := by decide +kernel
theorem dX11_first_59 : decode cX11_first 59 = .ok (.bipush (-2), 2) := by decide +kernel
theorem dX11_first_61 : decode cX11_first 61 = .ok (.ireturn, 1) := by decide +kernel
theorem dX11_layLoad_0 : decode cX11_layLoad 0 = .ok (.aload_n 0, 1) := by decide +kernel
theorem dX11_layLoad_1 : decode cX11_layLoad 1 = .ok (.iconst 0, 1) := by decide +kernel
theorem dX11_layLoad_2 : decode cX11_layLoad 2 = .ok (.putfield 466, 3) := by decide +kernel
theorem dX11_layLoad_5 : decode cX11_layLoad 5 = .ok (.aload_n 0, 1) := by decide +kernel
theorem dX11_layLoad_6 : decode cX11_layLoad 6 = .ok (.iconst 0, 1) := by decide +kernel
theorem dX11_layLoad_7 : decode cX11_layLoad 7 = .ok (.putfield 469, 3) := by decide +kernel
theorem dX11_layLoad_10 : decode cX11_layLoad 10 = .ok (.iconst 0, 1) := by decide +kernel
theorem dX11_layLoad_11 : decode cX11_layLoad 11 = .ok (.istore_n 1, 1) := by decide +kernel
theorem dX11_layLoad_12 : decode cX11_layLoad 12 = .ok (.iload_n 1, 1) := by decide +kernel
theorem dX11_layLoad_13 : decode cX11_layLoad 13 = .ok (.iconst 1, 1) := by decide +kernel
theorem dX11_layLoad_14 : decode cX11_layLoad 14 = .ok (.aload_n 0, 1) := by decide +kernel
theorem dX11_layLoad_15 : decode cX11_layLoad 15 = .ok (.getfield 93, 3) := by decide +kernel
theorem dX11_layLoad_18 : decode cX11_layLoad 18 = .ok (.iconst 0, 1) := by decide +kernel
theorem dX11_layLoad_19 : decode cX11_layLoad 19 = .ok (.iaload, 1) := by decide +kernel
theorem dX11_layLoad_20 : decode cX11_layLoad 20 = .ok (.ishl, 1) := by decide +kernel
theorem dX11_layLoad_21 : decode cX11_layLoad 21 = .ok (.if_icmp .ge 198, 3) := by decide +kernel
theorem dX11_layLoad_24 : decode cX11_layLoad 24 = .ok (.iconst 0, 1) := by decide +kernel
theorem dX11_layLoad_25 : decode cX11_layLoad 25 = .ok (.istore_n 2, 1) := by decide +kernel
theorem dX11_layLoad_26 : decode cX11_layLoad 26 = .ok (.iconst 0, 1) := by decide +kernel
theorem dX11_layLoad_27 : decode cX11_layLoad 27 = .ok (.istore_n 3, 1) := by decide +kernel
theorem dX11_layLoad_28 : decode cX11_layLoad 28 = .ok (.iconst 0, 1) := by decide +kernel
theorem dX11_layLoad_29 : decode cX11_layLoad 29 = .ok (.istore 4, 2) := by decide +kernel
theorem dX11_layLoad_31 : decode cX11_layLoad 31 = .ok (.iconst 1, 1) := by decide +kernel
theorem dX11_layLoad_32 : decode cX11_layLoad 32 = .ok (.istore 5, 2) := by decide +kernel
theorem dX11_layLoad_34 : decode cX11_layLoad 34 = .ok (.iconst 0, 1) := by decide +kernel
theorem dX11_layLoad_35 : decode cX11_layLoad 35 = .ok (.istore 6, 2) := by decide +kernel
theorem dX11_layLoad_37 : decode cX11_layLoad 37 = .ok (.iload 6, 2) := by decide +kernel
theorem dX11_layLoad_39 : decode cX11_layLoad 39 = .ok (.aload_n 0, 1) := by decide +kernel
theorem dX11_layLoad_40 : decode cX11_layLoad 40 = .ok (.getfield 93, 3) := by decide +kernel
theorem dX11_layLoad_43 : decode cX11_layLoad 43 = .ok (.iconst 0, 1) := by decide +kernel
theorem dX11_layLoad_44 : decode cX11_layLoad 44 = .ok (.iaload, 1) := by decide +kernel
theorem dX11_layLoad_45 : decode cX11_layLoad 45 = .ok (.if_icmp .ge 130, 3) := by decide +kernel
theorem dX11_layLoad_48 : decode cX11_layLoad 48 = .ok (.iload 5, 2) := by decide +kernel
theorem dX11_layLoad_50 : decode cX11_layLoad 50 = .ok (.ifCond .eq 125, 3) := by decide +kernel
theorem dX11_layLoad_53 : decode cX11_layLoad 53 = .ok (.iload_n 1, 1) := by decide +kernel
theorem dX11_layLoad_54 : decode cX11_layLoad 54 = .ok (.iload 6, 2) := by decide +kernel
theorem dX11_layLoad_56 : decode cX11_layLoad 56 = .ok (.ishr, 1) := by decide +kernel
theorem dX11_layLoad_57 : decode cX11_layLoad 57 = .ok (.iconst 1, 1) := by decide +kernel
theorem dX11_layLoad_58 : decode cX11_layLoad 58 = .ok (.iand, 1) := by decide +kernel
theorem dX11_layLoad_59 : decode cX11_layLoad 59 = .ok (.ifCond .ne 6, 3) := by decide +kernel
theorem dX11_layLoad_62 : decode cX11_layLoad 62 = .ok (.goto 107, 3) := by decide +kernel
theorem dX11_layLoad_65 : decode cX11_layLoad 65 = .ok (.iconst 1, 1) := by decide +kernel
theorem dX11_layLoad_66 : decode cX11_layLoad 66 = .ok (.iconst 5, 1) := by decide +kernel
theorem dX11_layLoad_67 : decode cX11_layLoad 67 = .ok (.aload_n 0, 1) := by decide +kernel
theorem dX11_layLoad_68 : decode cX11_layLoad 68 = .ok (.getfield 108, 3) := by decide +kernel
theorem dX11_layLoad_71 : decode cX11_layLoad 71 = .ok (.iload 6, 2) := by decide +kernel
theorem dX11_layLoad_73 : decode cX11_layLoad 73 = .ok (.iaload, 1) := by decide +kernel
theorem dX11_layLoad_74 : decode cX11_layLoad 74 = .ok (.imul, 1) := by decide +kernel
theorem dX11_layLoad_75 : decode cX11_layLoad 75 = .ok (.aload_n 0, 1) := by decide +kernel
theorem dX11_layLoad_76 : decode cX11_layLoad 76 = .ok (.getfield 111, 3) := by decide +kernel
theorem dX11_layLoad_79 : decode cX11_layLoad 79 = .ok (.iload 6, 2) := by decide +kernel
theorem dX11_layLoad_81 : decode cX11_layLoad 81 = .ok (.iaload, 1) := by decide +kernel
theorem dX11_layLoad_82 : decode cX11_layLoad 82 = .ok (.iadd, 1) := by decide +kernel
theorem dX11_layLoad_83 : decode cX11_layLoad 83 = .ok (.ishl, 1) := by decide +kernel
theorem dX11_layLoad_84 : decode cX11_layLoad 84 = .ok (.istore 7, 2) := by decide +kernel
theorem dX11_layLoad_86 : decode cX11_layLoad 86 = .ok (.aload_n 0, 1) := by decide +kernel
theorem dX11_layLoad_87 : decode cX11_layLoad 87 = .ok (.iconst 0, 1) := by decide +kernel
theorem dX11_layLoad_88 : decode cX11_layLoad 88 = .ok (.iload 6, 2) := by decide +kernel
theorem dX11_layLoad_90 : decode cX11_layLoad 90 = .ok (.invokevirtual 385, 3) := by decide +kernel
theorem dX11_layLoad_93 : decode cX11_layLoad 93 = .ok (.ifCond .eq 36, 3) := by decide +kernel
theorem dX11_layLoad_96 : decode cX11_layLoad 96 = .ok (.aload_n 0, 1) := by decide +kernel
theorem dX11_layLoad_97 : decode cX11_layLoad 97 = .ok (.iconst 0, 1) := by decide +kernel
theorem dX11_layLoad_98 : decode cX11_layLoad 98 = .ok (.aload_n 0, 1) := by decide +kernel
theorem dX11_layLoad_99 : decode cX11_layLoad 99 = .ok (.getfield 108, 3) := by decide +kernel
theorem dX11_layLoad_102 : decode cX11_layLoad 102 = .ok (.iload 6, 2) := by decide +kernel
theorem dX11_layLoad_104 : decode cX11_layLoad 104 = .ok (.iaload, 1) := by decide +kernel
theorem dX11_layLoad_105 : decode cX11_layLoad 105 = .ok (.aload_n 0, 1) := by decide +kernel
theorem dX11_layLoad_106 : decode cX11_layLoad 106 = .ok (.getfield 111, 3) := by decide +kernel
theorem dX11_layLoad_109 : decode cX11_layLoad 109 = .ok (.iload 6, 2) := by decide +kernel
theorem dX11_layLoad_111 : decode cX11_layLoad 111 = .ok (.iaload, 1) := by decide +kernel
theorem dX11_layLoad_112 : decode cX11_layLoad 112 = .ok (.invokevirtual 389, 3) := by decide +kernel
theorem dX11_layLoad_115 : decode cX11_layLoad 115 = .ok (.ifCond .eq 14, 3) := by decide +kernel
theorem dX11_layLoad_118 : decode cX11_layLoad 118 = .ok (.iload_n 2, 1) := by decide +kernel
theorem dX11_layLoad_119 : decode cX11_layLoad 119 = .ok (.iload 7, 2) := by decide +kernel
theorem dX11_layLoad_121 : decode cX11_layLoad 121 = .ok (.iand, 1) := by decide +kernel
theorem dX11_layLoad_122 : decode cX11_layLoad 122 = .ok (.ifCond .ne 7, 3) := by decide +kernel
theorem dX11_layLoad_125 : decode cX11_layLoad 125 = .ok (.iconst 1, 1) := by decide +kernel
theorem dX11_layLoad_126 : decode cX11_layLoad 126 = .ok (.goto 4, 3) := by decide +kernel
theorem dX11_layLoad_129 : decode cX11_layLoad 129 = .ok (.iconst 0, 1) := by decide +kernel
theorem dX11_layLoad_130 : decode cX11_layLoad 130 = .ok (.istore 5, 2) := by decide +kernel
theorem dX11_layLoad_132 : decode cX11_layLoad 132 = .ok (.iload_n 2, 1) := by decide +kernel
theorem dX11_layLoad_133 : decode cX11_layLoad 133 = .ok (.iload 7, 2) := by decide +kernel
theorem dX11_layLoad_135 : decode cX11_layLoad 135 = .ok (.ior, 1) := by decide +kernel
theorem dX11_layLoad_136 : decode cX11_layLoad 136 = .ok (.istore_n 2, 1) := by decide +kernel
theorem dX11_layLoad_137 : decode cX11_layLoad 137 = .ok (.iload_n 3, 1) := by decide +kernel
theorem dX11_layLoad_138 : decode cX11_layLoad 138 = .ok (.aload_n 0, 1) := by decide +kernel
theorem dX11_layLoad_139 : decode cX11_layLoad 139 = .ok (.getfield 25, 3) := by decide +kernel
theorem dX11_layLoad_142 : decode cX11_layLoad 142 = .ok (.aload_n 0, 1) := by decide +kernel
theorem dX11_layLoad_143 : decode cX11_layLoad 143 = .ok (.getfield 111, 3) := by decide +kernel
theorem dX11_layLoad_146 : decode cX11_layLoad 146 = .ok (.iload 6, 2) := by decide +kernel
theorem dX11_layLoad_148 : decode cX11_layLoad 148 = .ok (.iaload, 1) := by decide +kernel
theorem dX11_layLoad_149 : decode cX11_layLoad 149 = .ok (.iaload, 1) := by decide +kernel
theorem dX11_layLoad_150 : decode cX11_layLoad 150 = .ok (.iadd, 1) := by decide +kernel
theorem dX11_layLoad_151 : decode cX11_layLoad 151 = .ok (.istore_n 3, 1) := by decide +kernel
theorem dX11_layLoad_152 : decode cX11_layLoad 152 = .ok (.iload 4, 2) := by decide +kernel
theorem dX11_layLoad_154 : decode cX11_layLoad 154 = .ok (.aload_n 0, 1) := by decide +kernel
theorem dX11_layLoad_155 : decode cX11_layLoad 155 = .ok (.getfield 28, 3) := by decide +kernel
theorem dX11_layLoad_158 : decode cX11_layLoad 158 = .ok (.aload_n 0, 1) := by decide +kernel
theorem dX11_layLoad_159 : decode cX11_layLoad 159 = .ok (.getfield 111, 3) := by decide +kernel
theorem dX11_layLoad_162 : decode cX11_layLoad 162 = .ok (.iload 6, 2) := by decide +kernel
theorem dX11_layLoad_164 : decode cX11_layLoad 164 = .ok (.iaload, 1) := by decide +kernel
theorem dX11_layLoad_165 : decode cX11_layLoad 165 = .ok (.iaload, 1) := by decide +kernel
theorem dX11_layLoad_166 : decode cX11_layLoad 166 = .ok (.iadd, 1) := by decide +kernel
theorem dX11_layLoad_167 : decode cX11_layLoad 167 = .ok (.istore 4, 2) := by decide +kernel
theorem dX11_layLoad_169 : decode cX11_layLoad 169 = .ok (.iinc 6 1, 3) := by decide +kernel
theorem dX11_layLoad_172 : decode cX11_layLoad 172 = .ok (.goto (-135), 3) := by decide +kernel
theorem dX11_layLoad_175 : decode cX11_layLoad 175 = .ok (.iload 5, 2) := by decide +kernel
theorem dX11_layLoad_177 : decode cX11_layLoad 177 = .ok (.ifCond .eq 36, 3) := by decide +kernel
theorem dX11_layLoad_180 : decode cX11_layLoad 180 = .ok (.iload_n 3, 1) := by decide +kernel
theorem dX11_layLoad_181 : decode cX11_layLoad 181 = .ok (.aload_n 0, 1) := by decide +kernel
theorem dX11_layLoad_182 : decode cX11_layLoad 182 = .ok (.getfield 13, 3) := by decide +kernel
theorem dX11_layLoad_185 : decode cX11_layLoad 185 = .ok (.iconst 5, 1) := by decide +kernel
theorem dX11_layLoad_186 : decode cX11_layLoad 186 = .ok (.iaload, 1) := by decide +kernel
theorem dX11_layLoad_187 : decode cX11_layLoad 187 = .ok (.if_icmp .gt 26, 3) := by decide +kernel
theorem dX11_layLoad_190 : decode cX11_layLoad 190 = .ok (.iload 4, 2) := by decide +kernel
theorem dX11_layLoad_192 : decode cX11_layLoad 192 = .ok (.aload_n 0, 1) := by decide +kernel
theorem dX11_layLoad_193 : decode cX11_layLoad 193 = .ok (.getfield 469, 3) := by decide +kernel
theorem dX11_layLoad_196 : decode cX11_layLoad 196 = .ok (.if_icmp .gt 6, 3) := by decide +kernel
theorem dX11_layLoad_199 : decode cX11_layLoad 199 = .ok (.goto 14, 3) := by decide +kernel
theorem dX11_layLoad_202 : decode cX11_layLoad 202 = .ok (.aload_n 0, 1) := by decide +kernel
theorem dX11_layLoad_203 : decode cX11_layLoad 203 = .ok (.iload_n 1, 1) := by decide +kernel
theorem dX11_layLoad_204 : decode cX11_layLoad 204 = .ok (.putfield 466, 3) := by decide +kernel
theorem dX11_layLoad_207 : decode cX11_layLoad 207 = .ok (.aload_n 0, 1) := by decide +kernel
theorem dX11_layLoad_208 : decode cX11_layLoad 208 = .ok (.iload 4, 2) := by decide +kernel
theorem dX11_layLoad_210 : decode cX11_layLoad 210 = .ok (.putfield 469, 3) := by decide +kernel
theorem dX11_layLoad_213 : decode cX11_layLoad 213 = .ok (.iinc 1 1, 3) := by decide +kernel
theorem dX11_layLoad_216 : decode cX11_layLoad 216 = .ok (.goto (-204), 3) := by decide +kernel
theorem dX11_layLoad_219 : decode cX11_layLoad 219 = .ok (.return_, 1) := by decide +kernel
theorem dX11_load_0 : decode cX11_load 0 = .ok (.aload_n 0, 1) := by decide +kernel
theorem dX11_load_1 : decode cX11_load 1 = .ok (.iconst 0, 1) := by decide +kernel
theorem dX11_load_2 : decode cX11_load 2 = .ok (.putfield 157, 3) := by decide +kernel
theorem dX11_load_5 : decode cX11_load 5 = .ok (.iload_n 1, 1) := by decide +kernel
theorem dX11_load_6 : decode cX11_load 6 = .ok (.ifCond .lt 8, 3) := by decide +kernel
theorem dX11_load_9 : decode cX11_load 9 = .ok (.iload_n 1, 1) := by decide +kernel
theorem dX11_load_10 : decode cX11_load 10 = .ok (.iconst 1, 1) := by decide +kernel
theorem dX11_load_11 : decode cX11_load 11 = .ok (.if_icmp .le 5, 3) := by decide +kernel
theorem dX11_load_14 : decode cX11_load 14 = .ok (.iconst (-1), 1) := by decide +kernel
theorem dX11_load_15 : decode cX11_load 15 = .ok (.ireturn, 1) := by decide +kernel
theorem dX11_load_16 : decode cX11_load 16 = .ok (.aload_n 0, 1) := by decide +kernel
theorem dX11_load_17 : decode cX11_load 17 = .ok (.invokevirtual 472, 3) := by decide +kernel
theorem dX11_load_20 : decode cX11_load 20 = .ok (.iload_n 1, 1) := by decide +kernel
theorem dX11_load_21 : decode cX11_load 21 = .ok (.ifCond .ne 10, 3) := by decide +kernel
theorem dX11_load_24 : decode cX11_load 24 = .ok (.aload_n 0, 1) := by decide +kernel
theorem dX11_load_25 : decode cX11_load 25 = .ok (.getfield 466, 3) := by decide +kernel
theorem dX11_load_28 : decode cX11_load 28 = .ok (.goto 7, 3) := by decide +kernel
theorem dX11_load_31 : decode cX11_load 31 = .ok (.aload_n 0, 1) := by decide +kernel
theorem dX11_load_32 : decode cX11_load 32 = .ok (.getfield 469, 3) := by decide +kernel
theorem dX11_load_35 : decode cX11_load 35 = .ok (.ireturn, 1) := by decide +kernel
theorem dX11_rows_0 : decode cX11_rows 0 = .ok (.iload_n 1, 1) := by decide +kernel
theorem dX11_rows_1 : decode cX11_rows 1 = .ok (.aload_n 0, 1) := by decide +kernel
theorem dX11_rows_2 : decode cX11_rows 2 = .ok (.getfield 475, 3) := by decide +kernel
theorem dX11_rows_5 : decode cX11_rows 5 = .ok (.if_icmp .ge 56, 3) := by decide +kernel
theorem dX11_rows_8 : decode cX11_rows 8 = .ok (.iconst 0, 1) := by decide +kernel
theorem dX11_rows_9 : decode cX11_rows 9 = .ok (.istore_n 3, 1) := by decide +kernel
theorem dX11_rows_10 : decode cX11_rows 10 = .ok (.iload_n 3, 1) := by decide +kernel
theorem dX11_rows_11 : decode cX11_rows 11 = .ok (.aload_n 0, 1) := by decide +kernel
theorem dX11_rows_12 : decode cX11_rows 12 = .ok (.getfield 475, 3) := by decide +kernel
theorem dX11_rows_15 : decode cX11_rows 15 = .ok (.if_icmp .ge 45, 3) := by decide +kernel
theorem dX11_rows_18 : decode cX11_rows 18 = .ok (.iload_n 2, 1) := by decide +kernel
theorem dX11_rows_19 : decode cX11_rows 19 = .ok (.iload_n 3, 1) := by decide +kernel
theorem dX11_rows_20 : decode cX11_rows 20 = .ok (.ishr, 1) := by decide +kernel
theorem dX11_rows_21 : decode cX11_rows 21 = .ok (.iconst 1, 1) := by decide +kernel
theorem dX11_rows_22 : decode cX11_rows 22 = .ok (.iand, 1) := by decide +kernel
theorem dX11_rows_23 : decode cX11_rows 23 = .ok (.iconst 1, 1) := by decide +kernel
theorem dX11_rows_24 : decode cX11_rows 24 = .ok (.if_icmp .ne 6, 3) := by decide +kernel
theorem dX11_rows_27 : decode cX11_rows 27 = .ok (.goto 27, 3) := by decide +kernel
theorem dX11_rows_30 : decode cX11_rows 30 = .ok (.aload_n 0, 1) := by decide +kernel
theorem dX11_rows_31 : decode cX11_rows 31 = .ok (.getfield 129, 3) := by decide +kernel
theorem dX11_rows_34 : decode cX11_rows 34 = .ok (.iload_n 1, 1) := by decide +kernel
theorem dX11_rows_35 : decode cX11_rows 35 = .ok (.aload_n 0, 1) := by decide +kernel
theorem dX11_rows_36 : decode cX11_rows 36 = .ok (.getfield 126, 3) := by decide +kernel
theorem dX11_rows_39 : decode cX11_rows 39 = .ok (.iload_n 3, 1) := by decide +kernel
theorem dX11_rows_40 : decode cX11_rows 40 = .ok (.iaload, 1) := by decide +kernel
theorem dX11_rows_41 : decode cX11_rows 41 = .ok (.iastore, 1) := by decide +kernel
theorem dX11_rows_42 : decode cX11_rows 42 = .ok (.aload_n 0, 1) := by decide +kernel
theorem dX11_rows_43 : decode cX11_rows 43 = .ok (.iload_n 1, 1) := by decide +kernel
theorem dX11_rows_44 : decode cX11_rows 44 = .ok (.iconst 1, 1) := by decide +kernel
theorem dX11_rows_45 : decode cX11_rows 45 = .ok (.iadd, 1) := by decide +kernel
theorem dX11_rows_46 : decode cX11_rows 46 = .ok (.iload_n 2, 1) := by decide +kernel
theorem dX11_rows_47 : decode cX11_rows 47 = .ok (.iconst 1, 1) := by decide +kernel
theorem dX11_rows_48 : decode cX11_rows 48 = .ok (.iload_n 3, 1) := by decide +kernel
theorem dX11_rows_49 : decode cX11_rows 49 = .ok (.ishl, 1) := by decide +kernel
theorem dX11_rows_50 : decode cX11_rows 50 = .ok (.ior, 1) := by decide +kernel
theorem dX11_rows_51 : decode cX11_rows 51 = .ok (.invokevirtual 478, 3) := by decide +kernel
theorem dX11_rows_54 : decode cX11_rows 54 = .ok (.iinc 3 1, 3) := by decide +kernel
theorem dX11_rows_57 : decode cX11_rows 57 = .ok (.goto (-47), 3) := by decide +kernel
theorem dX11_rows_60 : decode cX11_rows 60 = .ok (.return_, 1) := by decide +kernel
theorem dX11_rows_61 : decode cX11_rows 61 = .ok (.aload_n 0, 1) := by decide +kernel
theorem dX11_rows_62 : decode cX11_rows 62 = .ok (.iconst 1, 1) := by decide +kernel
theorem dX11_rows_63 : decode cX11_rows 63 = .ok (.iconst 0, 1) := by decide +kernel
theorem dX11_rows_64 : decode cX11_rows 64 = .ok (.invokevirtual 420, 3) := by decide +kernel
theorem dX11_rows_67 : decode cX11_rows 67 = .ok (.iconst 0, 1) := by decide +kernel
theorem dX11_rows_68 : decode cX11_rows 68 = .ok (.istore_n 3, 1) := by decide +kernel
theorem dX11_rows_69 : decode cX11_rows 69 = .ok (.iload_n 3, 1) := by decide +kernel
theorem dX11_rows_70 : decode cX11_rows 70 = .ok (.aload_n 0, 1) := by decide +kernel
theorem dX11_rows_71 : decode cX11_rows 71 = .ok (.getfield 475, 3) := by decide +kernel
theorem dX11_rows_74 : decode cX11_rows 74 = .ok (.if_icmp .ge 33, 3) := by decide +kernel
theorem dX11_rows_77 : decode cX11_rows 77 = .ok (.aload_n 0, 1) := by decide +kernel
theorem dX11_rows_78 : decode cX11_rows 78 = .ok (.getfield 114, 3) := by decide +kernel
theorem dX11_rows_81 : decode cX11_rows 81 = .ok (.bipush 12, 2) := by decide +kernel
theorem dX11_rows_83 : decode cX11_rows 83 = .ok (.aload_n 0, 1) := by decide +kernel
theorem dX11_rows_84 : decode cX11_rows 84 = .ok (.getfield 129, 3) := by decide +kernel
theorem dX11_rows_87 : decode cX11_rows 87 = .ok (.iload_n 3, 1) := by decide +kernel
theorem dX11_rows_88 : decode cX11_rows 88 = .ok (.iaload, 1) := by decide +kernel
theorem dX11_rows_89 : decode cX11_rows 89 = .ok (.iadd, 1) := by decide +kernel
theorem dX11_rows_90 : decode cX11_rows 90 = .ok (.aload_n 0, 1) := by decide +kernel
theorem dX11_rows_91 : decode cX11_rows 91 = .ok (.getfield 84, 3) := by decide +kernel
theorem dX11_rows_94 : decode cX11_rows 94 = .ok (.iconst 0, 1) := by decide +kernel
theorem dX11_rows_95 : decode cX11_rows 95 = .ok (.iaload, 1) := by decide +kernel
theorem dX11_rows_96 : decode cX11_rows 96 = .ok (.iconst 2, 1) := by decide +kernel
theorem dX11_rows_97 : decode cX11_rows 97 = .ok (.iload_n 3, 1) := by decide +kernel
theorem dX11_rows_98 : decode cX11_rows 98 = .ok (.imul, 1) := by decide +kernel
theorem dX11_rows_99 : decode cX11_rows 99 = .ok (.iadd, 1) := by decide +kernel
theorem dX11_rows_100 : decode cX11_rows 100 = .ok (.iastore, 1) := by decide +kernel
theorem dX11_rows_101 : decode cX11_rows 101 = .ok (.iinc 3 1, 3) := by decide +kernel
theorem dX11_rows_104 : decode cX11_rows 104 = .ok (.goto (-35), 3) := by decide +kernel
theorem dX11_rows_107 : decode cX11_rows 107 = .ok (.aload_n 0, 1) := by decide +kernel
theorem dX11_rows_108 : decode cX11_rows 108 = .ok (.bipush 20, 2) := by decide +kernel
theorem dX11_rows_110 : decode cX11_rows 110 = .ok (.invokevirtual 423, 3) := by decide +kernel
theorem dX11_rows_113 : decode cX11_rows 113 = .ok (.aload_n 0, 1) := by decide +kernel
theorem dX11_rows_114 : decode cX11_rows 114 = .ok (.iconst 1, 1) := by decide +kernel
theorem dX11_rows_115 : decode cX11_rows 115 = .ok (.invokevirtual 481, 3) := by decide +kernel
theorem dX11_rows_118 : decode cX11_rows 118 = .ok (.aload_n 0, 1) := by decide +kernel
theorem dX11_rows_119 : decode cX11_rows 119 = .ok (.iconst 0, 1) := by decide +kernel
theorem dX11_rows_120 : decode cX11_rows 120 = .ok (.invokevirtual 481, 3) := by decide +kernel
theorem dX11_rows_123 : decode cX11_rows 123 = .ok (.isub, 1) := by decide +kernel
theorem dX11_rows_124 : decode cX11_rows 124 = .ok (.istore_n 3, 1) := by decide +kernel
theorem dX11_rows_125 : decode cX11_rows 125 = .ok (.aload_n 0, 1) := by decide +kernel
theorem dX11_rows_126 : decode cX11_rows 126 = .ok (.getfield 484, 3) := by decide +kernel
theorem dX11_rows_129 : decode cX11_rows 129 = .ok (.ifCond .eq 12, 3) := by decide +kernel
theorem dX11_rows_132 : decode cX11_rows 132 = .ok (.iload_n 3, 1) := by decide +kernel
theorem dX11_rows_133 : decode cX11_rows 133 = .ok (.aload_n 0, 1) := by decide +kernel
theorem dX11_rows_134 : decode cX11_rows 134 = .ok (.getfield 487, 3) := by decide +kernel
theorem dX11_rows_137 : decode cX11_rows 137 = .ok (.if_icmp .gt 4, 3) := by decide +kernel
theorem dX11_rows_140 : decode cX11_rows 140 = .ok (.return_, 1) := by decide +kernel
theorem dX11_rows_141 : decode cX11_rows 141 = .ok (.aload_n 0, 1) := by decide +kernel
theorem dX11_rows_142 : decode cX11_rows 142 = .ok (.iconst 1, 1) := by decide +kernel
theorem dX11_rows_143 : decode cX11_rows 143 = .ok (.putfield 484, 3) := by decide +kernel
theorem dX11_rows_146 : decode cX11_rows 146 = .ok (.aload_n 0, 1) := by decide +kernel
theorem dX11_rows_147 : decode cX11_rows 147 = .ok (.iload_n 3, 1) := by decide +kernel
theorem dX11_rows_148 : decode cX11_rows 148 = .ok (.putfield 487, 3) := by decide +kernel
theorem dX11_rows_151 : decode cX11_rows 151 = .ok (.iconst 0, 1) := by decide +kernel
theorem dX11_rows_152 : decode cX11_rows 152 = .ok (.istore 4, 2) := by decide +kernel
theorem dX11_rows_154 : decode cX11_rows 154 = .ok (.iload 4, 2) := by decide +kernel
theorem dX11_rows_156 : decode cX11_rows 156 = .ok (.aload_n 0, 1) := by decide +kernel
theorem dX11_rows_157 : decode cX11_rows 157 = .ok (.getfield 475, 3) := by decide +kernel
theorem dX11_rows_160 : decode cX11_rows 160 = .ok (.if_icmp .ge 23, 3) := by decide +kernel
theorem dX11_rows_163 : decode cX11_rows 163 = .ok (.aload_n 0, 1) := by decide +kernel
theorem dX11_rows_164 : decode cX11_rows 164 = .ok (.getfield 132, 3) := by decide +kernel
theorem dX11_rows_167 : decode cX11_rows 167 = .ok (.iload 4, 2) := by decide +kernel
theorem dX11_rows_169 : decode cX11_rows 169 = .ok (.aload_n 0, 1) := by decide +kernel
theorem dX11_rows_170 : decode cX11_rows 170 = .ok (.getfield 129, 3) := by decide +kernel
theorem dX11_rows_173 : decode cX11_rows 173 = .ok (.iload 4, 2) := by decide +kernel
theorem dX11_rows_175 : decode cX11_rows 175 = .ok (.iaload, 1) := by decide +kernel
theorem dX11_rows_176 : decode cX11_rows 176 = .ok (.iastore, 1) := by decide +kernel
theorem dX11_rows_177 : decode cX11_rows 177 = .ok (.iinc 4 1, 3) := by decide +kernel
theorem dX11_rows_180 : decode cX11_rows 180 = .ok (.goto (-26), 3) := by decide +kernel
theorem dX11_rows_183 : decode cX11_rows 183 = .ok (.return_, 1) := by decide +kernel
theorem dX11_order_0 : decode cX11_order 0 = .ok (.aload_n 0, 1) := by decide +kernel
theorem dX11_order_1 : decode cX11_order 1 = .ok (.iconst 0, 1) := by decide +kernel
theorem dX11_order_2 : decode cX11_order 2 = .ok (.putfield 157, 3) := by decide +kernel
theorem dX11_order_5 : decode cX11_order 5 = .ok (.iload_n 1, 1) := by decide +kernel
theorem dX11_order_6 : decode cX11_order 6 = .ok (.ifCond .lt 8, 3) := by decide +kernel
theorem dX11_order_9 : decode cX11_order 9 = .ok (.iload_n 1, 1) := by decide +kernel
theorem dX11_order_10 : decode cX11_order 10 = .ok (.iconst 4, 1) := by decide +kernel
theorem dX11_order_11 : decode cX11_order 11 = .ok (.if_icmp .le 7, 3) := by decide +kernel
theorem dX11_order_14 : decode cX11_order 14 = .ok (.ldc_w 490, 3) := by decide +kernel
theorem dX11_order_17 : decode cX11_order 17 = .ok (.ireturn, 1) := by decide +kernel
theorem dX11_order_18 : decode cX11_order 18 = .ok (.aload_n 0, 1) := by decide +kernel
theorem dX11_order_19 : decode cX11_order 19 = .ok (.iconst 0, 1) := by decide +kernel
theorem dX11_order_20 : decode cX11_order 20 = .ok (.putfield 475, 3) := by decide +kernel
theorem dX11_order_23 : decode cX11_order 23 = .ok (.iconst 0, 1) := by decide +kernel
theorem dX11_order_24 : decode cX11_order 24 = .ok (.istore_n 2, 1) := by decide +kernel
theorem dX11_order_25 : decode cX11_order 25 = .ok (.iload_n 2, 1) := by decide +kernel
theorem dX11_order_26 : decode cX11_order 26 = .ok (.aload_n 0, 1) := by decide +kernel
theorem dX11_order_27 : decode cX11_order 27 = .ok (.getfield 93, 3) := by decide +kernel
theorem dX11_order_30 : decode cX11_order 30 = .ok (.iconst 0, 1) := by decide +kernel
theorem dX11_order_31 : decode cX11_order 31 = .ok (.iaload, 1) := by decide +kernel
theorem dX11_order_32 : decode cX11_order 32 = .ok (.if_icmp .ge 49, 3) := by decide +kernel
theorem dX11_order_35 : decode cX11_order 35 = .ok (.aload_n 0, 1) := by decide +kernel
theorem dX11_order_36 : decode cX11_order 36 = .ok (.getfield 475, 3) := by decide +kernel
theorem dX11_order_39 : decode cX11_order 39 = .ok (.iconst 4, 1) := by decide +kernel
theorem dX11_order_40 : decode cX11_order 40 = .ok (.if_icmp .ge 41, 3) := by decide +kernel
theorem dX11_order_43 : decode cX11_order 43 = .ok (.aload_n 0, 1) := by decide +kernel
theorem dX11_order_44 : decode cX11_order 44 = .ok (.getfield 117, 3) := by decide +kernel
theorem dX11_order_47 : decode cX11_order 47 = .ok (.iload_n 2, 1) := by decide +kernel
theorem dX11_order_48 : decode cX11_order 48 = .ok (.iaload, 1) := by decide +kernel
theorem dX11_order_49 : decode cX11_order 49 = .ok (.ifCond .eq 6, 3) := by decide +kernel
theorem dX11_order_52 : decode cX11_order 52 = .ok (.goto 23, 3) := by decide +kernel
theorem dX11_order_55 : decode cX11_order 55 = .ok (.aload_n 0, 1) := by decide +kernel
theorem dX11_order_56 : decode cX11_order 56 = .ok (.getfield 126, 3) := by decide +kernel
theorem dX11_order_59 : decode cX11_order 59 = .ok (.aload_n 0, 1) := by decide +kernel
theorem dX11_order_60 : decode cX11_order 60 = .ok (.getfield 475, 3) := by decide +kernel
theorem dX11_order_63 : decode cX11_order 63 = .ok (.iload_n 2, 1) := by decide +kernel
theorem dX11_order_64 : decode cX11_order 64 = .ok (.iastore, 1) := by decide +kernel
theorem dX11_order_65 : decode cX11_order 65 = .ok (.aload_n 0, 1) := by decide +kernel
theorem dX11_order_66 : decode cX11_order 66 = .ok (.dup, 1) := by decide +kernel
theorem dX11_order_67 : decode cX11_order 67 = .ok (.getfield 475, 3) := by decide +kernel
theorem dX11_order_70 : decode cX11_order 70 = .ok (.iconst 1, 1) := by decide +kernel
theorem dX11_order_71 : decode cX11_order 71 = .ok (.iadd, 1) := by decide +kernel
theorem dX11_order_72 : decode cX11_order 72 = .ok (.putfield 475, 3) := by decide +kernel
theorem dX11_order_75 : decode cX11_order 75 = .ok (.iinc 2 1, 3) := by decide +kernel
theorem dX11_order_78 : decode cX11_order 78 = .ok (.goto (-53), 3) := by decide +kernel
theorem dX11_order_81 : decode cX11_order 81 = .ok (.aload_n 0, 1) := by decide +kernel
theorem dX11_order_82 : decode cX11_order 82 = .ok (.iconst 0, 1) := by decide +kernel
theorem dX11_order_83 : decode cX11_order 83 = .ok (.putfield 484, 3) := by decide +kernel
theorem dX11_order_86 : decode cX11_order 86 = .ok (.aload_n 0, 1) := by decide +kernel
theorem dX11_order_87 : decode cX11_order 87 = .ok (.iconst 0, 1) := by decide +kernel
theorem dX11_order_88 : decode cX11_order 88 = .ok (.iconst 0, 1) := by decide +kernel
theorem dX11_order_89 : decode cX11_order 89 = .ok (.invokevirtual 478, 3) := by decide +kernel
theorem dX11_order_92 : decode cX11_order 92 = .ok (.iload_n 1, 1) := by decide +kernel
theorem dX11_order_93 : decode cX11_order 93 = .ok (.iconst 4, 1) := by decide +kernel
theorem dX11_order_94 : decode cX11_order 94 = .ok (.if_icmp .ne 10, 3) := by decide +kernel
theorem dX11_order_97 : decode cX11_order 97 = .ok (.aload_n 0, 1) := by decide +kernel
theorem dX11_order_98 : decode cX11_order 98 = .ok (.getfield 487, 3) := by decide +kernel
theorem dX11_order_101 : decode cX11_order 101 = .ok (.goto 22, 3) := by decide +kernel
theorem dX11_order_104 : decode cX11_order 104 = .ok (.iload_n 1, 1) := by decide +kernel
theorem dX11_order_105 : decode cX11_order 105 = .ok (.aload_n 0, 1) := by decide +kernel
theorem dX11_order_106 : decode cX11_order 106 = .ok (.getfield 475, 3) := by decide +kernel
theorem dX11_order_109 : decode cX11_order 109 = .ok (.if_icmp .ge 12, 3) := by decide +kernel
theorem dX11_order_112 : decode cX11_order 112 = .ok (.aload_n 0, 1) := by decide +kernel
theorem dX11_order_113 : decode cX11_order 113 = .ok (.getfield 132, 3) := by decide +kernel
theorem dX11_order_116 : decode cX11_order 116 = .ok (.iload_n 1, 1) := by decide +kernel
theorem dX11_order_117 : decode cX11_order 117 = .ok (.iaload, 1) := by decide +kernel
theorem dX11_order_118 : decode cX11_order 118 = .ok (.goto 5, 3) := by decide +kernel
theorem dX11_order_121 : decode cX11_order 121 = .ok (.bipush (-2), 2) := by decide +kernel
theorem dX11_order_123 : decode cX11_order 123 = .ok (.ireturn, 1) := by decide +kernel
section
variable {p : Program} {l : Launch} {e : Env} {s : State} {m : MethodId} {args : Array Value} {below : List Frame} {meth : Method} {c : Code} {D : va_G} {aC : Nat → ClassId} {B : Nat}
set_option maxHeartbeats 4000000 in
set_option maxRecDepth 100000 in
theorem w11_mixes_b145 (E : g_C p s m args c cX11_mixes RX11 D aC (g_Zs (g_A B 44))) (hml : c.maxLocals = 8) (hret : meth.sig.returnType = none) (hlk : meth.locks = false) {F : Nat} {q0 : g_M} {a1 : Int32} {a2 : Int32} {s46 : Int32 → Int32 → g_M → Option (g_M)} (hs46 : ∀ (v3 : Int32) (v4 : Int32) (mem : g_M) (H : Heap) (locs : List Loc) (ls : Array Slot), g_At D aC B yM 44 mem s.heap H locs → lv_has ls 8 [(0, .ref (B + 0)), (1, .int a1), (2, .int a2), (3, .int v3), (4, .int v4)] → s46 v3 v4 mem = some q0 → W p l e (g_rm 4) s m args below meth c H locs 0 0 (g_MQ below D aC B yM 44 args s none q0) (F0 m 46 ls [])) : ∀ (v3 : Int32) (v4 : Int32) (mem : g_M) (H : Heap) (locs : List Loc) (ls : Array Slot), g_At D aC B yM 44 mem s.heap H locs → lv_has ls 8 [(0, .ref (B + 0)), (1, .int a1), (2, .int a2), (3, .int v3), (4, .int v4)] → f11_mixes_b145 F a1 a2 s46 v3 v4 mem = some q0 → W p l e (g_rm 4) s m args below meth c H locs 0 0 (g_MQ below D aC B yM 44 args s none q0) (F0 m 145 ls []) := by
  intro v3 v4 mem H locs ls hM hl he
  unfold f11_mixes_b145 at he
  have hx := E.1
  have hb := E.2.1
  have hown := E.2.2.1
  have hts := E.2.2.2.1
  obtain ⟨x1, hx1, he⟩ := g_let_ex he
  refine lv_iinc (v := x1) (lv' := [(4, .int x1), (0, .ref (B + 0)), (1, .int a1), (2, .int a2), (3, .int v3)]) hx hb dX11_mixes_145 hl (k := 4) rfl (by rw [hx1]; rfl) (by decide) rfl (fun ls hl => ?_)
  refine lv_goto (tgt := 46) hx hb dX11_mixes_148 (by decide) ?_
  exact hs46 _ _ _ _ _ _ hM (lv_sub hl [1, 2, 3, 4, 0] rfl) he

set_option maxHeartbeats 4000000 in
set_option maxRecDepth 100000 in
theorem w11_mixes_b46_body (E : g_C p s m args c cX11_mixes RX11 D aC (g_Zs (g_A B 44))) (hml : c.maxLocals = 8) (hret : meth.sig.returnType = none) (hlk : meth.locks = false) {F : Nat} {q0 : g_M} {a1 : Int32} {a2 : Int32} {s46 : Int32 → Int32 → g_M → Option (g_M)} (hs46 : ∀ (v3 : Int32) (v4 : Int32) (mem : g_M) (H : Heap) (locs : List Loc) (ls : Array Slot), g_At D aC B yM 44 mem s.heap H locs → lv_has ls 8 [(0, .ref (B + 0)), (1, .int a1), (2, .int a2), (3, .int v3), (4, .int v4)] → s46 v3 v4 mem = some q0 → W p l e (g_rm 4) s m args below meth c H locs 0 0 (g_MQ below D aC B yM 44 args s none q0) (F0 m 46 ls [])) : ∀ (v3 : Int32) (v4 : Int32) (mem : g_M) (H : Heap) (locs : List Loc) (ls : Array Slot), g_At D aC B yM 44 mem s.heap H locs → lv_has ls 8 [(0, .ref (B + 0)), (1, .int a1), (2, .int a2), (3, .int v3), (4, .int v4)] → f11_mixes_b46_body F a1 a2 s46 v3 v4 mem = some q0 → W p l e (g_rm 4) s m args below meth c H locs 0 0 (g_MQ below D aC B yM 44 args s none q0) (F0 m 46 ls []) := by
  intro v3 v4 mem H locs ls hM hl he
  unfold f11_mixes_b46_body at he
  have hx := E.1
  have hb := E.2.1
  have hown := E.2.2.1
  have hts := E.2.2.2.1
  refine lv_iload hx hb dX11_mixes_46 (lv_at hl 4 rfl) ?_
  refine lv_aload_n hx hb dX11_mixes_48 rfl (lv_at hl 0 rfl) ?_
  refine g_getP E hM (o := 0) (Nat.le_of_ble_eq_true rfl) rfl fl_X11_13 (q := 2) rfl dX11_mixes_49 ?_
  refine lv_iconst (v := (0 : Int32)) hx hb dX11_mixes_52 rfl ?_
  obtain ⟨h2, he⟩ := g_ck_some he
  refine g_iald E hM (o := 2) (Nat.le_of_ble_eq_true rfl) rfl h2 dX11_mixes_53 ?_
  refine lv_icmp_ge (tgt := 151) hx hb dX11_mixes_54 (by decide) (fun h3 => ?_) (fun h3 => ?_)
  · rw [if_neg (Int32.not_lt.mpr h3)] at he
    cases he
    exact g_vret E hM hret hlk dX11_mixes_151
  · rw [if_pos (Int32.not_le.mp h3)] at he
    refine lv_aload_n hx hb dX11_mixes_57 rfl (lv_at hl 0 rfl) ?_
    refine g_getI E hM (o := 0) (Nat.le_of_ble_eq_true rfl) rfl fl_X11_346 dX11_mixes_58 ?_
    refine lv_iconst (v := (5 : Int32)) hx hb dX11_mixes_61 rfl ?_
    refine lv_iload hx hb dX11_mixes_62 (lv_at hl 4 rfl) ?_
    refine lv_imul hx hb dX11_mixes_64 ?_
    refine lv_iload_n hx hb dX11_mixes_65 rfl (lv_at hl 2 rfl) ?_
    refine lv_iadd hx hb dX11_mixes_66 ?_
    refine lv_ishr hx hb dX11_mixes_67 ?_
    refine lv_iconst (v := (1 : Int32)) hx hb dX11_mixes_68 rfl ?_
    refine lv_iand hx hb dX11_mixes_69 ?_
    refine lv_if_ne (tgt := 76) hx hb dX11_mixes_70 (by decide) (fun h4 => ?_) (fun h4 => ?_)
    · rw [if_neg h4] at he
      refine lv_iload_n hx hb dX11_mixes_76 rfl (lv_at hl 3 rfl) ?_
      refine lv_iconst (v := (-1 : Int32)) hx hb dX11_mixes_77 rfl ?_
      refine lv_icmp_ne (tgt := 87) hx hb dX11_mixes_78 (by decide) (fun h5 => ?_) (fun h5 => ?_)
      · rw [if_neg h5] at he
        refine lv_bipush (v := (25 : Int32)) hx hb dX11_mixes_87 rfl ?_
        refine lv_iload_n hx hb dX11_mixes_89 rfl (lv_at hl 1 rfl) ?_
        refine lv_imul hx hb dX11_mixes_90 ?_
        refine lv_iconst (v := (5 : Int32)) hx hb dX11_mixes_91 rfl ?_
        refine lv_iload_n hx hb dX11_mixes_92 rfl (lv_at hl 3 rfl) ?_
        refine lv_imul hx hb dX11_mixes_93 ?_
        refine lv_iadd hx hb dX11_mixes_94 ?_
        refine lv_iload_n hx hb dX11_mixes_95 rfl (lv_at hl 2 rfl) ?_
        refine lv_iadd hx hb dX11_mixes_96 ?_
        obtain ⟨x6, hx6, he⟩ := g_let_ex he
        refine g_topI hx6 ?_
        refine lv_istore (lv' := [(5, .int x6), (0, .ref (B + 0)), (1, .int a1), (2, .int a2), (3, .int v3), (4, .int v4)]) hx hb dX11_mixes_97 hl (by decide) rfl (fun ls hl => ?_)
        refine lv_bipush (v := (25 : Int32)) hx hb dX11_mixes_99 rfl ?_
        refine lv_iload_n hx hb dX11_mixes_101 rfl (lv_at hl 2 rfl) ?_
        refine lv_imul hx hb dX11_mixes_102 ?_
        refine lv_iconst (v := (5 : Int32)) hx hb dX11_mixes_103 rfl ?_
        refine lv_iload hx hb dX11_mixes_104 (lv_at hl 5 rfl) ?_
        refine lv_imul hx hb dX11_mixes_106 ?_
        refine lv_iadd hx hb dX11_mixes_107 ?_
        refine lv_iload_n hx hb dX11_mixes_108 rfl (lv_at hl 3 rfl) ?_
        refine lv_iadd hx hb dX11_mixes_109 ?_
        obtain ⟨x7, hx7, he⟩ := g_let_ex he
        refine g_topI hx7 ?_
        refine lv_istore (lv' := [(6, .int x7), (5, .int x6), (0, .ref (B + 0)), (1, .int a1), (2, .int a2), (3, .int v3), (4, .int v4)]) hx hb dX11_mixes_110 hl (by decide) rfl (fun ls hl => ?_)
        refine lv_aload_n hx hb dX11_mixes_112 rfl (lv_at hl 2 rfl) ?_
        refine g_getP E hM (o := 0) (Nat.le_of_ble_eq_true rfl) rfl fl_X11_99 (q := 29) rfl dX11_mixes_113 ?_
        refine lv_iload hx hb dX11_mixes_116 (lv_at hl 1 rfl) ?_
        obtain ⟨h8, he⟩ := g_ck_some he
        refine g_iald E hM (o := 29) (Nat.le_of_ble_eq_true rfl) rfl h8 dX11_mixes_118 ?_
        obtain ⟨x9, hx9, he⟩ := g_let_ex he
        refine g_topI hx9 ?_
        refine lv_istore (lv' := [(7, .int x9), (6, .int x7), (5, .int x6), (0, .ref (B + 0)), (1, .int a1), (2, .int a2), (3, .int v3), (4, .int v4)]) hx hb dX11_mixes_119 hl (by decide) rfl (fun ls hl => ?_)
        refine lv_aload_n hx hb dX11_mixes_121 rfl (lv_at hl 3 rfl) ?_
        refine g_getP E hM (o := 0) (Nat.le_of_ble_eq_true rfl) rfl fl_X11_99 (q := 29) rfl dX11_mixes_122 ?_
        refine lv_iload hx hb dX11_mixes_125 (lv_at hl 2 rfl) ?_
        refine lv_aload_n hx hb dX11_mixes_127 rfl (lv_at hl 3 rfl) ?_
        refine g_getP E hM (o := 0) (Nat.le_of_ble_eq_true rfl) rfl fl_X11_99 (q := 29) rfl dX11_mixes_128 ?_
        refine lv_iload hx hb dX11_mixes_131 (lv_at hl 1 rfl) ?_
        obtain ⟨h10, he⟩ := g_ck_some he
        refine g_iald E hM (o := 29) (Nat.le_of_ble_eq_true rfl) rfl h10 dX11_mixes_133 ?_
        obtain ⟨h11, he⟩ := g_ck_some he
        refine g_iast E hM (o := 29) (Nat.le_of_ble_eq_true rfl) rfl h11 dX11_mixes_134 (fun H locs hM => ?_)
        obtain ⟨m12, hm12, he⟩ := g_let_ex he
        rw [← hm12] at hM
        refine lv_aload_n hx hb dX11_mixes_135 rfl (lv_at hl 3 rfl) ?_
        refine g_getP E hM (o := 0) (Nat.le_of_ble_eq_true rfl) rfl fl_X11_99 (q := 29) rfl dX11_mixes_136 ?_
        refine lv_iload hx hb dX11_mixes_139 (lv_at hl 1 rfl) ?_
        refine lv_iload hx hb dX11_mixes_141 (lv_at hl 0 rfl) ?_
        obtain ⟨h13, he⟩ := g_ck_some he
        refine g_iast E hM (o := 29) (Nat.le_of_ble_eq_true rfl) rfl h13 dX11_mixes_143 (fun H locs hM => ?_)
        obtain ⟨m14, hm14, he⟩ := g_let_ex he
        rw [← hm14] at hM
        cases he
        exact g_vret E hM hret hlk dX11_mixes_144
      · rw [if_pos h5] at he
        refine lv_iload hx hb dX11_mixes_81 (lv_at hl 4 rfl) ?_
        refine lv_istore_n (lv' := [(3, .int v4), (0, .ref (B + 0)), (1, .int a1), (2, .int a2), (4, .int v4)]) hx hb dX11_mixes_83 rfl hl (by decide) rfl (fun ls hl => ?_)
        refine lv_goto (tgt := 145) hx hb dX11_mixes_84 (by decide) ?_
        exact w11_mixes_b145 (F := F) (a1 := a1) (a2 := a2) E hml hret hlk hs46 _ _ _ _ _ _ hM (lv_sub hl [1, 2, 3, 0, 4] rfl) he
    · rw [if_pos h4] at he
      refine lv_goto (tgt := 145) hx hb dX11_mixes_73 (by decide) ?_
      exact w11_mixes_b145 (F := F) (a1 := a1) (a2 := a2) E hml hret hlk hs46 _ _ _ _ _ _ hM (lv_sub hl [0, 1, 2, 3, 4] rfl) he

set_option maxHeartbeats 4000000 in
set_option maxRecDepth 100000 in
theorem w11_mixes_b46 (E : g_C p s m args c cX11_mixes RX11 D aC (g_Zs (g_A B 44))) (hml : c.maxLocals = 8) (hret : meth.sig.returnType = none) (hlk : meth.locks = false) {F : Nat} {q0 : g_M} {a1 : Int32} {a2 : Int32} : ∀ (v3 : Int32) (v4 : Int32) (mem : g_M) (H : Heap) (locs : List Loc) (ls : Array Slot), g_At D aC B yM 44 mem s.heap H locs → lv_has ls 8 [(0, .ref (B + 0)), (1, .int a1), (2, .int a2), (3, .int v3), (4, .int v4)] → f11_mixes_b46 F a1 a2 v3 v4 mem = some q0 → W p l e (g_rm 4) s m args below meth c H locs 0 0 (g_MQ below D aC B yM 44 args s none q0) (F0 m 46 ls []) := by
  have key : ∀ (nn : Nat) (x : Int32 × Int32 × g_M) (H : Heap) (locs : List Loc) (ls : Array Slot), g_At D aC B yM 44 x.2.2 s.heap H locs → lv_has ls 8 [(0, .ref (B + 0)), (1, .int a1), (2, .int a2), (3, .int x.1), (4, .int x.2.1)] → g_fix (fun sf x => f11_mixes_b46_body F a1 a2 (fun v3 v4 mem => sf (v3, v4, mem)) x.1 x.2.1 x.2.2) nn x = some q0 → W p l e (g_rm 4) s m args below meth c H locs 0 0 (g_MQ below D aC B yM 44 args s none q0) (F0 m 46 ls []) := by
    intro nn
    induction nn with
    | zero => intro x H locs ls hM hl he; simp [g_fix] at he
    | succ nn ih =>
      intro x H locs ls hM hl he
      exact w11_mixes_b46_body (F := F) (a1 := a1) (a2 := a2) E hml hret hlk (fun v3 v4 mem H locs ls hM hl he => ih (v3, v4, mem) H locs ls hM hl he) x.1 x.2.1 x.2.2 H locs ls hM hl he
  intro v3 v4 mem H locs ls hM hl he
  exact key F (v3, v4, mem) H locs ls hM hl he

set_option maxHeartbeats 4000000 in
set_option maxRecDepth 100000 in
theorem w11_mixes_b41 (E : g_C p s m args c cX11_mixes RX11 D aC (g_Zs (g_A B 44))) (hml : c.maxLocals = 8) (hret : meth.sig.returnType = none) (hlk : meth.locks = false) {F : Nat} {q0 : g_M} {a1 : Int32} {a2 : Int32} : ∀ (mem : g_M) (H : Heap) (locs : List Loc) (ls : Array Slot), g_At D aC B yM 44 mem s.heap H locs → lv_has ls 8 [(0, .ref (B + 0)), (1, .int a1), (2, .int a2)] → f11_mixes_b41 F a1 a2 mem = some q0 → W p l e (g_rm 4) s m args below meth c H locs 0 0 (g_MQ below D aC B yM 44 args s none q0) (F0 m 41 ls []) := by
  intro mem H locs ls hM hl he
  unfold f11_mixes_b41 at he
  have hx := E.1
  have hb := E.2.1
  have hown := E.2.2.1
  have hts := E.2.2.2.1
  refine lv_iconst (v := (-1 : Int32)) hx hb dX11_mixes_41 rfl ?_
  refine lv_istore_n (lv' := [(3, .int (-1 : Int32)), (0, .ref (B + 0)), (1, .int a1), (2, .int a2)]) hx hb dX11_mixes_42 rfl hl (by decide) rfl (fun ls hl => ?_)
  refine lv_iconst (v := (0 : Int32)) hx hb dX11_mixes_43 rfl ?_
  refine lv_istore (lv' := [(4, .int (0 : Int32)), (3, .int (-1 : Int32)), (0, .ref (B + 0)), (1, .int a1), (2, .int a2)]) hx hb dX11_mixes_44 hl (by decide) rfl (fun ls hl => ?_)
  exact w11_mixes_b46 (F := F) (a1 := a1) (a2 := a2) E hml hret hlk _ _ _ _ _ _ hM (lv_sub hl [2, 3, 4, 1, 0] rfl) he

set_option maxHeartbeats 4000000 in
set_option maxRecDepth 100000 in
theorem c11_mixes (l : Launch) (D : va_G) (aC : Nat → ClassId) (B : Nat) {F : Nat} {a1 : Int32} {a2 : Int32} {mem : g_M} {q0 : g_M} (he : f11_mixes F a1 a2 mem = some q0) : g_Met l yX11_mixes cX11_mixes 8 none 4 D aC B yM 44 mem [.ref (B + 0), .int a1, .int a2] none q0 := by
  refine g_ofW (by decide) (Nat.le_of_ble_eq_true rfl) ?_
  intro p e s m args below meth c ls E hml hret hlk hM hl
  have E : g_C p s m args c cX11_mixes RX11 D aC (g_Zs (g_A B 44)) := E
  have hx := E.1
  have hb := E.2.1
  have hown := E.2.2.1
  have hts := E.2.2.2.1
  have hl : lv_has ls 8 [(0, .ref (B + 0)), (1, .int a1), (2, .int a2)] := hl
  unfold f11_mixes at he
  refine lv_aload_n hx hb dX11_mixes_0 rfl (lv_at hl 0 rfl) ?_
  refine lv_iload_n hx hb dX11_mixes_1 rfl (lv_at hl 1 rfl) ?_
  refine lv_iconst (v := (-1 : Int32)) hx hb dX11_mixes_2 rfl ?_
  refine lv_iload_n hx hb dX11_mixes_3 rfl (lv_at hl 2 rfl) ?_
  refine lv_aload_n hx hb dX11_mixes_4 rfl (lv_at hl 0 rfl) ?_
  refine lv_iload_n hx hb dX11_mixes_5 rfl (lv_at hl 2 rfl) ?_
  obtain ⟨r15, hcr15, he⟩ := g_bind he
  refine g_callV [.int a2] (rest := [.int a2, .int (-1 : Int32), .int a1, .ref (B + 0)]) E hml hl.1 hM cv_X11_400 (c11_boardOf l D aC B hcr15) (o := 0) (Nat.le_of_ble_eq_true rfl) rfl (by decide) rfl rfl (Nat.le_of_ble_eq_true rfl) dX11_mixes_6 (fun H locs hM => ?_)
  refine W.eq (g2 := F0 m 9 ls [.int r15, .int a2, .int (-1 : Int32), .int a1, .ref (B + 0)]) rfl ?_
  refine lv_iconst (v := (0 : Int32)) hx hb dX11_mixes_9 rfl ?_
  obtain ⟨r16, hcr16, he⟩ := g_bind he
  refine g_callV [.int a1, .int (-1 : Int32), .int a2, .int r15, .int (0 : Int32)] (rest := []) E hml hl.1 hM cv_X11_372 (c11_calls l D aC B hcr16) (o := 0) (Nat.le_of_ble_eq_true rfl) rfl (by decide) rfl rfl (Nat.le_of_ble_eq_true rfl) dX11_mixes_10 (fun H locs hM => ?_)
  refine W.eq (g2 := F0 m 13 ls []) rfl ?_
  refine lv_aload_n hx hb dX11_mixes_13 rfl (lv_at hl 0 rfl) ?_
  refine lv_iconst (v := (2 : Int32)) hx hb dX11_mixes_14 rfl ?_
  obtain ⟨r17, hcr17, he⟩ := g_bind he
  refine g_callV [.int (2 : Int32)] (rest := []) E hml hl.1 hM cv_X11_352 (c11_hasLaw l D aC B hcr17) (o := 0) (Nat.le_of_ble_eq_true rfl) rfl (by decide) rfl rfl (Nat.le_of_ble_eq_true rfl) dX11_mixes_15 (fun H locs hM => ?_)
  refine W.eq (g2 := F0 m 18 ls [.int r17]) rfl ?_
  refine lv_if_eq (tgt := 41) hx hb dX11_mixes_18 (by decide) (fun h18 => ?_) (fun h18 => ?_)
  · rw [if_pos h18] at he
    exact w11_mixes_b41 (F := F) (a1 := a1) (a2 := a2) E hml hret hlk _ _ _ _ hM (lv_sub hl [0, 1, 2] rfl) he
  · rw [if_neg h18] at he
    refine lv_aload_n hx hb dX11_mixes_21 rfl (lv_at hl 0 rfl) ?_
    refine lv_iconst (v := (2 : Int32)) hx hb dX11_mixes_22 rfl ?_
    obtain ⟨r19, hcr19, he⟩ := g_bind he
    refine g_callV [.int (2 : Int32)] (rest := []) E hml hl.1 hM cv_X11_355 (c11_goes l D aC B hcr19) (o := 0) (Nat.le_of_ble_eq_true rfl) rfl (by decide) rfl rfl (Nat.le_of_ble_eq_true rfl) dX11_mixes_23 (fun H locs hM => ?_)
    refine W.eq (g2 := F0 m 26 ls [.int r19.1]) rfl ?_
    refine lv_if_eq (tgt := 41) hx hb dX11_mixes_26 (by decide) (fun h20 => ?_) (fun h20 => ?_)
    · rw [if_pos h20] at he
      exact w11_mixes_b41 (F := F) (a1 := a1) (a2 := a2) E hml hret hlk _ _ _ _ hM (lv_sub hl [0, 1, 2] rfl) he
    · rw [if_neg h20] at he
      refine lv_aload_n hx hb dX11_mixes_29 rfl (lv_at hl 0 rfl) ?_
      refine g_getP E hM (o := 0) (Nat.le_of_ble_eq_true rfl) rfl fl_X11_81 (q := 23) rfl dX11_mixes_30 ?_
      refine lv_iconst (v := (0 : Int32)) hx hb dX11_mixes_33 rfl ?_
      obtain ⟨h21, he⟩ := g_ck_some he
      refine g_lald E hM (o := 23) (Nat.le_of_ble_eq_true rfl) rfl h21 dX11_mixes_34 ?_
      refine lv_lconst (v := (0 : Int64)) hx hb dX11_mixes_35 rfl ?_
      refine W.lcmp hx hb dX11_mixes_36 ?_
      refine lv_if_ne (tgt := 41) hx hb dX11_mixes_37 (by decide) (fun h22 => ?_) (fun h22 => ?_)
      · rw [if_neg h22] at he
        exact w11_mixes_b41 (F := F) (a1 := a1) (a2 := a2) E hml hret hlk _ _ _ _ hM (lv_sub hl [0, 1, 2] rfl) he
      · rw [if_pos h22] at he
        cases he
        exact g_vret E hM hret hlk dX11_mixes_40

set_option maxHeartbeats 4000000 in
set_option maxRecDepth 100000 in
theorem w11_passes_b38 (E : g_C p s m args c cX11_passes RX11 D aC (g_Zs (g_A B 44))) (hml : c.maxLocals = 4) (hret : meth.sig.returnType = none) (hlk : meth.locks = false) {F : Nat} {q0 : g_M} {a1 : Int32} {a2 : Int32} {s7 : Int32 → g_M → Option (g_M)} (hs7 : ∀ (v3 : Int32) (mem : g_M) (H : Heap) (locs : List Loc) (ls : Array Slot), g_At D aC B yM 44 mem s.heap H locs → lv_has ls 4 [(0, .ref (B + 0)), (1, .int a1), (2, .int a2), (3, .int v3)] → s7 v3 mem = some q0 → W p l e (g_rm 7) s m args below meth c H locs 0 0 (g_MQ below D aC B yM 44 args s none q0) (F0 m 7 ls [])) : ∀ (v3 : Int32) (mem : g_M) (H : Heap) (locs : List Loc) (ls : Array Slot), g_At D aC B yM 44 mem s.heap H locs → lv_has ls 4 [(0, .ref (B + 0)), (1, .int a1), (2, .int a2), (3, .int v3)] → f11_passes_b38 F a1 a2 s7 v3 mem = some q0 → W p l e (g_rm 7) s m args below meth c H locs 0 0 (g_MQ below D aC B yM 44 args s none q0) (F0 m 38 ls []) := by
  intro v3 mem H locs ls hM hl he
  unfold f11_passes_b38 at he
  have hx := E.1
  have hb := E.2.1
  have hown := E.2.2.1
  have hts := E.2.2.2.1
  obtain ⟨x1, hx1, he⟩ := g_let_ex he
  refine lv_iinc (v := x1) (lv' := [(3, .int x1), (0, .ref (B + 0)), (1, .int a1), (2, .int a2)]) hx hb dX11_passes_38 hl (k := 3) rfl (by rw [hx1]; rfl) (by decide) rfl (fun ls hl => ?_)
  refine lv_goto (tgt := 7) hx hb dX11_passes_41 (by decide) ?_
  exact hs7 _ _ _ _ _ hM (lv_sub hl [1, 2, 3, 0] rfl) he

set_option maxHeartbeats 4000000 in
set_option maxRecDepth 100000 in
theorem w11_passes_b136 (E : g_C p s m args c cX11_passes RX11 D aC (g_Zs (g_A B 44))) (hml : c.maxLocals = 4) (hret : meth.sig.returnType = none) (hlk : meth.locks = false) {F : Nat} {q0 : g_M} {a1 : Int32} {a2 : Int32} {s94 : Int32 → g_M → Option (g_M)} (hs94 : ∀ (v3 : Int32) (mem : g_M) (H : Heap) (locs : List Loc) (ls : Array Slot), g_At D aC B yM 44 mem s.heap H locs → lv_has ls 4 [(0, .ref (B + 0)), (1, .int a1), (3, .int v3)] → s94 v3 mem = some q0 → W p l e (g_rm 7) s m args below meth c H locs 0 0 (g_MQ below D aC B yM 44 args s none q0) (F0 m 94 ls [])) : ∀ (v3 : Int32) (mem : g_M) (H : Heap) (locs : List Loc) (ls : Array Slot), g_At D aC B yM 44 mem s.heap H locs → lv_has ls 4 [(0, .ref (B + 0)), (1, .int a1), (3, .int v3)] → f11_passes_b136 F a1 a2 s94 v3 mem = some q0 → W p l e (g_rm 7) s m args below meth c H locs 0 0 (g_MQ below D aC B yM 44 args s none q0) (F0 m 136 ls []) := by
  intro v3 mem H locs ls hM hl he
  unfold f11_passes_b136 at he
  have hx := E.1
  have hb := E.2.1
  have hown := E.2.2.1
  have hts := E.2.2.2.1
  obtain ⟨x2, hx2, he⟩ := g_let_ex he
  refine lv_iinc (v := x2) (lv' := [(3, .int x2), (0, .ref (B + 0)), (1, .int a1)]) hx hb dX11_passes_136 hl (k := 2) rfl (by rw [hx2]; rfl) (by decide) rfl (fun ls hl => ?_)
  refine lv_goto (tgt := 94) hx hb dX11_passes_139 (by decide) ?_
  exact hs94 _ _ _ _ _ hM (lv_sub hl [1, 2, 0] rfl) he

set_option maxHeartbeats 4000000 in
set_option maxRecDepth 100000 in
theorem w11_passes_b94_body (E : g_C p s m args c cX11_passes RX11 D aC (g_Zs (g_A B 44))) (hml : c.maxLocals = 4) (hret : meth.sig.returnType = none) (hlk : meth.locks = false) {F : Nat} {q0 : g_M} {a1 : Int32} {a2 : Int32} {s94 : Int32 → g_M → Option (g_M)} (hs94 : ∀ (v3 : Int32) (mem : g_M) (H : Heap) (locs : List Loc) (ls : Array Slot), g_At D aC B yM 44 mem s.heap H locs → lv_has ls 4 [(0, .ref (B + 0)), (1, .int a1), (3, .int v3)] → s94 v3 mem = some q0 → W p l e (g_rm 7) s m args below meth c H locs 0 0 (g_MQ below D aC B yM 44 args s none q0) (F0 m 94 ls [])) : ∀ (v3 : Int32) (mem : g_M) (H : Heap) (locs : List Loc) (ls : Array Slot), g_At D aC B yM 44 mem s.heap H locs → lv_has ls 4 [(0, .ref (B + 0)), (1, .int a1), (3, .int v3)] → f11_passes_b94_body F a1 a2 s94 v3 mem = some q0 → W p l e (g_rm 7) s m args below meth c H locs 0 0 (g_MQ below D aC B yM 44 args s none q0) (F0 m 94 ls []) := by
  intro v3 mem H locs ls hM hl he
  unfold f11_passes_b94_body at he
  have hx := E.1
  have hb := E.2.1
  have hown := E.2.2.1
  have hts := E.2.2.2.1
  refine lv_iload_n hx hb dX11_passes_94 rfl (lv_at hl 2 rfl) ?_
  refine lv_bipush (v := (25 : Int32)) hx hb dX11_passes_95 rfl ?_
  refine lv_icmp_ge (tgt := 142) hx hb dX11_passes_97 (by decide) (fun h3 => ?_) (fun h3 => ?_)
  · rw [if_neg (Int32.not_lt.mpr h3)] at he
    refine lv_aload_n hx hb dX11_passes_142 rfl (lv_at hl 0 rfl) ?_
    refine lv_iconst (v := (0 : Int32)) hx hb dX11_passes_143 rfl ?_
    refine g_putI E hM (o := 0) (Nat.le_of_ble_eq_true rfl) rfl fp_X11_346 dX11_passes_144 (fun H locs hM => ?_)
    obtain ⟨m8, hm8, he⟩ := g_let_ex he
    rw [← hm8] at hM
    refine lv_aload_n hx hb dX11_passes_147 rfl (lv_at hl 0 rfl) ?_
    refine g_getP E hM (o := 0) (Nat.le_of_ble_eq_true rfl) rfl fl_X11_84 (q := 24) rfl dX11_passes_148 ?_
    refine lv_iload_n hx hb dX11_passes_151 rfl (lv_at hl 1 rfl) ?_
    refine lv_dup2_11 hx hb dX11_passes_152 rfl rfl ?_
    obtain ⟨h9, he⟩ := g_ck_some he
    refine g_iald E hM (o := 24) (Nat.le_of_ble_eq_true rfl) rfl h9 dX11_passes_153 ?_
    refine lv_iconst (v := (1 : Int32)) hx hb dX11_passes_154 rfl ?_
    refine lv_iadd hx hb dX11_passes_155 ?_
    obtain ⟨h10, he⟩ := g_ck_some he
    refine g_iast E hM (o := 24) (Nat.le_of_ble_eq_true rfl) rfl h10 dX11_passes_156 (fun H locs hM => ?_)
    obtain ⟨m11, hm11, he⟩ := g_let_ex he
    rw [← hm11] at hM
    cases he
    exact g_vret E hM hret hlk dX11_passes_157
  · rw [if_pos (Int32.not_le.mp h3)] at he
    refine lv_aload_n hx hb dX11_passes_100 rfl (lv_at hl 0 rfl) ?_
    refine g_getI E hM (o := 0) (Nat.le_of_ble_eq_true rfl) rfl fl_X11_346 dX11_passes_101 ?_
    refine lv_iload_n hx hb dX11_passes_104 rfl (lv_at hl 2 rfl) ?_
    refine lv_ishr hx hb dX11_passes_105 ?_
    refine lv_iconst (v := (1 : Int32)) hx hb dX11_passes_106 rfl ?_
    refine lv_iand hx hb dX11_passes_107 ?_
    refine lv_iconst (v := (1 : Int32)) hx hb dX11_passes_108 rfl ?_
    refine lv_icmp_ne (tgt := 136) hx hb dX11_passes_109 (by decide) (fun h4 => ?_) (fun h4 => ?_)
    · rw [if_neg h4] at he
      exact w11_passes_b136 (F := F) (a1 := a1) (a2 := a2) E hml hret hlk hs94 _ _ _ _ _ hM (lv_sub hl [0, 1, 2] rfl) he
    · rw [if_pos h4] at he
      refine lv_aload_n hx hb dX11_passes_112 rfl (lv_at hl 0 rfl) ?_
      refine g_getP E hM (o := 0) (Nat.le_of_ble_eq_true rfl) rfl fl_X11_102 (q := 30) rfl dX11_passes_113 ?_
      refine lv_bipush (v := (25 : Int32)) hx hb dX11_passes_116 rfl ?_
      refine lv_iload_n hx hb dX11_passes_118 rfl (lv_at hl 1 rfl) ?_
      refine lv_imul hx hb dX11_passes_119 ?_
      refine lv_iload_n hx hb dX11_passes_120 rfl (lv_at hl 2 rfl) ?_
      refine lv_iadd hx hb dX11_passes_121 ?_
      refine lv_iconst (v := (1 : Int32)) hx hb dX11_passes_122 rfl ?_
      refine lv_aload_n hx hb dX11_passes_123 rfl (lv_at hl 0 rfl) ?_
      refine g_getP E hM (o := 0) (Nat.le_of_ble_eq_true rfl) rfl fl_X11_102 (q := 30) rfl dX11_passes_124 ?_
      refine lv_bipush (v := (25 : Int32)) hx hb dX11_passes_127 rfl ?_
      refine lv_iload_n hx hb dX11_passes_129 rfl (lv_at hl 1 rfl) ?_
      refine lv_imul hx hb dX11_passes_130 ?_
      refine lv_iload_n hx hb dX11_passes_131 rfl (lv_at hl 2 rfl) ?_
      refine lv_iadd hx hb dX11_passes_132 ?_
      obtain ⟨h5, he⟩ := g_ck_some he
      refine g_iald E hM (o := 30) (Nat.le_of_ble_eq_true rfl) rfl h5 dX11_passes_133 ?_
      refine lv_isub hx hb dX11_passes_134 ?_
      obtain ⟨h6, he⟩ := g_ck_some he
      refine g_iast E hM (o := 30) (Nat.le_of_ble_eq_true rfl) rfl h6 dX11_passes_135 (fun H locs hM => ?_)
      obtain ⟨m7, hm7, he⟩ := g_let_ex he
      rw [← hm7] at hM
      exact w11_passes_b136 (F := F) (a1 := a1) (a2 := a2) E hml hret hlk hs94 _ _ _ _ _ hM (lv_sub hl [0, 1, 2] rfl) he

set_option maxHeartbeats 4000000 in
set_option maxRecDepth 100000 in
theorem w11_passes_b94 (E : g_C p s m args c cX11_passes RX11 D aC (g_Zs (g_A B 44))) (hml : c.maxLocals = 4) (hret : meth.sig.returnType = none) (hlk : meth.locks = false) {F : Nat} {q0 : g_M} {a1 : Int32} {a2 : Int32} : ∀ (v3 : Int32) (mem : g_M) (H : Heap) (locs : List Loc) (ls : Array Slot), g_At D aC B yM 44 mem s.heap H locs → lv_has ls 4 [(0, .ref (B + 0)), (1, .int a1), (3, .int v3)] → f11_passes_b94 F a1 a2 v3 mem = some q0 → W p l e (g_rm 7) s m args below meth c H locs 0 0 (g_MQ below D aC B yM 44 args s none q0) (F0 m 94 ls []) := by
  have key : ∀ (nn : Nat) (x : Int32 × g_M) (H : Heap) (locs : List Loc) (ls : Array Slot), g_At D aC B yM 44 x.2 s.heap H locs → lv_has ls 4 [(0, .ref (B + 0)), (1, .int a1), (3, .int x.1)] → g_fix (fun sf x => f11_passes_b94_body F a1 a2 (fun v3 mem => sf (v3, mem)) x.1 x.2) nn x = some q0 → W p l e (g_rm 7) s m args below meth c H locs 0 0 (g_MQ below D aC B yM 44 args s none q0) (F0 m 94 ls []) := by
    intro nn
    induction nn with
    | zero => intro x H locs ls hM hl he; simp [g_fix] at he
    | succ nn ih =>
      intro x H locs ls hM hl he
      exact w11_passes_b94_body (F := F) (a1 := a1) (a2 := a2) E hml hret hlk (fun v3 mem H locs ls hM hl he => ih (v3, mem) H locs ls hM hl he) x.1 x.2 H locs ls hM hl he
  intro v3 mem H locs ls hM hl he
  exact key F (v3, mem) H locs ls hM hl he

set_option maxHeartbeats 4000000 in
set_option maxRecDepth 100000 in
theorem w11_passes_b92 (E : g_C p s m args c cX11_passes RX11 D aC (g_Zs (g_A B 44))) (hml : c.maxLocals = 4) (hret : meth.sig.returnType = none) (hlk : meth.locks = false) {F : Nat} {q0 : g_M} {a1 : Int32} {a2 : Int32} : ∀ (mem : g_M) (H : Heap) (locs : List Loc) (ls : Array Slot), g_At D aC B yM 44 mem s.heap H locs → lv_has ls 4 [(0, .ref (B + 0)), (1, .int a1)] → f11_passes_b92 F a1 a2 mem = some q0 → W p l e (g_rm 7) s m args below meth c H locs 0 0 (g_MQ below D aC B yM 44 args s none q0) (F0 m 92 ls []) := by
  intro mem H locs ls hM hl he
  unfold f11_passes_b92 at he
  have hx := E.1
  have hb := E.2.1
  have hown := E.2.2.1
  have hts := E.2.2.2.1
  refine lv_iconst (v := (0 : Int32)) hx hb dX11_passes_92 rfl ?_
  refine lv_istore_n (lv' := [(3, .int (0 : Int32)), (0, .ref (B + 0)), (1, .int a1)]) hx hb dX11_passes_93 rfl hl (by decide) rfl (fun ls hl => ?_)
  exact w11_passes_b94 (F := F) (a1 := a1) (a2 := a2) E hml hret hlk _ _ _ _ _ hM (lv_sub hl [1, 2, 0] rfl) he

set_option maxHeartbeats 4000000 in
set_option maxRecDepth 100000 in
theorem w11_passes_b70_body (E : g_C p s m args c cX11_passes RX11 D aC (g_Zs (g_A B 44))) (hml : c.maxLocals = 4) (hret : meth.sig.returnType = none) (hlk : meth.locks = false) {F : Nat} {q0 : g_M} {a1 : Int32} {a2 : Int32} {s70 : Int32 → g_M → Option (g_M)} (hs70 : ∀ (v3 : Int32) (mem : g_M) (H : Heap) (locs : List Loc) (ls : Array Slot), g_At D aC B yM 44 mem s.heap H locs → lv_has ls 4 [(0, .ref (B + 0)), (1, .int a1), (3, .int v3)] → s70 v3 mem = some q0 → W p l e (g_rm 7) s m args below meth c H locs 0 0 (g_MQ below D aC B yM 44 args s none q0) (F0 m 70 ls [])) : ∀ (v3 : Int32) (mem : g_M) (H : Heap) (locs : List Loc) (ls : Array Slot), g_At D aC B yM 44 mem s.heap H locs → lv_has ls 4 [(0, .ref (B + 0)), (1, .int a1), (3, .int v3)] → f11_passes_b70_body F a1 a2 s70 v3 mem = some q0 → W p l e (g_rm 7) s m args below meth c H locs 0 0 (g_MQ below D aC B yM 44 args s none q0) (F0 m 70 ls []) := by
  intro v3 mem H locs ls hM hl he
  unfold f11_passes_b70_body at he
  have hx := E.1
  have hb := E.2.1
  have hown := E.2.2.1
  have hts := E.2.2.2.1
  refine lv_iload_n hx hb dX11_passes_70 rfl (lv_at hl 2 rfl) ?_
  refine lv_aload_n hx hb dX11_passes_71 rfl (lv_at hl 0 rfl) ?_
  refine g_getP E hM (o := 0) (Nat.le_of_ble_eq_true rfl) rfl fl_X11_13 (q := 2) rfl dX11_passes_72 ?_
  refine lv_iconst (v := (1 : Int32)) hx hb dX11_passes_75 rfl ?_
  obtain ⟨h12, he⟩ := g_ck_some he
  refine g_iald E hM (o := 2) (Nat.le_of_ble_eq_true rfl) rfl h12 dX11_passes_76 ?_
  refine lv_icmp_ge (tgt := 92) hx hb dX11_passes_77 (by decide) (fun h13 => ?_) (fun h13 => ?_)
  · rw [if_neg (Int32.not_lt.mpr h13)] at he
    exact w11_passes_b92 (F := F) (a1 := a1) (a2 := a2) E hml hret hlk _ _ _ _ hM (lv_sub hl [0, 1] rfl) he
  · rw [if_pos (Int32.not_le.mp h13)] at he
    refine lv_aload_n hx hb dX11_passes_80 rfl (lv_at hl 0 rfl) ?_
    refine lv_iload_n hx hb dX11_passes_81 rfl (lv_at hl 1 rfl) ?_
    refine lv_iload_n hx hb dX11_passes_82 rfl (lv_at hl 2 rfl) ?_
    obtain ⟨r14, hcr14, he⟩ := g_bind he
    refine g_callV [.int a1, .int v3] (rest := []) E hml hl.1 hM cv_X11_413 (c11_mixes l D aC B hcr14) (o := 0) (Nat.le_of_ble_eq_true rfl) rfl (by decide) rfl rfl (Nat.le_of_ble_eq_true rfl) dX11_passes_83 (fun H locs hM => ?_)
    refine W.eq (g2 := F0 m 86 ls []) rfl ?_
    obtain ⟨x15, hx15, he⟩ := g_let_ex he
    refine lv_iinc (v := x15) (lv' := [(3, .int x15), (0, .ref (B + 0)), (1, .int a1)]) hx hb dX11_passes_86 hl (k := 2) rfl (by rw [hx15]; rfl) (by decide) rfl (fun ls hl => ?_)
    refine lv_goto (tgt := 70) hx hb dX11_passes_89 (by decide) ?_
    exact hs70 _ _ _ _ _ hM (lv_sub hl [1, 2, 0] rfl) he

set_option maxHeartbeats 4000000 in
set_option maxRecDepth 100000 in
theorem w11_passes_b70 (E : g_C p s m args c cX11_passes RX11 D aC (g_Zs (g_A B 44))) (hml : c.maxLocals = 4) (hret : meth.sig.returnType = none) (hlk : meth.locks = false) {F : Nat} {q0 : g_M} {a1 : Int32} {a2 : Int32} : ∀ (v3 : Int32) (mem : g_M) (H : Heap) (locs : List Loc) (ls : Array Slot), g_At D aC B yM 44 mem s.heap H locs → lv_has ls 4 [(0, .ref (B + 0)), (1, .int a1), (3, .int v3)] → f11_passes_b70 F a1 a2 v3 mem = some q0 → W p l e (g_rm 7) s m args below meth c H locs 0 0 (g_MQ below D aC B yM 44 args s none q0) (F0 m 70 ls []) := by
  have key : ∀ (nn : Nat) (x : Int32 × g_M) (H : Heap) (locs : List Loc) (ls : Array Slot), g_At D aC B yM 44 x.2 s.heap H locs → lv_has ls 4 [(0, .ref (B + 0)), (1, .int a1), (3, .int x.1)] → g_fix (fun sf x => f11_passes_b70_body F a1 a2 (fun v3 mem => sf (v3, mem)) x.1 x.2) nn x = some q0 → W p l e (g_rm 7) s m args below meth c H locs 0 0 (g_MQ below D aC B yM 44 args s none q0) (F0 m 70 ls []) := by
    intro nn
    induction nn with
    | zero => intro x H locs ls hM hl he; simp [g_fix] at he
    | succ nn ih =>
      intro x H locs ls hM hl he
      exact w11_passes_b70_body (F := F) (a1 := a1) (a2 := a2) E hml hret hlk (fun v3 mem H locs ls hM hl he => ih (v3, mem) H locs ls hM hl he) x.1 x.2 H locs ls hM hl he
  intro v3 mem H locs ls hM hl he
  exact key F (v3, mem) H locs ls hM hl he

set_option maxHeartbeats 4000000 in
set_option maxRecDepth 100000 in
theorem w11_passes_b7_body (E : g_C p s m args c cX11_passes RX11 D aC (g_Zs (g_A B 44))) (hml : c.maxLocals = 4) (hret : meth.sig.returnType = none) (hlk : meth.locks = false) {F : Nat} {q0 : g_M} {a1 : Int32} {a2 : Int32} {s7 : Int32 → g_M → Option (g_M)} (hs7 : ∀ (v3 : Int32) (mem : g_M) (H : Heap) (locs : List Loc) (ls : Array Slot), g_At D aC B yM 44 mem s.heap H locs → lv_has ls 4 [(0, .ref (B + 0)), (1, .int a1), (2, .int a2), (3, .int v3)] → s7 v3 mem = some q0 → W p l e (g_rm 7) s m args below meth c H locs 0 0 (g_MQ below D aC B yM 44 args s none q0) (F0 m 7 ls [])) : ∀ (v3 : Int32) (mem : g_M) (H : Heap) (locs : List Loc) (ls : Array Slot), g_At D aC B yM 44 mem s.heap H locs → lv_has ls 4 [(0, .ref (B + 0)), (1, .int a1), (2, .int a2), (3, .int v3)] → f11_passes_b7_body F a1 a2 s7 v3 mem = some q0 → W p l e (g_rm 7) s m args below meth c H locs 0 0 (g_MQ below D aC B yM 44 args s none q0) (F0 m 7 ls []) := by
  intro v3 mem H locs ls hM hl he
  unfold f11_passes_b7_body at he
  have hx := E.1
  have hb := E.2.1
  have hown := E.2.2.1
  have hts := E.2.2.2.1
  refine lv_iload_n hx hb dX11_passes_7 rfl (lv_at hl 3 rfl) ?_
  refine lv_aload_n hx hb dX11_passes_8 rfl (lv_at hl 0 rfl) ?_
  refine g_getP E hM (o := 0) (Nat.le_of_ble_eq_true rfl) rfl fl_X11_13 (q := 2) rfl dX11_passes_9 ?_
  refine lv_iconst (v := (4 : Int32)) hx hb dX11_passes_12 rfl ?_
  obtain ⟨h16, he⟩ := g_ck_some he
  refine g_iald E hM (o := 2) (Nat.le_of_ble_eq_true rfl) rfl h16 dX11_passes_13 ?_
  refine lv_icmp_ge (tgt := 44) hx hb dX11_passes_14 (by decide) (fun h17 => ?_) (fun h17 => ?_)
  · rw [if_neg (Int32.not_lt.mpr h17)] at he
    refine lv_aload_n hx hb dX11_passes_44 rfl (lv_at hl 0 rfl) ?_
    refine lv_iload_n hx hb dX11_passes_45 rfl (lv_at hl 1 rfl) ?_
    obtain ⟨r22, hcr22, he⟩ := g_bind he
    refine g_callV [.int a1] (rest := []) E hml hl.1 hM cv_X11_406 (c11_loads l D aC B hcr22) (o := 0) (Nat.le_of_ble_eq_true rfl) rfl (by decide) rfl rfl (Nat.le_of_ble_eq_true rfl) dX11_passes_46 (fun H locs hM => ?_)
    refine W.eq (g2 := F0 m 49 ls []) rfl ?_
    refine lv_aload_n hx hb dX11_passes_49 rfl (lv_at hl 0 rfl) ?_
    refine lv_iload_n hx hb dX11_passes_50 rfl (lv_at hl 1 rfl) ?_
    refine lv_iload_n hx hb dX11_passes_51 rfl (lv_at hl 2 rfl) ?_
    obtain ⟨r23, hcr23, he⟩ := g_bind he
    refine g_callV [.int a1, .int a2] (rest := []) E hml hl.1 hM cv_X11_409 (c11_doesStorm l D aC B hcr23) (o := 0) (Nat.le_of_ble_eq_true rfl) rfl (by decide) rfl rfl (Nat.le_of_ble_eq_true rfl) dX11_passes_52 (fun H locs hM => ?_)
    refine W.eq (g2 := F0 m 55 ls [.int r23.1]) rfl ?_
    refine lv_if_eq (tgt := 92) hx hb dX11_passes_55 (by decide) (fun h24 => ?_) (fun h24 => ?_)
    · rw [if_pos h24] at he
      exact w11_passes_b92 (F := F) (a1 := a1) (a2 := a2) E hml hret hlk _ _ _ _ hM (lv_sub hl [0, 1] rfl) he
    · rw [if_neg h24] at he
      refine lv_aload_n hx hb dX11_passes_58 rfl (lv_at hl 0 rfl) ?_
      refine g_getP E hM (o := 0) (Nat.le_of_ble_eq_true rfl) rfl fl_X11_90 (q := 26) rfl dX11_passes_59 ?_
      refine lv_iload_n hx hb dX11_passes_62 rfl (lv_at hl 1 rfl) ?_
      refine lv_dup2_11 hx hb dX11_passes_63 rfl rfl ?_
      obtain ⟨h25, he⟩ := g_ck_some he
      refine g_iald E hM (o := 26) (Nat.le_of_ble_eq_true rfl) rfl h25 dX11_passes_64 ?_
      refine lv_iconst (v := (1 : Int32)) hx hb dX11_passes_65 rfl ?_
      refine lv_iadd hx hb dX11_passes_66 ?_
      obtain ⟨h26, he⟩ := g_ck_some he
      refine g_iast E hM (o := 26) (Nat.le_of_ble_eq_true rfl) rfl h26 dX11_passes_67 (fun H locs hM => ?_)
      obtain ⟨m27, hm27, he⟩ := g_let_ex he
      rw [← hm27] at hM
      refine lv_iconst (v := (0 : Int32)) hx hb dX11_passes_68 rfl ?_
      refine lv_istore_n (lv' := [(3, .int (0 : Int32)), (0, .ref (B + 0)), (1, .int a1), (2, .int a2)]) hx hb dX11_passes_69 rfl hl (by decide) rfl (fun ls hl => ?_)
      exact w11_passes_b70 (F := F) (a1 := a1) (a2 := a2) E hml hret hlk _ _ _ _ _ hM (lv_sub hl [1, 2, 0] rfl) he
  · rw [if_pos (Int32.not_le.mp h17)] at he
    refine lv_aload_n hx hb dX11_passes_17 rfl (lv_at hl 0 rfl) ?_
    refine g_getP E hM (o := 0) (Nat.le_of_ble_eq_true rfl) rfl fl_X11_55 (q := 16) rfl dX11_passes_18 ?_
    refine lv_iload_n hx hb dX11_passes_21 rfl (lv_at hl 3 rfl) ?_
    obtain ⟨h18, he⟩ := g_ck_some he
    refine g_iald E hM (o := 16) (Nat.le_of_ble_eq_true rfl) rfl h18 dX11_passes_22 ?_
    refine lv_aload_n hx hb dX11_passes_23 rfl (lv_at hl 0 rfl) ?_
    refine g_getP E hM (o := 0) (Nat.le_of_ble_eq_true rfl) rfl fl_X11_84 (q := 24) rfl dX11_passes_24 ?_
    refine lv_iload_n hx hb dX11_passes_27 rfl (lv_at hl 1 rfl) ?_
    obtain ⟨h19, he⟩ := g_ck_some he
    refine g_iald E hM (o := 24) (Nat.le_of_ble_eq_true rfl) rfl h19 dX11_passes_28 ?_
    refine lv_icmp_ne (tgt := 38) hx hb dX11_passes_29 (by decide) (fun h20 => ?_) (fun h20 => ?_)
    · rw [if_neg h20] at he
      exact w11_passes_b38 (F := F) (a1 := a1) (a2 := a2) E hml hret hlk hs7 _ _ _ _ _ hM (lv_sub hl [0, 1, 2, 3] rfl) he
    · rw [if_pos h20] at he
      refine lv_aload_n hx hb dX11_passes_32 rfl (lv_at hl 0 rfl) ?_
      refine lv_iload_n hx hb dX11_passes_33 rfl (lv_at hl 1 rfl) ?_
      refine lv_iload_n hx hb dX11_passes_34 rfl (lv_at hl 3 rfl) ?_
      obtain ⟨r21, hcr21, he⟩ := g_bind he
      refine g_callV [.int a1, .int v3] (rest := []) E hml hl.1 hM cv_X11_403 (c11_wants l D aC B hcr21) (o := 0) (Nat.le_of_ble_eq_true rfl) rfl (by decide) rfl rfl (Nat.le_of_ble_eq_true rfl) dX11_passes_35 (fun H locs hM => ?_)
      refine W.eq (g2 := F0 m 38 ls []) rfl ?_
      exact w11_passes_b38 (F := F) (a1 := a1) (a2 := a2) E hml hret hlk hs7 _ _ _ _ _ hM (lv_sub hl [0, 1, 2, 3] rfl) he

set_option maxHeartbeats 4000000 in
set_option maxRecDepth 100000 in
theorem w11_passes_b7 (E : g_C p s m args c cX11_passes RX11 D aC (g_Zs (g_A B 44))) (hml : c.maxLocals = 4) (hret : meth.sig.returnType = none) (hlk : meth.locks = false) {F : Nat} {q0 : g_M} {a1 : Int32} {a2 : Int32} : ∀ (v3 : Int32) (mem : g_M) (H : Heap) (locs : List Loc) (ls : Array Slot), g_At D aC B yM 44 mem s.heap H locs → lv_has ls 4 [(0, .ref (B + 0)), (1, .int a1), (2, .int a2), (3, .int v3)] → f11_passes_b7 F a1 a2 v3 mem = some q0 → W p l e (g_rm 7) s m args below meth c H locs 0 0 (g_MQ below D aC B yM 44 args s none q0) (F0 m 7 ls []) := by
  have key : ∀ (nn : Nat) (x : Int32 × g_M) (H : Heap) (locs : List Loc) (ls : Array Slot), g_At D aC B yM 44 x.2 s.heap H locs → lv_has ls 4 [(0, .ref (B + 0)), (1, .int a1), (2, .int a2), (3, .int x.1)] → g_fix (fun sf x => f11_passes_b7_body F a1 a2 (fun v3 mem => sf (v3, mem)) x.1 x.2) nn x = some q0 → W p l e (g_rm 7) s m args below meth c H locs 0 0 (g_MQ below D aC B yM 44 args s none q0) (F0 m 7 ls []) := by
    intro nn
    induction nn with
    | zero => intro x H locs ls hM hl he; simp [g_fix] at he
    | succ nn ih =>
      intro x H locs ls hM hl he
      exact w11_passes_b7_body (F := F) (a1 := a1) (a2 := a2) E hml hret hlk (fun v3 mem H locs ls hM hl he => ih (v3, mem) H locs ls hM hl he) x.1 x.2 H locs ls hM hl he
  intro v3 mem H locs ls hM hl he
  exact key F (v3, mem) H locs ls hM hl he

set_option maxHeartbeats 4000000 in
set_option maxRecDepth 100000 in
theorem c11_passes (l : Launch) (D : va_G) (aC : Nat → ClassId) (B : Nat) {F : Nat} {a1 : Int32} {a2 : Int32} {mem : g_M} {q0 : g_M} (he : f11_passes F a1 a2 mem = some q0) : g_Met l yX11_passes cX11_passes 4 none 7 D aC B yM 44 mem [.ref (B + 0), .int a1, .int a2] none q0 := by
  refine g_ofW (by decide) (Nat.le_of_ble_eq_true rfl) ?_
  intro p e s m args below meth c ls E hml hret hlk hM hl
  have E : g_C p s m args c cX11_passes RX11 D aC (g_Zs (g_A B 44)) := E
  have hx := E.1
  have hb := E.2.1
  have hown := E.2.2.1
  have hts := E.2.2.2.1
  have hl : lv_has ls 4 [(0, .ref (B + 0)), (1, .int a1), (2, .int a2)] := hl
  unfold f11_passes at he
  refine lv_aload_n hx hb dX11_passes_0 rfl (lv_at hl 0 rfl) ?_
  refine lv_iconst (v := (0 : Int32)) hx hb dX11_passes_1 rfl ?_
  refine g_putI E hM (o := 0) (Nat.le_of_ble_eq_true rfl) rfl fp_X11_346 dX11_passes_2 (fun H locs hM => ?_)
  obtain ⟨m28, hm28, he⟩ := g_let_ex he
  rw [← hm28] at hM
  refine lv_iconst (v := (0 : Int32)) hx hb dX11_passes_5 rfl ?_
  refine lv_istore_n (lv' := [(3, .int (0 : Int32)), (0, .ref (B + 0)), (1, .int a1), (2, .int a2)]) hx hb dX11_passes_6 rfl hl (by decide) rfl (fun ls hl => ?_)
  exact w11_passes_b7 (F := F) (a1 := a1) (a2 := a2) E hml hret hlk _ _ _ _ _ hM (lv_sub hl [1, 2, 3, 0] rfl) he

set_option maxHeartbeats 4000000 in
set_option maxRecDepth 100000 in
theorem w11_goesOn_b2_body (E : g_C p s m args c cX11_goesOn RX11 D aC (g_Zs (g_A B 44))) (hml : c.maxLocals = 3) (hret : meth.sig.returnType = none) (hlk : meth.locks = false) {F : Nat} {q0 : g_M} {a1 : Int32} {s2 : Int32 → g_M → Option (g_M)} (hs2 : ∀ (v2 : Int32) (mem : g_M) (H : Heap) (locs : List Loc) (ls : Array Slot), g_At D aC B yM 44 mem s.heap H locs → lv_has ls 3 [(0, .ref (B + 0)), (1, .int a1), (2, .int v2)] → s2 v2 mem = some q0 → W p l e (g_rm 8) s m args below meth c H locs 0 0 (g_MQ below D aC B yM 44 args s none q0) (F0 m 2 ls [])) : ∀ (v2 : Int32) (mem : g_M) (H : Heap) (locs : List Loc) (ls : Array Slot), g_At D aC B yM 44 mem s.heap H locs → lv_has ls 3 [(0, .ref (B + 0)), (1, .int a1), (2, .int v2)] → f11_goesOn_b2_body F a1 s2 v2 mem = some q0 → W p l e (g_rm 8) s m args below meth c H locs 0 0 (g_MQ below D aC B yM 44 args s none q0) (F0 m 2 ls []) := by
  intro v2 mem H locs ls hM hl he
  unfold f11_goesOn_b2_body at he
  have hx := E.1
  have hb := E.2.1
  have hown := E.2.2.1
  have hts := E.2.2.2.1
  refine lv_iload_n hx hb dX11_goesOn_2 rfl (lv_at hl 2 rfl) ?_
  refine lv_iload_n hx hb dX11_goesOn_3 rfl (lv_at hl 1 rfl) ?_
  refine lv_icmp_ge (tgt := 19) hx hb dX11_goesOn_4 (by decide) (fun h1 => ?_) (fun h1 => ?_)
  · rw [if_neg (Int32.not_lt.mpr h1)] at he
    cases he
    exact g_vret E hM hret hlk dX11_goesOn_19
  · rw [if_pos (Int32.not_le.mp h1)] at he
    refine lv_aload_n hx hb dX11_goesOn_7 rfl (lv_at hl 0 rfl) ?_
    refine lv_iconst (v := (1 : Int32)) hx hb dX11_goesOn_8 rfl ?_
    refine lv_iconst (v := (0 : Int32)) hx hb dX11_goesOn_9 rfl ?_
    obtain ⟨r2, hcr2, he⟩ := g_bind he
    refine g_callV [.int (1 : Int32), .int (0 : Int32)] (rest := []) E hml hl.1 hM cv_X11_416 (c11_passes l D aC B hcr2) (o := 0) (Nat.le_of_ble_eq_true rfl) rfl (by decide) rfl rfl (Nat.le_of_ble_eq_true rfl) dX11_goesOn_10 (fun H locs hM => ?_)
    refine W.eq (g2 := F0 m 13 ls []) rfl ?_
    obtain ⟨x3, hx3, he⟩ := g_let_ex he
    refine lv_iinc (v := x3) (lv' := [(2, .int x3), (0, .ref (B + 0)), (1, .int a1)]) hx hb dX11_goesOn_13 hl (k := 2) rfl (by rw [hx3]; rfl) (by decide) rfl (fun ls hl => ?_)
    refine lv_goto (tgt := 2) hx hb dX11_goesOn_16 (by decide) ?_
    exact hs2 _ _ _ _ _ hM (lv_sub hl [1, 2, 0] rfl) he

set_option maxHeartbeats 4000000 in
set_option maxRecDepth 100000 in
theorem w11_goesOn_b2 (E : g_C p s m args c cX11_goesOn RX11 D aC (g_Zs (g_A B 44))) (hml : c.maxLocals = 3) (hret : meth.sig.returnType = none) (hlk : meth.locks = false) {F : Nat} {q0 : g_M} {a1 : Int32} : ∀ (v2 : Int32) (mem : g_M) (H : Heap) (locs : List Loc) (ls : Array Slot), g_At D aC B yM 44 mem s.heap H locs → lv_has ls 3 [(0, .ref (B + 0)), (1, .int a1), (2, .int v2)] → f11_goesOn_b2 F a1 v2 mem = some q0 → W p l e (g_rm 8) s m args below meth c H locs 0 0 (g_MQ below D aC B yM 44 args s none q0) (F0 m 2 ls []) := by
  have key : ∀ (nn : Nat) (x : Int32 × g_M) (H : Heap) (locs : List Loc) (ls : Array Slot), g_At D aC B yM 44 x.2 s.heap H locs → lv_has ls 3 [(0, .ref (B + 0)), (1, .int a1), (2, .int x.1)] → g_fix (fun sf x => f11_goesOn_b2_body F a1 (fun v2 mem => sf (v2, mem)) x.1 x.2) nn x = some q0 → W p l e (g_rm 8) s m args below meth c H locs 0 0 (g_MQ below D aC B yM 44 args s none q0) (F0 m 2 ls []) := by
    intro nn
    induction nn with
    | zero => intro x H locs ls hM hl he; simp [g_fix] at he
    | succ nn ih =>
      intro x H locs ls hM hl he
      exact w11_goesOn_b2_body (F := F) (a1 := a1) E hml hret hlk (fun v2 mem H locs ls hM hl he => ih (v2, mem) H locs ls hM hl he) x.1 x.2 H locs ls hM hl he
  intro v2 mem H locs ls hM hl he
  exact key F (v2, mem) H locs ls hM hl he

set_option maxHeartbeats 4000000 in
set_option maxRecDepth 100000 in
theorem c11_goesOn (l : Launch) (D : va_G) (aC : Nat → ClassId) (B : Nat) {F : Nat} {a1 : Int32} {mem : g_M} {q0 : g_M} (he : f11_goesOn F a1 mem = some q0) : g_Met l yX11_goesOn cX11_goesOn 3 none 8 D aC B yM 44 mem [.ref (B + 0), .int a1] none q0 := by
  refine g_ofW (by decide) (Nat.le_of_ble_eq_true rfl) ?_
  intro p e s m args below meth c ls E hml hret hlk hM hl
  have E : g_C p s m args c cX11_goesOn RX11 D aC (g_Zs (g_A B 44)) := E
  have hx := E.1
  have hb := E.2.1
  have hown := E.2.2.1
  have hts := E.2.2.2.1
  have hl : lv_has ls 3 [(0, .ref (B + 0)), (1, .int a1)] := hl
  unfold f11_goesOn at he
  refine lv_iconst (v := (0 : Int32)) hx hb dX11_goesOn_0 rfl ?_
  refine lv_istore_n (lv' := [(2, .int (0 : Int32)), (0, .ref (B + 0)), (1, .int a1)]) hx hb dX11_goesOn_1 rfl hl (by decide) rfl (fun ls hl => ?_)
  exact w11_goesOn_b2 (F := F) (a1 := a1) E hml hret hlk _ _ _ _ _ hM (lv_sub hl [1, 2, 0] rfl) he

set_option maxHeartbeats 4000000 in
set_option maxRecDepth 100000 in
theorem c11_runs (l : Launch) (D : va_G) (aC : Nat → ClassId) (B : Nat) {F : Nat} {a1 : Int32} {mem : g_M} {q0 : g_M} (he : f11_runs F a1 mem = some q0) : g_Met l yX11_runs cX11_runs 2 none 9 D aC B yM 44 mem [.ref (B + 0), .int a1] none q0 := by
  refine g_ofW (by decide) (Nat.le_of_ble_eq_true rfl) ?_
  intro p e s m args below meth c ls E hml hret hlk hM hl
  have E : g_C p s m args c cX11_runs RX11 D aC (g_Zs (g_A B 44)) := E
  have hx := E.1
  have hb := E.2.1
  have hown := E.2.2.1
  have hts := E.2.2.2.1
  have hl : lv_has ls 2 [(0, .ref (B + 0)), (1, .int a1)] := hl
  unfold f11_runs at he
  refine lv_aload_n hx hb dX11_runs_0 rfl (lv_at hl 0 rfl) ?_
  refine lv_iconst (v := (1 : Int32)) hx hb dX11_runs_1 rfl ?_
  refine lv_iconst (v := (0 : Int32)) hx hb dX11_runs_2 rfl ?_
  obtain ⟨r1, hcr1, he⟩ := g_bind he
  refine g_callV [.int (1 : Int32), .int (0 : Int32)] (rest := []) E hml hl.1 hM cv_X11_420 (c11_copies l D aC B hcr1) (o := 0) (Nat.le_of_ble_eq_true rfl) rfl (by decide) rfl rfl (Nat.le_of_ble_eq_true rfl) dX11_runs_3 (fun H locs hM => ?_)
  refine W.eq (g2 := F0 m 6 ls []) rfl ?_
  refine lv_aload_n hx hb dX11_runs_6 rfl (lv_at hl 0 rfl) ?_
  refine lv_iload_n hx hb dX11_runs_7 rfl (lv_at hl 1 rfl) ?_
  obtain ⟨r2, hcr2, he⟩ := g_bind he
  refine g_callV [.int a1] (rest := []) E hml hl.1 hM cv_X11_423 (c11_goesOn l D aC B hcr2) (o := 0) (Nat.le_of_ble_eq_true rfl) rfl (by decide) rfl rfl (Nat.le_of_ble_eq_true rfl) dX11_runs_8 (fun H locs hM => ?_)
  refine W.eq (g2 := F0 m 11 ls []) rfl ?_
  cases he
  exact g_vret E hM hret hlk dX11_runs_11

set_option maxHeartbeats 4000000 in
set_option maxRecDepth 100000 in
theorem w11_outcomes_b38 (E : g_C p s m args c cX11_outcomes RX11 D aC (g_Zs (g_A B 44))) (hml : c.maxLocals = 5) (hret : meth.sig.returnType = (some .int)) (hlk : meth.locks = false) {F : Nat} {q0 : Int32} {a1 : Int32} {a2 : Int32} {mem : g_M} {s5 : Int32 → Int32 → Option (Int32)} (hs5 : ∀ (v3 : Int32) (v4 : Int32) (H : Heap) (locs : List Loc) (ls : Array Slot), g_At D aC B yM 44 mem s.heap H locs → lv_has ls 5 [(0, .ref (B + 0)), (1, .int a1), (2, .int a2), (3, .int v3), (4, .int v4)] → s5 v3 v4 = some q0 → W p l e (g_rm 1) s m args below meth c H locs 0 0 (g_MQ below D aC B yM 44 args s (some (.int q0)) mem) (F0 m 5 ls [])) : ∀ (v4 : Int32) (w0 : Int32) (w1 : Int32) (H : Heap) (locs : List Loc) (ls : Array Slot), g_At D aC B yM 44 mem s.heap H locs → lv_has ls 5 [(0, .ref (B + 0)), (1, .int a1), (2, .int a2), (4, .int v4)] → f11_outcomes_b38 F a1 a2 s5 mem v4 w0 w1 = some q0 → W p l e (g_rm 1) s m args below meth c H locs 0 0 (g_MQ below D aC B yM 44 args s (some (.int q0)) mem) (F0 m 38 ls [.int w1, .int w0]) := by
  intro v4 w0 w1 H locs ls hM hl he
  unfold f11_outcomes_b38 at he
  have hx := E.1
  have hb := E.2.1
  have hown := E.2.2.1
  have hts := E.2.2.2.1
  refine lv_iadd hx hb dX11_outcomes_38 ?_
  obtain ⟨x1, hx1, he⟩ := g_let_ex he
  refine g_topI hx1 ?_
  refine lv_istore_n (lv' := [(3, .int x1), (0, .ref (B + 0)), (1, .int a1), (2, .int a2), (4, .int v4)]) hx hb dX11_outcomes_39 rfl hl (by decide) rfl (fun ls hl => ?_)
  obtain ⟨x2, hx2, he⟩ := g_let_ex he
  refine lv_iinc (v := x2) (lv' := [(4, .int x2), (3, .int x1), (0, .ref (B + 0)), (1, .int a1), (2, .int a2)]) hx hb dX11_outcomes_40 hl (k := 4) rfl (by rw [hx2]; rfl) (by decide) rfl (fun ls hl => ?_)
  refine lv_goto (tgt := 5) hx hb dX11_outcomes_43 (by decide) ?_
  exact hs5 _ _ _ _ _ hM (lv_sub hl [2, 3, 4, 1, 0] rfl) he

set_option maxHeartbeats 4000000 in
set_option maxRecDepth 100000 in
theorem w11_outcomes_b5_body (E : g_C p s m args c cX11_outcomes RX11 D aC (g_Zs (g_A B 44))) (hml : c.maxLocals = 5) (hret : meth.sig.returnType = (some .int)) (hlk : meth.locks = false) {F : Nat} {q0 : Int32} {a1 : Int32} {a2 : Int32} {mem : g_M} {s5 : Int32 → Int32 → Option (Int32)} (hs5 : ∀ (v3 : Int32) (v4 : Int32) (H : Heap) (locs : List Loc) (ls : Array Slot), g_At D aC B yM 44 mem s.heap H locs → lv_has ls 5 [(0, .ref (B + 0)), (1, .int a1), (2, .int a2), (3, .int v3), (4, .int v4)] → s5 v3 v4 = some q0 → W p l e (g_rm 1) s m args below meth c H locs 0 0 (g_MQ below D aC B yM 44 args s (some (.int q0)) mem) (F0 m 5 ls [])) : ∀ (v3 : Int32) (v4 : Int32) (H : Heap) (locs : List Loc) (ls : Array Slot), g_At D aC B yM 44 mem s.heap H locs → lv_has ls 5 [(0, .ref (B + 0)), (1, .int a1), (2, .int a2), (3, .int v3), (4, .int v4)] → f11_outcomes_b5_body F a1 a2 s5 mem v3 v4 = some q0 → W p l e (g_rm 1) s m args below meth c H locs 0 0 (g_MQ below D aC B yM 44 args s (some (.int q0)) mem) (F0 m 5 ls []) := by
  intro v3 v4 H locs ls hM hl he
  unfold f11_outcomes_b5_body at he
  have hx := E.1
  have hb := E.2.1
  have hown := E.2.2.1
  have hts := E.2.2.2.1
  refine lv_iload hx hb dX11_outcomes_5 (lv_at hl 4 rfl) ?_
  refine lv_aload_n hx hb dX11_outcomes_7 rfl (lv_at hl 0 rfl) ?_
  refine g_getP E hM (o := 0) (Nat.le_of_ble_eq_true rfl) rfl fl_X11_13 (q := 2) rfl dX11_outcomes_8 ?_
  refine lv_iconst (v := (4 : Int32)) hx hb dX11_outcomes_11 rfl ?_
  obtain ⟨h3, he⟩ := g_ck_some he
  refine g_iald E hM (o := 2) (Nat.le_of_ble_eq_true rfl) rfl h3 dX11_outcomes_12 ?_
  refine lv_icmp_ge (tgt := 46) hx hb dX11_outcomes_13 (by decide) (fun h4 => ?_) (fun h4 => ?_)
  · rw [if_neg (Int32.not_lt.mpr h4)] at he
    refine lv_iload_n hx hb dX11_outcomes_46 rfl (lv_at hl 3 rfl) ?_
    cases he
    exact g_iret E hM hret hlk dX11_outcomes_47
  · rw [if_pos (Int32.not_le.mp h4)] at he
    refine lv_iload_n hx hb dX11_outcomes_16 rfl (lv_at hl 3 rfl) ?_
    refine lv_aload_n hx hb dX11_outcomes_17 rfl (lv_at hl 0 rfl) ?_
    refine g_getP E hM (o := 0) (Nat.le_of_ble_eq_true rfl) rfl fl_X11_105 (q := 31) rfl dX11_outcomes_18 ?_
    refine lv_bipush (v := (8 : Int32)) hx hb dX11_outcomes_21 rfl ?_
    refine lv_iload_n hx hb dX11_outcomes_23 rfl (lv_at hl 1 rfl) ?_
    refine lv_imul hx hb dX11_outcomes_24 ?_
    refine lv_iload hx hb dX11_outcomes_25 (lv_at hl 4 rfl) ?_
    refine lv_iadd hx hb dX11_outcomes_27 ?_
    obtain ⟨h5, he⟩ := g_ck_some he
    refine g_iald E hM (o := 31) (Nat.le_of_ble_eq_true rfl) rfl h5 dX11_outcomes_28 ?_
    refine lv_iload_n hx hb dX11_outcomes_29 rfl (lv_at hl 2 rfl) ?_
    refine lv_icmp_ne (tgt := 37) hx hb dX11_outcomes_30 (by decide) (fun h6 => ?_) (fun h6 => ?_)
    · rw [if_neg h6] at he
      refine lv_iconst (v := (0 : Int32)) hx hb dX11_outcomes_37 rfl ?_
      exact w11_outcomes_b38 (F := F) (a1 := a1) (a2 := a2) E hml hret hlk hs5 _ _ _ _ _ _ hM (lv_sub hl [0, 1, 2, 4] rfl) he
    · rw [if_pos h6] at he
      refine lv_iconst (v := (1 : Int32)) hx hb dX11_outcomes_33 rfl ?_
      refine lv_goto (tgt := 38) hx hb dX11_outcomes_34 (by decide) ?_
      exact w11_outcomes_b38 (F := F) (a1 := a1) (a2 := a2) E hml hret hlk hs5 _ _ _ _ _ _ hM (lv_sub hl [0, 1, 2, 4] rfl) he

set_option maxHeartbeats 4000000 in
set_option maxRecDepth 100000 in
theorem w11_outcomes_b5 (E : g_C p s m args c cX11_outcomes RX11 D aC (g_Zs (g_A B 44))) (hml : c.maxLocals = 5) (hret : meth.sig.returnType = (some .int)) (hlk : meth.locks = false) {F : Nat} {q0 : Int32} {a1 : Int32} {a2 : Int32} {mem : g_M} : ∀ (v3 : Int32) (v4 : Int32) (H : Heap) (locs : List Loc) (ls : Array Slot), g_At D aC B yM 44 mem s.heap H locs → lv_has ls 5 [(0, .ref (B + 0)), (1, .int a1), (2, .int a2), (3, .int v3), (4, .int v4)] → f11_outcomes_b5 F a1 a2 mem v3 v4 = some q0 → W p l e (g_rm 1) s m args below meth c H locs 0 0 (g_MQ below D aC B yM 44 args s (some (.int q0)) mem) (F0 m 5 ls []) := by
  have key : ∀ (nn : Nat) (x : Int32 × Int32) (H : Heap) (locs : List Loc) (ls : Array Slot), g_At D aC B yM 44 mem s.heap H locs → lv_has ls 5 [(0, .ref (B + 0)), (1, .int a1), (2, .int a2), (3, .int x.1), (4, .int x.2)] → g_fix (fun sf x => f11_outcomes_b5_body F a1 a2 (fun v3 v4 => sf (v3, v4)) mem x.1 x.2) nn x = some q0 → W p l e (g_rm 1) s m args below meth c H locs 0 0 (g_MQ below D aC B yM 44 args s (some (.int q0)) mem) (F0 m 5 ls []) := by
    intro nn
    induction nn with
    | zero => intro x H locs ls hM hl he; simp [g_fix] at he
    | succ nn ih =>
      intro x H locs ls hM hl he
      exact w11_outcomes_b5_body (F := F) (a1 := a1) (a2 := a2) E hml hret hlk (fun v3 v4 H locs ls hM hl he => ih (v3, v4) H locs ls hM hl he) x.1 x.2 H locs ls hM hl he
  intro v3 v4 H locs ls hM hl he
  exact key F (v3, v4) H locs ls hM hl he

set_option maxHeartbeats 4000000 in
set_option maxRecDepth 100000 in
theorem c11_outcomes (l : Launch) (D : va_G) (aC : Nat → ClassId) (B : Nat) {F : Nat} {a1 : Int32} {a2 : Int32} {mem : g_M} {q0 : Int32} (he : f11_outcomes F a1 a2 mem = some q0) : g_Met l yX11_outcomes cX11_outcomes 5 (some .int) 1 D aC B yM 44 mem [.ref (B + 0), .int a1, .int a2] (some (.int q0)) mem := by
  refine g_ofW (by decide) (Nat.le_of_ble_eq_true rfl) ?_
  intro p e s m args below meth c ls E hml hret hlk hM hl
  have E : g_C p s m args c cX11_outcomes RX11 D aC (g_Zs (g_A B 44)) := E
  have hx := E.1
  have hb := E.2.1
  have hown := E.2.2.1
  have hts := E.2.2.2.1
  have hl : lv_has ls 5 [(0, .ref (B + 0)), (1, .int a1), (2, .int a2)] := hl
  unfold f11_outcomes at he
  refine lv_iconst (v := (0 : Int32)) hx hb dX11_outcomes_0 rfl ?_
  refine lv_istore_n (lv' := [(3, .int (0 : Int32)), (0, .ref (B + 0)), (1, .int a1), (2, .int a2)]) hx hb dX11_outcomes_1 rfl hl (by decide) rfl (fun ls hl => ?_)
  refine lv_iconst (v := (0 : Int32)) hx hb dX11_outcomes_2 rfl ?_
  refine lv_istore (lv' := [(4, .int (0 : Int32)), (3, .int (0 : Int32)), (0, .ref (B + 0)), (1, .int a1), (2, .int a2)]) hx hb dX11_outcomes_3 hl (by decide) rfl (fun ls hl => ?_)
  exact w11_outcomes_b5 (F := F) (a1 := a1) (a2 := a2) E hml hret hlk _ _ _ _ _ hM (lv_sub hl [2, 3, 4, 1, 0] rfl) he

set_option maxHeartbeats 4000000 in
set_option maxRecDepth 100000 in
theorem w11_goneMany_b35 (E : g_C p s m args c cX11_goneMany RX11 D aC (g_Zs (g_A B 44))) (hml : c.maxLocals = 4) (hret : meth.sig.returnType = (some .int)) (hlk : meth.locks = false) {F : Nat} {q0 : Int32} {a1 : Int32} {mem : g_M} {s4 : Int32 → Int32 → Option (Int32)} (hs4 : ∀ (v2 : Int32) (v3 : Int32) (H : Heap) (locs : List Loc) (ls : Array Slot), g_At D aC B yM 44 mem s.heap H locs → lv_has ls 4 [(0, .ref (B + 0)), (1, .int a1), (2, .int v2), (3, .int v3)] → s4 v2 v3 = some q0 → W p l e (g_rm 1) s m args below meth c H locs 0 0 (g_MQ below D aC B yM 44 args s (some (.int q0)) mem) (F0 m 4 ls [])) : ∀ (v3 : Int32) (w0 : Int32) (w1 : Int32) (H : Heap) (locs : List Loc) (ls : Array Slot), g_At D aC B yM 44 mem s.heap H locs → lv_has ls 4 [(0, .ref (B + 0)), (1, .int a1), (3, .int v3)] → f11_goneMany_b35 F a1 s4 mem v3 w0 w1 = some q0 → W p l e (g_rm 1) s m args below meth c H locs 0 0 (g_MQ below D aC B yM 44 args s (some (.int q0)) mem) (F0 m 35 ls [.int w1, .int w0]) := by
  intro v3 w0 w1 H locs ls hM hl he
  unfold f11_goneMany_b35 at he
  have hx := E.1
  have hb := E.2.1
  have hown := E.2.2.1
  have hts := E.2.2.2.1
  refine lv_iadd hx hb dX11_goneMany_35 ?_
  obtain ⟨x1, hx1, he⟩ := g_let_ex he
  refine g_topI hx1 ?_
  refine lv_istore_n (lv' := [(2, .int x1), (0, .ref (B + 0)), (1, .int a1), (3, .int v3)]) hx hb dX11_goneMany_36 rfl hl (by decide) rfl (fun ls hl => ?_)
  obtain ⟨x2, hx2, he⟩ := g_let_ex he
  refine lv_iinc (v := x2) (lv' := [(3, .int x2), (2, .int x1), (0, .ref (B + 0)), (1, .int a1)]) hx hb dX11_goneMany_37 hl (k := 3) rfl (by rw [hx2]; rfl) (by decide) rfl (fun ls hl => ?_)
  refine lv_goto (tgt := 4) hx hb dX11_goneMany_40 (by decide) ?_
  exact hs4 _ _ _ _ _ hM (lv_sub hl [2, 3, 1, 0] rfl) he

set_option maxHeartbeats 4000000 in
set_option maxRecDepth 100000 in
theorem w11_goneMany_b4_body (E : g_C p s m args c cX11_goneMany RX11 D aC (g_Zs (g_A B 44))) (hml : c.maxLocals = 4) (hret : meth.sig.returnType = (some .int)) (hlk : meth.locks = false) {F : Nat} {q0 : Int32} {a1 : Int32} {mem : g_M} {s4 : Int32 → Int32 → Option (Int32)} (hs4 : ∀ (v2 : Int32) (v3 : Int32) (H : Heap) (locs : List Loc) (ls : Array Slot), g_At D aC B yM 44 mem s.heap H locs → lv_has ls 4 [(0, .ref (B + 0)), (1, .int a1), (2, .int v2), (3, .int v3)] → s4 v2 v3 = some q0 → W p l e (g_rm 1) s m args below meth c H locs 0 0 (g_MQ below D aC B yM 44 args s (some (.int q0)) mem) (F0 m 4 ls [])) : ∀ (v2 : Int32) (v3 : Int32) (H : Heap) (locs : List Loc) (ls : Array Slot), g_At D aC B yM 44 mem s.heap H locs → lv_has ls 4 [(0, .ref (B + 0)), (1, .int a1), (2, .int v2), (3, .int v3)] → f11_goneMany_b4_body F a1 s4 mem v2 v3 = some q0 → W p l e (g_rm 1) s m args below meth c H locs 0 0 (g_MQ below D aC B yM 44 args s (some (.int q0)) mem) (F0 m 4 ls []) := by
  intro v2 v3 H locs ls hM hl he
  unfold f11_goneMany_b4_body at he
  have hx := E.1
  have hb := E.2.1
  have hown := E.2.2.1
  have hts := E.2.2.2.1
  refine lv_iload_n hx hb dX11_goneMany_4 rfl (lv_at hl 3 rfl) ?_
  refine lv_aload_n hx hb dX11_goneMany_5 rfl (lv_at hl 0 rfl) ?_
  refine g_getP E hM (o := 0) (Nat.le_of_ble_eq_true rfl) rfl fl_X11_93 (q := 27) rfl dX11_goneMany_6 ?_
  refine lv_iload_n hx hb dX11_goneMany_9 rfl (lv_at hl 1 rfl) ?_
  obtain ⟨h3, he⟩ := g_ck_some he
  refine g_iald E hM (o := 27) (Nat.le_of_ble_eq_true rfl) rfl h3 dX11_goneMany_10 ?_
  refine lv_icmp_ge (tgt := 43) hx hb dX11_goneMany_11 (by decide) (fun h4 => ?_) (fun h4 => ?_)
  · rw [if_neg (Int32.not_lt.mpr h4)] at he
    refine lv_iload_n hx hb dX11_goneMany_43 rfl (lv_at hl 2 rfl) ?_
    cases he
    exact g_iret E hM hret hlk dX11_goneMany_44
  · rw [if_pos (Int32.not_le.mp h4)] at he
    refine lv_iload_n hx hb dX11_goneMany_14 rfl (lv_at hl 2 rfl) ?_
    refine lv_aload_n hx hb dX11_goneMany_15 rfl (lv_at hl 0 rfl) ?_
    refine g_getP E hM (o := 0) (Nat.le_of_ble_eq_true rfl) rfl fl_X11_117 (q := 35) rfl dX11_goneMany_16 ?_
    refine lv_bipush (v := (12 : Int32)) hx hb dX11_goneMany_19 rfl ?_
    refine lv_iload_n hx hb dX11_goneMany_21 rfl (lv_at hl 1 rfl) ?_
    refine lv_imul hx hb dX11_goneMany_22 ?_
    refine lv_iload_n hx hb dX11_goneMany_23 rfl (lv_at hl 3 rfl) ?_
    refine lv_iadd hx hb dX11_goneMany_24 ?_
    obtain ⟨h5, he⟩ := g_ck_some he
    refine g_iald E hM (o := 35) (Nat.le_of_ble_eq_true rfl) rfl h5 dX11_goneMany_25 ?_
    refine lv_iconst (v := (1 : Int32)) hx hb dX11_goneMany_26 rfl ?_
    refine lv_icmp_ne (tgt := 34) hx hb dX11_goneMany_27 (by decide) (fun h6 => ?_) (fun h6 => ?_)
    · rw [if_neg h6] at he
      refine lv_iconst (v := (0 : Int32)) hx hb dX11_goneMany_34 rfl ?_
      exact w11_goneMany_b35 (F := F) (a1 := a1) E hml hret hlk hs4 _ _ _ _ _ _ hM (lv_sub hl [0, 1, 3] rfl) he
    · rw [if_pos h6] at he
      refine lv_iconst (v := (1 : Int32)) hx hb dX11_goneMany_30 rfl ?_
      refine lv_goto (tgt := 35) hx hb dX11_goneMany_31 (by decide) ?_
      exact w11_goneMany_b35 (F := F) (a1 := a1) E hml hret hlk hs4 _ _ _ _ _ _ hM (lv_sub hl [0, 1, 3] rfl) he

set_option maxHeartbeats 4000000 in
set_option maxRecDepth 100000 in
theorem w11_goneMany_b4 (E : g_C p s m args c cX11_goneMany RX11 D aC (g_Zs (g_A B 44))) (hml : c.maxLocals = 4) (hret : meth.sig.returnType = (some .int)) (hlk : meth.locks = false) {F : Nat} {q0 : Int32} {a1 : Int32} {mem : g_M} : ∀ (v2 : Int32) (v3 : Int32) (H : Heap) (locs : List Loc) (ls : Array Slot), g_At D aC B yM 44 mem s.heap H locs → lv_has ls 4 [(0, .ref (B + 0)), (1, .int a1), (2, .int v2), (3, .int v3)] → f11_goneMany_b4 F a1 mem v2 v3 = some q0 → W p l e (g_rm 1) s m args below meth c H locs 0 0 (g_MQ below D aC B yM 44 args s (some (.int q0)) mem) (F0 m 4 ls []) := by
  have key : ∀ (nn : Nat) (x : Int32 × Int32) (H : Heap) (locs : List Loc) (ls : Array Slot), g_At D aC B yM 44 mem s.heap H locs → lv_has ls 4 [(0, .ref (B + 0)), (1, .int a1), (2, .int x.1), (3, .int x.2)] → g_fix (fun sf x => f11_goneMany_b4_body F a1 (fun v2 v3 => sf (v2, v3)) mem x.1 x.2) nn x = some q0 → W p l e (g_rm 1) s m args below meth c H locs 0 0 (g_MQ below D aC B yM 44 args s (some (.int q0)) mem) (F0 m 4 ls []) := by
    intro nn
    induction nn with
    | zero => intro x H locs ls hM hl he; simp [g_fix] at he
    | succ nn ih =>
      intro x H locs ls hM hl he
      exact w11_goneMany_b4_body (F := F) (a1 := a1) E hml hret hlk (fun v2 v3 H locs ls hM hl he => ih (v2, v3) H locs ls hM hl he) x.1 x.2 H locs ls hM hl he
  intro v2 v3 H locs ls hM hl he
  exact key F (v2, v3) H locs ls hM hl he

set_option maxHeartbeats 4000000 in
set_option maxRecDepth 100000 in
theorem c11_goneMany (l : Launch) (D : va_G) (aC : Nat → ClassId) (B : Nat) {F : Nat} {a1 : Int32} {mem : g_M} {q0 : Int32} (he : f11_goneMany F a1 mem = some q0) : g_Met l yX11_goneMany cX11_goneMany 4 (some .int) 1 D aC B yM 44 mem [.ref (B + 0), .int a1] (some (.int q0)) mem := by
  refine g_ofW (by decide) (Nat.le_of_ble_eq_true rfl) ?_
  intro p e s m args below meth c ls E hml hret hlk hM hl
  have E : g_C p s m args c cX11_goneMany RX11 D aC (g_Zs (g_A B 44)) := E
  have hx := E.1
  have hb := E.2.1
  have hown := E.2.2.1
  have hts := E.2.2.2.1
  have hl : lv_has ls 4 [(0, .ref (B + 0)), (1, .int a1)] := hl
  unfold f11_goneMany at he
  refine lv_iconst (v := (0 : Int32)) hx hb dX11_goneMany_0 rfl ?_
  refine lv_istore_n (lv' := [(2, .int (0 : Int32)), (0, .ref (B + 0)), (1, .int a1)]) hx hb dX11_goneMany_1 rfl hl (by decide) rfl (fun ls hl => ?_)
  refine lv_iconst (v := (0 : Int32)) hx hb dX11_goneMany_2 rfl ?_
  refine lv_istore_n (lv' := [(3, .int (0 : Int32)), (2, .int (0 : Int32)), (0, .ref (B + 0)), (1, .int a1)]) hx hb dX11_goneMany_3 rfl hl (by decide) rfl (fun ls hl => ?_)
  exact w11_goneMany_b4 (F := F) (a1 := a1) E hml hret hlk _ _ _ _ _ hM (lv_sub hl [2, 3, 1, 0] rfl) he

set_option maxHeartbeats 4000000 in
set_option maxRecDepth 100000 in
theorem w11_mixedMany_b54 (E : g_C p s m args c cX11_mixedMany RX11 D aC (g_Zs (g_A B 44))) (hml : c.maxLocals = 5) (hret : meth.sig.returnType = (some .int)) (hlk : meth.locks = false) {F : Nat} {q0 : Int32} {a1 : Int32} {mem : g_M} {s17 : Int32 → Int32 → Int32 → Option (Int32)} (hs17 : ∀ (v2 : Int32) (v3 : Int32) (v4 : Int32) (H : Heap) (locs : List Loc) (ls : Array Slot), g_At D aC B yM 44 mem s.heap H locs → lv_has ls 5 [(0, .ref (B + 0)), (1, .int a1), (2, .int v2), (3, .int v3), (4, .int v4)] → s17 v2 v3 v4 = some q0 → W p l e (g_rm 1) s m args below meth c H locs 0 0 (g_MQ below D aC B yM 44 args s (some (.int q0)) mem) (F0 m 17 ls [])) : ∀ (v3 : Int32) (v4 : Int32) (w0 : Int32) (w1 : Int32) (H : Heap) (locs : List Loc) (ls : Array Slot), g_At D aC B yM 44 mem s.heap H locs → lv_has ls 5 [(0, .ref (B + 0)), (1, .int a1), (3, .int v3), (4, .int v4)] → f11_mixedMany_b54 F a1 s17 mem v3 v4 w0 w1 = some q0 → W p l e (g_rm 1) s m args below meth c H locs 0 0 (g_MQ below D aC B yM 44 args s (some (.int q0)) mem) (F0 m 54 ls [.int w1, .int w0]) := by
  intro v3 v4 w0 w1 H locs ls hM hl he
  unfold f11_mixedMany_b54 at he
  have hx := E.1
  have hb := E.2.1
  have hown := E.2.2.1
  have hts := E.2.2.2.1
  refine lv_iadd hx hb dX11_mixedMany_54 ?_
  obtain ⟨x1, hx1, he⟩ := g_let_ex he
  refine g_topI hx1 ?_
  refine lv_istore_n (lv' := [(2, .int x1), (0, .ref (B + 0)), (1, .int a1), (3, .int v3), (4, .int v4)]) hx hb dX11_mixedMany_55 rfl hl (by decide) rfl (fun ls hl => ?_)
  obtain ⟨x2, hx2, he⟩ := g_let_ex he
  refine lv_iinc (v := x2) (lv' := [(4, .int x2), (2, .int x1), (0, .ref (B + 0)), (1, .int a1), (3, .int v3)]) hx hb dX11_mixedMany_56 hl (k := 4) rfl (by rw [hx2]; rfl) (by decide) rfl (fun ls hl => ?_)
  refine lv_goto (tgt := 17) hx hb dX11_mixedMany_59 (by decide) ?_
  exact hs17 _ _ _ _ _ _ hM (lv_sub hl [2, 3, 1, 4, 0] rfl) he

set_option maxHeartbeats 4000000 in
set_option maxRecDepth 100000 in
theorem w11_mixedMany_b17_body (E : g_C p s m args c cX11_mixedMany RX11 D aC (g_Zs (g_A B 44))) (hml : c.maxLocals = 5) (hret : meth.sig.returnType = (some .int)) (hlk : meth.locks = false) {F : Nat} {q0 : Int32} {a1 : Int32} {mem : g_M} {s4 : Int32 → Int32 → Option (Int32)} (hs4 : ∀ (v2 : Int32) (v3 : Int32) (H : Heap) (locs : List Loc) (ls : Array Slot), g_At D aC B yM 44 mem s.heap H locs → lv_has ls 5 [(0, .ref (B + 0)), (1, .int a1), (2, .int v2), (3, .int v3)] → s4 v2 v3 = some q0 → W p l e (g_rm 1) s m args below meth c H locs 0 0 (g_MQ below D aC B yM 44 args s (some (.int q0)) mem) (F0 m 4 ls [])) {s17 : Int32 → Int32 → Int32 → Option (Int32)} (hs17 : ∀ (v2 : Int32) (v3 : Int32) (v4 : Int32) (H : Heap) (locs : List Loc) (ls : Array Slot), g_At D aC B yM 44 mem s.heap H locs → lv_has ls 5 [(0, .ref (B + 0)), (1, .int a1), (2, .int v2), (3, .int v3), (4, .int v4)] → s17 v2 v3 v4 = some q0 → W p l e (g_rm 1) s m args below meth c H locs 0 0 (g_MQ below D aC B yM 44 args s (some (.int q0)) mem) (F0 m 17 ls [])) : ∀ (v2 : Int32) (v3 : Int32) (v4 : Int32) (H : Heap) (locs : List Loc) (ls : Array Slot), g_At D aC B yM 44 mem s.heap H locs → lv_has ls 5 [(0, .ref (B + 0)), (1, .int a1), (2, .int v2), (3, .int v3), (4, .int v4)] → f11_mixedMany_b17_body F a1 s4 s17 mem v2 v3 v4 = some q0 → W p l e (g_rm 1) s m args below meth c H locs 0 0 (g_MQ below D aC B yM 44 args s (some (.int q0)) mem) (F0 m 17 ls []) := by
  intro v2 v3 v4 H locs ls hM hl he
  unfold f11_mixedMany_b17_body at he
  have hx := E.1
  have hb := E.2.1
  have hown := E.2.2.1
  have hts := E.2.2.2.1
  refine lv_iload hx hb dX11_mixedMany_17 (lv_at hl 4 rfl) ?_
  refine lv_aload_n hx hb dX11_mixedMany_19 rfl (lv_at hl 0 rfl) ?_
  refine g_getP E hM (o := 0) (Nat.le_of_ble_eq_true rfl) rfl fl_X11_13 (q := 2) rfl dX11_mixedMany_20 ?_
  refine lv_iconst (v := (1 : Int32)) hx hb dX11_mixedMany_23 rfl ?_
  obtain ⟨h3, he⟩ := g_ck_some he
  refine g_iald E hM (o := 2) (Nat.le_of_ble_eq_true rfl) rfl h3 dX11_mixedMany_24 ?_
  refine lv_icmp_ge (tgt := 62) hx hb dX11_mixedMany_25 (by decide) (fun h4 => ?_) (fun h4 => ?_)
  · rw [if_neg (Int32.not_lt.mpr h4)] at he
    obtain ⟨x7, hx7, he⟩ := g_let_ex he
    refine lv_iinc (v := x7) (lv' := [(3, .int x7), (0, .ref (B + 0)), (1, .int a1), (2, .int v2), (4, .int v4)]) hx hb dX11_mixedMany_62 hl (k := 3) rfl (by rw [hx7]; rfl) (by decide) rfl (fun ls hl => ?_)
    refine lv_goto (tgt := 4) hx hb dX11_mixedMany_65 (by decide) ?_
    exact hs4 _ _ _ _ _ hM (lv_sub hl [1, 2, 3, 0] rfl) he
  · rw [if_pos (Int32.not_le.mp h4)] at he
    refine lv_iload_n hx hb dX11_mixedMany_28 rfl (lv_at hl 2 rfl) ?_
    refine lv_aload_n hx hb dX11_mixedMany_29 rfl (lv_at hl 0 rfl) ?_
    refine g_getP E hM (o := 0) (Nat.le_of_ble_eq_true rfl) rfl fl_X11_99 (q := 29) rfl dX11_mixedMany_30 ?_
    refine lv_bipush (v := (25 : Int32)) hx hb dX11_mixedMany_33 rfl ?_
    refine lv_iload_n hx hb dX11_mixedMany_35 rfl (lv_at hl 1 rfl) ?_
    refine lv_imul hx hb dX11_mixedMany_36 ?_
    refine lv_iconst (v := (5 : Int32)) hx hb dX11_mixedMany_37 rfl ?_
    refine lv_iload_n hx hb dX11_mixedMany_38 rfl (lv_at hl 3 rfl) ?_
    refine lv_imul hx hb dX11_mixedMany_39 ?_
    refine lv_iadd hx hb dX11_mixedMany_40 ?_
    refine lv_iload hx hb dX11_mixedMany_41 (lv_at hl 4 rfl) ?_
    refine lv_iadd hx hb dX11_mixedMany_43 ?_
    obtain ⟨h5, he⟩ := g_ck_some he
    refine g_iald E hM (o := 29) (Nat.le_of_ble_eq_true rfl) rfl h5 dX11_mixedMany_44 ?_
    refine lv_iload_n hx hb dX11_mixedMany_45 rfl (lv_at hl 3 rfl) ?_
    refine lv_icmp_eq (tgt := 53) hx hb dX11_mixedMany_46 (by decide) (fun h6 => ?_) (fun h6 => ?_)
    · rw [if_pos h6] at he
      refine lv_iconst (v := (0 : Int32)) hx hb dX11_mixedMany_53 rfl ?_
      exact w11_mixedMany_b54 (F := F) (a1 := a1) E hml hret hlk hs17 _ _ _ _ _ _ _ hM (lv_sub hl [0, 1, 3, 4] rfl) he
    · rw [if_neg h6] at he
      refine lv_iconst (v := (1 : Int32)) hx hb dX11_mixedMany_49 rfl ?_
      refine lv_goto (tgt := 54) hx hb dX11_mixedMany_50 (by decide) ?_
      exact w11_mixedMany_b54 (F := F) (a1 := a1) E hml hret hlk hs17 _ _ _ _ _ _ _ hM (lv_sub hl [0, 1, 3, 4] rfl) he

set_option maxHeartbeats 4000000 in
set_option maxRecDepth 100000 in
theorem w11_mixedMany_b17 (E : g_C p s m args c cX11_mixedMany RX11 D aC (g_Zs (g_A B 44))) (hml : c.maxLocals = 5) (hret : meth.sig.returnType = (some .int)) (hlk : meth.locks = false) {F : Nat} {q0 : Int32} {a1 : Int32} {mem : g_M} {s4 : Int32 → Int32 → Option (Int32)} (hs4 : ∀ (v2 : Int32) (v3 : Int32) (H : Heap) (locs : List Loc) (ls : Array Slot), g_At D aC B yM 44 mem s.heap H locs → lv_has ls 5 [(0, .ref (B + 0)), (1, .int a1), (2, .int v2), (3, .int v3)] → s4 v2 v3 = some q0 → W p l e (g_rm 1) s m args below meth c H locs 0 0 (g_MQ below D aC B yM 44 args s (some (.int q0)) mem) (F0 m 4 ls [])) : ∀ (v2 : Int32) (v3 : Int32) (v4 : Int32) (H : Heap) (locs : List Loc) (ls : Array Slot), g_At D aC B yM 44 mem s.heap H locs → lv_has ls 5 [(0, .ref (B + 0)), (1, .int a1), (2, .int v2), (3, .int v3), (4, .int v4)] → f11_mixedMany_b17 F a1 s4 mem v2 v3 v4 = some q0 → W p l e (g_rm 1) s m args below meth c H locs 0 0 (g_MQ below D aC B yM 44 args s (some (.int q0)) mem) (F0 m 17 ls []) := by
  have key : ∀ (nn : Nat) (x : Int32 × Int32 × Int32) (H : Heap) (locs : List Loc) (ls : Array Slot), g_At D aC B yM 44 mem s.heap H locs → lv_has ls 5 [(0, .ref (B + 0)), (1, .int a1), (2, .int x.1), (3, .int x.2.1), (4, .int x.2.2)] → g_fix (fun sf x => f11_mixedMany_b17_body F a1 s4 (fun v2 v3 v4 => sf (v2, v3, v4)) mem x.1 x.2.1 x.2.2) nn x = some q0 → W p l e (g_rm 1) s m args below meth c H locs 0 0 (g_MQ below D aC B yM 44 args s (some (.int q0)) mem) (F0 m 17 ls []) := by
    intro nn
    induction nn with
    | zero => intro x H locs ls hM hl he; simp [g_fix] at he
    | succ nn ih =>
      intro x H locs ls hM hl he
      exact w11_mixedMany_b17_body (F := F) (a1 := a1) E hml hret hlk hs4 (fun v2 v3 v4 H locs ls hM hl he => ih (v2, v3, v4) H locs ls hM hl he) x.1 x.2.1 x.2.2 H locs ls hM hl he
  intro v2 v3 v4 H locs ls hM hl he
  exact key F (v2, v3, v4) H locs ls hM hl he

set_option maxHeartbeats 4000000 in
set_option maxRecDepth 100000 in
theorem w11_mixedMany_b4_body (E : g_C p s m args c cX11_mixedMany RX11 D aC (g_Zs (g_A B 44))) (hml : c.maxLocals = 5) (hret : meth.sig.returnType = (some .int)) (hlk : meth.locks = false) {F : Nat} {q0 : Int32} {a1 : Int32} {mem : g_M} {s4 : Int32 → Int32 → Option (Int32)} (hs4 : ∀ (v2 : Int32) (v3 : Int32) (H : Heap) (locs : List Loc) (ls : Array Slot), g_At D aC B yM 44 mem s.heap H locs → lv_has ls 5 [(0, .ref (B + 0)), (1, .int a1), (2, .int v2), (3, .int v3)] → s4 v2 v3 = some q0 → W p l e (g_rm 1) s m args below meth c H locs 0 0 (g_MQ below D aC B yM 44 args s (some (.int q0)) mem) (F0 m 4 ls [])) : ∀ (v2 : Int32) (v3 : Int32) (H : Heap) (locs : List Loc) (ls : Array Slot), g_At D aC B yM 44 mem s.heap H locs → lv_has ls 5 [(0, .ref (B + 0)), (1, .int a1), (2, .int v2), (3, .int v3)] → f11_mixedMany_b4_body F a1 s4 mem v2 v3 = some q0 → W p l e (g_rm 1) s m args below meth c H locs 0 0 (g_MQ below D aC B yM 44 args s (some (.int q0)) mem) (F0 m 4 ls []) := by
  intro v2 v3 H locs ls hM hl he
  unfold f11_mixedMany_b4_body at he
  have hx := E.1
  have hb := E.2.1
  have hown := E.2.2.1
  have hts := E.2.2.2.1
  refine lv_iload_n hx hb dX11_mixedMany_4 rfl (lv_at hl 3 rfl) ?_
  refine lv_aload_n hx hb dX11_mixedMany_5 rfl (lv_at hl 0 rfl) ?_
  refine g_getP E hM (o := 0) (Nat.le_of_ble_eq_true rfl) rfl fl_X11_13 (q := 2) rfl dX11_mixedMany_6 ?_
  refine lv_iconst (v := (0 : Int32)) hx hb dX11_mixedMany_9 rfl ?_
  obtain ⟨h8, he⟩ := g_ck_some he
  refine g_iald E hM (o := 2) (Nat.le_of_ble_eq_true rfl) rfl h8 dX11_mixedMany_10 ?_
  refine lv_icmp_ge (tgt := 68) hx hb dX11_mixedMany_11 (by decide) (fun h9 => ?_) (fun h9 => ?_)
  · rw [if_neg (Int32.not_lt.mpr h9)] at he
    refine lv_iload_n hx hb dX11_mixedMany_68 rfl (lv_at hl 2 rfl) ?_
    cases he
    exact g_iret E hM hret hlk dX11_mixedMany_69
  · rw [if_pos (Int32.not_le.mp h9)] at he
    refine lv_iconst (v := (0 : Int32)) hx hb dX11_mixedMany_14 rfl ?_
    refine lv_istore (lv' := [(4, .int (0 : Int32)), (0, .ref (B + 0)), (1, .int a1), (2, .int v2), (3, .int v3)]) hx hb dX11_mixedMany_15 hl (by decide) rfl (fun ls hl => ?_)
    exact w11_mixedMany_b17 (F := F) (a1 := a1) E hml hret hlk hs4 _ _ _ _ _ _ hM (lv_sub hl [1, 2, 3, 4, 0] rfl) he

set_option maxHeartbeats 4000000 in
set_option maxRecDepth 100000 in
theorem w11_mixedMany_b4 (E : g_C p s m args c cX11_mixedMany RX11 D aC (g_Zs (g_A B 44))) (hml : c.maxLocals = 5) (hret : meth.sig.returnType = (some .int)) (hlk : meth.locks = false) {F : Nat} {q0 : Int32} {a1 : Int32} {mem : g_M} : ∀ (v2 : Int32) (v3 : Int32) (H : Heap) (locs : List Loc) (ls : Array Slot), g_At D aC B yM 44 mem s.heap H locs → lv_has ls 5 [(0, .ref (B + 0)), (1, .int a1), (2, .int v2), (3, .int v3)] → f11_mixedMany_b4 F a1 mem v2 v3 = some q0 → W p l e (g_rm 1) s m args below meth c H locs 0 0 (g_MQ below D aC B yM 44 args s (some (.int q0)) mem) (F0 m 4 ls []) := by
  have key : ∀ (nn : Nat) (x : Int32 × Int32) (H : Heap) (locs : List Loc) (ls : Array Slot), g_At D aC B yM 44 mem s.heap H locs → lv_has ls 5 [(0, .ref (B + 0)), (1, .int a1), (2, .int x.1), (3, .int x.2)] → g_fix (fun sf x => f11_mixedMany_b4_body F a1 (fun v2 v3 => sf (v2, v3)) mem x.1 x.2) nn x = some q0 → W p l e (g_rm 1) s m args below meth c H locs 0 0 (g_MQ below D aC B yM 44 args s (some (.int q0)) mem) (F0 m 4 ls []) := by
    intro nn
    induction nn with
    | zero => intro x H locs ls hM hl he; simp [g_fix] at he
    | succ nn ih =>
      intro x H locs ls hM hl he
      exact w11_mixedMany_b4_body (F := F) (a1 := a1) E hml hret hlk (fun v2 v3 H locs ls hM hl he => ih (v2, v3) H locs ls hM hl he) x.1 x.2 H locs ls hM hl he
  intro v2 v3 H locs ls hM hl he
  exact key F (v2, v3) H locs ls hM hl he

set_option maxHeartbeats 4000000 in
set_option maxRecDepth 100000 in
theorem c11_mixedMany (l : Launch) (D : va_G) (aC : Nat → ClassId) (B : Nat) {F : Nat} {a1 : Int32} {mem : g_M} {q0 : Int32} (he : f11_mixedMany F a1 mem = some q0) : g_Met l yX11_mixedMany cX11_mixedMany 5 (some .int) 1 D aC B yM 44 mem [.ref (B + 0), .int a1] (some (.int q0)) mem := by
  refine g_ofW (by decide) (Nat.le_of_ble_eq_true rfl) ?_
  intro p e s m args below meth c ls E hml hret hlk hM hl
  have E : g_C p s m args c cX11_mixedMany RX11 D aC (g_Zs (g_A B 44)) := E
  have hx := E.1
  have hb := E.2.1
  have hown := E.2.2.1
  have hts := E.2.2.2.1
  have hl : lv_has ls 5 [(0, .ref (B + 0)), (1, .int a1)] := hl
  unfold f11_mixedMany at he
  refine lv_iconst (v := (0 : Int32)) hx hb dX11_mixedMany_0 rfl ?_
  refine lv_istore_n (lv' := [(2, .int (0 : Int32)), (0, .ref (B + 0)), (1, .int a1)]) hx hb dX11_mixedMany_1 rfl hl (by decide) rfl (fun ls hl => ?_)
  refine lv_iconst (v := (0 : Int32)) hx hb dX11_mixedMany_2 rfl ?_
  refine lv_istore_n (lv' := [(3, .int (0 : Int32)), (2, .int (0 : Int32)), (0, .ref (B + 0)), (1, .int a1)]) hx hb dX11_mixedMany_3 rfl hl (by decide) rfl (fun ls hl => ?_)
  exact w11_mixedMany_b4 (F := F) (a1 := a1) E hml hret hlk _ _ _ _ _ hM (lv_sub hl [2, 3, 1, 0] rfl) he

set_option maxHeartbeats 4000000 in
set_option maxRecDepth 100000 in
theorem w11_penceAll_b4_body (E : g_C p s m args c cX11_penceAll RX11 D aC (g_Zs (g_A B 44))) (hml : c.maxLocals = 4) (hret : meth.sig.returnType = (some .int)) (hlk : meth.locks = false) {F : Nat} {q0 : Int32} {a1 : Int32} {mem : g_M} {s4 : Int32 → Int32 → Option (Int32)} (hs4 : ∀ (v2 : Int32) (v3 : Int32) (H : Heap) (locs : List Loc) (ls : Array Slot), g_At D aC B yM 44 mem s.heap H locs → lv_has ls 4 [(0, .ref (B + 0)), (1, .int a1), (2, .int v2), (3, .int v3)] → s4 v2 v3 = some q0 → W p l e (g_rm 1) s m args below meth c H locs 0 0 (g_MQ below D aC B yM 44 args s (some (.int q0)) mem) (F0 m 4 ls [])) : ∀ (v2 : Int32) (v3 : Int32) (H : Heap) (locs : List Loc) (ls : Array Slot), g_At D aC B yM 44 mem s.heap H locs → lv_has ls 4 [(0, .ref (B + 0)), (1, .int a1), (2, .int v2), (3, .int v3)] → f11_penceAll_b4_body F a1 s4 mem v2 v3 = some q0 → W p l e (g_rm 1) s m args below meth c H locs 0 0 (g_MQ below D aC B yM 44 args s (some (.int q0)) mem) (F0 m 4 ls []) := by
  intro v2 v3 H locs ls hM hl he
  unfold f11_penceAll_b4_body at he
  have hx := E.1
  have hb := E.2.1
  have hown := E.2.2.1
  have hts := E.2.2.2.1
  refine lv_iload_n hx hb dX11_penceAll_4 rfl (lv_at hl 3 rfl) ?_
  refine lv_aload_n hx hb dX11_penceAll_5 rfl (lv_at hl 0 rfl) ?_
  refine g_getP E hM (o := 0) (Nat.le_of_ble_eq_true rfl) rfl fl_X11_13 (q := 2) rfl dX11_penceAll_6 ?_
  refine lv_iconst (v := (0 : Int32)) hx hb dX11_penceAll_9 rfl ?_
  obtain ⟨h1, he⟩ := g_ck_some he
  refine g_iald E hM (o := 2) (Nat.le_of_ble_eq_true rfl) rfl h1 dX11_penceAll_10 ?_
  refine lv_icmp_ge (tgt := 33) hx hb dX11_penceAll_11 (by decide) (fun h2 => ?_) (fun h2 => ?_)
  · rw [if_neg (Int32.not_lt.mpr h2)] at he
    refine lv_iload_n hx hb dX11_penceAll_33 rfl (lv_at hl 2 rfl) ?_
    cases he
    exact g_iret E hM hret hlk dX11_penceAll_34
  · rw [if_pos (Int32.not_le.mp h2)] at he
    refine lv_iload_n hx hb dX11_penceAll_14 rfl (lv_at hl 2 rfl) ?_
    refine lv_aload_n hx hb dX11_penceAll_15 rfl (lv_at hl 0 rfl) ?_
    refine g_getP E hM (o := 0) (Nat.le_of_ble_eq_true rfl) rfl fl_X11_96 (q := 28) rfl dX11_penceAll_16 ?_
    refine lv_iconst (v := (5 : Int32)) hx hb dX11_penceAll_19 rfl ?_
    refine lv_iload_n hx hb dX11_penceAll_20 rfl (lv_at hl 1 rfl) ?_
    refine lv_imul hx hb dX11_penceAll_21 ?_
    refine lv_iload_n hx hb dX11_penceAll_22 rfl (lv_at hl 3 rfl) ?_
    refine lv_iadd hx hb dX11_penceAll_23 ?_
    obtain ⟨h3, he⟩ := g_ck_some he
    refine g_iald E hM (o := 28) (Nat.le_of_ble_eq_true rfl) rfl h3 dX11_penceAll_24 ?_
    refine lv_iadd hx hb dX11_penceAll_25 ?_
    obtain ⟨x4, hx4, he⟩ := g_let_ex he
    refine g_topI hx4 ?_
    refine lv_istore_n (lv' := [(2, .int x4), (0, .ref (B + 0)), (1, .int a1), (3, .int v3)]) hx hb dX11_penceAll_26 rfl hl (by decide) rfl (fun ls hl => ?_)
    obtain ⟨x5, hx5, he⟩ := g_let_ex he
    refine lv_iinc (v := x5) (lv' := [(3, .int x5), (2, .int x4), (0, .ref (B + 0)), (1, .int a1)]) hx hb dX11_penceAll_27 hl (k := 3) rfl (by rw [hx5]; rfl) (by decide) rfl (fun ls hl => ?_)
    refine lv_goto (tgt := 4) hx hb dX11_penceAll_30 (by decide) ?_
    exact hs4 _ _ _ _ _ hM (lv_sub hl [2, 3, 1, 0] rfl) he

set_option maxHeartbeats 4000000 in
set_option maxRecDepth 100000 in
theorem w11_penceAll_b4 (E : g_C p s m args c cX11_penceAll RX11 D aC (g_Zs (g_A B 44))) (hml : c.maxLocals = 4) (hret : meth.sig.returnType = (some .int)) (hlk : meth.locks = false) {F : Nat} {q0 : Int32} {a1 : Int32} {mem : g_M} : ∀ (v2 : Int32) (v3 : Int32) (H : Heap) (locs : List Loc) (ls : Array Slot), g_At D aC B yM 44 mem s.heap H locs → lv_has ls 4 [(0, .ref (B + 0)), (1, .int a1), (2, .int v2), (3, .int v3)] → f11_penceAll_b4 F a1 mem v2 v3 = some q0 → W p l e (g_rm 1) s m args below meth c H locs 0 0 (g_MQ below D aC B yM 44 args s (some (.int q0)) mem) (F0 m 4 ls []) := by
  have key : ∀ (nn : Nat) (x : Int32 × Int32) (H : Heap) (locs : List Loc) (ls : Array Slot), g_At D aC B yM 44 mem s.heap H locs → lv_has ls 4 [(0, .ref (B + 0)), (1, .int a1), (2, .int x.1), (3, .int x.2)] → g_fix (fun sf x => f11_penceAll_b4_body F a1 (fun v2 v3 => sf (v2, v3)) mem x.1 x.2) nn x = some q0 → W p l e (g_rm 1) s m args below meth c H locs 0 0 (g_MQ below D aC B yM 44 args s (some (.int q0)) mem) (F0 m 4 ls []) := by
    intro nn
    induction nn with
    | zero => intro x H locs ls hM hl he; simp [g_fix] at he
    | succ nn ih =>
      intro x H locs ls hM hl he
      exact w11_penceAll_b4_body (F := F) (a1 := a1) E hml hret hlk (fun v2 v3 H locs ls hM hl he => ih (v2, v3) H locs ls hM hl he) x.1 x.2 H locs ls hM hl he
  intro v2 v3 H locs ls hM hl he
  exact key F (v2, v3) H locs ls hM hl he

set_option maxHeartbeats 4000000 in
set_option maxRecDepth 100000 in
theorem c11_penceAll (l : Launch) (D : va_G) (aC : Nat → ClassId) (B : Nat) {F : Nat} {a1 : Int32} {mem : g_M} {q0 : Int32} (he : f11_penceAll F a1 mem = some q0) : g_Met l yX11_penceAll cX11_penceAll 4 (some .int) 1 D aC B yM 44 mem [.ref (B + 0), .int a1] (some (.int q0)) mem := by
  refine g_ofW (by decide) (Nat.le_of_ble_eq_true rfl) ?_
  intro p e s m args below meth c ls E hml hret hlk hM hl
  have E : g_C p s m args c cX11_penceAll RX11 D aC (g_Zs (g_A B 44)) := E
  have hx := E.1
  have hb := E.2.1
  have hown := E.2.2.1
  have hts := E.2.2.2.1
  have hl : lv_has ls 4 [(0, .ref (B + 0)), (1, .int a1)] := hl
  unfold f11_penceAll at he
  refine lv_iconst (v := (0 : Int32)) hx hb dX11_penceAll_0 rfl ?_
  refine lv_istore_n (lv' := [(2, .int (0 : Int32)), (0, .ref (B + 0)), (1, .int a1)]) hx hb dX11_penceAll_1 rfl hl (by decide) rfl (fun ls hl => ?_)
  refine lv_iconst (v := (0 : Int32)) hx hb dX11_penceAll_2 rfl ?_
  refine lv_istore_n (lv' := [(3, .int (0 : Int32)), (2, .int (0 : Int32)), (0, .ref (B + 0)), (1, .int a1)]) hx hb dX11_penceAll_3 rfl hl (by decide) rfl (fun ls hl => ?_)
  exact w11_penceAll_b4 (F := F) (a1 := a1) E hml hret hlk _ _ _ _ _ hM (lv_sub hl [2, 3, 1, 0] rfl) he

set_option maxHeartbeats 4000000 in
set_option maxRecDepth 100000 in
theorem w11_wantsOf_b44 (E : g_C p s m args c cX11_wantsOf RX11 D aC (g_Zs (g_A B 44))) (hml : c.maxLocals = 5) (hret : meth.sig.returnType = (some .int)) (hlk : meth.locks = false) {F : Nat} {q0 : Int32} {a1 : Int32} {a2 : Int32} {mem : g_M} {s5 : Int32 → Int32 → Option (Int32)} (hs5 : ∀ (v3 : Int32) (v4 : Int32) (H : Heap) (locs : List Loc) (ls : Array Slot), g_At D aC B yM 44 mem s.heap H locs → lv_has ls 5 [(0, .ref (B + 0)), (1, .int a1), (2, .int a2), (3, .int v3), (4, .int v4)] → s5 v3 v4 = some q0 → W p l e (g_rm 1) s m args below meth c H locs 0 0 (g_MQ below D aC B yM 44 args s (some (.int q0)) mem) (F0 m 5 ls [])) : ∀ (v4 : Int32) (w0 : Int32) (w1 : Int32) (H : Heap) (locs : List Loc) (ls : Array Slot), g_At D aC B yM 44 mem s.heap H locs → lv_has ls 5 [(0, .ref (B + 0)), (1, .int a1), (2, .int a2), (4, .int v4)] → f11_wantsOf_b44 F a1 a2 s5 mem v4 w0 w1 = some q0 → W p l e (g_rm 1) s m args below meth c H locs 0 0 (g_MQ below D aC B yM 44 args s (some (.int q0)) mem) (F0 m 44 ls [.int w1, .int w0]) := by
  intro v4 w0 w1 H locs ls hM hl he
  unfold f11_wantsOf_b44 at he
  have hx := E.1
  have hb := E.2.1
  have hown := E.2.2.1
  have hts := E.2.2.2.1
  refine lv_iadd hx hb dX11_wantsOf_44 ?_
  obtain ⟨x1, hx1, he⟩ := g_let_ex he
  refine g_topI hx1 ?_
  refine lv_istore_n (lv' := [(3, .int x1), (0, .ref (B + 0)), (1, .int a1), (2, .int a2), (4, .int v4)]) hx hb dX11_wantsOf_45 rfl hl (by decide) rfl (fun ls hl => ?_)
  obtain ⟨x2, hx2, he⟩ := g_let_ex he
  refine lv_iinc (v := x2) (lv' := [(4, .int x2), (3, .int x1), (0, .ref (B + 0)), (1, .int a1), (2, .int a2)]) hx hb dX11_wantsOf_46 hl (k := 4) rfl (by rw [hx2]; rfl) (by decide) rfl (fun ls hl => ?_)
  refine lv_goto (tgt := 5) hx hb dX11_wantsOf_49 (by decide) ?_
  exact hs5 _ _ _ _ _ hM (lv_sub hl [2, 3, 4, 1, 0] rfl) he

set_option maxHeartbeats 4000000 in
set_option maxRecDepth 100000 in
theorem w11_wantsOf_b43 (E : g_C p s m args c cX11_wantsOf RX11 D aC (g_Zs (g_A B 44))) (hml : c.maxLocals = 5) (hret : meth.sig.returnType = (some .int)) (hlk : meth.locks = false) {F : Nat} {q0 : Int32} {a1 : Int32} {a2 : Int32} {mem : g_M} {s5 : Int32 → Int32 → Option (Int32)} (hs5 : ∀ (v3 : Int32) (v4 : Int32) (H : Heap) (locs : List Loc) (ls : Array Slot), g_At D aC B yM 44 mem s.heap H locs → lv_has ls 5 [(0, .ref (B + 0)), (1, .int a1), (2, .int a2), (3, .int v3), (4, .int v4)] → s5 v3 v4 = some q0 → W p l e (g_rm 1) s m args below meth c H locs 0 0 (g_MQ below D aC B yM 44 args s (some (.int q0)) mem) (F0 m 5 ls [])) : ∀ (v4 : Int32) (w0 : Int32) (H : Heap) (locs : List Loc) (ls : Array Slot), g_At D aC B yM 44 mem s.heap H locs → lv_has ls 5 [(0, .ref (B + 0)), (1, .int a1), (2, .int a2), (4, .int v4)] → f11_wantsOf_b43 F a1 a2 s5 mem v4 w0 = some q0 → W p l e (g_rm 1) s m args below meth c H locs 0 0 (g_MQ below D aC B yM 44 args s (some (.int q0)) mem) (F0 m 43 ls [.int w0]) := by
  intro v4 w0 H locs ls hM hl he
  unfold f11_wantsOf_b43 at he
  have hx := E.1
  have hb := E.2.1
  have hown := E.2.2.1
  have hts := E.2.2.2.1
  refine lv_iconst (v := (0 : Int32)) hx hb dX11_wantsOf_43 rfl ?_
  exact w11_wantsOf_b44 (F := F) (a1 := a1) (a2 := a2) E hml hret hlk hs5 _ _ _ _ _ _ hM (lv_sub hl [0, 1, 2, 3] rfl) he

set_option maxHeartbeats 4000000 in
set_option maxRecDepth 100000 in
theorem w11_wantsOf_b5_body (E : g_C p s m args c cX11_wantsOf RX11 D aC (g_Zs (g_A B 44))) (hml : c.maxLocals = 5) (hret : meth.sig.returnType = (some .int)) (hlk : meth.locks = false) {F : Nat} {q0 : Int32} {a1 : Int32} {a2 : Int32} {mem : g_M} {s5 : Int32 → Int32 → Option (Int32)} (hs5 : ∀ (v3 : Int32) (v4 : Int32) (H : Heap) (locs : List Loc) (ls : Array Slot), g_At D aC B yM 44 mem s.heap H locs → lv_has ls 5 [(0, .ref (B + 0)), (1, .int a1), (2, .int a2), (3, .int v3), (4, .int v4)] → s5 v3 v4 = some q0 → W p l e (g_rm 1) s m args below meth c H locs 0 0 (g_MQ below D aC B yM 44 args s (some (.int q0)) mem) (F0 m 5 ls [])) : ∀ (v3 : Int32) (v4 : Int32) (H : Heap) (locs : List Loc) (ls : Array Slot), g_At D aC B yM 44 mem s.heap H locs → lv_has ls 5 [(0, .ref (B + 0)), (1, .int a1), (2, .int a2), (3, .int v3), (4, .int v4)] → f11_wantsOf_b5_body F a1 a2 s5 mem v3 v4 = some q0 → W p l e (g_rm 1) s m args below meth c H locs 0 0 (g_MQ below D aC B yM 44 args s (some (.int q0)) mem) (F0 m 5 ls []) := by
  intro v3 v4 H locs ls hM hl he
  unfold f11_wantsOf_b5_body at he
  have hx := E.1
  have hb := E.2.1
  have hown := E.2.2.1
  have hts := E.2.2.2.1
  refine lv_iload hx hb dX11_wantsOf_5 (lv_at hl 4 rfl) ?_
  refine lv_aload_n hx hb dX11_wantsOf_7 rfl (lv_at hl 0 rfl) ?_
  refine g_getP E hM (o := 0) (Nat.le_of_ble_eq_true rfl) rfl fl_X11_13 (q := 2) rfl dX11_wantsOf_8 ?_
  refine lv_iconst (v := (4 : Int32)) hx hb dX11_wantsOf_11 rfl ?_
  obtain ⟨h3, he⟩ := g_ck_some he
  refine g_iald E hM (o := 2) (Nat.le_of_ble_eq_true rfl) rfl h3 dX11_wantsOf_12 ?_
  refine lv_icmp_ge (tgt := 52) hx hb dX11_wantsOf_13 (by decide) (fun h4 => ?_) (fun h4 => ?_)
  · rw [if_neg (Int32.not_lt.mpr h4)] at he
    refine lv_iload_n hx hb dX11_wantsOf_52 rfl (lv_at hl 3 rfl) ?_
    cases he
    exact g_iret E hM hret hlk dX11_wantsOf_53
  · rw [if_pos (Int32.not_le.mp h4)] at he
    refine lv_iload_n hx hb dX11_wantsOf_16 rfl (lv_at hl 3 rfl) ?_
    refine lv_aload_n hx hb dX11_wantsOf_17 rfl (lv_at hl 0 rfl) ?_
    refine g_getP E hM (o := 0) (Nat.le_of_ble_eq_true rfl) rfl fl_X11_46 (q := 13) rfl dX11_wantsOf_18 ?_
    refine lv_iload hx hb dX11_wantsOf_21 (lv_at hl 4 rfl) ?_
    obtain ⟨h5, he⟩ := g_ck_some he
    refine g_iald E hM (o := 13) (Nat.le_of_ble_eq_true rfl) rfl h5 dX11_wantsOf_23 ?_
    refine lv_iload_n hx hb dX11_wantsOf_24 rfl (lv_at hl 1 rfl) ?_
    refine lv_icmp_ne (tgt := 43) hx hb dX11_wantsOf_25 (by decide) (fun h6 => ?_) (fun h6 => ?_)
    · rw [if_neg h6] at he
      exact w11_wantsOf_b43 (F := F) (a1 := a1) (a2 := a2) E hml hret hlk hs5 _ _ _ _ _ hM (lv_sub hl [0, 1, 2, 4] rfl) he
    · rw [if_pos h6] at he
      refine lv_aload_n hx hb dX11_wantsOf_28 rfl (lv_at hl 0 rfl) ?_
      refine g_getP E hM (o := 0) (Nat.le_of_ble_eq_true rfl) rfl fl_X11_105 (q := 31) rfl dX11_wantsOf_29 ?_
      refine lv_iload hx hb dX11_wantsOf_32 (lv_at hl 4 rfl) ?_
      obtain ⟨h7, he⟩ := g_ck_some he
      refine g_iald E hM (o := 31) (Nat.le_of_ble_eq_true rfl) rfl h7 dX11_wantsOf_34 ?_
      refine lv_iload_n hx hb dX11_wantsOf_35 rfl (lv_at hl 2 rfl) ?_
      refine lv_icmp_ne (tgt := 43) hx hb dX11_wantsOf_36 (by decide) (fun h8 => ?_) (fun h8 => ?_)
      · rw [if_neg h8] at he
        exact w11_wantsOf_b43 (F := F) (a1 := a1) (a2 := a2) E hml hret hlk hs5 _ _ _ _ _ hM (lv_sub hl [0, 1, 2, 4] rfl) he
      · rw [if_pos h8] at he
        refine lv_iconst (v := (1 : Int32)) hx hb dX11_wantsOf_39 rfl ?_
        refine lv_goto (tgt := 44) hx hb dX11_wantsOf_40 (by decide) ?_
        exact w11_wantsOf_b44 (F := F) (a1 := a1) (a2 := a2) E hml hret hlk hs5 _ _ _ _ _ _ hM (lv_sub hl [0, 1, 2, 4] rfl) he

set_option maxHeartbeats 4000000 in
set_option maxRecDepth 100000 in
theorem w11_wantsOf_b5 (E : g_C p s m args c cX11_wantsOf RX11 D aC (g_Zs (g_A B 44))) (hml : c.maxLocals = 5) (hret : meth.sig.returnType = (some .int)) (hlk : meth.locks = false) {F : Nat} {q0 : Int32} {a1 : Int32} {a2 : Int32} {mem : g_M} : ∀ (v3 : Int32) (v4 : Int32) (H : Heap) (locs : List Loc) (ls : Array Slot), g_At D aC B yM 44 mem s.heap H locs → lv_has ls 5 [(0, .ref (B + 0)), (1, .int a1), (2, .int a2), (3, .int v3), (4, .int v4)] → f11_wantsOf_b5 F a1 a2 mem v3 v4 = some q0 → W p l e (g_rm 1) s m args below meth c H locs 0 0 (g_MQ below D aC B yM 44 args s (some (.int q0)) mem) (F0 m 5 ls []) := by
  have key : ∀ (nn : Nat) (x : Int32 × Int32) (H : Heap) (locs : List Loc) (ls : Array Slot), g_At D aC B yM 44 mem s.heap H locs → lv_has ls 5 [(0, .ref (B + 0)), (1, .int a1), (2, .int a2), (3, .int x.1), (4, .int x.2)] → g_fix (fun sf x => f11_wantsOf_b5_body F a1 a2 (fun v3 v4 => sf (v3, v4)) mem x.1 x.2) nn x = some q0 → W p l e (g_rm 1) s m args below meth c H locs 0 0 (g_MQ below D aC B yM 44 args s (some (.int q0)) mem) (F0 m 5 ls []) := by
    intro nn
    induction nn with
    | zero => intro x H locs ls hM hl he; simp [g_fix] at he
    | succ nn ih =>
      intro x H locs ls hM hl he
      exact w11_wantsOf_b5_body (F := F) (a1 := a1) (a2 := a2) E hml hret hlk (fun v3 v4 H locs ls hM hl he => ih (v3, v4) H locs ls hM hl he) x.1 x.2 H locs ls hM hl he
  intro v3 v4 H locs ls hM hl he
  exact key F (v3, v4) H locs ls hM hl he

set_option maxHeartbeats 4000000 in
set_option maxRecDepth 100000 in
theorem c11_wantsOf (l : Launch) (D : va_G) (aC : Nat → ClassId) (B : Nat) {F : Nat} {a1 : Int32} {a2 : Int32} {mem : g_M} {q0 : Int32} (he : f11_wantsOf F a1 a2 mem = some q0) : g_Met l yX11_wantsOf cX11_wantsOf 5 (some .int) 1 D aC B yM 44 mem [.ref (B + 0), .int a1, .int a2] (some (.int q0)) mem := by
  refine g_ofW (by decide) (Nat.le_of_ble_eq_true rfl) ?_
  intro p e s m args below meth c ls E hml hret hlk hM hl
  have E : g_C p s m args c cX11_wantsOf RX11 D aC (g_Zs (g_A B 44)) := E
  have hx := E.1
  have hb := E.2.1
  have hown := E.2.2.1
  have hts := E.2.2.2.1
  have hl : lv_has ls 5 [(0, .ref (B + 0)), (1, .int a1), (2, .int a2)] := hl
  unfold f11_wantsOf at he
  refine lv_iconst (v := (0 : Int32)) hx hb dX11_wantsOf_0 rfl ?_
  refine lv_istore_n (lv' := [(3, .int (0 : Int32)), (0, .ref (B + 0)), (1, .int a1), (2, .int a2)]) hx hb dX11_wantsOf_1 rfl hl (by decide) rfl (fun ls hl => ?_)
  refine lv_iconst (v := (0 : Int32)) hx hb dX11_wantsOf_2 rfl ?_
  refine lv_istore (lv' := [(4, .int (0 : Int32)), (3, .int (0 : Int32)), (0, .ref (B + 0)), (1, .int a1), (2, .int a2)]) hx hb dX11_wantsOf_3 hl (by decide) rfl (fun ls hl => ?_)
  exact w11_wantsOf_b5 (F := F) (a1 := a1) (a2 := a2) E hml hret hlk _ _ _ _ _ hM (lv_sub hl [2, 3, 4, 1, 0] rfl) he

set_option maxHeartbeats 4000000 in
set_option maxRecDepth 100000 in
theorem w11_man_b100 (E : g_C p s m args c cX11_man RX11 D aC (g_Zs (g_A B 44))) (hml : c.maxLocals = 6) (hret : meth.sig.returnType = (some .int)) (hlk : meth.locks = false) {F : Nat} {q0 : Int32 × g_M} {a1 : Int32} {a2 : Int32} {s47 : Int32 → Int32 → Int32 → g_M → Option (Int32 × g_M)} (hs47 : ∀ (v3 : Int32) (v4 : Int32) (v5 : Int32) (mem : g_M) (H : Heap) (locs : List Loc) (ls : Array Slot), g_At D aC B yM 44 mem s.heap H locs → lv_has ls 6 [(0, .ref (B + 0)), (1, .int a1), (2, .int a2), (3, .int v3), (4, .int v4), (5, .int v5)] → s47 v3 v4 v5 mem = some q0 → W p l e (g_rm 2) s m args below meth c H locs 0 0 (g_MQ below D aC B yM 44 args s (some (.int q0.1)) q0.2) (F0 m 47 ls [])) : ∀ (v3 : Int32) (v5 : Int32) (w0 : Int32) (w1 : Int32) (mem : g_M) (H : Heap) (locs : List Loc) (ls : Array Slot), g_At D aC B yM 44 mem s.heap H locs → lv_has ls 6 [(0, .ref (B + 0)), (1, .int a1), (2, .int a2), (3, .int v3), (5, .int v5)] → f11_man_b100 F a1 a2 s47 v3 v5 w0 w1 mem = some q0 → W p l e (g_rm 2) s m args below meth c H locs 0 0 (g_MQ below D aC B yM 44 args s (some (.int q0.1)) q0.2) (F0 m 100 ls [.int w1, .int w0]) := by
  intro v3 v5 w0 w1 mem H locs ls hM hl he
  unfold f11_man_b100 at he
  have hx := E.1
  have hb := E.2.1
  have hown := E.2.2.1
  have hts := E.2.2.2.1
  refine lv_ior hx hb dX11_man_100 ?_
  obtain ⟨x1, hx1, he⟩ := g_let_ex he
  refine g_topI hx1 ?_
  refine lv_istore (lv' := [(4, .int x1), (0, .ref (B + 0)), (1, .int a1), (2, .int a2), (3, .int v3), (5, .int v5)]) hx hb dX11_man_101 hl (by decide) rfl (fun ls hl => ?_)
  obtain ⟨x2, hx2, he⟩ := g_let_ex he
  refine lv_iinc (v := x2) (lv' := [(5, .int x2), (4, .int x1), (0, .ref (B + 0)), (1, .int a1), (2, .int a2), (3, .int v3)]) hx hb dX11_man_103 hl (k := 5) rfl (by rw [hx2]; rfl) (by decide) rfl (fun ls hl => ?_)
  refine lv_goto (tgt := 47) hx hb dX11_man_106 (by decide) ?_
  exact hs47 _ _ _ _ _ _ _ hM (lv_sub hl [2, 3, 4, 5, 1, 0] rfl) he

set_option maxHeartbeats 4000000 in
set_option maxRecDepth 100000 in
theorem w11_man_b47_body (E : g_C p s m args c cX11_man RX11 D aC (g_Zs (g_A B 44))) (hml : c.maxLocals = 6) (hret : meth.sig.returnType = (some .int)) (hlk : meth.locks = false) {F : Nat} {q0 : Int32 × g_M} {a1 : Int32} {a2 : Int32} {s47 : Int32 → Int32 → Int32 → g_M → Option (Int32 × g_M)} (hs47 : ∀ (v3 : Int32) (v4 : Int32) (v5 : Int32) (mem : g_M) (H : Heap) (locs : List Loc) (ls : Array Slot), g_At D aC B yM 44 mem s.heap H locs → lv_has ls 6 [(0, .ref (B + 0)), (1, .int a1), (2, .int a2), (3, .int v3), (4, .int v4), (5, .int v5)] → s47 v3 v4 v5 mem = some q0 → W p l e (g_rm 2) s m args below meth c H locs 0 0 (g_MQ below D aC B yM 44 args s (some (.int q0.1)) q0.2) (F0 m 47 ls [])) : ∀ (v3 : Int32) (v4 : Int32) (v5 : Int32) (mem : g_M) (H : Heap) (locs : List Loc) (ls : Array Slot), g_At D aC B yM 44 mem s.heap H locs → lv_has ls 6 [(0, .ref (B + 0)), (1, .int a1), (2, .int a2), (3, .int v3), (4, .int v4), (5, .int v5)] → f11_man_b47_body F a1 a2 s47 v3 v4 v5 mem = some q0 → W p l e (g_rm 2) s m args below meth c H locs 0 0 (g_MQ below D aC B yM 44 args s (some (.int q0.1)) q0.2) (F0 m 47 ls []) := by
  intro v3 v4 v5 mem H locs ls hM hl he
  unfold f11_man_b47_body at he
  have hx := E.1
  have hb := E.2.1
  have hown := E.2.2.1
  have hts := E.2.2.2.1
  refine lv_iload hx hb dX11_man_47 (lv_at hl 5 rfl) ?_
  refine lv_aload_n hx hb dX11_man_49 rfl (lv_at hl 0 rfl) ?_
  refine g_getP E hM (o := 0) (Nat.le_of_ble_eq_true rfl) rfl fl_X11_13 (q := 2) rfl dX11_man_50 ?_
  refine lv_iconst (v := (1 : Int32)) hx hb dX11_man_53 rfl ?_
  obtain ⟨h3, he⟩ := g_ck_some he
  refine g_iald E hM (o := 2) (Nat.le_of_ble_eq_true rfl) rfl h3 dX11_man_54 ?_
  refine lv_icmp_ge (tgt := 109) hx hb dX11_man_55 (by decide) (fun h4 => ?_) (fun h4 => ?_)
  · rw [if_neg (Int32.not_lt.mpr h4)] at he
    refine lv_iload_n hx hb dX11_man_109 rfl (lv_at hl 2 rfl) ?_
    by_cases h9 : a2 = (0 : Int32)
    · rw [if_pos h9] at he
      refine lv_tableIn (tgt := 140) (off := 30) hx hb dX11_man_110 (by rw [h9]; decide) (by rw [h9]; decide) (by rw [h9]; rfl) (by decide) ?_
      refine lv_aload_n hx hb dX11_man_140 rfl (lv_at hl 0 rfl) ?_
      refine g_getP E hM (o := 0) (Nat.le_of_ble_eq_true rfl) rfl fl_X11_96 (q := 28) rfl dX11_man_141 ?_
      refine lv_iload_n hx hb dX11_man_144 rfl (lv_at hl 1 rfl) ?_
      obtain ⟨h10, he⟩ := g_ck_some he
      refine g_iald E hM (o := 28) (Nat.le_of_ble_eq_true rfl) rfl h10 dX11_man_145 ?_
      cases he
      exact g_iret E hM hret hlk dX11_man_146
    rw [if_neg h9] at he
    by_cases h11 : a2 = (1 : Int32)
    · rw [if_pos h11] at he
      refine lv_tableIn (tgt := 147) (off := 37) hx hb dX11_man_110 (by rw [h11]; decide) (by rw [h11]; decide) (by rw [h11]; rfl) (by decide) ?_
      refine lv_iload_n hx hb dX11_man_147 rfl (lv_at hl 3 rfl) ?_
      cases he
      exact g_iret E hM hret hlk dX11_man_148
    rw [if_neg h11] at he
    by_cases h12 : a2 = (2 : Int32)
    · rw [if_pos h12] at he
      refine lv_tableIn (tgt := 149) (off := 39) hx hb dX11_man_110 (by rw [h12]; decide) (by rw [h12]; decide) (by rw [h12]; rfl) (by decide) ?_
      refine lv_iload hx hb dX11_man_149 (lv_at hl 4 rfl) ?_
      cases he
      exact g_iret E hM hret hlk dX11_man_151
    rw [if_neg h12] at he
    by_cases h13 : a2 = (3 : Int32)
    · rw [if_pos h13] at he
      refine lv_tableIn (tgt := 152) (off := 42) hx hb dX11_man_110 (by rw [h13]; decide) (by rw [h13]; decide) (by rw [h13]; rfl) (by decide) ?_
      refine lv_aload_n hx hb dX11_man_152 rfl (lv_at hl 0 rfl) ?_
      refine lv_iload_n hx hb dX11_man_153 rfl (lv_at hl 1 rfl) ?_
      refine lv_iconst (v := (1 : Int32)) hx hb dX11_man_154 rfl ?_
      obtain ⟨r14, hcr14, he⟩ := g_bind he
      refine g_callV [.int a1, .int (1 : Int32)] (rest := []) E hml hl.1 hM cv_X11_429 (c11_wantsOf l D aC B hcr14) (o := 0) (Nat.le_of_ble_eq_true rfl) rfl (by decide) rfl rfl (Nat.le_of_ble_eq_true rfl) dX11_man_155 (fun H locs hM => ?_)
      refine W.eq (g2 := F0 m 158 ls [.int r14]) rfl ?_
      cases he
      exact g_iret E hM hret hlk dX11_man_158
    rw [if_neg h13] at he
    refine lv_tableOut (tgt := 159) hx hb dX11_man_110 (by have zh9 := lv_neT (a := 0) h9 rfl; have zh11 := lv_neT (a := 1) h11 rfl; have zh12 := lv_neT (a := 2) h12 rfl; have zh13 := lv_neT (a := 3) h13 rfl; omega) (by decide) ?_
    refine lv_aload_n hx hb dX11_man_159 rfl (lv_at hl 0 rfl) ?_
    refine lv_iload_n hx hb dX11_man_160 rfl (lv_at hl 1 rfl) ?_
    refine lv_iconst (v := (2 : Int32)) hx hb dX11_man_161 rfl ?_
    obtain ⟨r15, hcr15, he⟩ := g_bind he
    refine g_callV [.int a1, .int (2 : Int32)] (rest := []) E hml hl.1 hM cv_X11_429 (c11_wantsOf l D aC B hcr15) (o := 0) (Nat.le_of_ble_eq_true rfl) rfl (by decide) rfl rfl (Nat.le_of_ble_eq_true rfl) dX11_man_162 (fun H locs hM => ?_)
    refine W.eq (g2 := F0 m 165 ls [.int r15]) rfl ?_
    cases he
    exact g_iret E hM hret hlk dX11_man_165
  · rw [if_pos (Int32.not_le.mp h4)] at he
    refine lv_iload_n hx hb dX11_man_58 rfl (lv_at hl 3 rfl) ?_
    refine lv_aload_n hx hb dX11_man_59 rfl (lv_at hl 0 rfl) ?_
    refine g_getP E hM (o := 0) (Nat.le_of_ble_eq_true rfl) rfl fl_X11_102 (q := 30) rfl dX11_man_60 ?_
    refine lv_iconst (v := (5 : Int32)) hx hb dX11_man_63 rfl ?_
    refine lv_iload_n hx hb dX11_man_64 rfl (lv_at hl 1 rfl) ?_
    refine lv_imul hx hb dX11_man_65 ?_
    refine lv_iload hx hb dX11_man_66 (lv_at hl 5 rfl) ?_
    refine lv_iadd hx hb dX11_man_68 ?_
    obtain ⟨h5, he⟩ := g_ck_some he
    refine g_iald E hM (o := 30) (Nat.le_of_ble_eq_true rfl) rfl h5 dX11_man_69 ?_
    refine lv_iload hx hb dX11_man_70 (lv_at hl 5 rfl) ?_
    refine lv_ishl hx hb dX11_man_72 ?_
    refine lv_ior hx hb dX11_man_73 ?_
    obtain ⟨x6, hx6, he⟩ := g_let_ex he
    refine g_topI hx6 ?_
    refine lv_istore_n (lv' := [(3, .int x6), (0, .ref (B + 0)), (1, .int a1), (2, .int a2), (4, .int v4), (5, .int v5)]) hx hb dX11_man_74 rfl hl (by decide) rfl (fun ls hl => ?_)
    refine lv_iload hx hb dX11_man_75 (lv_at hl 4 rfl) ?_
    refine lv_aload_n hx hb dX11_man_77 rfl (lv_at hl 1 rfl) ?_
    refine g_getP E hM (o := 0) (Nat.le_of_ble_eq_true rfl) rfl fl_X11_99 (q := 29) rfl dX11_man_78 ?_
    refine lv_iconst (v := (5 : Int32)) hx hb dX11_man_81 rfl ?_
    refine lv_iload_n hx hb dX11_man_82 rfl (lv_at hl 2 rfl) ?_
    refine lv_imul hx hb dX11_man_83 ?_
    refine lv_iload hx hb dX11_man_84 (lv_at hl 5 rfl) ?_
    refine lv_iadd hx hb dX11_man_86 ?_
    obtain ⟨h7, he⟩ := g_ck_some he
    refine g_iald E hM (o := 29) (Nat.le_of_ble_eq_true rfl) rfl h7 dX11_man_87 ?_
    refine lv_iload_n hx hb dX11_man_88 rfl (lv_at hl 2 rfl) ?_
    refine lv_icmp_ne (tgt := 99) hx hb dX11_man_89 (by decide) (fun h8 => ?_) (fun h8 => ?_)
    · rw [if_neg h8] at he
      refine lv_iconst (v := (0 : Int32)) hx hb dX11_man_99 rfl ?_
      exact w11_man_b100 (F := F) (a1 := a1) (a2 := a2) E hml hret hlk hs47 _ _ _ _ _ _ _ _ hM (lv_sub hl [1, 2, 3, 0, 5] rfl) he
    · rw [if_pos h8] at he
      refine lv_iconst (v := (1 : Int32)) hx hb dX11_man_92 rfl ?_
      refine lv_iload hx hb dX11_man_93 (lv_at hl 5 rfl) ?_
      refine lv_ishl hx hb dX11_man_95 ?_
      refine lv_goto (tgt := 100) hx hb dX11_man_96 (by decide) ?_
      exact w11_man_b100 (F := F) (a1 := a1) (a2 := a2) E hml hret hlk hs47 _ _ _ _ _ _ _ _ hM (lv_sub hl [1, 2, 3, 0, 5] rfl) he

set_option maxHeartbeats 4000000 in
set_option maxRecDepth 100000 in
theorem w11_man_b47 (E : g_C p s m args c cX11_man RX11 D aC (g_Zs (g_A B 44))) (hml : c.maxLocals = 6) (hret : meth.sig.returnType = (some .int)) (hlk : meth.locks = false) {F : Nat} {q0 : Int32 × g_M} {a1 : Int32} {a2 : Int32} : ∀ (v3 : Int32) (v4 : Int32) (v5 : Int32) (mem : g_M) (H : Heap) (locs : List Loc) (ls : Array Slot), g_At D aC B yM 44 mem s.heap H locs → lv_has ls 6 [(0, .ref (B + 0)), (1, .int a1), (2, .int a2), (3, .int v3), (4, .int v4), (5, .int v5)] → f11_man_b47 F a1 a2 v3 v4 v5 mem = some q0 → W p l e (g_rm 2) s m args below meth c H locs 0 0 (g_MQ below D aC B yM 44 args s (some (.int q0.1)) q0.2) (F0 m 47 ls []) := by
  have key : ∀ (nn : Nat) (x : Int32 × Int32 × Int32 × g_M) (H : Heap) (locs : List Loc) (ls : Array Slot), g_At D aC B yM 44 x.2.2.2 s.heap H locs → lv_has ls 6 [(0, .ref (B + 0)), (1, .int a1), (2, .int a2), (3, .int x.1), (4, .int x.2.1), (5, .int x.2.2.1)] → g_fix (fun sf x => f11_man_b47_body F a1 a2 (fun v3 v4 v5 mem => sf (v3, v4, v5, mem)) x.1 x.2.1 x.2.2.1 x.2.2.2) nn x = some q0 → W p l e (g_rm 2) s m args below meth c H locs 0 0 (g_MQ below D aC B yM 44 args s (some (.int q0.1)) q0.2) (F0 m 47 ls []) := by
    intro nn
    induction nn with
    | zero => intro x H locs ls hM hl he; simp [g_fix] at he
    | succ nn ih =>
      intro x H locs ls hM hl he
      exact w11_man_b47_body (F := F) (a1 := a1) (a2 := a2) E hml hret hlk (fun v3 v4 v5 mem H locs ls hM hl he => ih (v3, v4, v5, mem) H locs ls hM hl he) x.1 x.2.1 x.2.2.1 x.2.2.2 H locs ls hM hl he
  intro v3 v4 v5 mem H locs ls hM hl he
  exact key F (v3, v4, v5, mem) H locs ls hM hl he

set_option maxHeartbeats 4000000 in
set_option maxRecDepth 100000 in
theorem w11_man_b27 (E : g_C p s m args c cX11_man RX11 D aC (g_Zs (g_A B 44))) (hml : c.maxLocals = 6) (hret : meth.sig.returnType = (some .int)) (hlk : meth.locks = false) {F : Nat} {q0 : Int32 × g_M} {a1 : Int32} {a2 : Int32} : ∀ (w1 : Int32) (mem : g_M) (H : Heap) (locs : List Loc) (ls : Array Slot), g_At D aC B yM 44 mem s.heap H locs → lv_has ls 6 [(0, .ref (B + 0)), (1, .int a1), (2, .int a2)] → f11_man_b27 F a1 a2 w1 mem = some q0 → W p l e (g_rm 2) s m args below meth c H locs 0 0 (g_MQ below D aC B yM 44 args s (some (.int q0.1)) q0.2) (F0 m 27 ls [.int w1, .ref (B + 0)]) := by
  intro w1 mem H locs ls hM hl he
  unfold f11_man_b27 at he
  have hx := E.1
  have hb := E.2.1
  have hown := E.2.2.1
  have hts := E.2.2.2.1
  refine g_putI E hM (o := 0) (Nat.le_of_ble_eq_true rfl) rfl fp_X11_157 dX11_man_27 (fun H locs hM => ?_)
  obtain ⟨m16, hm16, he⟩ := g_let_ex he
  rw [← hm16] at hM
  refine lv_aload_n hx hb dX11_man_30 rfl (lv_at hl 0 rfl) ?_
  refine g_getI E hM (o := 0) (Nat.le_of_ble_eq_true rfl) rfl fl_X11_157 dX11_man_31 ?_
  refine lv_if_eq (tgt := 39) hx hb dX11_man_34 (by decide) (fun h17 => ?_) (fun h17 => ?_)
  · rw [if_pos h17] at he
    refine lv_iconst (v := (0 : Int32)) hx hb dX11_man_39 rfl ?_
    refine lv_istore_n (lv' := [(3, .int (0 : Int32)), (0, .ref (B + 0)), (1, .int a1), (2, .int a2)]) hx hb dX11_man_40 rfl hl (by decide) rfl (fun ls hl => ?_)
    refine lv_iconst (v := (0 : Int32)) hx hb dX11_man_41 rfl ?_
    refine lv_istore (lv' := [(4, .int (0 : Int32)), (3, .int (0 : Int32)), (0, .ref (B + 0)), (1, .int a1), (2, .int a2)]) hx hb dX11_man_42 hl (by decide) rfl (fun ls hl => ?_)
    refine lv_iconst (v := (0 : Int32)) hx hb dX11_man_44 rfl ?_
    refine lv_istore (lv' := [(5, .int (0 : Int32)), (4, .int (0 : Int32)), (3, .int (0 : Int32)), (0, .ref (B + 0)), (1, .int a1), (2, .int a2)]) hx hb dX11_man_45 hl (by decide) rfl (fun ls hl => ?_)
    exact w11_man_b47 (F := F) (a1 := a1) (a2 := a2) E hml hret hlk _ _ _ _ _ _ _ hM (lv_sub hl [3, 4, 5, 2, 1, 0] rfl) he
  · rw [if_neg h17] at he
    refine lv_iconst (v := (0 : Int32)) hx hb dX11_man_37 rfl ?_
    cases he
    exact g_iret E hM hret hlk dX11_man_38

set_option maxHeartbeats 4000000 in
set_option maxRecDepth 100000 in
theorem w11_man_b22 (E : g_C p s m args c cX11_man RX11 D aC (g_Zs (g_A B 44))) (hml : c.maxLocals = 6) (hret : meth.sig.returnType = (some .int)) (hlk : meth.locks = false) {F : Nat} {q0 : Int32 × g_M} {a1 : Int32} {a2 : Int32} : ∀ (mem : g_M) (H : Heap) (locs : List Loc) (ls : Array Slot), g_At D aC B yM 44 mem s.heap H locs → lv_has ls 6 [(0, .ref (B + 0)), (1, .int a1), (2, .int a2)] → f11_man_b22 F a1 a2 mem = some q0 → W p l e (g_rm 2) s m args below meth c H locs 0 0 (g_MQ below D aC B yM 44 args s (some (.int q0.1)) q0.2) (F0 m 22 ls [.ref (B + 0)]) := by
  intro mem H locs ls hM hl he
  unfold f11_man_b22 at he
  have hx := E.1
  have hb := E.2.1
  have hown := E.2.2.1
  have hts := E.2.2.2.1
  refine lv_iconst (v := (2 : Int32)) hx hb dX11_man_22 rfl ?_
  refine lv_goto (tgt := 27) hx hb dX11_man_23 (by decide) ?_
  exact w11_man_b27 (F := F) (a1 := a1) (a2 := a2) E hml hret hlk _ _ _ _ _ hM (lv_sub hl [0, 1, 2] rfl) he

set_option maxHeartbeats 4000000 in
set_option maxRecDepth 100000 in
theorem c11_man (l : Launch) (D : va_G) (aC : Nat → ClassId) (B : Nat) {F : Nat} {a1 : Int32} {a2 : Int32} {mem : g_M} {q0 : Int32 × g_M} (he : f11_man F a1 a2 mem = some q0) : g_Met l yX11_man cX11_man 6 (some .int) 2 D aC B yM 44 mem [.ref (B + 0), .int a1, .int a2] (some (.int q0.1)) q0.2 := by
  refine g_ofW (by decide) (Nat.le_of_ble_eq_true rfl) ?_
  intro p e s m args below meth c ls E hml hret hlk hM hl
  have E : g_C p s m args c cX11_man RX11 D aC (g_Zs (g_A B 44)) := E
  have hx := E.1
  have hb := E.2.1
  have hown := E.2.2.1
  have hts := E.2.2.2.1
  have hl : lv_has ls 6 [(0, .ref (B + 0)), (1, .int a1), (2, .int a2)] := hl
  unfold f11_man at he
  refine lv_aload_n hx hb dX11_man_0 rfl (lv_at hl 0 rfl) ?_
  refine lv_aload_n hx hb dX11_man_1 rfl (lv_at hl 0 rfl) ?_
  refine lv_iload_n hx hb dX11_man_2 rfl (lv_at hl 1 rfl) ?_
  obtain ⟨r18, hcr18, he⟩ := g_bind he
  refine g_callV [.int a1] (rest := [.ref (B + 0)]) E hml hl.1 hM cv_X11_426 (c11_isMan l D aC B hcr18) (o := 0) (Nat.le_of_ble_eq_true rfl) rfl (by decide) rfl rfl (Nat.le_of_ble_eq_true rfl) dX11_man_3 (fun H locs hM => ?_)
  refine W.eq (g2 := F0 m 6 ls [.int r18, .ref (B + 0)]) rfl ?_
  refine lv_if_ne (tgt := 13) hx hb dX11_man_6 (by decide) (fun h19 => ?_) (fun h19 => ?_)
  · rw [if_neg h19] at he
    refine lv_iload_n hx hb dX11_man_13 rfl (lv_at hl 2 rfl) ?_
    refine lv_if_lt (tgt := 22) hx hb dX11_man_14 (by decide) (fun h20 => ?_) (fun h20 => ?_)
    · rw [if_neg (Int32.not_le.mpr h20)] at he
      exact w11_man_b22 (F := F) (a1 := a1) (a2 := a2) E hml hret hlk _ _ _ _ hM (lv_sub hl [0, 1, 2] rfl) he
    · rw [if_pos (Int32.not_lt.mp h20)] at he
      refine lv_iload_n hx hb dX11_man_17 rfl (lv_at hl 2 rfl) ?_
      refine lv_iconst (v := (4 : Int32)) hx hb dX11_man_18 rfl ?_
      refine lv_icmp_le (tgt := 26) hx hb dX11_man_19 (by decide) (fun h21 => ?_) (fun h21 => ?_)
      · rw [if_neg (Int32.not_lt.mpr h21)] at he
        refine lv_iconst (v := (0 : Int32)) hx hb dX11_man_26 rfl ?_
        exact w11_man_b27 (F := F) (a1 := a1) (a2 := a2) E hml hret hlk _ _ _ _ _ hM (lv_sub hl [0, 1, 2] rfl) he
      · rw [if_pos (Int32.not_le.mp h21)] at he
        exact w11_man_b22 (F := F) (a1 := a1) (a2 := a2) E hml hret hlk _ _ _ _ hM (lv_sub hl [0, 1, 2] rfl) he
  · rw [if_pos h19] at he
    refine lv_iconst (v := (1 : Int32)) hx hb dX11_man_9 rfl ?_
    refine lv_goto (tgt := 27) hx hb dX11_man_10 (by decide) ?_
    exact w11_man_b27 (F := F) (a1 := a1) (a2 := a2) E hml hret hlk _ _ _ _ _ hM (lv_sub hl [0, 1, 2] rfl) he

set_option maxHeartbeats 4000000 in
set_option maxRecDepth 100000 in
theorem c11_sort (l : Launch) (D : va_G) (aC : Nat → ClassId) (B : Nat) {F : Nat} {a1 : Int32} {a2 : Int32} {mem : g_M} {q0 : Int32 × g_M} (he : f11_sort F a1 a2 mem = some q0) : g_Met l yX11_sort cX11_sort 3 (some .int) 2 D aC B yM 44 mem [.ref (B + 0), .int a1, .int a2] (some (.int q0.1)) q0.2 := by
  refine g_ofW (by decide) (Nat.le_of_ble_eq_true rfl) ?_
  intro p e s m args below meth c ls E hml hret hlk hM hl
  have E : g_C p s m args c cX11_sort RX11 D aC (g_Zs (g_A B 44)) := E
  have hx := E.1
  have hb := E.2.1
  have hown := E.2.2.1
  have hts := E.2.2.2.1
  have hl : lv_has ls 3 [(0, .ref (B + 0)), (1, .int a1), (2, .int a2)] := hl
  unfold f11_sort at he
  refine lv_aload_n hx hb dX11_sort_0 rfl (lv_at hl 0 rfl) ?_
  refine lv_iconst (v := (0 : Int32)) hx hb dX11_sort_1 rfl ?_
  refine g_putI E hM (o := 0) (Nat.le_of_ble_eq_true rfl) rfl fp_X11_157 dX11_sort_2 (fun H locs hM => ?_)
  obtain ⟨m1, hm1, he⟩ := g_let_ex he
  rw [← hm1] at hM
  refine lv_aload_n hx hb dX11_sort_5 rfl (lv_at hl 0 rfl) ?_
  refine lv_iload_n hx hb dX11_sort_6 rfl (lv_at hl 1 rfl) ?_
  obtain ⟨r2, hcr2, he⟩ := g_bind he
  refine g_callV [.int a1] (rest := []) E hml hl.1 hM cv_X11_432 (c11_isSort l D aC B hcr2) (o := 0) (Nat.le_of_ble_eq_true rfl) rfl (by decide) rfl rfl (Nat.le_of_ble_eq_true rfl) dX11_sort_7 (fun H locs hM => ?_)
  refine W.eq (g2 := F0 m 10 ls [.int r2]) rfl ?_
  refine lv_if_ne (tgt := 15) hx hb dX11_sort_10 (by decide) (fun h3 => ?_) (fun h3 => ?_)
  · rw [if_neg h3] at he
    refine lv_iload_n hx hb dX11_sort_15 rfl (lv_at hl 2 rfl) ?_
    refine lv_if_ne (tgt := 28) hx hb dX11_sort_16 (by decide) (fun h4 => ?_) (fun h4 => ?_)
    · rw [if_neg h4] at he
      refine lv_iload_n hx hb dX11_sort_28 rfl (lv_at hl 2 rfl) ?_
      refine lv_iconst (v := (1 : Int32)) hx hb dX11_sort_29 rfl ?_
      refine lv_icmp_ne (tgt := 42) hx hb dX11_sort_30 (by decide) (fun h6 => ?_) (fun h6 => ?_)
      · rw [if_neg h6] at he
        refine lv_iconst (v := (-1 : Int32)) hx hb dX11_sort_42 rfl ?_
        cases he
        exact g_iret E hM hret hlk dX11_sort_43
      · rw [if_pos h6] at he
        refine lv_aload_n hx hb dX11_sort_33 rfl (lv_at hl 0 rfl) ?_
        refine g_getP E hM (o := 0) (Nat.le_of_ble_eq_true rfl) rfl fl_X11_28 (q := 7) rfl dX11_sort_34 ?_
        refine lv_iload_n hx hb dX11_sort_37 rfl (lv_at hl 1 rfl) ?_
        obtain ⟨h7, he⟩ := g_ck_some he
        refine g_iald E hM (o := 7) (Nat.le_of_ble_eq_true rfl) rfl h7 dX11_sort_38 ?_
        refine lv_goto (tgt := 43) hx hb dX11_sort_39 (by decide) ?_
        cases he
        exact g_iret E hM hret hlk dX11_sort_43
    · rw [if_pos h4] at he
      refine lv_aload_n hx hb dX11_sort_19 rfl (lv_at hl 0 rfl) ?_
      refine g_getP E hM (o := 0) (Nat.le_of_ble_eq_true rfl) rfl fl_X11_25 (q := 6) rfl dX11_sort_20 ?_
      refine lv_iload_n hx hb dX11_sort_23 rfl (lv_at hl 1 rfl) ?_
      obtain ⟨h5, he⟩ := g_ck_some he
      refine g_iald E hM (o := 6) (Nat.le_of_ble_eq_true rfl) rfl h5 dX11_sort_24 ?_
      refine lv_goto (tgt := 43) hx hb dX11_sort_25 (by decide) ?_
      cases he
      exact g_iret E hM hret hlk dX11_sort_43
  · rw [if_pos h3] at he
    refine lv_iconst (v := (-1 : Int32)) hx hb dX11_sort_13 rfl ?_
    cases he
    exact g_iret E hM hret hlk dX11_sort_14

set_option maxHeartbeats 4000000 in
set_option maxRecDepth 100000 in
theorem c11_deed (l : Launch) (D : va_G) (aC : Nat → ClassId) (B : Nat) {F : Nat} {a1 : Int32} {mem : g_M} {q0 : Int32 × g_M} (he : f11_deed F a1 mem = some q0) : g_Met l yX11_deed cX11_deed 2 (some .int) 2 D aC B yM 44 mem [.ref (B + 0), .int a1] (some (.int q0.1)) q0.2 := by
  refine g_ofW (by decide) (Nat.le_of_ble_eq_true rfl) ?_
  intro p e s m args below meth c ls E hml hret hlk hM hl
  have E : g_C p s m args c cX11_deed RX11 D aC (g_Zs (g_A B 44)) := E
  have hx := E.1
  have hb := E.2.1
  have hown := E.2.2.1
  have hts := E.2.2.2.1
  have hl : lv_has ls 2 [(0, .ref (B + 0)), (1, .int a1)] := hl
  unfold f11_deed at he
  refine lv_aload_n hx hb dX11_deed_0 rfl (lv_at hl 0 rfl) ?_
  refine lv_iconst (v := (0 : Int32)) hx hb dX11_deed_1 rfl ?_
  refine g_putI E hM (o := 0) (Nat.le_of_ble_eq_true rfl) rfl fp_X11_157 dX11_deed_2 (fun H locs hM => ?_)
  obtain ⟨m1, hm1, he⟩ := g_let_ex he
  rw [← hm1] at hM
  refine lv_aload_n hx hb dX11_deed_5 rfl (lv_at hl 0 rfl) ?_
  refine lv_iload_n hx hb dX11_deed_6 rfl (lv_at hl 1 rfl) ?_
  obtain ⟨r2, hcr2, he⟩ := g_bind he
  refine g_callV [.int a1] (rest := []) E hml hl.1 hM cv_X11_435 (c11_isDeed l D aC B hcr2) (o := 0) (Nat.le_of_ble_eq_true rfl) rfl (by decide) rfl rfl (Nat.le_of_ble_eq_true rfl) dX11_deed_7 (fun H locs hM => ?_)
  refine W.eq (g2 := F0 m 10 ls [.int r2]) rfl ?_
  refine lv_if_eq (tgt := 22) hx hb dX11_deed_10 (by decide) (fun h3 => ?_) (fun h3 => ?_)
  · rw [if_pos h3] at he
    refine lv_iconst (v := (-1 : Int32)) hx hb dX11_deed_22 rfl ?_
    cases he
    exact g_iret E hM hret hlk dX11_deed_23
  · rw [if_neg h3] at he
    refine lv_aload_n hx hb dX11_deed_13 rfl (lv_at hl 0 rfl) ?_
    refine g_getP E hM (o := 0) (Nat.le_of_ble_eq_true rfl) rfl fl_X11_34 (q := 9) rfl dX11_deed_14 ?_
    refine lv_iload_n hx hb dX11_deed_17 rfl (lv_at hl 1 rfl) ?_
    obtain ⟨h4, he⟩ := g_ck_some he
    refine g_iald E hM (o := 9) (Nat.le_of_ble_eq_true rfl) rfl h4 dX11_deed_18 ?_
    refine lv_goto (tgt := 23) hx hb dX11_deed_19 (by decide) ?_
    cases he
    exact g_iret E hM hret hlk dX11_deed_23

set_option maxHeartbeats 4000000 in
set_option maxRecDepth 100000 in
theorem c11_sending (l : Launch) (D : va_G) (aC : Nat → ClassId) (B : Nat) {F : Nat} {a1 : Int32} {a2 : Int32} {mem : g_M} {q0 : Int32 × g_M} (he : f11_sending F a1 a2 mem = some q0) : g_Met l yX11_sending cX11_sending 3 (some .int) 2 D aC B yM 44 mem [.ref (B + 0), .int a1, .int a2] (some (.int q0.1)) q0.2 := by
  refine g_ofW (by decide) (Nat.le_of_ble_eq_true rfl) ?_
  intro p e s m args below meth c ls E hml hret hlk hM hl
  have E : g_C p s m args c cX11_sending RX11 D aC (g_Zs (g_A B 44)) := E
  have hx := E.1
  have hb := E.2.1
  have hown := E.2.2.1
  have hts := E.2.2.2.1
  have hl : lv_has ls 3 [(0, .ref (B + 0)), (1, .int a1), (2, .int a2)] := hl
  unfold f11_sending at he
  refine lv_aload_n hx hb dX11_sending_0 rfl (lv_at hl 0 rfl) ?_
  refine lv_iconst (v := (0 : Int32)) hx hb dX11_sending_1 rfl ?_
  refine g_putI E hM (o := 0) (Nat.le_of_ble_eq_true rfl) rfl fp_X11_157 dX11_sending_2 (fun H locs hM => ?_)
  obtain ⟨m1, hm1, he⟩ := g_let_ex he
  rw [← hm1] at hM
  refine lv_aload_n hx hb dX11_sending_5 rfl (lv_at hl 0 rfl) ?_
  refine lv_iload_n hx hb dX11_sending_6 rfl (lv_at hl 1 rfl) ?_
  obtain ⟨r2, hcr2, he⟩ := g_bind he
  refine g_callV [.int a1] (rest := []) E hml hl.1 hM cv_X11_438 (c11_isSending l D aC B hcr2) (o := 0) (Nat.le_of_ble_eq_true rfl) rfl (by decide) rfl rfl (Nat.le_of_ble_eq_true rfl) dX11_sending_7 (fun H locs hM => ?_)
  refine W.eq (g2 := F0 m 10 ls [.int r2]) rfl ?_
  refine lv_if_ne (tgt := 15) hx hb dX11_sending_10 (by decide) (fun h3 => ?_) (fun h3 => ?_)
  · rw [if_neg h3] at he
    refine lv_iload_n hx hb dX11_sending_15 rfl (lv_at hl 2 rfl) ?_
    refine lv_if_ne (tgt := 28) hx hb dX11_sending_16 (by decide) (fun h4 => ?_) (fun h4 => ?_)
    · rw [if_neg h4] at he
      refine lv_iload_n hx hb dX11_sending_28 rfl (lv_at hl 2 rfl) ?_
      refine lv_iconst (v := (1 : Int32)) hx hb dX11_sending_29 rfl ?_
      refine lv_icmp_ne (tgt := 42) hx hb dX11_sending_30 (by decide) (fun h6 => ?_) (fun h6 => ?_)
      · rw [if_neg h6] at he
        refine lv_iload_n hx hb dX11_sending_42 rfl (lv_at hl 2 rfl) ?_
        refine lv_iconst (v := (2 : Int32)) hx hb dX11_sending_43 rfl ?_
        refine lv_icmp_ne (tgt := 56) hx hb dX11_sending_44 (by decide) (fun h8 => ?_) (fun h8 => ?_)
        · rw [if_neg h8] at he
          refine lv_iload_n hx hb dX11_sending_56 rfl (lv_at hl 2 rfl) ?_
          refine lv_iconst (v := (3 : Int32)) hx hb dX11_sending_57 rfl ?_
          refine lv_icmp_ne (tgt := 70) hx hb dX11_sending_58 (by decide) (fun h10 => ?_) (fun h10 => ?_)
          · rw [if_neg h10] at he
            refine lv_iconst (v := (-1 : Int32)) hx hb dX11_sending_70 rfl ?_
            cases he
            exact g_iret E hM hret hlk dX11_sending_71
          · rw [if_pos h10] at he
            refine lv_aload_n hx hb dX11_sending_61 rfl (lv_at hl 0 rfl) ?_
            refine g_getP E hM (o := 0) (Nat.le_of_ble_eq_true rfl) rfl fl_X11_117 (q := 35) rfl dX11_sending_62 ?_
            refine lv_iload_n hx hb dX11_sending_65 rfl (lv_at hl 1 rfl) ?_
            obtain ⟨h11, he⟩ := g_ck_some he
            refine g_iald E hM (o := 35) (Nat.le_of_ble_eq_true rfl) rfl h11 dX11_sending_66 ?_
            refine lv_goto (tgt := 71) hx hb dX11_sending_67 (by decide) ?_
            cases he
            exact g_iret E hM hret hlk dX11_sending_71
        · rw [if_pos h8] at he
          refine lv_aload_n hx hb dX11_sending_47 rfl (lv_at hl 0 rfl) ?_
          refine g_getP E hM (o := 0) (Nat.le_of_ble_eq_true rfl) rfl fl_X11_114 (q := 34) rfl dX11_sending_48 ?_
          refine lv_iload_n hx hb dX11_sending_51 rfl (lv_at hl 1 rfl) ?_
          obtain ⟨h9, he⟩ := g_ck_some he
          refine g_iald E hM (o := 34) (Nat.le_of_ble_eq_true rfl) rfl h9 dX11_sending_52 ?_
          refine lv_goto (tgt := 71) hx hb dX11_sending_53 (by decide) ?_
          cases he
          exact g_iret E hM hret hlk dX11_sending_71
      · rw [if_pos h6] at he
        refine lv_aload_n hx hb dX11_sending_33 rfl (lv_at hl 0 rfl) ?_
        refine g_getP E hM (o := 0) (Nat.le_of_ble_eq_true rfl) rfl fl_X11_111 (q := 33) rfl dX11_sending_34 ?_
        refine lv_iload_n hx hb dX11_sending_37 rfl (lv_at hl 1 rfl) ?_
        obtain ⟨h7, he⟩ := g_ck_some he
        refine g_iald E hM (o := 33) (Nat.le_of_ble_eq_true rfl) rfl h7 dX11_sending_38 ?_
        refine lv_goto (tgt := 71) hx hb dX11_sending_39 (by decide) ?_
        cases he
        exact g_iret E hM hret hlk dX11_sending_71
    · rw [if_pos h4] at he
      refine lv_aload_n hx hb dX11_sending_19 rfl (lv_at hl 0 rfl) ?_
      refine g_getP E hM (o := 0) (Nat.le_of_ble_eq_true rfl) rfl fl_X11_108 (q := 32) rfl dX11_sending_20 ?_
      refine lv_iload_n hx hb dX11_sending_23 rfl (lv_at hl 1 rfl) ?_
      obtain ⟨h5, he⟩ := g_ck_some he
      refine g_iald E hM (o := 32) (Nat.le_of_ble_eq_true rfl) rfl h5 dX11_sending_24 ?_
      refine lv_goto (tgt := 71) hx hb dX11_sending_25 (by decide) ?_
      cases he
      exact g_iret E hM hret hlk dX11_sending_71
  · rw [if_pos h3] at he
    refine lv_iconst (v := (-1 : Int32)) hx hb dX11_sending_13 rfl ?_
    cases he
    exact g_iret E hM hret hlk dX11_sending_14

set_option maxHeartbeats 4000000 in
set_option maxRecDepth 100000 in
theorem c11_want (l : Launch) (D : va_G) (aC : Nat → ClassId) (B : Nat) {F : Nat} {a1 : Int32} {a2 : Int32} {mem : g_M} {q0 : Int32 × g_M} (he : f11_want F a1 a2 mem = some q0) : g_Met l yX11_want cX11_want 3 (some .int) 1 D aC B yM 44 mem [.ref (B + 0), .int a1, .int a2] (some (.int q0.1)) q0.2 := by
  refine g_ofW (by decide) (Nat.le_of_ble_eq_true rfl) ?_
  intro p e s m args below meth c ls E hml hret hlk hM hl
  have E : g_C p s m args c cX11_want RX11 D aC (g_Zs (g_A B 44)) := E
  have hx := E.1
  have hb := E.2.1
  have hown := E.2.2.1
  have hts := E.2.2.2.1
  have hl : lv_has ls 3 [(0, .ref (B + 0)), (1, .int a1), (2, .int a2)] := hl
  unfold f11_want at he
  refine lv_aload_n hx hb dX11_want_0 rfl (lv_at hl 0 rfl) ?_
  refine lv_iconst (v := (0 : Int32)) hx hb dX11_want_1 rfl ?_
  refine g_putI E hM (o := 0) (Nat.le_of_ble_eq_true rfl) rfl fp_X11_157 dX11_want_2 (fun H locs hM => ?_)
  obtain ⟨m1, hm1, he⟩ := g_let_ex he
  rw [← hm1] at hM
  refine lv_iload_n hx hb dX11_want_5 rfl (lv_at hl 1 rfl) ?_
  refine lv_if_lt (tgt := 19) hx hb dX11_want_6 (by decide) (fun h2 => ?_) (fun h2 => ?_)
  · rw [if_neg (Int32.not_le.mpr h2)] at he
    refine lv_iconst (v := (-1 : Int32)) hx hb dX11_want_19 rfl ?_
    cases he
    exact g_iret E hM hret hlk dX11_want_20
  · rw [if_pos (Int32.not_lt.mp h2)] at he
    refine lv_iload_n hx hb dX11_want_9 rfl (lv_at hl 1 rfl) ?_
    refine lv_aload_n hx hb dX11_want_10 rfl (lv_at hl 0 rfl) ?_
    refine g_getP E hM (o := 0) (Nat.le_of_ble_eq_true rfl) rfl fl_X11_13 (q := 2) rfl dX11_want_11 ?_
    refine lv_iconst (v := (4 : Int32)) hx hb dX11_want_14 rfl ?_
    obtain ⟨h3, he⟩ := g_ck_some he
    refine g_iald E hM (o := 2) (Nat.le_of_ble_eq_true rfl) rfl h3 dX11_want_15 ?_
    refine lv_icmp_lt (tgt := 21) hx hb dX11_want_16 (by decide) (fun h4 => ?_) (fun h4 => ?_)
    · rw [if_neg (Int32.not_le.mpr h4)] at he
      refine lv_iload_n hx hb dX11_want_21 rfl (lv_at hl 2 rfl) ?_
      by_cases h5 : a2 = (0 : Int32)
      · rw [if_pos h5] at he
        refine lv_tableIn (tgt := 60) (off := 38) hx hb dX11_want_22 (by rw [h5]; decide) (by rw [h5]; decide) (by rw [h5]; rfl) (by decide) ?_
        refine lv_aload_n hx hb dX11_want_60 rfl (lv_at hl 0 rfl) ?_
        refine g_getP E hM (o := 0) (Nat.le_of_ble_eq_true rfl) rfl fl_X11_46 (q := 13) rfl dX11_want_61 ?_
        refine lv_iload_n hx hb dX11_want_64 rfl (lv_at hl 1 rfl) ?_
        obtain ⟨h6, he⟩ := g_ck_some he
        refine g_iald E hM (o := 13) (Nat.le_of_ble_eq_true rfl) rfl h6 dX11_want_65 ?_
        cases he
        exact g_iret E hM hret hlk dX11_want_66
      rw [if_neg h5] at he
      by_cases h7 : a2 = (1 : Int32)
      · rw [if_pos h7] at he
        refine lv_tableIn (tgt := 67) (off := 45) hx hb dX11_want_22 (by rw [h7]; decide) (by rw [h7]; decide) (by rw [h7]; rfl) (by decide) ?_
        refine lv_aload_n hx hb dX11_want_67 rfl (lv_at hl 0 rfl) ?_
        refine g_getP E hM (o := 0) (Nat.le_of_ble_eq_true rfl) rfl fl_X11_49 (q := 14) rfl dX11_want_68 ?_
        refine lv_iload_n hx hb dX11_want_71 rfl (lv_at hl 1 rfl) ?_
        obtain ⟨h8, he⟩ := g_ck_some he
        refine g_iald E hM (o := 14) (Nat.le_of_ble_eq_true rfl) rfl h8 dX11_want_72 ?_
        cases he
        exact g_iret E hM hret hlk dX11_want_73
      rw [if_neg h7] at he
      by_cases h9 : a2 = (2 : Int32)
      · rw [if_pos h9] at he
        refine lv_tableIn (tgt := 74) (off := 52) hx hb dX11_want_22 (by rw [h9]; decide) (by rw [h9]; decide) (by rw [h9]; rfl) (by decide) ?_
        refine lv_aload_n hx hb dX11_want_74 rfl (lv_at hl 0 rfl) ?_
        refine g_getP E hM (o := 0) (Nat.le_of_ble_eq_true rfl) rfl fl_X11_52 (q := 15) rfl dX11_want_75 ?_
        refine lv_iload_n hx hb dX11_want_78 rfl (lv_at hl 1 rfl) ?_
        obtain ⟨h10, he⟩ := g_ck_some he
        refine g_iald E hM (o := 15) (Nat.le_of_ble_eq_true rfl) rfl h10 dX11_want_79 ?_
        cases he
        exact g_iret E hM hret hlk dX11_want_80
      rw [if_neg h9] at he
      by_cases h11 : a2 = (3 : Int32)
      · rw [if_pos h11] at he
        refine lv_tableIn (tgt := 81) (off := 59) hx hb dX11_want_22 (by rw [h11]; decide) (by rw [h11]; decide) (by rw [h11]; rfl) (by decide) ?_
        refine lv_aload_n hx hb dX11_want_81 rfl (lv_at hl 0 rfl) ?_
        refine g_getP E hM (o := 0) (Nat.le_of_ble_eq_true rfl) rfl fl_X11_55 (q := 16) rfl dX11_want_82 ?_
        refine lv_iload_n hx hb dX11_want_85 rfl (lv_at hl 1 rfl) ?_
        obtain ⟨h12, he⟩ := g_ck_some he
        refine g_iald E hM (o := 16) (Nat.le_of_ble_eq_true rfl) rfl h12 dX11_want_86 ?_
        cases he
        exact g_iret E hM hret hlk dX11_want_87
      rw [if_neg h11] at he
      by_cases h13 : a2 = (4 : Int32)
      · rw [if_pos h13] at he
        refine lv_tableIn (tgt := 88) (off := 66) hx hb dX11_want_22 (by rw [h13]; decide) (by rw [h13]; decide) (by rw [h13]; rfl) (by decide) ?_
        refine lv_aload_n hx hb dX11_want_88 rfl (lv_at hl 0 rfl) ?_
        refine g_getP E hM (o := 0) (Nat.le_of_ble_eq_true rfl) rfl fl_X11_58 (q := 17) rfl dX11_want_89 ?_
        refine lv_iload_n hx hb dX11_want_92 rfl (lv_at hl 1 rfl) ?_
        obtain ⟨h14, he⟩ := g_ck_some he
        refine g_iald E hM (o := 17) (Nat.le_of_ble_eq_true rfl) rfl h14 dX11_want_93 ?_
        cases he
        exact g_iret E hM hret hlk dX11_want_94
      rw [if_neg h13] at he
      by_cases h15 : a2 = (5 : Int32)
      · rw [if_pos h15] at he
        refine lv_tableIn (tgt := 95) (off := 73) hx hb dX11_want_22 (by rw [h15]; decide) (by rw [h15]; decide) (by rw [h15]; rfl) (by decide) ?_
        refine lv_aload_n hx hb dX11_want_95 rfl (lv_at hl 0 rfl) ?_
        refine g_getP E hM (o := 0) (Nat.le_of_ble_eq_true rfl) rfl fl_X11_105 (q := 31) rfl dX11_want_96 ?_
        refine lv_iload_n hx hb dX11_want_99 rfl (lv_at hl 1 rfl) ?_
        obtain ⟨h16, he⟩ := g_ck_some he
        refine g_iald E hM (o := 31) (Nat.le_of_ble_eq_true rfl) rfl h16 dX11_want_100 ?_
        cases he
        exact g_iret E hM hret hlk dX11_want_101
      rw [if_neg h15] at he
      refine lv_tableOut (tgt := 102) hx hb dX11_want_22 (by have zh5 := lv_neT (a := 0) h5 rfl; have zh7 := lv_neT (a := 1) h7 rfl; have zh9 := lv_neT (a := 2) h9 rfl; have zh11 := lv_neT (a := 3) h11 rfl; have zh13 := lv_neT (a := 4) h13 rfl; have zh15 := lv_neT (a := 5) h15 rfl; omega) (by decide) ?_
      refine lv_iconst (v := (-1 : Int32)) hx hb dX11_want_102 rfl ?_
      cases he
      exact g_iret E hM hret hlk dX11_want_103
    · rw [if_pos (Int32.not_lt.mp h4)] at he
      refine lv_iconst (v := (-1 : Int32)) hx hb dX11_want_19 rfl ?_
      cases he
      exact g_iret E hM hret hlk dX11_want_20

set_option maxHeartbeats 4000000 in
set_option maxRecDepth 100000 in
theorem c11_holds (l : Launch) (D : va_G) (aC : Nat → ClassId) (B : Nat) {F : Nat} {a1 : Int32} {a2 : Int32} {mem : g_M} {q0 : Int32 × g_M} (he : f11_holds F a1 a2 mem = some q0) : g_Met l yX11_holds cX11_holds 3 (some .int) 2 D aC B yM 44 mem [.ref (B + 0), .int a1, .int a2] (some (.int q0.1)) q0.2 := by
  refine g_ofW (by decide) (Nat.le_of_ble_eq_true rfl) ?_
  intro p e s m args below meth c ls E hml hret hlk hM hl
  have E : g_C p s m args c cX11_holds RX11 D aC (g_Zs (g_A B 44)) := E
  have hx := E.1
  have hb := E.2.1
  have hown := E.2.2.1
  have hts := E.2.2.2.1
  have hl : lv_has ls 3 [(0, .ref (B + 0)), (1, .int a1), (2, .int a2)] := hl
  unfold f11_holds at he
  refine lv_aload_n hx hb dX11_holds_0 rfl (lv_at hl 0 rfl) ?_
  refine lv_iconst (v := (0 : Int32)) hx hb dX11_holds_1 rfl ?_
  refine g_putI E hM (o := 0) (Nat.le_of_ble_eq_true rfl) rfl fp_X11_157 dX11_holds_2 (fun H locs hM => ?_)
  obtain ⟨m1, hm1, he⟩ := g_let_ex he
  rw [← hm1] at hM
  refine lv_aload_n hx hb dX11_holds_5 rfl (lv_at hl 0 rfl) ?_
  refine lv_iload_n hx hb dX11_holds_6 rfl (lv_at hl 1 rfl) ?_
  obtain ⟨r2, hcr2, he⟩ := g_bind he
  refine g_callV [.int a1] (rest := []) E hml hl.1 hM cv_X11_426 (c11_isMan l D aC B hcr2) (o := 0) (Nat.le_of_ble_eq_true rfl) rfl (by decide) rfl rfl (Nat.le_of_ble_eq_true rfl) dX11_holds_7 (fun H locs hM => ?_)
  refine W.eq (g2 := F0 m 10 ls [.int r2]) rfl ?_
  refine lv_if_eq (tgt := 34) hx hb dX11_holds_10 (by decide) (fun h3 => ?_) (fun h3 => ?_)
  · rw [if_pos h3] at he
    refine lv_iconst (v := (-1 : Int32)) hx hb dX11_holds_34 rfl ?_
    cases he
    exact g_iret E hM hret hlk dX11_holds_35
  · rw [if_neg h3] at he
    refine lv_aload_n hx hb dX11_holds_13 rfl (lv_at hl 0 rfl) ?_
    refine lv_iload_n hx hb dX11_holds_14 rfl (lv_at hl 2 rfl) ?_
    obtain ⟨r4, hcr4, he⟩ := g_bind he
    refine g_callV [.int a2] (rest := []) E hml hl.1 hM cv_X11_432 (c11_isSort l D aC B hcr4) (o := 0) (Nat.le_of_ble_eq_true rfl) rfl (by decide) rfl rfl (Nat.le_of_ble_eq_true rfl) dX11_holds_15 (fun H locs hM => ?_)
    refine W.eq (g2 := F0 m 18 ls [.int r4]) rfl ?_
    refine lv_if_eq (tgt := 34) hx hb dX11_holds_18 (by decide) (fun h5 => ?_) (fun h5 => ?_)
    · rw [if_pos h5] at he
      refine lv_iconst (v := (-1 : Int32)) hx hb dX11_holds_34 rfl ?_
      cases he
      exact g_iret E hM hret hlk dX11_holds_35
    · rw [if_neg h5] at he
      refine lv_aload_n hx hb dX11_holds_21 rfl (lv_at hl 0 rfl) ?_
      refine g_getP E hM (o := 0) (Nat.le_of_ble_eq_true rfl) rfl fl_X11_99 (q := 29) rfl dX11_holds_22 ?_
      refine lv_iconst (v := (5 : Int32)) hx hb dX11_holds_25 rfl ?_
      refine lv_iload_n hx hb dX11_holds_26 rfl (lv_at hl 1 rfl) ?_
      refine lv_imul hx hb dX11_holds_27 ?_
      refine lv_iload_n hx hb dX11_holds_28 rfl (lv_at hl 2 rfl) ?_
      refine lv_iadd hx hb dX11_holds_29 ?_
      obtain ⟨h6, he⟩ := g_ck_some he
      refine g_iald E hM (o := 29) (Nat.le_of_ble_eq_true rfl) rfl h6 dX11_holds_30 ?_
      refine lv_goto (tgt := 35) hx hb dX11_holds_31 (by decide) ?_
      cases he
      exact g_iret E hM hret hlk dX11_holds_35

set_option maxHeartbeats 4000000 in
set_option maxRecDepth 100000 in
theorem c11_port (l : Launch) (D : va_G) (aC : Nat → ClassId) (B : Nat) {F : Nat} {a1 : Int32} {a2 : Int32} {mem : g_M} {q0 : Int32 × g_M} (he : f11_port F a1 a2 mem = some q0) : g_Met l yX11_port cX11_port 3 (some .int) 2 D aC B yM 44 mem [.ref (B + 0), .int a1, .int a2] (some (.int q0.1)) q0.2 := by
  refine g_ofW (by decide) (Nat.le_of_ble_eq_true rfl) ?_
  intro p e s m args below meth c ls E hml hret hlk hM hl
  have E : g_C p s m args c cX11_port RX11 D aC (g_Zs (g_A B 44)) := E
  have hx := E.1
  have hb := E.2.1
  have hown := E.2.2.1
  have hts := E.2.2.2.1
  have hl : lv_has ls 3 [(0, .ref (B + 0)), (1, .int a1), (2, .int a2)] := hl
  unfold f11_port at he
  refine lv_aload_n hx hb dX11_port_0 rfl (lv_at hl 0 rfl) ?_
  refine lv_iconst (v := (0 : Int32)) hx hb dX11_port_1 rfl ?_
  refine g_putI E hM (o := 0) (Nat.le_of_ble_eq_true rfl) rfl fp_X11_157 dX11_port_2 (fun H locs hM => ?_)
  obtain ⟨m1, hm1, he⟩ := g_let_ex he
  rw [← hm1] at hM
  refine lv_aload_n hx hb dX11_port_5 rfl (lv_at hl 0 rfl) ?_
  refine lv_iload_n hx hb dX11_port_6 rfl (lv_at hl 1 rfl) ?_
  obtain ⟨r2, hcr2, he⟩ := g_bind he
  refine g_callV [.int a1] (rest := []) E hml hl.1 hM cv_X11_426 (c11_isMan l D aC B hcr2) (o := 0) (Nat.le_of_ble_eq_true rfl) rfl (by decide) rfl rfl (Nat.le_of_ble_eq_true rfl) dX11_port_7 (fun H locs hM => ?_)
  refine W.eq (g2 := F0 m 10 ls [.int r2]) rfl ?_
  refine lv_if_eq (tgt := 34) hx hb dX11_port_10 (by decide) (fun h3 => ?_) (fun h3 => ?_)
  · rw [if_pos h3] at he
    refine lv_iconst (v := (-1 : Int32)) hx hb dX11_port_34 rfl ?_
    cases he
    exact g_iret E hM hret hlk dX11_port_35
  · rw [if_neg h3] at he
    refine lv_aload_n hx hb dX11_port_13 rfl (lv_at hl 0 rfl) ?_
    refine lv_iload_n hx hb dX11_port_14 rfl (lv_at hl 2 rfl) ?_
    obtain ⟨r4, hcr4, he⟩ := g_bind he
    refine g_callV [.int a2] (rest := []) E hml hl.1 hM cv_X11_432 (c11_isSort l D aC B hcr4) (o := 0) (Nat.le_of_ble_eq_true rfl) rfl (by decide) rfl rfl (Nat.le_of_ble_eq_true rfl) dX11_port_15 (fun H locs hM => ?_)
    refine W.eq (g2 := F0 m 18 ls [.int r4]) rfl ?_
    refine lv_if_eq (tgt := 34) hx hb dX11_port_18 (by decide) (fun h5 => ?_) (fun h5 => ?_)
    · rw [if_pos h5] at he
      refine lv_iconst (v := (-1 : Int32)) hx hb dX11_port_34 rfl ?_
      cases he
      exact g_iret E hM hret hlk dX11_port_35
    · rw [if_neg h5] at he
      refine lv_aload_n hx hb dX11_port_21 rfl (lv_at hl 0 rfl) ?_
      refine g_getP E hM (o := 0) (Nat.le_of_ble_eq_true rfl) rfl fl_X11_102 (q := 30) rfl dX11_port_22 ?_
      refine lv_iconst (v := (5 : Int32)) hx hb dX11_port_25 rfl ?_
      refine lv_iload_n hx hb dX11_port_26 rfl (lv_at hl 1 rfl) ?_
      refine lv_imul hx hb dX11_port_27 ?_
      refine lv_iload_n hx hb dX11_port_28 rfl (lv_at hl 2 rfl) ?_
      refine lv_iadd hx hb dX11_port_29 ?_
      obtain ⟨h6, he⟩ := g_ck_some he
      refine g_iald E hM (o := 30) (Nat.le_of_ble_eq_true rfl) rfl h6 dX11_port_30 ?_
      refine lv_goto (tgt := 35) hx hb dX11_port_31 (by decide) ?_
      cases he
      exact g_iret E hM hret hlk dX11_port_35

set_option maxHeartbeats 4000000 in
set_option maxRecDepth 100000 in
theorem c11_areThese (l : Launch) (D : va_G) (aC : Nat → ClassId) (B : Nat) {F : Nat} {a1 : Int32} {a2 : Int32} {a3 : Int32} {mem : g_M} {q0 : Int32} (he : f11_areThese F a1 a2 a3 mem = some q0) : g_Met l yX11_areThese cX11_areThese 4 (some .boolean) 2 D aC B yM 44 mem [.ref (B + 0), .int a1, .int a2, .int a3] (some (.int q0)) mem := by
  refine g_ofW (by decide) (Nat.le_of_ble_eq_true rfl) ?_
  intro p e s m args below meth c ls E hml hret hlk hM hl
  have E : g_C p s m args c cX11_areThese RX11 D aC (g_Zs (g_A B 44)) := E
  have hx := E.1
  have hb := E.2.1
  have hown := E.2.2.1
  have hts := E.2.2.2.1
  have hl : lv_has ls 4 [(0, .ref (B + 0)), (1, .int a1), (2, .int a2), (3, .int a3)] := hl
  unfold f11_areThese at he
  refine lv_aload_n hx hb dX11_areThese_0 rfl (lv_at hl 0 rfl) ?_
  refine lv_iload_n hx hb dX11_areThese_1 rfl (lv_at hl 1 rfl) ?_
  obtain ⟨r1, hcr1, he⟩ := g_bind he
  refine g_callV [.int a1] (rest := []) E hml hl.1 hM cv_X11_426 (c11_isMan l D aC B hcr1) (o := 0) (Nat.le_of_ble_eq_true rfl) rfl (by decide) rfl rfl (Nat.le_of_ble_eq_true rfl) dX11_areThese_2 (fun H locs hM => ?_)
  refine W.eq (g2 := F0 m 5 ls [.int r1]) rfl ?_
  refine lv_if_eq (tgt := 27) hx hb dX11_areThese_5 (by decide) (fun h2 => ?_) (fun h2 => ?_)
  · rw [if_pos h2] at he
    refine lv_iconst (v := (0 : Int32)) hx hb dX11_areThese_27 rfl ?_
    cases he
    exact g_zret E hM hret hlk (Or.inl rfl) dX11_areThese_28
  · rw [if_neg h2] at he
    refine lv_aload_n hx hb dX11_areThese_8 rfl (lv_at hl 0 rfl) ?_
    refine lv_iload_n hx hb dX11_areThese_9 rfl (lv_at hl 2 rfl) ?_
    obtain ⟨r3, hcr3, he⟩ := g_bind he
    refine g_callV [.int a2] (rest := []) E hml hl.1 hM cv_X11_435 (c11_isDeed l D aC B hcr3) (o := 0) (Nat.le_of_ble_eq_true rfl) rfl (by decide) rfl rfl (Nat.le_of_ble_eq_true rfl) dX11_areThese_10 (fun H locs hM => ?_)
    refine W.eq (g2 := F0 m 13 ls [.int r3]) rfl ?_
    refine lv_if_eq (tgt := 27) hx hb dX11_areThese_13 (by decide) (fun h4 => ?_) (fun h4 => ?_)
    · rw [if_pos h4] at he
      refine lv_iconst (v := (0 : Int32)) hx hb dX11_areThese_27 rfl ?_
      cases he
      exact g_zret E hM hret hlk (Or.inl rfl) dX11_areThese_28
    · rw [if_neg h4] at he
      refine lv_iload_n hx hb dX11_areThese_16 rfl (lv_at hl 3 rfl) ?_
      obtain ⟨r5, hcr5, he⟩ := g_bind he
      refine g_callS [.int a3] (rest := []) E hml hl.1 hM cs_X11_441 (c11_isPort l D aC B hcr5) (by decide) rfl rfl (Nat.le_of_ble_eq_true rfl) dX11_areThese_17 (fun H locs hM => ?_)
      refine W.eq (g2 := F0 m 20 ls [.int r5]) rfl ?_
      refine lv_if_eq (tgt := 27) hx hb dX11_areThese_20 (by decide) (fun h6 => ?_) (fun h6 => ?_)
      · rw [if_pos h6] at he
        refine lv_iconst (v := (0 : Int32)) hx hb dX11_areThese_27 rfl ?_
        cases he
        exact g_zret E hM hret hlk (Or.inl rfl) dX11_areThese_28
      · rw [if_neg h6] at he
        refine lv_iconst (v := (1 : Int32)) hx hb dX11_areThese_23 rfl ?_
        refine lv_goto (tgt := 28) hx hb dX11_areThese_24 (by decide) ?_
        cases he
        exact g_zret E hM hret hlk (Or.inr rfl) dX11_areThese_28

set_option maxHeartbeats 4000000 in
set_option maxRecDepth 100000 in
theorem c11_can (l : Launch) (D : va_G) (aC : Nat → ClassId) (B : Nat) {F : Nat} {a1 : Int32} {a2 : Int32} {a3 : Int32} {mem : g_M} {q0 : Int32 × g_M} (he : f11_can F a1 a2 a3 mem = some q0) : g_Met l yX11_can cX11_can 4 (some .int) 3 D aC B yM 44 mem [.ref (B + 0), .int a1, .int a2, .int a3] (some (.int q0.1)) q0.2 := by
  refine g_ofW (by decide) (Nat.le_of_ble_eq_true rfl) ?_
  intro p e s m args below meth c ls E hml hret hlk hM hl
  have E : g_C p s m args c cX11_can RX11 D aC (g_Zs (g_A B 44)) := E
  have hx := E.1
  have hb := E.2.1
  have hown := E.2.2.1
  have hts := E.2.2.2.1
  have hl : lv_has ls 4 [(0, .ref (B + 0)), (1, .int a1), (2, .int a2), (3, .int a3)] := hl
  unfold f11_can at he
  refine lv_aload_n hx hb dX11_can_0 rfl (lv_at hl 0 rfl) ?_
  refine lv_iconst (v := (0 : Int32)) hx hb dX11_can_1 rfl ?_
  refine g_putI E hM (o := 0) (Nat.le_of_ble_eq_true rfl) rfl fp_X11_157 dX11_can_2 (fun H locs hM => ?_)
  obtain ⟨m1, hm1, he⟩ := g_let_ex he
  rw [← hm1] at hM
  refine lv_aload_n hx hb dX11_can_5 rfl (lv_at hl 0 rfl) ?_
  refine lv_iload_n hx hb dX11_can_6 rfl (lv_at hl 1 rfl) ?_
  refine lv_iload_n hx hb dX11_can_7 rfl (lv_at hl 2 rfl) ?_
  refine lv_iload_n hx hb dX11_can_8 rfl (lv_at hl 3 rfl) ?_
  obtain ⟨r2, hcr2, he⟩ := g_bind he
  refine g_callV [.int a1, .int a2, .int a3] (rest := []) E hml hl.1 hM cv_X11_444 (c11_areThese l D aC B hcr2) (o := 0) (Nat.le_of_ble_eq_true rfl) rfl (by decide) rfl rfl (Nat.le_of_ble_eq_true rfl) dX11_can_9 (fun H locs hM => ?_)
  refine W.eq (g2 := F0 m 12 ls [.int r2]) rfl ?_
  refine lv_if_ne (tgt := 19) hx hb dX11_can_12 (by decide) (fun h3 => ?_) (fun h3 => ?_)
  · rw [if_neg h3] at he
    refine lv_aload_n hx hb dX11_can_19 rfl (lv_at hl 0 rfl) ?_
    refine lv_iconst (v := (0 : Int32)) hx hb dX11_can_20 rfl ?_
    refine lv_iload_n hx hb dX11_can_21 rfl (lv_at hl 1 rfl) ?_
    refine lv_iload_n hx hb dX11_can_22 rfl (lv_at hl 2 rfl) ?_
    refine lv_iload_n hx hb dX11_can_23 rfl (lv_at hl 3 rfl) ?_
    obtain ⟨r4, hcr4, he⟩ := g_bind he
    refine g_callV [.int (0 : Int32), .int a1, .int a2, .int a3] (rest := []) E hml hl.1 hM cv_X11_365 (c11_canDo l D aC B hcr4) (o := 0) (Nat.le_of_ble_eq_true rfl) rfl (by decide) rfl rfl (Nat.le_of_ble_eq_true rfl) dX11_can_24 (fun H locs hM => ?_)
    refine W.eq (g2 := F0 m 27 ls [.int r4]) rfl ?_
    refine lv_if_eq (tgt := 34) hx hb dX11_can_27 (by decide) (fun h5 => ?_) (fun h5 => ?_)
    · rw [if_pos h5] at he
      refine lv_iconst (v := (0 : Int32)) hx hb dX11_can_34 rfl ?_
      cases he
      exact g_iret E hM hret hlk dX11_can_35
    · rw [if_neg h5] at he
      refine lv_iconst (v := (1 : Int32)) hx hb dX11_can_30 rfl ?_
      refine lv_goto (tgt := 35) hx hb dX11_can_31 (by decide) ?_
      cases he
      exact g_iret E hM hret hlk dX11_can_35
  · rw [if_pos h3] at he
    refine lv_iconst (v := (-1 : Int32)) hx hb dX11_can_15 rfl ?_
    refine lv_goto (tgt := 35) hx hb dX11_can_16 (by decide) ?_
    cases he
    exact g_iret E hM hret hlk dX11_can_35

set_option maxHeartbeats 4000000 in
set_option maxRecDepth 100000 in
theorem w11_law_b130 (E : g_C p s m args c cX11_law RX11 D aC (g_Zs (g_A B 44))) (hml : c.maxLocals = 4) (hret : meth.sig.returnType = (some .long)) (hlk : meth.locks = false) {F : Nat} {q0 : Int64 × g_M} {a1 : Int32} {a2 : Int32} {a3 : Int32} : ∀ (mem : g_M) (H : Heap) (locs : List Loc) (ls : Array Slot), g_At D aC B yM 44 mem s.heap H locs → lv_has ls 4 [(0, .ref (B + 0)), (1, .int a1)] → f11_law_b130 F a1 a2 a3 mem = some q0 → W p l e (g_rm 4) s m args below meth c H locs 0 0 (g_MQ below D aC B yM 44 args s (some (.long q0.1)) q0.2) (F0 m 130 ls []) := by
  intro mem H locs ls hM hl he
  unfold f11_law_b130 at he
  have hx := E.1
  have hb := E.2.1
  have hown := E.2.2.1
  have hts := E.2.2.2.1
  refine lv_aload_n hx hb dX11_law_130 rfl (lv_at hl 0 rfl) ?_
  refine lv_iload_n hx hb dX11_law_131 rfl (lv_at hl 1 rfl) ?_
  obtain ⟨r1, hcr1, he⟩ := g_bind he
  refine g_callV [.int a1] (rest := []) E hml hl.1 hM cv_X11_355 (c11_goes l D aC B hcr1) (o := 0) (Nat.le_of_ble_eq_true rfl) rfl (by decide) rfl rfl (Nat.le_of_ble_eq_true rfl) dX11_law_132 (fun H locs hM => ?_)
  refine W.eq (g2 := F0 m 135 ls [.int r1.1]) rfl ?_
  refine lv_if_eq (tgt := 147) hx hb dX11_law_135 (by decide) (fun h2 => ?_) (fun h2 => ?_)
  · rw [if_pos h2] at he
    refine lv_ldc2 (v := (-9223372036854775808 : Int64)) hx hb hown (hts _ kc_X11_449) dX11_law_147 ?_
    cases he
    exact g_lret E hM hret hlk dX11_law_150
  · rw [if_neg h2] at he
    refine lv_aload_n hx hb dX11_law_138 rfl (lv_at hl 0 rfl) ?_
    refine g_getP E hM (o := 0) (Nat.le_of_ble_eq_true rfl) rfl fl_X11_81 (q := 23) rfl dX11_law_139 ?_
    refine lv_iconst (v := (0 : Int32)) hx hb dX11_law_142 rfl ?_
    obtain ⟨h3, he⟩ := g_ck_some he
    refine g_lald E hM (o := 23) (Nat.le_of_ble_eq_true rfl) rfl h3 dX11_law_143 ?_
    refine lv_goto (tgt := 150) hx hb dX11_law_144 (by decide) ?_
    cases he
    exact g_lret E hM hret hlk dX11_law_150

set_option maxHeartbeats 4000000 in
set_option maxRecDepth 100000 in
theorem w11_law_b73 (E : g_C p s m args c cX11_law RX11 D aC (g_Zs (g_A B 44))) (hml : c.maxLocals = 4) (hret : meth.sig.returnType = (some .long)) (hlk : meth.locks = false) {F : Nat} {q0 : Int64 × g_M} {a1 : Int32} {a2 : Int32} {a3 : Int32} : ∀ (mem : g_M) (H : Heap) (locs : List Loc) (ls : Array Slot), g_At D aC B yM 44 mem s.heap H locs → lv_has ls 4 [(0, .ref (B + 0)), (1, .int a1), (2, .int a2), (3, .int a3)] → f11_law_b73 F a1 a2 a3 mem = some q0 → W p l e (g_rm 4) s m args below meth c H locs 0 0 (g_MQ below D aC B yM 44 args s (some (.long q0.1)) q0.2) (F0 m 73 ls []) := by
  intro mem H locs ls hM hl he
  unfold f11_law_b73 at he
  have hx := E.1
  have hb := E.2.1
  have hown := E.2.2.1
  have hts := E.2.2.2.1
  refine lv_iload_n hx hb dX11_law_73 rfl (lv_at hl 1 rfl) ?_
  refine lv_if_ne (tgt := 94) hx hb dX11_law_74 (by decide) (fun h4 => ?_) (fun h4 => ?_)
  · rw [if_neg h4] at he
    refine lv_iload_n hx hb dX11_law_94 rfl (lv_at hl 1 rfl) ?_
    refine lv_iconst (v := (1 : Int32)) hx hb dX11_law_95 rfl ?_
    refine lv_icmp_ne (tgt := 121) hx hb dX11_law_96 (by decide) (fun h7 => ?_) (fun h7 => ?_)
    · rw [if_neg h7] at he
      refine lv_aload_n hx hb dX11_law_121 rfl (lv_at hl 0 rfl) ?_
      refine lv_iconst (v := (0 : Int32)) hx hb dX11_law_122 rfl ?_
      refine lv_iconst (v := (-1 : Int32)) hx hb dX11_law_123 rfl ?_
      refine lv_iload_n hx hb dX11_law_124 rfl (lv_at hl 3 rfl) ?_
      refine lv_iconst (v := (0 : Int32)) hx hb dX11_law_125 rfl ?_
      refine lv_iconst (v := (0 : Int32)) hx hb dX11_law_126 rfl ?_
      obtain ⟨r11, hcr11, he⟩ := g_bind he
      refine g_callV [.int (0 : Int32), .int (-1 : Int32), .int a3, .int (0 : Int32), .int (0 : Int32)] (rest := []) E hml hl.1 hM cv_X11_372 (c11_calls l D aC B hcr11) (o := 0) (Nat.le_of_ble_eq_true rfl) rfl (by decide) rfl rfl (Nat.le_of_ble_eq_true rfl) dX11_law_127 (fun H locs hM => ?_)
      refine W.eq (g2 := F0 m 130 ls []) rfl ?_
      exact w11_law_b130 (F := F) (a1 := a1) (a2 := a2) (a3 := a3) E hml hret hlk _ _ _ _ hM (lv_sub hl [0, 1] rfl) he
    · rw [if_pos h7] at he
      refine lv_aload_n hx hb dX11_law_99 rfl (lv_at hl 0 rfl) ?_
      refine lv_iconst (v := (0 : Int32)) hx hb dX11_law_100 rfl ?_
      refine lv_iload_n hx hb dX11_law_101 rfl (lv_at hl 2 rfl) ?_
      refine lv_iconst (v := (-1 : Int32)) hx hb dX11_law_102 rfl ?_
      refine lv_aload_n hx hb dX11_law_103 rfl (lv_at hl 0 rfl) ?_
      refine lv_iconst (v := (0 : Int32)) hx hb dX11_law_104 rfl ?_
      refine lv_iload_n hx hb dX11_law_105 rfl (lv_at hl 2 rfl) ?_
      obtain ⟨r8, hcr8, he⟩ := g_bind he
      refine g_callV [.int (0 : Int32), .int a2] (rest := [.int (-1 : Int32), .int a2, .int (0 : Int32), .ref (B + 0)]) E hml hl.1 hM cv_X11_369 (c11_awayOf l D aC B hcr8) (o := 0) (Nat.le_of_ble_eq_true rfl) rfl (by decide) rfl rfl (Nat.le_of_ble_eq_true rfl) dX11_law_106 (fun H locs hM => ?_)
      refine W.eq (g2 := F0 m 109 ls [.int r8, .int (-1 : Int32), .int a2, .int (0 : Int32), .ref (B + 0)]) rfl ?_
      refine lv_aload_n hx hb dX11_law_109 rfl (lv_at hl 0 rfl) ?_
      refine g_getP E hM (o := 0) (Nat.le_of_ble_eq_true rfl) rfl fl_X11_58 (q := 17) rfl dX11_law_110 ?_
      refine lv_iload_n hx hb dX11_law_113 rfl (lv_at hl 3 rfl) ?_
      obtain ⟨h9, he⟩ := g_ck_some he
      refine g_iald E hM (o := 17) (Nat.le_of_ble_eq_true rfl) rfl h9 dX11_law_114 ?_
      obtain ⟨r10, hcr10, he⟩ := g_bind he
      refine g_callV [.int (0 : Int32), .int a2, .int (-1 : Int32), .int r8, .int (mem.1 17 a3.toNatClampNeg)] (rest := []) E hml hl.1 hM cv_X11_372 (c11_calls l D aC B hcr10) (o := 0) (Nat.le_of_ble_eq_true rfl) rfl (by decide) rfl rfl (Nat.le_of_ble_eq_true rfl) dX11_law_115 (fun H locs hM => ?_)
      refine W.eq (g2 := F0 m 118 ls []) rfl ?_
      refine lv_goto (tgt := 130) hx hb dX11_law_118 (by decide) ?_
      exact w11_law_b130 (F := F) (a1 := a1) (a2 := a2) (a3 := a3) E hml hret hlk _ _ _ _ hM (lv_sub hl [0, 1] rfl) he
  · rw [if_pos h4] at he
    refine lv_aload_n hx hb dX11_law_77 rfl (lv_at hl 0 rfl) ?_
    refine lv_iconst (v := (0 : Int32)) hx hb dX11_law_78 rfl ?_
    refine lv_iload_n hx hb dX11_law_79 rfl (lv_at hl 2 rfl) ?_
    refine lv_iload_n hx hb dX11_law_80 rfl (lv_at hl 3 rfl) ?_
    refine lv_aload_n hx hb dX11_law_81 rfl (lv_at hl 0 rfl) ?_
    refine lv_iconst (v := (0 : Int32)) hx hb dX11_law_82 rfl ?_
    refine lv_iload_n hx hb dX11_law_83 rfl (lv_at hl 2 rfl) ?_
    obtain ⟨r5, hcr5, he⟩ := g_bind he
    refine g_callV [.int (0 : Int32), .int a2] (rest := [.int a3, .int a2, .int (0 : Int32), .ref (B + 0)]) E hml hl.1 hM cv_X11_369 (c11_awayOf l D aC B hcr5) (o := 0) (Nat.le_of_ble_eq_true rfl) rfl (by decide) rfl rfl (Nat.le_of_ble_eq_true rfl) dX11_law_84 (fun H locs hM => ?_)
    refine W.eq (g2 := F0 m 87 ls [.int r5, .int a3, .int a2, .int (0 : Int32), .ref (B + 0)]) rfl ?_
    refine lv_iconst (v := (0 : Int32)) hx hb dX11_law_87 rfl ?_
    obtain ⟨r6, hcr6, he⟩ := g_bind he
    refine g_callV [.int (0 : Int32), .int a2, .int a3, .int r5, .int (0 : Int32)] (rest := []) E hml hl.1 hM cv_X11_372 (c11_calls l D aC B hcr6) (o := 0) (Nat.le_of_ble_eq_true rfl) rfl (by decide) rfl rfl (Nat.le_of_ble_eq_true rfl) dX11_law_88 (fun H locs hM => ?_)
    refine W.eq (g2 := F0 m 91 ls []) rfl ?_
    refine lv_goto (tgt := 130) hx hb dX11_law_91 (by decide) ?_
    exact w11_law_b130 (F := F) (a1 := a1) (a2 := a2) (a3 := a3) E hml hret hlk _ _ _ _ hM (lv_sub hl [0, 1] rfl) he

set_option maxHeartbeats 4000000 in
set_option maxRecDepth 100000 in
theorem w11_law_b39 (E : g_C p s m args c cX11_law RX11 D aC (g_Zs (g_A B 44))) (hml : c.maxLocals = 4) (hret : meth.sig.returnType = (some .long)) (hlk : meth.locks = false) {F : Nat} {q0 : Int64 × g_M} {a1 : Int32} {a2 : Int32} {a3 : Int32} : ∀ (mem : g_M) (H : Heap) (locs : List Loc) (ls : Array Slot), g_At D aC B yM 44 mem s.heap H locs → lv_has ls 4 [(0, .ref (B + 0)), (1, .int a1), (2, .int a2), (3, .int a3)] → f11_law_b39 F a1 a2 a3 mem = some q0 → W p l e (g_rm 4) s m args below meth c H locs 0 0 (g_MQ below D aC B yM 44 args s (some (.long q0.1)) q0.2) (F0 m 39 ls []) := by
  intro mem H locs ls hM hl he
  unfold f11_law_b39 at he
  have hx := E.1
  have hb := E.2.1
  have hown := E.2.2.1
  have hts := E.2.2.2.1
  refine lv_iload_n hx hb dX11_law_39 rfl (lv_at hl 1 rfl) ?_
  refine lv_iconst (v := (1 : Int32)) hx hb dX11_law_40 rfl ?_
  refine lv_icmp_ne (tgt := 61) hx hb dX11_law_41 (by decide) (fun h12 => ?_) (fun h12 => ?_)
  · rw [if_neg h12] at he
    refine lv_aload_n hx hb dX11_law_61 rfl (lv_at hl 0 rfl) ?_
    refine lv_iload_n hx hb dX11_law_62 rfl (lv_at hl 3 rfl) ?_
    obtain ⟨r16, hcr16, he⟩ := g_bind he
    refine g_callV [.int a3] (rest := []) E hml hl.1 hM cv_X11_432 (c11_isSort l D aC B hcr16) (o := 0) (Nat.le_of_ble_eq_true rfl) rfl (by decide) rfl rfl (Nat.le_of_ble_eq_true rfl) dX11_law_63 (fun H locs hM => ?_)
    refine W.eq (g2 := F0 m 66 ls [.int r16]) rfl ?_
    refine lv_if_ne (tgt := 73) hx hb dX11_law_66 (by decide) (fun h17 => ?_) (fun h17 => ?_)
    · rw [if_neg h17] at he
      exact w11_law_b73 (F := F) (a1 := a1) (a2 := a2) (a3 := a3) E hml hret hlk _ _ _ _ hM (lv_sub hl [0, 1, 2, 3] rfl) he
    · rw [if_pos h17] at he
      refine lv_ldc2 (v := (-9223372036854775808 : Int64)) hx hb hown (hts _ kc_X11_449) dX11_law_69 ?_
      cases he
      exact g_lret E hM hret hlk dX11_law_72
  · rw [if_pos h12] at he
    refine lv_iload_n hx hb dX11_law_44 rfl (lv_at hl 3 rfl) ?_
    refine lv_if_lt (tgt := 69) hx hb dX11_law_45 (by decide) (fun h13 => ?_) (fun h13 => ?_)
    · rw [if_neg (Int32.not_le.mpr h13)] at he
      refine lv_ldc2 (v := (-9223372036854775808 : Int64)) hx hb hown (hts _ kc_X11_449) dX11_law_69 ?_
      cases he
      exact g_lret E hM hret hlk dX11_law_72
    · rw [if_pos (Int32.not_lt.mp h13)] at he
      refine lv_iload_n hx hb dX11_law_48 rfl (lv_at hl 3 rfl) ?_
      refine lv_aload_n hx hb dX11_law_49 rfl (lv_at hl 0 rfl) ?_
      refine g_getP E hM (o := 0) (Nat.le_of_ble_eq_true rfl) rfl fl_X11_13 (q := 2) rfl dX11_law_50 ?_
      refine lv_iconst (v := (4 : Int32)) hx hb dX11_law_53 rfl ?_
      obtain ⟨h14, he⟩ := g_ck_some he
      refine g_iald E hM (o := 2) (Nat.le_of_ble_eq_true rfl) rfl h14 dX11_law_54 ?_
      refine lv_icmp_lt (tgt := 73) hx hb dX11_law_55 (by decide) (fun h15 => ?_) (fun h15 => ?_)
      · rw [if_neg (Int32.not_le.mpr h15)] at he
        exact w11_law_b73 (F := F) (a1 := a1) (a2 := a2) (a3 := a3) E hml hret hlk _ _ _ _ hM (lv_sub hl [0, 1, 2, 3] rfl) he
      · rw [if_pos (Int32.not_lt.mp h15)] at he
        refine lv_goto (tgt := 69) hx hb dX11_law_58 (by decide) ?_
        refine lv_ldc2 (v := (-9223372036854775808 : Int64)) hx hb hown (hts _ kc_X11_449) dX11_law_69 ?_
        cases he
        exact g_lret E hM hret hlk dX11_law_72

set_option maxHeartbeats 4000000 in
set_option maxRecDepth 100000 in
theorem c11_law (l : Launch) (D : va_G) (aC : Nat → ClassId) (B : Nat) {F : Nat} {a1 : Int32} {a2 : Int32} {a3 : Int32} {mem : g_M} {q0 : Int64 × g_M} (he : f11_law F a1 a2 a3 mem = some q0) : g_Met l yX11_law cX11_law 4 (some .long) 4 D aC B yM 44 mem [.ref (B + 0), .int a1, .int a2, .int a3] (some (.long q0.1)) q0.2 := by
  refine g_ofW (by decide) (Nat.le_of_ble_eq_true rfl) ?_
  intro p e s m args below meth c ls E hml hret hlk hM hl
  have E : g_C p s m args c cX11_law RX11 D aC (g_Zs (g_A B 44)) := E
  have hx := E.1
  have hb := E.2.1
  have hown := E.2.2.1
  have hts := E.2.2.2.1
  have hl : lv_has ls 4 [(0, .ref (B + 0)), (1, .int a1), (2, .int a2), (3, .int a3)] := hl
  unfold f11_law at he
  refine lv_aload_n hx hb dX11_law_0 rfl (lv_at hl 0 rfl) ?_
  refine lv_iconst (v := (0 : Int32)) hx hb dX11_law_1 rfl ?_
  refine g_putI E hM (o := 0) (Nat.le_of_ble_eq_true rfl) rfl fp_X11_157 dX11_law_2 (fun H locs hM => ?_)
  obtain ⟨m18, hm18, he⟩ := g_let_ex he
  rw [← hm18] at hM
  refine lv_iload_n hx hb dX11_law_5 rfl (lv_at hl 1 rfl) ?_
  refine lv_if_lt (tgt := 35) hx hb dX11_law_6 (by decide) (fun h19 => ?_) (fun h19 => ?_)
  · rw [if_neg (Int32.not_le.mpr h19)] at he
    refine lv_ldc2 (v := (-9223372036854775808 : Int64)) hx hb hown (hts _ kc_X11_449) dX11_law_35 ?_
    cases he
    exact g_lret E hM hret hlk dX11_law_38
  · rw [if_pos (Int32.not_lt.mp h19)] at he
    refine lv_iload_n hx hb dX11_law_9 rfl (lv_at hl 1 rfl) ?_
    refine lv_iconst (v := (2 : Int32)) hx hb dX11_law_10 rfl ?_
    refine lv_icmp_gt (tgt := 35) hx hb dX11_law_11 (by decide) (fun h20 => ?_) (fun h20 => ?_)
    · rw [if_neg (Int32.not_le.mpr h20)] at he
      refine lv_ldc2 (v := (-9223372036854775808 : Int64)) hx hb hown (hts _ kc_X11_449) dX11_law_35 ?_
      cases he
      exact g_lret E hM hret hlk dX11_law_38
    · rw [if_pos (Int32.not_lt.mp h20)] at he
      refine lv_aload_n hx hb dX11_law_14 rfl (lv_at hl 0 rfl) ?_
      refine lv_iload_n hx hb dX11_law_15 rfl (lv_at hl 1 rfl) ?_
      obtain ⟨r21, hcr21, he⟩ := g_bind he
      refine g_callV [.int a1] (rest := []) E hml hl.1 hM cv_X11_352 (c11_hasLaw l D aC B hcr21) (o := 0) (Nat.le_of_ble_eq_true rfl) rfl (by decide) rfl rfl (Nat.le_of_ble_eq_true rfl) dX11_law_16 (fun H locs hM => ?_)
      refine W.eq (g2 := F0 m 19 ls [.int r21]) rfl ?_
      refine lv_if_eq (tgt := 35) hx hb dX11_law_19 (by decide) (fun h22 => ?_) (fun h22 => ?_)
      · rw [if_pos h22] at he
        refine lv_ldc2 (v := (-9223372036854775808 : Int64)) hx hb hown (hts _ kc_X11_449) dX11_law_35 ?_
        cases he
        exact g_lret E hM hret hlk dX11_law_38
      · rw [if_neg h22] at he
        refine lv_iload_n hx hb dX11_law_22 rfl (lv_at hl 1 rfl) ?_
        refine lv_iconst (v := (2 : Int32)) hx hb dX11_law_23 rfl ?_
        refine lv_icmp_eq (tgt := 39) hx hb dX11_law_24 (by decide) (fun h23 => ?_) (fun h23 => ?_)
        · rw [if_pos h23] at he
          exact w11_law_b39 (F := F) (a1 := a1) (a2 := a2) (a3 := a3) E hml hret hlk _ _ _ _ hM (lv_sub hl [0, 1, 2, 3] rfl) he
        · rw [if_neg h23] at he
          refine lv_aload_n hx hb dX11_law_27 rfl (lv_at hl 0 rfl) ?_
          refine lv_iload_n hx hb dX11_law_28 rfl (lv_at hl 2 rfl) ?_
          obtain ⟨r24, hcr24, he⟩ := g_bind he
          refine g_callV [.int a2] (rest := []) E hml hl.1 hM cv_X11_426 (c11_isMan l D aC B hcr24) (o := 0) (Nat.le_of_ble_eq_true rfl) rfl (by decide) rfl rfl (Nat.le_of_ble_eq_true rfl) dX11_law_29 (fun H locs hM => ?_)
          refine W.eq (g2 := F0 m 32 ls [.int r24]) rfl ?_
          refine lv_if_ne (tgt := 39) hx hb dX11_law_32 (by decide) (fun h25 => ?_) (fun h25 => ?_)
          · rw [if_neg h25] at he
            exact w11_law_b39 (F := F) (a1 := a1) (a2 := a2) (a3 := a3) E hml hret hlk _ _ _ _ hM (lv_sub hl [0, 1, 2, 3] rfl) he
          · rw [if_pos h25] at he
            refine lv_ldc2 (v := (-9223372036854775808 : Int64)) hx hb hown (hts _ kc_X11_449) dX11_law_35 ?_
            cases he
            exact g_lret E hM hret hlk dX11_law_38

set_option maxHeartbeats 4000000 in
set_option maxRecDepth 100000 in
theorem w11_keepNow_b45 (E : g_C p s m args c cX11_keepNow RX11 D aC (g_Zs (g_A B 44))) (hml : c.maxLocals = 2) (hret : meth.sig.returnType = none) (hlk : meth.locks = false) {F : Nat} {q0 : g_M} : ∀ (mem : g_M) (H : Heap) (locs : List Loc) (ls : Array Slot), g_At D aC B yM 44 mem s.heap H locs → lv_has ls 2 [(0, .ref (B + 0))] → f11_keepNow_b45 F mem = some q0 → W p l e (g_rm 2) s m args below meth c H locs 0 0 (g_MQ below D aC B yM 44 args s none q0) (F0 m 45 ls []) := by
  intro mem H locs ls hM hl he
  unfold f11_keepNow_b45 at he
  have hx := E.1
  have hb := E.2.1
  have hown := E.2.2.1
  have hts := E.2.2.2.1
  refine lv_aload_n hx hb dX11_keepNow_45 rfl (lv_at hl 0 rfl) ?_
  refine lv_iconst (v := (3 : Int32)) hx hb dX11_keepNow_46 rfl ?_
  refine lv_aload_n hx hb dX11_keepNow_47 rfl (lv_at hl 0 rfl) ?_
  refine g_getI E hM (o := 0) (Nat.le_of_ble_eq_true rfl) rfl fl_X11_320 dX11_keepNow_48 ?_
  refine lv_iadd hx hb dX11_keepNow_51 ?_
  refine lv_iconst (v := (0 : Int32)) hx hb dX11_keepNow_52 rfl ?_
  obtain ⟨r1, hcr1, he⟩ := g_bind he
  refine g_callV [.int ((3 : Int32) + (mem.1 0 52)), .int (0 : Int32)] (rest := []) E hml hl.1 hM cv_X11_420 (c11_copies l D aC B hcr1) (o := 0) (Nat.le_of_ble_eq_true rfl) rfl (by decide) rfl rfl (Nat.le_of_ble_eq_true rfl) dX11_keepNow_53 (fun H locs hM => ?_)
  refine W.eq (g2 := F0 m 56 ls []) rfl ?_
  refine lv_aload_n hx hb dX11_keepNow_56 rfl (lv_at hl 0 rfl) ?_
  refine lv_dup hx hb dX11_keepNow_57 rfl ?_
  refine g_getI E hM (o := 0) (Nat.le_of_ble_eq_true rfl) rfl fl_X11_320 dX11_keepNow_58 ?_
  refine lv_iconst (v := (1 : Int32)) hx hb dX11_keepNow_61 rfl ?_
  refine lv_iadd hx hb dX11_keepNow_62 ?_
  refine g_putI E hM (o := 0) (Nat.le_of_ble_eq_true rfl) rfl fp_X11_320 dX11_keepNow_63 (fun H locs hM => ?_)
  obtain ⟨m2, hm2, he⟩ := g_let_ex he
  rw [← hm2] at hM
  cases he
  exact g_vret E hM hret hlk dX11_keepNow_66

set_option maxHeartbeats 4000000 in
set_option maxRecDepth 100000 in
theorem w11_keepNow_b11_body (E : g_C p s m args c cX11_keepNow RX11 D aC (g_Zs (g_A B 44))) (hml : c.maxLocals = 2) (hret : meth.sig.returnType = none) (hlk : meth.locks = false) {F : Nat} {q0 : g_M} {s11 : Int32 → g_M → Option (g_M)} (hs11 : ∀ (v1 : Int32) (mem : g_M) (H : Heap) (locs : List Loc) (ls : Array Slot), g_At D aC B yM 44 mem s.heap H locs → lv_has ls 2 [(0, .ref (B + 0)), (1, .int v1)] → s11 v1 mem = some q0 → W p l e (g_rm 2) s m args below meth c H locs 0 0 (g_MQ below D aC B yM 44 args s none q0) (F0 m 11 ls [])) : ∀ (v1 : Int32) (mem : g_M) (H : Heap) (locs : List Loc) (ls : Array Slot), g_At D aC B yM 44 mem s.heap H locs → lv_has ls 2 [(0, .ref (B + 0)), (1, .int v1)] → f11_keepNow_b11_body F s11 v1 mem = some q0 → W p l e (g_rm 2) s m args below meth c H locs 0 0 (g_MQ below D aC B yM 44 args s none q0) (F0 m 11 ls []) := by
  intro v1 mem H locs ls hM hl he
  unfold f11_keepNow_b11_body at he
  have hx := E.1
  have hb := E.2.1
  have hown := E.2.2.1
  have hts := E.2.2.2.1
  refine lv_iload_n hx hb dX11_keepNow_11 rfl (lv_at hl 1 rfl) ?_
  refine lv_bipush (v := (20 : Int32)) hx hb dX11_keepNow_12 rfl ?_
  refine lv_icmp_ge (tgt := 35) hx hb dX11_keepNow_14 (by decide) (fun h3 => ?_) (fun h3 => ?_)
  · rw [if_neg (Int32.not_lt.mpr h3)] at he
    refine lv_aload_n hx hb dX11_keepNow_35 rfl (lv_at hl 0 rfl) ?_
    refine lv_dup hx hb dX11_keepNow_36 rfl ?_
    refine g_getI E hM (o := 0) (Nat.le_of_ble_eq_true rfl) rfl fl_X11_320 dX11_keepNow_37 ?_
    refine lv_iconst (v := (1 : Int32)) hx hb dX11_keepNow_40 rfl ?_
    refine lv_isub hx hb dX11_keepNow_41 ?_
    refine g_putI E hM (o := 0) (Nat.le_of_ble_eq_true rfl) rfl fp_X11_320 dX11_keepNow_42 (fun H locs hM => ?_)
    obtain ⟨m6, hm6, he⟩ := g_let_ex he
    rw [← hm6] at hM
    exact w11_keepNow_b45 (F := F) E hml hret hlk _ _ _ _ hM (lv_sub hl [0] rfl) he
  · rw [if_pos (Int32.not_le.mp h3)] at he
    refine lv_aload_n hx hb dX11_keepNow_17 rfl (lv_at hl 0 rfl) ?_
    refine lv_iconst (v := (3 : Int32)) hx hb dX11_keepNow_18 rfl ?_
    refine lv_iload_n hx hb dX11_keepNow_19 rfl (lv_at hl 1 rfl) ?_
    refine lv_iadd hx hb dX11_keepNow_20 ?_
    refine lv_iconst (v := (1 : Int32)) hx hb dX11_keepNow_21 rfl ?_
    refine lv_isub hx hb dX11_keepNow_22 ?_
    refine lv_iconst (v := (3 : Int32)) hx hb dX11_keepNow_23 rfl ?_
    refine lv_iload_n hx hb dX11_keepNow_24 rfl (lv_at hl 1 rfl) ?_
    refine lv_iadd hx hb dX11_keepNow_25 ?_
    obtain ⟨r4, hcr4, he⟩ := g_bind he
    refine g_callV [.int (((3 : Int32) + v1) - (1 : Int32)), .int ((3 : Int32) + v1)] (rest := []) E hml hl.1 hM cv_X11_420 (c11_copies l D aC B hcr4) (o := 0) (Nat.le_of_ble_eq_true rfl) rfl (by decide) rfl rfl (Nat.le_of_ble_eq_true rfl) dX11_keepNow_26 (fun H locs hM => ?_)
    refine W.eq (g2 := F0 m 29 ls []) rfl ?_
    obtain ⟨x5, hx5, he⟩ := g_let_ex he
    refine lv_iinc (v := x5) (lv' := [(1, .int x5), (0, .ref (B + 0))]) hx hb dX11_keepNow_29 hl (k := 1) rfl (by rw [hx5]; rfl) (by decide) rfl (fun ls hl => ?_)
    refine lv_goto (tgt := 11) hx hb dX11_keepNow_32 (by decide) ?_
    exact hs11 _ _ _ _ _ hM (lv_sub hl [1, 0] rfl) he

set_option maxHeartbeats 4000000 in
set_option maxRecDepth 100000 in
theorem w11_keepNow_b11 (E : g_C p s m args c cX11_keepNow RX11 D aC (g_Zs (g_A B 44))) (hml : c.maxLocals = 2) (hret : meth.sig.returnType = none) (hlk : meth.locks = false) {F : Nat} {q0 : g_M} : ∀ (v1 : Int32) (mem : g_M) (H : Heap) (locs : List Loc) (ls : Array Slot), g_At D aC B yM 44 mem s.heap H locs → lv_has ls 2 [(0, .ref (B + 0)), (1, .int v1)] → f11_keepNow_b11 F v1 mem = some q0 → W p l e (g_rm 2) s m args below meth c H locs 0 0 (g_MQ below D aC B yM 44 args s none q0) (F0 m 11 ls []) := by
  have key : ∀ (nn : Nat) (x : Int32 × g_M) (H : Heap) (locs : List Loc) (ls : Array Slot), g_At D aC B yM 44 x.2 s.heap H locs → lv_has ls 2 [(0, .ref (B + 0)), (1, .int x.1)] → g_fix (fun sf x => f11_keepNow_b11_body F (fun v1 mem => sf (v1, mem)) x.1 x.2) nn x = some q0 → W p l e (g_rm 2) s m args below meth c H locs 0 0 (g_MQ below D aC B yM 44 args s none q0) (F0 m 11 ls []) := by
    intro nn
    induction nn with
    | zero => intro x H locs ls hM hl he; simp [g_fix] at he
    | succ nn ih =>
      intro x H locs ls hM hl he
      exact w11_keepNow_b11_body (F := F) E hml hret hlk (fun v1 mem H locs ls hM hl he => ih (v1, mem) H locs ls hM hl he) x.1 x.2 H locs ls hM hl he
  intro v1 mem H locs ls hM hl he
  exact key F (v1, mem) H locs ls hM hl he

set_option maxHeartbeats 4000000 in
set_option maxRecDepth 100000 in
theorem c11_keepNow (l : Launch) (D : va_G) (aC : Nat → ClassId) (B : Nat) {F : Nat} {mem : g_M} {q0 : g_M} (he : f11_keepNow F mem = some q0) : g_Met l yX11_keepNow cX11_keepNow 2 none 2 D aC B yM 44 mem [.ref (B + 0)] none q0 := by
  refine g_ofW (by decide) (Nat.le_of_ble_eq_true rfl) ?_
  intro p e s m args below meth c ls E hml hret hlk hM hl
  have E : g_C p s m args c cX11_keepNow RX11 D aC (g_Zs (g_A B 44)) := E
  have hx := E.1
  have hb := E.2.1
  have hown := E.2.2.1
  have hts := E.2.2.2.1
  have hl : lv_has ls 2 [(0, .ref (B + 0))] := hl
  unfold f11_keepNow at he
  refine lv_aload_n hx hb dX11_keepNow_0 rfl (lv_at hl 0 rfl) ?_
  refine g_getI E hM (o := 0) (Nat.le_of_ble_eq_true rfl) rfl fl_X11_320 dX11_keepNow_1 ?_
  refine lv_bipush (v := (20 : Int32)) hx hb dX11_keepNow_4 rfl ?_
  refine lv_icmp_ne (tgt := 45) hx hb dX11_keepNow_6 (by decide) (fun h7 => ?_) (fun h7 => ?_)
  · rw [if_neg h7] at he
    exact w11_keepNow_b45 (F := F) E hml hret hlk _ _ _ _ hM (lv_sub hl [0] rfl) he
  · rw [if_pos h7] at he
    refine lv_iconst (v := (1 : Int32)) hx hb dX11_keepNow_9 rfl ?_
    refine lv_istore_n (lv' := [(1, .int (1 : Int32)), (0, .ref (B + 0))]) hx hb dX11_keepNow_10 rfl hl (by decide) rfl (fun ls hl => ?_)
    exact w11_keepNow_b11 (F := F) E hml hret hlk _ _ _ _ _ hM (lv_sub hl [1, 0] rfl) he

set_option maxHeartbeats 4000000 in
set_option maxRecDepth 100000 in
theorem c11_send (l : Launch) (D : va_G) (aC : Nat → ClassId) (B : Nat) {F : Nat} {a1 : Int32} {a2 : Int32} {a3 : Int32} {mem : g_M} {q0 : Int32 × g_M} (he : f11_send F a1 a2 a3 mem = some q0) : g_Met l yX11_send cX11_send 5 (some .int) 3 D aC B yM 44 mem [.ref (B + 0), .int a1, .int a2, .int a3] (some (.int q0.1)) q0.2 := by
  refine g_ofW (by decide) (Nat.le_of_ble_eq_true rfl) ?_
  intro p e s m args below meth c ls E hml hret hlk hM hl
  have E : g_C p s m args c cX11_send RX11 D aC (g_Zs (g_A B 44)) := E
  have hx := E.1
  have hb := E.2.1
  have hown := E.2.2.1
  have hts := E.2.2.2.1
  have hl : lv_has ls 5 [(0, .ref (B + 0)), (1, .int a1), (2, .int a2), (3, .int a3)] := hl
  unfold f11_send at he
  refine lv_aload_n hx hb dX11_send_0 rfl (lv_at hl 0 rfl) ?_
  refine lv_iconst (v := (0 : Int32)) hx hb dX11_send_1 rfl ?_
  refine g_putI E hM (o := 0) (Nat.le_of_ble_eq_true rfl) rfl fp_X11_157 dX11_send_2 (fun H locs hM => ?_)
  obtain ⟨m1, hm1, he⟩ := g_let_ex he
  rw [← hm1] at hM
  refine lv_aload_n hx hb dX11_send_5 rfl (lv_at hl 0 rfl) ?_
  refine lv_iload_n hx hb dX11_send_6 rfl (lv_at hl 1 rfl) ?_
  obtain ⟨r2, hcr2, he⟩ := g_bind he
  refine g_callV [.int a1] (rest := []) E hml hl.1 hM cv_X11_426 (c11_isMan l D aC B hcr2) (o := 0) (Nat.le_of_ble_eq_true rfl) rfl (by decide) rfl rfl (Nat.le_of_ble_eq_true rfl) dX11_send_7 (fun H locs hM => ?_)
  refine W.eq (g2 := F0 m 10 ls [.int r2]) rfl ?_
  refine lv_if_eq (tgt := 49) hx hb dX11_send_10 (by decide) (fun h3 => ?_) (fun h3 => ?_)
  · rw [if_pos h3] at he
    refine lv_iconst (v := (-1 : Int32)) hx hb dX11_send_49 rfl ?_
    cases he
    exact g_iret E hM hret hlk dX11_send_50
  · rw [if_neg h3] at he
    refine lv_aload_n hx hb dX11_send_13 rfl (lv_at hl 0 rfl) ?_
    refine lv_iload_n hx hb dX11_send_14 rfl (lv_at hl 2 rfl) ?_
    obtain ⟨r4, hcr4, he⟩ := g_bind he
    refine g_callV [.int a2] (rest := []) E hml hl.1 hM cv_X11_432 (c11_isSort l D aC B hcr4) (o := 0) (Nat.le_of_ble_eq_true rfl) rfl (by decide) rfl rfl (Nat.le_of_ble_eq_true rfl) dX11_send_15 (fun H locs hM => ?_)
    refine W.eq (g2 := F0 m 18 ls [.int r4]) rfl ?_
    refine lv_if_eq (tgt := 49) hx hb dX11_send_18 (by decide) (fun h5 => ?_) (fun h5 => ?_)
    · rw [if_pos h5] at he
      refine lv_iconst (v := (-1 : Int32)) hx hb dX11_send_49 rfl ?_
      cases he
      exact g_iret E hM hret hlk dX11_send_50
    · rw [if_neg h5] at he
      refine lv_iload_n hx hb dX11_send_21 rfl (lv_at hl 3 rfl) ?_
      refine lv_aload_n hx hb dX11_send_22 rfl (lv_at hl 0 rfl) ?_
      refine g_getP E hM (o := 0) (Nat.le_of_ble_eq_true rfl) rfl fl_X11_84 (q := 24) rfl dX11_send_23 ?_
      refine lv_iconst (v := (0 : Int32)) hx hb dX11_send_26 rfl ?_
      obtain ⟨h6, he⟩ := g_ck_some he
      refine g_iald E hM (o := 24) (Nat.le_of_ble_eq_true rfl) rfl h6 dX11_send_27 ?_
      refine lv_icmp_lt (tgt := 49) hx hb dX11_send_28 (by decide) (fun h7 => ?_) (fun h7 => ?_)
      · rw [if_neg (Int32.not_le.mpr h7)] at he
        refine lv_iconst (v := (-1 : Int32)) hx hb dX11_send_49 rfl ?_
        cases he
        exact g_iret E hM hret hlk dX11_send_50
      · rw [if_pos (Int32.not_lt.mp h7)] at he
        refine lv_iload_n hx hb dX11_send_31 rfl (lv_at hl 3 rfl) ?_
        refine lv_sipush (v := (9999 : Int32)) hx hb dX11_send_32 rfl ?_
        refine lv_icmp_gt (tgt := 49) hx hb dX11_send_35 (by decide) (fun h8 => ?_) (fun h8 => ?_)
        · rw [if_neg (Int32.not_le.mpr h8)] at he
          refine lv_iconst (v := (-1 : Int32)) hx hb dX11_send_49 rfl ?_
          cases he
          exact g_iret E hM hret hlk dX11_send_50
        · rw [if_pos (Int32.not_lt.mp h8)] at he
          refine lv_aload_n hx hb dX11_send_38 rfl (lv_at hl 0 rfl) ?_
          refine g_getP E hM (o := 0) (Nat.le_of_ble_eq_true rfl) rfl fl_X11_93 (q := 27) rfl dX11_send_39 ?_
          refine lv_iconst (v := (0 : Int32)) hx hb dX11_send_42 rfl ?_
          obtain ⟨h9, he⟩ := g_ck_some he
          refine g_iald E hM (o := 27) (Nat.le_of_ble_eq_true rfl) rfl h9 dX11_send_43 ?_
          refine lv_bipush (v := (12 : Int32)) hx hb dX11_send_44 rfl ?_
          refine lv_icmp_ne (tgt := 51) hx hb dX11_send_46 (by decide) (fun h10 => ?_) (fun h10 => ?_)
          · rw [if_neg h10] at he
            refine lv_aload_n hx hb dX11_send_51 rfl (lv_at hl 0 rfl) ?_
            obtain ⟨r11, hcr11, he⟩ := g_bind he
            refine g_callV [] (rest := []) E hml hl.1 hM cv_X11_451 (c11_keepNow l D aC B hcr11) (o := 0) (Nat.le_of_ble_eq_true rfl) rfl (by decide) rfl rfl (Nat.le_of_ble_eq_true rfl) dX11_send_52 (fun H locs hM => ?_)
            refine W.eq (g2 := F0 m 55 ls []) rfl ?_
            refine lv_aload_n hx hb dX11_send_55 rfl (lv_at hl 0 rfl) ?_
            refine g_getP E hM (o := 0) (Nat.le_of_ble_eq_true rfl) rfl fl_X11_93 (q := 27) rfl dX11_send_56 ?_
            refine lv_iconst (v := (0 : Int32)) hx hb dX11_send_59 rfl ?_
            obtain ⟨h12, he⟩ := g_ck_some he
            refine g_iald E hM (o := 27) (Nat.le_of_ble_eq_true rfl) rfl h12 dX11_send_60 ?_
            obtain ⟨x13, hx13, he⟩ := g_let_ex he
            refine g_topI hx13 ?_
            refine lv_istore (lv' := [(4, .int x13), (0, .ref (B + 0)), (1, .int a1), (2, .int a2), (3, .int a3)]) hx hb dX11_send_61 hl (by decide) rfl (fun ls hl => ?_)
            refine lv_aload_n hx hb dX11_send_63 rfl (lv_at hl 1 rfl) ?_
            refine g_getP E hM (o := 0) (Nat.le_of_ble_eq_true rfl) rfl fl_X11_108 (q := 32) rfl dX11_send_64 ?_
            refine lv_iload hx hb dX11_send_67 (lv_at hl 0 rfl) ?_
            refine lv_iload_n hx hb dX11_send_69 rfl (lv_at hl 2 rfl) ?_
            obtain ⟨h14, he⟩ := g_ck_some he
            refine g_iast E hM (o := 32) (Nat.le_of_ble_eq_true rfl) rfl h14 dX11_send_70 (fun H locs hM => ?_)
            obtain ⟨m15, hm15, he⟩ := g_let_ex he
            rw [← hm15] at hM
            refine lv_aload_n hx hb dX11_send_71 rfl (lv_at hl 1 rfl) ?_
            refine g_getP E hM (o := 0) (Nat.le_of_ble_eq_true rfl) rfl fl_X11_111 (q := 33) rfl dX11_send_72 ?_
            refine lv_iload hx hb dX11_send_75 (lv_at hl 0 rfl) ?_
            refine lv_iload_n hx hb dX11_send_77 rfl (lv_at hl 3 rfl) ?_
            obtain ⟨h16, he⟩ := g_ck_some he
            refine g_iast E hM (o := 33) (Nat.le_of_ble_eq_true rfl) rfl h16 dX11_send_78 (fun H locs hM => ?_)
            obtain ⟨m17, hm17, he⟩ := g_let_ex he
            rw [← hm17] at hM
            refine lv_aload_n hx hb dX11_send_79 rfl (lv_at hl 1 rfl) ?_
            refine g_getP E hM (o := 0) (Nat.le_of_ble_eq_true rfl) rfl fl_X11_114 (q := 34) rfl dX11_send_80 ?_
            refine lv_iload hx hb dX11_send_83 (lv_at hl 0 rfl) ?_
            refine lv_iload_n hx hb dX11_send_85 rfl (lv_at hl 4 rfl) ?_
            obtain ⟨h18, he⟩ := g_ck_some he
            refine g_iast E hM (o := 34) (Nat.le_of_ble_eq_true rfl) rfl h18 dX11_send_86 (fun H locs hM => ?_)
            obtain ⟨m19, hm19, he⟩ := g_let_ex he
            rw [← hm19] at hM
            refine lv_aload_n hx hb dX11_send_87 rfl (lv_at hl 1 rfl) ?_
            refine g_getP E hM (o := 0) (Nat.le_of_ble_eq_true rfl) rfl fl_X11_117 (q := 35) rfl dX11_send_88 ?_
            refine lv_iload hx hb dX11_send_91 (lv_at hl 0 rfl) ?_
            refine lv_iconst (v := (0 : Int32)) hx hb dX11_send_93 rfl ?_
            obtain ⟨h20, he⟩ := g_ck_some he
            refine g_iast E hM (o := 35) (Nat.le_of_ble_eq_true rfl) rfl h20 dX11_send_94 (fun H locs hM => ?_)
            obtain ⟨m21, hm21, he⟩ := g_let_ex he
            rw [← hm21] at hM
            refine lv_aload_n hx hb dX11_send_95 rfl (lv_at hl 1 rfl) ?_
            refine g_getP E hM (o := 0) (Nat.le_of_ble_eq_true rfl) rfl fl_X11_93 (q := 27) rfl dX11_send_96 ?_
            refine lv_iconst (v := (0 : Int32)) hx hb dX11_send_99 rfl ?_
            refine lv_dup2_11 hx hb dX11_send_100 rfl rfl ?_
            obtain ⟨h22, he⟩ := g_ck_some he
            refine g_iald E hM (o := 27) (Nat.le_of_ble_eq_true rfl) rfl h22 dX11_send_101 ?_
            refine lv_iconst (v := (1 : Int32)) hx hb dX11_send_102 rfl ?_
            refine lv_iadd hx hb dX11_send_103 ?_
            obtain ⟨h23, he⟩ := g_ck_some he
            refine g_iast E hM (o := 27) (Nat.le_of_ble_eq_true rfl) rfl h23 dX11_send_104 (fun H locs hM => ?_)
            obtain ⟨m24, hm24, he⟩ := g_let_ex he
            rw [← hm24] at hM
            refine lv_iload hx hb dX11_send_105 (lv_at hl 0 rfl) ?_
            cases he
            exact g_iret E hM hret hlk dX11_send_107
          · rw [if_pos h10] at he
            refine lv_iconst (v := (-1 : Int32)) hx hb dX11_send_49 rfl ?_
            cases he
            exact g_iret E hM hret hlk dX11_send_50

set_option maxHeartbeats 4000000 in
set_option maxRecDepth 100000 in
theorem c11_take (l : Launch) (D : va_G) (aC : Nat → ClassId) (B : Nat) {F : Nat} {a1 : Int32} {mem : g_M} {q0 : Int32 × g_M} (he : f11_take F a1 mem = some q0) : g_Met l yX11_take cX11_take 2 (some .boolean) 3 D aC B yM 44 mem [.ref (B + 0), .int a1] (some (.int q0.1)) q0.2 := by
  refine g_ofW (by decide) (Nat.le_of_ble_eq_true rfl) ?_
  intro p e s m args below meth c ls E hml hret hlk hM hl
  have E : g_C p s m args c cX11_take RX11 D aC (g_Zs (g_A B 44)) := E
  have hx := E.1
  have hb := E.2.1
  have hown := E.2.2.1
  have hts := E.2.2.2.1
  have hl : lv_has ls 2 [(0, .ref (B + 0)), (1, .int a1)] := hl
  unfold f11_take at he
  refine lv_aload_n hx hb dX11_take_0 rfl (lv_at hl 0 rfl) ?_
  refine lv_iconst (v := (0 : Int32)) hx hb dX11_take_1 rfl ?_
  refine g_putI E hM (o := 0) (Nat.le_of_ble_eq_true rfl) rfl fp_X11_157 dX11_take_2 (fun H locs hM => ?_)
  obtain ⟨m1, hm1, he⟩ := g_let_ex he
  rw [← hm1] at hM
  refine lv_aload_n hx hb dX11_take_5 rfl (lv_at hl 0 rfl) ?_
  refine lv_iload_n hx hb dX11_take_6 rfl (lv_at hl 1 rfl) ?_
  obtain ⟨r2, hcr2, he⟩ := g_bind he
  refine g_callV [.int a1] (rest := []) E hml hl.1 hM cv_X11_438 (c11_isSending l D aC B hcr2) (o := 0) (Nat.le_of_ble_eq_true rfl) rfl (by decide) rfl rfl (Nat.le_of_ble_eq_true rfl) dX11_take_7 (fun H locs hM => ?_)
  refine W.eq (g2 := F0 m 10 ls [.int r2]) rfl ?_
  refine lv_if_eq (tgt := 22) hx hb dX11_take_10 (by decide) (fun h3 => ?_) (fun h3 => ?_)
  · rw [if_pos h3] at he
    refine lv_iconst (v := (0 : Int32)) hx hb dX11_take_22 rfl ?_
    cases he
    exact g_zret E hM hret hlk (Or.inl rfl) dX11_take_23
  · rw [if_neg h3] at he
    refine lv_aload_n hx hb dX11_take_13 rfl (lv_at hl 0 rfl) ?_
    refine g_getP E hM (o := 0) (Nat.le_of_ble_eq_true rfl) rfl fl_X11_117 (q := 35) rfl dX11_take_14 ?_
    refine lv_iload_n hx hb dX11_take_17 rfl (lv_at hl 1 rfl) ?_
    obtain ⟨h4, he⟩ := g_ck_some he
    refine g_iald E hM (o := 35) (Nat.le_of_ble_eq_true rfl) rfl h4 dX11_take_18 ?_
    refine lv_if_eq (tgt := 24) hx hb dX11_take_19 (by decide) (fun h5 => ?_) (fun h5 => ?_)
    · rw [if_pos h5] at he
      refine lv_aload_n hx hb dX11_take_24 rfl (lv_at hl 0 rfl) ?_
      obtain ⟨r6, hcr6, he⟩ := g_bind he
      refine g_callV [] (rest := []) E hml hl.1 hM cv_X11_451 (c11_keepNow l D aC B hcr6) (o := 0) (Nat.le_of_ble_eq_true rfl) rfl (by decide) rfl rfl (Nat.le_of_ble_eq_true rfl) dX11_take_25 (fun H locs hM => ?_)
      refine W.eq (g2 := F0 m 28 ls []) rfl ?_
      refine lv_aload_n hx hb dX11_take_28 rfl (lv_at hl 0 rfl) ?_
      refine g_getP E hM (o := 0) (Nat.le_of_ble_eq_true rfl) rfl fl_X11_117 (q := 35) rfl dX11_take_29 ?_
      refine lv_iload_n hx hb dX11_take_32 rfl (lv_at hl 1 rfl) ?_
      refine lv_iconst (v := (2 : Int32)) hx hb dX11_take_33 rfl ?_
      obtain ⟨h7, he⟩ := g_ck_some he
      refine g_iast E hM (o := 35) (Nat.le_of_ble_eq_true rfl) rfl h7 dX11_take_34 (fun H locs hM => ?_)
      obtain ⟨m8, hm8, he⟩ := g_let_ex he
      rw [← hm8] at hM
      refine lv_iconst (v := (1 : Int32)) hx hb dX11_take_35 rfl ?_
      cases he
      exact g_zret E hM hret hlk (Or.inr rfl) dX11_take_36
    · rw [if_neg h5] at he
      refine lv_iconst (v := (0 : Int32)) hx hb dX11_take_22 rfl ?_
      cases he
      exact g_zret E hM hret hlk (Or.inl rfl) dX11_take_23

set_option maxHeartbeats 4000000 in
set_option maxRecDepth 100000 in
theorem c11_swap (l : Launch) (D : va_G) (aC : Nat → ClassId) (B : Nat) {F : Nat} {a1 : Int32} {a2 : Int32} {a3 : Int32} {mem : g_M} {q0 : Int32 × g_M} (he : f11_swap F a1 a2 a3 mem = some q0) : g_Met l yX11_swap cX11_swap 5 (some .boolean) 3 D aC B yM 44 mem [.ref (B + 0), .int a1, .int a2, .int a3] (some (.int q0.1)) q0.2 := by
  refine g_ofW (by decide) (Nat.le_of_ble_eq_true rfl) ?_
  intro p e s m args below meth c ls E hml hret hlk hM hl
  have E : g_C p s m args c cX11_swap RX11 D aC (g_Zs (g_A B 44)) := E
  have hx := E.1
  have hb := E.2.1
  have hown := E.2.2.1
  have hts := E.2.2.2.1
  have hl : lv_has ls 5 [(0, .ref (B + 0)), (1, .int a1), (2, .int a2), (3, .int a3)] := hl
  unfold f11_swap at he
  refine lv_aload_n hx hb dX11_swap_0 rfl (lv_at hl 0 rfl) ?_
  refine lv_iconst (v := (0 : Int32)) hx hb dX11_swap_1 rfl ?_
  refine g_putI E hM (o := 0) (Nat.le_of_ble_eq_true rfl) rfl fp_X11_157 dX11_swap_2 (fun H locs hM => ?_)
  obtain ⟨m1, hm1, he⟩ := g_let_ex he
  rw [← hm1] at hM
  refine lv_aload_n hx hb dX11_swap_5 rfl (lv_at hl 0 rfl) ?_
  refine lv_iload_n hx hb dX11_swap_6 rfl (lv_at hl 1 rfl) ?_
  obtain ⟨r2, hcr2, he⟩ := g_bind he
  refine g_callV [.int a1] (rest := []) E hml hl.1 hM cv_X11_426 (c11_isMan l D aC B hcr2) (o := 0) (Nat.le_of_ble_eq_true rfl) rfl (by decide) rfl rfl (Nat.le_of_ble_eq_true rfl) dX11_swap_7 (fun H locs hM => ?_)
  refine W.eq (g2 := F0 m 10 ls [.int r2]) rfl ?_
  refine lv_if_eq (tgt := 57) hx hb dX11_swap_10 (by decide) (fun h3 => ?_) (fun h3 => ?_)
  · rw [if_pos h3] at he
    refine lv_iconst (v := (0 : Int32)) hx hb dX11_swap_57 rfl ?_
    cases he
    exact g_zret E hM hret hlk (Or.inl rfl) dX11_swap_58
  · rw [if_neg h3] at he
    refine lv_aload_n hx hb dX11_swap_13 rfl (lv_at hl 0 rfl) ?_
    refine lv_iload_n hx hb dX11_swap_14 rfl (lv_at hl 2 rfl) ?_
    obtain ⟨r4, hcr4, he⟩ := g_bind he
    refine g_callV [.int a2] (rest := []) E hml hl.1 hM cv_X11_426 (c11_isMan l D aC B hcr4) (o := 0) (Nat.le_of_ble_eq_true rfl) rfl (by decide) rfl rfl (Nat.le_of_ble_eq_true rfl) dX11_swap_15 (fun H locs hM => ?_)
    refine W.eq (g2 := F0 m 18 ls [.int r4]) rfl ?_
    refine lv_if_eq (tgt := 57) hx hb dX11_swap_18 (by decide) (fun h5 => ?_) (fun h5 => ?_)
    · rw [if_pos h5] at he
      refine lv_iconst (v := (0 : Int32)) hx hb dX11_swap_57 rfl ?_
      cases he
      exact g_zret E hM hret hlk (Or.inl rfl) dX11_swap_58
    · rw [if_neg h5] at he
      refine lv_iload_n hx hb dX11_swap_21 rfl (lv_at hl 1 rfl) ?_
      refine lv_iload_n hx hb dX11_swap_22 rfl (lv_at hl 2 rfl) ?_
      refine lv_icmp_eq (tgt := 57) hx hb dX11_swap_23 (by decide) (fun h6 => ?_) (fun h6 => ?_)
      · rw [if_pos h6] at he
        refine lv_iconst (v := (0 : Int32)) hx hb dX11_swap_57 rfl ?_
        cases he
        exact g_zret E hM hret hlk (Or.inl rfl) dX11_swap_58
      · rw [if_neg h6] at he
        refine lv_aload_n hx hb dX11_swap_26 rfl (lv_at hl 0 rfl) ?_
        refine lv_iload_n hx hb dX11_swap_27 rfl (lv_at hl 3 rfl) ?_
        obtain ⟨r7, hcr7, he⟩ := g_bind he
        refine g_callV [.int a3] (rest := []) E hml hl.1 hM cv_X11_432 (c11_isSort l D aC B hcr7) (o := 0) (Nat.le_of_ble_eq_true rfl) rfl (by decide) rfl rfl (Nat.le_of_ble_eq_true rfl) dX11_swap_28 (fun H locs hM => ?_)
        refine W.eq (g2 := F0 m 31 ls [.int r7]) rfl ?_
        refine lv_if_eq (tgt := 57) hx hb dX11_swap_31 (by decide) (fun h8 => ?_) (fun h8 => ?_)
        · rw [if_pos h8] at he
          refine lv_iconst (v := (0 : Int32)) hx hb dX11_swap_57 rfl ?_
          cases he
          exact g_zret E hM hret hlk (Or.inl rfl) dX11_swap_58
        · rw [if_neg h8] at he
          refine lv_aload_n hx hb dX11_swap_34 rfl (lv_at hl 0 rfl) ?_
          refine g_getP E hM (o := 0) (Nat.le_of_ble_eq_true rfl) rfl fl_X11_102 (q := 30) rfl dX11_swap_35 ?_
          refine lv_iconst (v := (5 : Int32)) hx hb dX11_swap_38 rfl ?_
          refine lv_iload_n hx hb dX11_swap_39 rfl (lv_at hl 1 rfl) ?_
          refine lv_imul hx hb dX11_swap_40 ?_
          refine lv_iload_n hx hb dX11_swap_41 rfl (lv_at hl 3 rfl) ?_
          refine lv_iadd hx hb dX11_swap_42 ?_
          obtain ⟨h9, he⟩ := g_ck_some he
          refine g_iald E hM (o := 30) (Nat.le_of_ble_eq_true rfl) rfl h9 dX11_swap_43 ?_
          refine lv_aload_n hx hb dX11_swap_44 rfl (lv_at hl 0 rfl) ?_
          refine g_getP E hM (o := 0) (Nat.le_of_ble_eq_true rfl) rfl fl_X11_102 (q := 30) rfl dX11_swap_45 ?_
          refine lv_iconst (v := (5 : Int32)) hx hb dX11_swap_48 rfl ?_
          refine lv_iload_n hx hb dX11_swap_49 rfl (lv_at hl 2 rfl) ?_
          refine lv_imul hx hb dX11_swap_50 ?_
          refine lv_iload_n hx hb dX11_swap_51 rfl (lv_at hl 3 rfl) ?_
          refine lv_iadd hx hb dX11_swap_52 ?_
          obtain ⟨h10, he⟩ := g_ck_some he
          refine g_iald E hM (o := 30) (Nat.le_of_ble_eq_true rfl) rfl h10 dX11_swap_53 ?_
          refine lv_icmp_eq (tgt := 59) hx hb dX11_swap_54 (by decide) (fun h11 => ?_) (fun h11 => ?_)
          · rw [if_pos h11] at he
            refine lv_aload_n hx hb dX11_swap_59 rfl (lv_at hl 0 rfl) ?_
            obtain ⟨r12, hcr12, he⟩ := g_bind he
            refine g_callV [] (rest := []) E hml hl.1 hM cv_X11_451 (c11_keepNow l D aC B hcr12) (o := 0) (Nat.le_of_ble_eq_true rfl) rfl (by decide) rfl rfl (Nat.le_of_ble_eq_true rfl) dX11_swap_60 (fun H locs hM => ?_)
            refine W.eq (g2 := F0 m 63 ls []) rfl ?_
            refine lv_aload_n hx hb dX11_swap_63 rfl (lv_at hl 0 rfl) ?_
            refine g_getP E hM (o := 0) (Nat.le_of_ble_eq_true rfl) rfl fl_X11_99 (q := 29) rfl dX11_swap_64 ?_
            refine lv_iconst (v := (5 : Int32)) hx hb dX11_swap_67 rfl ?_
            refine lv_iload_n hx hb dX11_swap_68 rfl (lv_at hl 1 rfl) ?_
            refine lv_imul hx hb dX11_swap_69 ?_
            refine lv_iload_n hx hb dX11_swap_70 rfl (lv_at hl 3 rfl) ?_
            refine lv_iadd hx hb dX11_swap_71 ?_
            obtain ⟨h13, he⟩ := g_ck_some he
            refine g_iald E hM (o := 29) (Nat.le_of_ble_eq_true rfl) rfl h13 dX11_swap_72 ?_
            obtain ⟨x14, hx14, he⟩ := g_let_ex he
            refine g_topI hx14 ?_
            refine lv_istore (lv' := [(4, .int x14), (0, .ref (B + 0)), (1, .int a1), (2, .int a2), (3, .int a3)]) hx hb dX11_swap_73 hl (by decide) rfl (fun ls hl => ?_)
            refine lv_aload_n hx hb dX11_swap_75 rfl (lv_at hl 1 rfl) ?_
            refine g_getP E hM (o := 0) (Nat.le_of_ble_eq_true rfl) rfl fl_X11_99 (q := 29) rfl dX11_swap_76 ?_
            refine lv_iconst (v := (5 : Int32)) hx hb dX11_swap_79 rfl ?_
            refine lv_iload_n hx hb dX11_swap_80 rfl (lv_at hl 2 rfl) ?_
            refine lv_imul hx hb dX11_swap_81 ?_
            refine lv_iload_n hx hb dX11_swap_82 rfl (lv_at hl 4 rfl) ?_
            refine lv_iadd hx hb dX11_swap_83 ?_
            refine lv_aload_n hx hb dX11_swap_84 rfl (lv_at hl 1 rfl) ?_
            refine g_getP E hM (o := 0) (Nat.le_of_ble_eq_true rfl) rfl fl_X11_99 (q := 29) rfl dX11_swap_85 ?_
            refine lv_iconst (v := (5 : Int32)) hx hb dX11_swap_88 rfl ?_
            refine lv_iload_n hx hb dX11_swap_89 rfl (lv_at hl 3 rfl) ?_
            refine lv_imul hx hb dX11_swap_90 ?_
            refine lv_iload_n hx hb dX11_swap_91 rfl (lv_at hl 4 rfl) ?_
            refine lv_iadd hx hb dX11_swap_92 ?_
            obtain ⟨h15, he⟩ := g_ck_some he
            refine g_iald E hM (o := 29) (Nat.le_of_ble_eq_true rfl) rfl h15 dX11_swap_93 ?_
            obtain ⟨h16, he⟩ := g_ck_some he
            refine g_iast E hM (o := 29) (Nat.le_of_ble_eq_true rfl) rfl h16 dX11_swap_94 (fun H locs hM => ?_)
            obtain ⟨m17, hm17, he⟩ := g_let_ex he
            rw [← hm17] at hM
            refine lv_aload_n hx hb dX11_swap_95 rfl (lv_at hl 1 rfl) ?_
            refine g_getP E hM (o := 0) (Nat.le_of_ble_eq_true rfl) rfl fl_X11_99 (q := 29) rfl dX11_swap_96 ?_
            refine lv_iconst (v := (5 : Int32)) hx hb dX11_swap_99 rfl ?_
            refine lv_iload_n hx hb dX11_swap_100 rfl (lv_at hl 3 rfl) ?_
            refine lv_imul hx hb dX11_swap_101 ?_
            refine lv_iload_n hx hb dX11_swap_102 rfl (lv_at hl 4 rfl) ?_
            refine lv_iadd hx hb dX11_swap_103 ?_
            refine lv_iload hx hb dX11_swap_104 (lv_at hl 0 rfl) ?_
            obtain ⟨h18, he⟩ := g_ck_some he
            refine g_iast E hM (o := 29) (Nat.le_of_ble_eq_true rfl) rfl h18 dX11_swap_106 (fun H locs hM => ?_)
            obtain ⟨m19, hm19, he⟩ := g_let_ex he
            rw [← hm19] at hM
            refine lv_iconst (v := (1 : Int32)) hx hb dX11_swap_107 rfl ?_
            cases he
            exact g_zret E hM hret hlk (Or.inr rfl) dX11_swap_108
          · rw [if_neg h11] at he
            refine lv_iconst (v := (0 : Int32)) hx hb dX11_swap_57 rfl ?_
            cases he
            exact g_zret E hM hret hlk (Or.inl rfl) dX11_swap_58

set_option maxHeartbeats 4000000 in
set_option maxRecDepth 100000 in
theorem c11_lend (l : Launch) (D : va_G) (aC : Nat → ClassId) (B : Nat) {F : Nat} {a1 : Int32} {a2 : Int32} {mem : g_M} {q0 : Int32 × g_M} (he : f11_lend F a1 a2 mem = some q0) : g_Met l yX11_lend cX11_lend 3 (some .int) 3 D aC B yM 44 mem [.ref (B + 0), .int a1, .int a2] (some (.int q0.1)) q0.2 := by
  refine g_ofW (by decide) (Nat.le_of_ble_eq_true rfl) ?_
  intro p e s m args below meth c ls E hml hret hlk hM hl
  have E : g_C p s m args c cX11_lend RX11 D aC (g_Zs (g_A B 44)) := E
  have hx := E.1
  have hb := E.2.1
  have hown := E.2.2.1
  have hts := E.2.2.2.1
  have hl : lv_has ls 3 [(0, .ref (B + 0)), (1, .int a1), (2, .int a2)] := hl
  unfold f11_lend at he
  refine lv_aload_n hx hb dX11_lend_0 rfl (lv_at hl 0 rfl) ?_
  refine lv_iconst (v := (0 : Int32)) hx hb dX11_lend_1 rfl ?_
  refine g_putI E hM (o := 0) (Nat.le_of_ble_eq_true rfl) rfl fp_X11_157 dX11_lend_2 (fun H locs hM => ?_)
  obtain ⟨m1, hm1, he⟩ := g_let_ex he
  rw [← hm1] at hM
  refine lv_aload_n hx hb dX11_lend_5 rfl (lv_at hl 0 rfl) ?_
  refine lv_iload_n hx hb dX11_lend_6 rfl (lv_at hl 1 rfl) ?_
  obtain ⟨r2, hcr2, he⟩ := g_bind he
  refine g_callV [.int a1] (rest := []) E hml hl.1 hM cv_X11_426 (c11_isMan l D aC B hcr2) (o := 0) (Nat.le_of_ble_eq_true rfl) rfl (by decide) rfl rfl (Nat.le_of_ble_eq_true rfl) dX11_lend_7 (fun H locs hM => ?_)
  refine W.eq (g2 := F0 m 10 ls [.int r2]) rfl ?_
  refine lv_if_eq (tgt := 37) hx hb dX11_lend_10 (by decide) (fun h3 => ?_) (fun h3 => ?_)
  · rw [if_pos h3] at he
    refine lv_iconst (v := (-1 : Int32)) hx hb dX11_lend_37 rfl ?_
    cases he
    exact g_iret E hM hret hlk dX11_lend_38
  · rw [if_neg h3] at he
    refine lv_iload_n hx hb dX11_lend_13 rfl (lv_at hl 2 rfl) ?_
    refine lv_iconst (v := (1 : Int32)) hx hb dX11_lend_14 rfl ?_
    refine lv_icmp_lt (tgt := 37) hx hb dX11_lend_15 (by decide) (fun h4 => ?_) (fun h4 => ?_)
    · rw [if_neg (Int32.not_le.mpr h4)] at he
      refine lv_iconst (v := (-1 : Int32)) hx hb dX11_lend_37 rfl ?_
      cases he
      exact g_iret E hM hret hlk dX11_lend_38
    · rw [if_pos (Int32.not_lt.mp h4)] at he
      refine lv_iload_n hx hb dX11_lend_18 rfl (lv_at hl 2 rfl) ?_
      refine lv_bipush (v := (99 : Int32)) hx hb dX11_lend_19 rfl ?_
      refine lv_icmp_gt (tgt := 37) hx hb dX11_lend_21 (by decide) (fun h5 => ?_) (fun h5 => ?_)
      · rw [if_neg (Int32.not_le.mpr h5)] at he
        refine lv_iconst (v := (-1 : Int32)) hx hb dX11_lend_37 rfl ?_
        cases he
        exact g_iret E hM hret hlk dX11_lend_38
      · rw [if_pos (Int32.not_lt.mp h5)] at he
        refine lv_aload_n hx hb dX11_lend_24 rfl (lv_at hl 0 rfl) ?_
        refine g_getP E hM (o := 0) (Nat.le_of_ble_eq_true rfl) rfl fl_X11_96 (q := 28) rfl dX11_lend_25 ?_
        refine lv_iload_n hx hb dX11_lend_28 rfl (lv_at hl 1 rfl) ?_
        obtain ⟨h6, he⟩ := g_ck_some he
        refine g_iald E hM (o := 28) (Nat.le_of_ble_eq_true rfl) rfl h6 dX11_lend_29 ?_
        refine lv_iload_n hx hb dX11_lend_30 rfl (lv_at hl 2 rfl) ?_
        refine lv_iadd hx hb dX11_lend_31 ?_
        refine lv_ldc (v := (99999 : Int32)) hx hb hown (hts _ kc_X11_195) dX11_lend_32 ?_
        refine lv_icmp_le (tgt := 39) hx hb dX11_lend_34 (by decide) (fun h7 => ?_) (fun h7 => ?_)
        · rw [if_neg (Int32.not_lt.mpr h7)] at he
          refine lv_aload_n hx hb dX11_lend_39 rfl (lv_at hl 0 rfl) ?_
          obtain ⟨r8, hcr8, he⟩ := g_bind he
          refine g_callV [] (rest := []) E hml hl.1 hM cv_X11_451 (c11_keepNow l D aC B hcr8) (o := 0) (Nat.le_of_ble_eq_true rfl) rfl (by decide) rfl rfl (Nat.le_of_ble_eq_true rfl) dX11_lend_40 (fun H locs hM => ?_)
          refine W.eq (g2 := F0 m 43 ls []) rfl ?_
          refine lv_aload_n hx hb dX11_lend_43 rfl (lv_at hl 0 rfl) ?_
          refine g_getP E hM (o := 0) (Nat.le_of_ble_eq_true rfl) rfl fl_X11_96 (q := 28) rfl dX11_lend_44 ?_
          refine lv_iload_n hx hb dX11_lend_47 rfl (lv_at hl 1 rfl) ?_
          refine lv_dup2_11 hx hb dX11_lend_48 rfl rfl ?_
          obtain ⟨h9, he⟩ := g_ck_some he
          refine g_iald E hM (o := 28) (Nat.le_of_ble_eq_true rfl) rfl h9 dX11_lend_49 ?_
          refine lv_iload_n hx hb dX11_lend_50 rfl (lv_at hl 2 rfl) ?_
          refine lv_iadd hx hb dX11_lend_51 ?_
          obtain ⟨h10, he⟩ := g_ck_some he
          refine g_iast E hM (o := 28) (Nat.le_of_ble_eq_true rfl) rfl h10 dX11_lend_52 (fun H locs hM => ?_)
          obtain ⟨m11, hm11, he⟩ := g_let_ex he
          rw [← hm11] at hM
          refine lv_aload_n hx hb dX11_lend_53 rfl (lv_at hl 0 rfl) ?_
          refine g_getP E hM (o := 0) (Nat.le_of_ble_eq_true rfl) rfl fl_X11_96 (q := 28) rfl dX11_lend_54 ?_
          refine lv_iload_n hx hb dX11_lend_57 rfl (lv_at hl 1 rfl) ?_
          obtain ⟨h12, he⟩ := g_ck_some he
          refine g_iald E hM (o := 28) (Nat.le_of_ble_eq_true rfl) rfl h12 dX11_lend_58 ?_
          cases he
          exact g_iret E hM hret hlk dX11_lend_59
        · rw [if_pos (Int32.not_le.mp h7)] at he
          refine lv_iconst (v := (-1 : Int32)) hx hb dX11_lend_37 rfl ?_
          cases he
          exact g_iret E hM hret hlk dX11_lend_38

set_option maxHeartbeats 4000000 in
set_option maxRecDepth 100000 in
theorem w11_go_b42_body (E : g_C p s m args c cX11_go RX11 D aC (g_Zs (g_A B 44))) (hml : c.maxLocals = 3) (hret : meth.sig.returnType = (some .int)) (hlk : meth.locks = false) {F : Nat} {q0 : Int32 × g_M} {a1 : Int32} {s42 : Int32 → g_M → Option (Int32 × g_M)} (hs42 : ∀ (v2 : Int32) (mem : g_M) (H : Heap) (locs : List Loc) (ls : Array Slot), g_At D aC B yM 44 mem s.heap H locs → lv_has ls 3 [(0, .ref (B + 0)), (1, .int a1), (2, .int v2)] → s42 v2 mem = some q0 → W p l e (g_rm 8) s m args below meth c H locs 0 0 (g_MQ below D aC B yM 44 args s (some (.int q0.1)) q0.2) (F0 m 42 ls [])) : ∀ (v2 : Int32) (mem : g_M) (H : Heap) (locs : List Loc) (ls : Array Slot), g_At D aC B yM 44 mem s.heap H locs → lv_has ls 3 [(0, .ref (B + 0)), (1, .int a1), (2, .int v2)] → f11_go_b42_body F a1 s42 v2 mem = some q0 → W p l e (g_rm 8) s m args below meth c H locs 0 0 (g_MQ below D aC B yM 44 args s (some (.int q0.1)) q0.2) (F0 m 42 ls []) := by
  intro v2 mem H locs ls hM hl he
  unfold f11_go_b42_body at he
  have hx := E.1
  have hb := E.2.1
  have hown := E.2.2.1
  have hts := E.2.2.2.1
  refine lv_iload_n hx hb dX11_go_42 rfl (lv_at hl 2 rfl) ?_
  refine lv_iload_n hx hb dX11_go_43 rfl (lv_at hl 1 rfl) ?_
  refine lv_icmp_ge (tgt := 59) hx hb dX11_go_44 (by decide) (fun h1 => ?_) (fun h1 => ?_)
  · rw [if_neg (Int32.not_lt.mpr h1)] at he
    refine lv_aload_n hx hb dX11_go_59 rfl (lv_at hl 0 rfl) ?_
    refine g_getP E hM (o := 0) (Nat.le_of_ble_eq_true rfl) rfl fl_X11_84 (q := 24) rfl dX11_go_60 ?_
    refine lv_iconst (v := (0 : Int32)) hx hb dX11_go_63 rfl ?_
    obtain ⟨h4, he⟩ := g_ck_some he
    refine g_iald E hM (o := 24) (Nat.le_of_ble_eq_true rfl) rfl h4 dX11_go_64 ?_
    cases he
    exact g_iret E hM hret hlk dX11_go_65
  · rw [if_pos (Int32.not_le.mp h1)] at he
    refine lv_aload_n hx hb dX11_go_47 rfl (lv_at hl 0 rfl) ?_
    refine lv_iconst (v := (0 : Int32)) hx hb dX11_go_48 rfl ?_
    refine lv_iconst (v := (1 : Int32)) hx hb dX11_go_49 rfl ?_
    obtain ⟨r2, hcr2, he⟩ := g_bind he
    refine g_callV [.int (0 : Int32), .int (1 : Int32)] (rest := []) E hml hl.1 hM cv_X11_416 (c11_passes l D aC B hcr2) (o := 0) (Nat.le_of_ble_eq_true rfl) rfl (by decide) rfl rfl (Nat.le_of_ble_eq_true rfl) dX11_go_50 (fun H locs hM => ?_)
    refine W.eq (g2 := F0 m 53 ls []) rfl ?_
    obtain ⟨x3, hx3, he⟩ := g_let_ex he
    refine lv_iinc (v := x3) (lv' := [(2, .int x3), (0, .ref (B + 0)), (1, .int a1)]) hx hb dX11_go_53 hl (k := 2) rfl (by rw [hx3]; rfl) (by decide) rfl (fun ls hl => ?_)
    refine lv_goto (tgt := 42) hx hb dX11_go_56 (by decide) ?_
    exact hs42 _ _ _ _ _ hM (lv_sub hl [1, 2, 0] rfl) he

set_option maxHeartbeats 4000000 in
set_option maxRecDepth 100000 in
theorem w11_go_b42 (E : g_C p s m args c cX11_go RX11 D aC (g_Zs (g_A B 44))) (hml : c.maxLocals = 3) (hret : meth.sig.returnType = (some .int)) (hlk : meth.locks = false) {F : Nat} {q0 : Int32 × g_M} {a1 : Int32} : ∀ (v2 : Int32) (mem : g_M) (H : Heap) (locs : List Loc) (ls : Array Slot), g_At D aC B yM 44 mem s.heap H locs → lv_has ls 3 [(0, .ref (B + 0)), (1, .int a1), (2, .int v2)] → f11_go_b42 F a1 v2 mem = some q0 → W p l e (g_rm 8) s m args below meth c H locs 0 0 (g_MQ below D aC B yM 44 args s (some (.int q0.1)) q0.2) (F0 m 42 ls []) := by
  have key : ∀ (nn : Nat) (x : Int32 × g_M) (H : Heap) (locs : List Loc) (ls : Array Slot), g_At D aC B yM 44 x.2 s.heap H locs → lv_has ls 3 [(0, .ref (B + 0)), (1, .int a1), (2, .int x.1)] → g_fix (fun sf x => f11_go_b42_body F a1 (fun v2 mem => sf (v2, mem)) x.1 x.2) nn x = some q0 → W p l e (g_rm 8) s m args below meth c H locs 0 0 (g_MQ below D aC B yM 44 args s (some (.int q0.1)) q0.2) (F0 m 42 ls []) := by
    intro nn
    induction nn with
    | zero => intro x H locs ls hM hl he; simp [g_fix] at he
    | succ nn ih =>
      intro x H locs ls hM hl he
      exact w11_go_b42_body (F := F) (a1 := a1) E hml hret hlk (fun v2 mem H locs ls hM hl he => ih (v2, mem) H locs ls hM hl he) x.1 x.2 H locs ls hM hl he
  intro v2 mem H locs ls hM hl he
  exact key F (v2, mem) H locs ls hM hl he

set_option maxHeartbeats 4000000 in
set_option maxRecDepth 100000 in
theorem w11_go_b40 (E : g_C p s m args c cX11_go RX11 D aC (g_Zs (g_A B 44))) (hml : c.maxLocals = 3) (hret : meth.sig.returnType = (some .int)) (hlk : meth.locks = false) {F : Nat} {q0 : Int32 × g_M} {a1 : Int32} : ∀ (mem : g_M) (H : Heap) (locs : List Loc) (ls : Array Slot), g_At D aC B yM 44 mem s.heap H locs → lv_has ls 3 [(0, .ref (B + 0)), (1, .int a1)] → f11_go_b40 F a1 mem = some q0 → W p l e (g_rm 8) s m args below meth c H locs 0 0 (g_MQ below D aC B yM 44 args s (some (.int q0.1)) q0.2) (F0 m 40 ls []) := by
  intro mem H locs ls hM hl he
  unfold f11_go_b40 at he
  have hx := E.1
  have hb := E.2.1
  have hown := E.2.2.1
  have hts := E.2.2.2.1
  refine lv_iconst (v := (0 : Int32)) hx hb dX11_go_40 rfl ?_
  refine lv_istore_n (lv' := [(2, .int (0 : Int32)), (0, .ref (B + 0)), (1, .int a1)]) hx hb dX11_go_41 rfl hl (by decide) rfl (fun ls hl => ?_)
  exact w11_go_b42 (F := F) (a1 := a1) E hml hret hlk _ _ _ _ _ hM (lv_sub hl [1, 2, 0] rfl) he

set_option maxHeartbeats 4000000 in
set_option maxRecDepth 100000 in
theorem c11_go (l : Launch) (D : va_G) (aC : Nat → ClassId) (B : Nat) {F : Nat} {a1 : Int32} {mem : g_M} {q0 : Int32 × g_M} (he : f11_go F a1 mem = some q0) : g_Met l yX11_go cX11_go 3 (some .int) 8 D aC B yM 44 mem [.ref (B + 0), .int a1] (some (.int q0.1)) q0.2 := by
  refine g_ofW (by decide) (Nat.le_of_ble_eq_true rfl) ?_
  intro p e s m args below meth c ls E hml hret hlk hM hl
  have E : g_C p s m args c cX11_go RX11 D aC (g_Zs (g_A B 44)) := E
  have hx := E.1
  have hb := E.2.1
  have hown := E.2.2.1
  have hts := E.2.2.2.1
  have hl : lv_has ls 3 [(0, .ref (B + 0)), (1, .int a1)] := hl
  unfold f11_go at he
  refine lv_aload_n hx hb dX11_go_0 rfl (lv_at hl 0 rfl) ?_
  refine lv_iconst (v := (0 : Int32)) hx hb dX11_go_1 rfl ?_
  refine g_putI E hM (o := 0) (Nat.le_of_ble_eq_true rfl) rfl fp_X11_157 dX11_go_2 (fun H locs hM => ?_)
  obtain ⟨m5, hm5, he⟩ := g_let_ex he
  rw [← hm5] at hM
  refine lv_iload_n hx hb dX11_go_5 rfl (lv_at hl 1 rfl) ?_
  refine lv_if_lt (tgt := 29) hx hb dX11_go_6 (by decide) (fun h6 => ?_) (fun h6 => ?_)
  · rw [if_neg (Int32.not_le.mpr h6)] at he
    refine lv_iconst (v := (-1 : Int32)) hx hb dX11_go_29 rfl ?_
    cases he
    exact g_iret E hM hret hlk dX11_go_30
  · rw [if_pos (Int32.not_lt.mp h6)] at he
    refine lv_iload_n hx hb dX11_go_9 rfl (lv_at hl 1 rfl) ?_
    refine lv_bipush (v := (99 : Int32)) hx hb dX11_go_10 rfl ?_
    refine lv_icmp_gt (tgt := 29) hx hb dX11_go_12 (by decide) (fun h7 => ?_) (fun h7 => ?_)
    · rw [if_neg (Int32.not_le.mpr h7)] at he
      refine lv_iconst (v := (-1 : Int32)) hx hb dX11_go_29 rfl ?_
      cases he
      exact g_iret E hM hret hlk dX11_go_30
    · rw [if_pos (Int32.not_lt.mp h7)] at he
      refine lv_aload_n hx hb dX11_go_15 rfl (lv_at hl 0 rfl) ?_
      refine g_getP E hM (o := 0) (Nat.le_of_ble_eq_true rfl) rfl fl_X11_84 (q := 24) rfl dX11_go_16 ?_
      refine lv_iconst (v := (0 : Int32)) hx hb dX11_go_19 rfl ?_
      obtain ⟨h8, he⟩ := g_ck_some he
      refine g_iald E hM (o := 24) (Nat.le_of_ble_eq_true rfl) rfl h8 dX11_go_20 ?_
      refine lv_iload_n hx hb dX11_go_21 rfl (lv_at hl 1 rfl) ?_
      refine lv_iadd hx hb dX11_go_22 ?_
      refine lv_sipush (v := (9900 : Int32)) hx hb dX11_go_23 rfl ?_
      refine lv_icmp_le (tgt := 31) hx hb dX11_go_26 (by decide) (fun h9 => ?_) (fun h9 => ?_)
      · rw [if_neg (Int32.not_lt.mpr h9)] at he
        refine lv_iload_n hx hb dX11_go_31 rfl (lv_at hl 1 rfl) ?_
        refine lv_if_le (tgt := 40) hx hb dX11_go_32 (by decide) (fun h10 => ?_) (fun h10 => ?_)
        · rw [if_neg (Int32.not_lt.mpr h10)] at he
          exact w11_go_b40 (F := F) (a1 := a1) E hml hret hlk _ _ _ _ hM (lv_sub hl [0, 1] rfl) he
        · rw [if_pos (Int32.not_le.mp h10)] at he
          refine lv_aload_n hx hb dX11_go_35 rfl (lv_at hl 0 rfl) ?_
          refine lv_iconst (v := (0 : Int32)) hx hb dX11_go_36 rfl ?_
          refine g_putI E hM (o := 0) (Nat.le_of_ble_eq_true rfl) rfl fp_X11_320 dX11_go_37 (fun H locs hM => ?_)
          obtain ⟨m11, hm11, he⟩ := g_let_ex he
          rw [← hm11] at hM
          exact w11_go_b40 (F := F) (a1 := a1) E hml hret hlk _ _ _ _ hM (lv_sub hl [0, 1] rfl) he
      · rw [if_pos (Int32.not_le.mp h9)] at he
        refine lv_iconst (v := (-1 : Int32)) hx hb dX11_go_29 rfl ?_
        cases he
        exact g_iret E hM hret hlk dX11_go_30

set_option maxHeartbeats 4000000 in
set_option maxRecDepth 100000 in
theorem w11_ahead_b39 (E : g_C p s m args c cX11_ahead RX11 D aC (g_Zs (g_A B 44))) (hml : c.maxLocals = 4) (hret : meth.sig.returnType = (some .int)) (hlk : meth.locks = false) {F : Nat} {q0 : Int32 × g_M} {a1 : Int32} {a2 : Int32} {a3 : Int32} : ∀ (mem : g_M) (H : Heap) (locs : List Loc) (ls : Array Slot), g_At D aC B yM 44 mem s.heap H locs → lv_has ls 4 [(0, .ref (B + 0)), (1, .int a1), (2, .int a2), (3, .int a3)] → f11_ahead_b39 F a1 a2 a3 mem = some q0 → W p l e (g_rm 10) s m args below meth c H locs 0 0 (g_MQ below D aC B yM 44 args s (some (.int q0.1)) q0.2) (F0 m 39 ls []) := by
  intro mem H locs ls hM hl he
  unfold f11_ahead_b39 at he
  have hx := E.1
  have hb := E.2.1
  have hown := E.2.2.1
  have hts := E.2.2.2.1
  refine lv_aload_n hx hb dX11_ahead_39 rfl (lv_at hl 0 rfl) ?_
  refine lv_iload_n hx hb dX11_ahead_40 rfl (lv_at hl 1 rfl) ?_
  obtain ⟨r1, hcr1, he⟩ := g_bind he
  refine g_callV [.int a1] (rest := []) E hml hl.1 hM cv_X11_454 (c11_runs l D aC B hcr1) (o := 0) (Nat.le_of_ble_eq_true rfl) rfl (by decide) rfl rfl (Nat.le_of_ble_eq_true rfl) dX11_ahead_41 (fun H locs hM => ?_)
  refine W.eq (g2 := F0 m 44 ls []) rfl ?_
  refine lv_iload_n hx hb dX11_ahead_44 rfl (lv_at hl 2 rfl) ?_
  by_cases h2 : a2 = (0 : Int32)
  · rw [if_pos h2] at he
    refine lv_tableIn (tgt := 76) (off := 31) hx hb dX11_ahead_45 (by rw [h2]; decide) (by rw [h2]; decide) (by rw [h2]; rfl) (by decide) ?_
    refine lv_aload_n hx hb dX11_ahead_76 rfl (lv_at hl 0 rfl) ?_
    refine lv_iconst (v := (1 : Int32)) hx hb dX11_ahead_77 rfl ?_
    refine lv_iconst (v := (1 : Int32)) hx hb dX11_ahead_78 rfl ?_
    obtain ⟨r3, hcr3, he⟩ := g_bind he
    refine g_callV [.int (1 : Int32), .int (1 : Int32)] (rest := []) E hml hl.1 hM cv_X11_457 (c11_outcomes l D aC B hcr3) (o := 0) (Nat.le_of_ble_eq_true rfl) rfl (by decide) rfl rfl (Nat.le_of_ble_eq_true rfl) dX11_ahead_79 (fun H locs hM => ?_)
    refine W.eq (g2 := F0 m 82 ls [.int r3]) rfl ?_
    refine lv_aload_n hx hb dX11_ahead_82 rfl (lv_at hl 0 rfl) ?_
    refine lv_iconst (v := (0 : Int32)) hx hb dX11_ahead_83 rfl ?_
    refine lv_iconst (v := (1 : Int32)) hx hb dX11_ahead_84 rfl ?_
    obtain ⟨r4, hcr4, he⟩ := g_bind he
    refine g_callV [.int (0 : Int32), .int (1 : Int32)] (rest := [.int r3]) E hml hl.1 hM cv_X11_457 (c11_outcomes l D aC B hcr4) (o := 0) (Nat.le_of_ble_eq_true rfl) rfl (by decide) rfl rfl (Nat.le_of_ble_eq_true rfl) dX11_ahead_85 (fun H locs hM => ?_)
    refine W.eq (g2 := F0 m 88 ls [.int r4, .int r3]) rfl ?_
    refine lv_isub hx hb dX11_ahead_88 ?_
    cases he
    exact g_iret E hM hret hlk dX11_ahead_89
  rw [if_neg h2] at he
  by_cases h5 : a2 = (1 : Int32)
  · rw [if_pos h5] at he
    refine lv_tableIn (tgt := 90) (off := 45) hx hb dX11_ahead_45 (by rw [h5]; decide) (by rw [h5]; decide) (by rw [h5]; rfl) (by decide) ?_
    refine lv_aload_n hx hb dX11_ahead_90 rfl (lv_at hl 0 rfl) ?_
    refine lv_iconst (v := (1 : Int32)) hx hb dX11_ahead_91 rfl ?_
    refine lv_iconst (v := (2 : Int32)) hx hb dX11_ahead_92 rfl ?_
    obtain ⟨r6, hcr6, he⟩ := g_bind he
    refine g_callV [.int (1 : Int32), .int (2 : Int32)] (rest := []) E hml hl.1 hM cv_X11_457 (c11_outcomes l D aC B hcr6) (o := 0) (Nat.le_of_ble_eq_true rfl) rfl (by decide) rfl rfl (Nat.le_of_ble_eq_true rfl) dX11_ahead_93 (fun H locs hM => ?_)
    refine W.eq (g2 := F0 m 96 ls [.int r6]) rfl ?_
    refine lv_aload_n hx hb dX11_ahead_96 rfl (lv_at hl 0 rfl) ?_
    refine lv_iconst (v := (0 : Int32)) hx hb dX11_ahead_97 rfl ?_
    refine lv_iconst (v := (2 : Int32)) hx hb dX11_ahead_98 rfl ?_
    obtain ⟨r7, hcr7, he⟩ := g_bind he
    refine g_callV [.int (0 : Int32), .int (2 : Int32)] (rest := [.int r6]) E hml hl.1 hM cv_X11_457 (c11_outcomes l D aC B hcr7) (o := 0) (Nat.le_of_ble_eq_true rfl) rfl (by decide) rfl rfl (Nat.le_of_ble_eq_true rfl) dX11_ahead_99 (fun H locs hM => ?_)
    refine W.eq (g2 := F0 m 102 ls [.int r7, .int r6]) rfl ?_
    refine lv_isub hx hb dX11_ahead_102 ?_
    cases he
    exact g_iret E hM hret hlk dX11_ahead_103
  rw [if_neg h5] at he
  by_cases h8 : a2 = (2 : Int32)
  · rw [if_pos h8] at he
    refine lv_tableIn (tgt := 104) (off := 59) hx hb dX11_ahead_45 (by rw [h8]; decide) (by rw [h8]; decide) (by rw [h8]; rfl) (by decide) ?_
    refine lv_aload_n hx hb dX11_ahead_104 rfl (lv_at hl 0 rfl) ?_
    refine lv_iconst (v := (1 : Int32)) hx hb dX11_ahead_105 rfl ?_
    obtain ⟨r9, hcr9, he⟩ := g_bind he
    refine g_callV [.int (1 : Int32)] (rest := []) E hml hl.1 hM cv_X11_460 (c11_goneMany l D aC B hcr9) (o := 0) (Nat.le_of_ble_eq_true rfl) rfl (by decide) rfl rfl (Nat.le_of_ble_eq_true rfl) dX11_ahead_106 (fun H locs hM => ?_)
    refine W.eq (g2 := F0 m 109 ls [.int r9]) rfl ?_
    refine lv_aload_n hx hb dX11_ahead_109 rfl (lv_at hl 0 rfl) ?_
    refine lv_iconst (v := (0 : Int32)) hx hb dX11_ahead_110 rfl ?_
    obtain ⟨r10, hcr10, he⟩ := g_bind he
    refine g_callV [.int (0 : Int32)] (rest := [.int r9]) E hml hl.1 hM cv_X11_460 (c11_goneMany l D aC B hcr10) (o := 0) (Nat.le_of_ble_eq_true rfl) rfl (by decide) rfl rfl (Nat.le_of_ble_eq_true rfl) dX11_ahead_111 (fun H locs hM => ?_)
    refine W.eq (g2 := F0 m 114 ls [.int r10, .int r9]) rfl ?_
    refine lv_isub hx hb dX11_ahead_114 ?_
    cases he
    exact g_iret E hM hret hlk dX11_ahead_115
  rw [if_neg h8] at he
  by_cases h11 : a2 = (3 : Int32)
  · rw [if_pos h11] at he
    refine lv_tableIn (tgt := 116) (off := 71) hx hb dX11_ahead_45 (by rw [h11]; decide) (by rw [h11]; decide) (by rw [h11]; rfl) (by decide) ?_
    refine lv_aload_n hx hb dX11_ahead_116 rfl (lv_at hl 0 rfl) ?_
    refine g_getP E hM (o := 0) (Nat.le_of_ble_eq_true rfl) rfl fl_X11_96 (q := 28) rfl dX11_ahead_117 ?_
    refine lv_iconst (v := (5 : Int32)) hx hb dX11_ahead_120 rfl ?_
    refine lv_iload_n hx hb dX11_ahead_121 rfl (lv_at hl 3 rfl) ?_
    refine lv_iadd hx hb dX11_ahead_122 ?_
    obtain ⟨h12, he⟩ := g_ck_some he
    refine g_iald E hM (o := 28) (Nat.le_of_ble_eq_true rfl) rfl h12 dX11_ahead_123 ?_
    cases he
    exact g_iret E hM hret hlk dX11_ahead_124
  rw [if_neg h11] at he
  refine lv_tableOut (tgt := 125) hx hb dX11_ahead_45 (by have zh2 := lv_neT (a := 0) h2 rfl; have zh5 := lv_neT (a := 1) h5 rfl; have zh8 := lv_neT (a := 2) h8 rfl; have zh11 := lv_neT (a := 3) h11 rfl; omega) (by decide) ?_
  refine lv_aload_n hx hb dX11_ahead_125 rfl (lv_at hl 0 rfl) ?_
  refine lv_iconst (v := (1 : Int32)) hx hb dX11_ahead_126 rfl ?_
  obtain ⟨r13, hcr13, he⟩ := g_bind he
  refine g_callV [.int (1 : Int32)] (rest := []) E hml hl.1 hM cv_X11_463 (c11_mixedMany l D aC B hcr13) (o := 0) (Nat.le_of_ble_eq_true rfl) rfl (by decide) rfl rfl (Nat.le_of_ble_eq_true rfl) dX11_ahead_127 (fun H locs hM => ?_)
  refine W.eq (g2 := F0 m 130 ls [.int r13]) rfl ?_
  cases he
  exact g_iret E hM hret hlk dX11_ahead_130

set_option maxHeartbeats 4000000 in
set_option maxRecDepth 100000 in
theorem c11_ahead (l : Launch) (D : va_G) (aC : Nat → ClassId) (B : Nat) {F : Nat} {a1 : Int32} {a2 : Int32} {a3 : Int32} {mem : g_M} {q0 : Int32 × g_M} (he : f11_ahead F a1 a2 a3 mem = some q0) : g_Met l yX11_ahead cX11_ahead 4 (some .int) 10 D aC B yM 44 mem [.ref (B + 0), .int a1, .int a2, .int a3] (some (.int q0.1)) q0.2 := by
  refine g_ofW (by decide) (Nat.le_of_ble_eq_true rfl) ?_
  intro p e s m args below meth c ls E hml hret hlk hM hl
  have E : g_C p s m args c cX11_ahead RX11 D aC (g_Zs (g_A B 44)) := E
  have hx := E.1
  have hb := E.2.1
  have hown := E.2.2.1
  have hts := E.2.2.2.1
  have hl : lv_has ls 4 [(0, .ref (B + 0)), (1, .int a1), (2, .int a2), (3, .int a3)] := hl
  unfold f11_ahead at he
  refine lv_aload_n hx hb dX11_ahead_0 rfl (lv_at hl 0 rfl) ?_
  refine lv_iconst (v := (0 : Int32)) hx hb dX11_ahead_1 rfl ?_
  refine g_putI E hM (o := 0) (Nat.le_of_ble_eq_true rfl) rfl fp_X11_157 dX11_ahead_2 (fun H locs hM => ?_)
  obtain ⟨m14, hm14, he⟩ := g_let_ex he
  rw [← hm14] at hM
  refine lv_iload_n hx hb dX11_ahead_5 rfl (lv_at hl 1 rfl) ?_
  refine lv_if_lt (tgt := 37) hx hb dX11_ahead_6 (by decide) (fun h15 => ?_) (fun h15 => ?_)
  · rw [if_neg (Int32.not_le.mpr h15)] at he
    refine lv_iconst (v := (-1 : Int32)) hx hb dX11_ahead_37 rfl ?_
    cases he
    exact g_iret E hM hret hlk dX11_ahead_38
  · rw [if_pos (Int32.not_lt.mp h15)] at he
    refine lv_iload_n hx hb dX11_ahead_9 rfl (lv_at hl 1 rfl) ?_
    refine lv_bipush (v := (99 : Int32)) hx hb dX11_ahead_10 rfl ?_
    refine lv_icmp_gt (tgt := 37) hx hb dX11_ahead_12 (by decide) (fun h16 => ?_) (fun h16 => ?_)
    · rw [if_neg (Int32.not_le.mpr h16)] at he
      refine lv_iconst (v := (-1 : Int32)) hx hb dX11_ahead_37 rfl ?_
      cases he
      exact g_iret E hM hret hlk dX11_ahead_38
    · rw [if_pos (Int32.not_lt.mp h16)] at he
      refine lv_iload_n hx hb dX11_ahead_15 rfl (lv_at hl 2 rfl) ?_
      refine lv_if_lt (tgt := 37) hx hb dX11_ahead_16 (by decide) (fun h17 => ?_) (fun h17 => ?_)
      · rw [if_neg (Int32.not_le.mpr h17)] at he
        refine lv_iconst (v := (-1 : Int32)) hx hb dX11_ahead_37 rfl ?_
        cases he
        exact g_iret E hM hret hlk dX11_ahead_38
      · rw [if_pos (Int32.not_lt.mp h17)] at he
        refine lv_iload_n hx hb dX11_ahead_19 rfl (lv_at hl 2 rfl) ?_
        refine lv_iconst (v := (4 : Int32)) hx hb dX11_ahead_20 rfl ?_
        refine lv_icmp_gt (tgt := 37) hx hb dX11_ahead_21 (by decide) (fun h18 => ?_) (fun h18 => ?_)
        · rw [if_neg (Int32.not_le.mpr h18)] at he
          refine lv_iconst (v := (-1 : Int32)) hx hb dX11_ahead_37 rfl ?_
          cases he
          exact g_iret E hM hret hlk dX11_ahead_38
        · rw [if_pos (Int32.not_lt.mp h18)] at he
          refine lv_iload_n hx hb dX11_ahead_24 rfl (lv_at hl 2 rfl) ?_
          refine lv_iconst (v := (3 : Int32)) hx hb dX11_ahead_25 rfl ?_
          refine lv_icmp_ne (tgt := 39) hx hb dX11_ahead_26 (by decide) (fun h19 => ?_) (fun h19 => ?_)
          · rw [if_neg h19] at he
            exact w11_ahead_b39 (F := F) (a1 := a1) (a2 := a2) (a3 := a3) E hml hret hlk _ _ _ _ hM (lv_sub hl [0, 1, 2, 3] rfl) he
          · rw [if_pos h19] at he
            refine lv_aload_n hx hb dX11_ahead_29 rfl (lv_at hl 0 rfl) ?_
            refine lv_iload_n hx hb dX11_ahead_30 rfl (lv_at hl 3 rfl) ?_
            obtain ⟨r20, hcr20, he⟩ := g_bind he
            refine g_callV [.int a3] (rest := []) E hml hl.1 hM cv_X11_426 (c11_isMan l D aC B hcr20) (o := 0) (Nat.le_of_ble_eq_true rfl) rfl (by decide) rfl rfl (Nat.le_of_ble_eq_true rfl) dX11_ahead_31 (fun H locs hM => ?_)
            refine W.eq (g2 := F0 m 34 ls [.int r20]) rfl ?_
            refine lv_if_ne (tgt := 39) hx hb dX11_ahead_34 (by decide) (fun h21 => ?_) (fun h21 => ?_)
            · rw [if_neg h21] at he
              exact w11_ahead_b39 (F := F) (a1 := a1) (a2 := a2) (a3 := a3) E hml hret hlk _ _ _ _ hM (lv_sub hl [0, 1, 2, 3] rfl) he
            · rw [if_pos h21] at he
              refine lv_iconst (v := (-1 : Int32)) hx hb dX11_ahead_37 rfl ?_
              cases he
              exact g_iret E hM hret hlk dX11_ahead_38

set_option maxHeartbeats 4000000 in
set_option maxRecDepth 100000 in
theorem w11_first_b26_body (E : g_C p s m args c cX11_first RX11 D aC (g_Zs (g_A B 44))) (hml : c.maxLocals = 5) (hret : meth.sig.returnType = (some .int)) (hlk : meth.locks = false) {F : Nat} {q0 : Int32 × g_M} {a1 : Int32} {a2 : Int32} {a3 : Int32} {s26 : Int32 → g_M → Option (Int32 × g_M)} (hs26 : ∀ (v4 : Int32) (mem : g_M) (H : Heap) (locs : List Loc) (ls : Array Slot), g_At D aC B yM 44 mem s.heap H locs → lv_has ls 5 [(0, .ref (B + 0)), (1, .int a1), (2, .int a2), (3, .int a3), (4, .int v4)] → s26 v4 mem = some q0 → W p l e (g_rm 8) s m args below meth c H locs 0 0 (g_MQ below D aC B yM 44 args s (some (.int q0.1)) q0.2) (F0 m 26 ls [])) : ∀ (v4 : Int32) (mem : g_M) (H : Heap) (locs : List Loc) (ls : Array Slot), g_At D aC B yM 44 mem s.heap H locs → lv_has ls 5 [(0, .ref (B + 0)), (1, .int a1), (2, .int a2), (3, .int a3), (4, .int v4)] → f11_first_b26_body F a1 a2 a3 s26 v4 mem = some q0 → W p l e (g_rm 8) s m args below meth c H locs 0 0 (g_MQ below D aC B yM 44 args s (some (.int q0.1)) q0.2) (F0 m 26 ls []) := by
  intro v4 mem H locs ls hM hl he
  unfold f11_first_b26_body at he
  have hx := E.1
  have hb := E.2.1
  have hown := E.2.2.1
  have hts := E.2.2.2.1
  refine lv_iload hx hb dX11_first_26 (lv_at hl 4 rfl) ?_
  refine lv_bipush (v := (99 : Int32)) hx hb dX11_first_28 rfl ?_
  refine lv_icmp_gt (tgt := 59) hx hb dX11_first_30 (by decide) (fun h1 => ?_) (fun h1 => ?_)
  · rw [if_neg (Int32.not_le.mpr h1)] at he
    refine lv_bipush (v := (-2 : Int32)) hx hb dX11_first_59 rfl ?_
    cases he
    exact g_iret E hM hret hlk dX11_first_61
  · rw [if_pos (Int32.not_lt.mp h1)] at he
    refine lv_aload_n hx hb dX11_first_33 rfl (lv_at hl 0 rfl) ?_
    refine lv_iconst (v := (1 : Int32)) hx hb dX11_first_34 rfl ?_
    refine lv_iload_n hx hb dX11_first_35 rfl (lv_at hl 1 rfl) ?_
    refine lv_iload_n hx hb dX11_first_36 rfl (lv_at hl 2 rfl) ?_
    refine lv_iload_n hx hb dX11_first_37 rfl (lv_at hl 3 rfl) ?_
    obtain ⟨r2, hcr2, he⟩ := g_bind he
    refine g_callV [.int (1 : Int32), .int a1, .int a2, .int a3] (rest := []) E hml hl.1 hM cv_X11_365 (c11_canDo l D aC B hcr2) (o := 0) (Nat.le_of_ble_eq_true rfl) rfl (by decide) rfl rfl (Nat.le_of_ble_eq_true rfl) dX11_first_38 (fun H locs hM => ?_)
    refine W.eq (g2 := F0 m 41 ls [.int r2]) rfl ?_
    refine lv_if_eq (tgt := 47) hx hb dX11_first_41 (by decide) (fun h3 => ?_) (fun h3 => ?_)
    · rw [if_pos h3] at he
      refine lv_aload_n hx hb dX11_first_47 rfl (lv_at hl 0 rfl) ?_
      refine lv_iconst (v := (1 : Int32)) hx hb dX11_first_48 rfl ?_
      refine lv_iconst (v := (0 : Int32)) hx hb dX11_first_49 rfl ?_
      obtain ⟨r4, hcr4, he⟩ := g_bind he
      refine g_callV [.int (1 : Int32), .int (0 : Int32)] (rest := []) E hml hl.1 hM cv_X11_416 (c11_passes l D aC B hcr4) (o := 0) (Nat.le_of_ble_eq_true rfl) rfl (by decide) rfl rfl (Nat.le_of_ble_eq_true rfl) dX11_first_50 (fun H locs hM => ?_)
      refine W.eq (g2 := F0 m 53 ls []) rfl ?_
      obtain ⟨x5, hx5, he⟩ := g_let_ex he
      refine lv_iinc (v := x5) (lv' := [(4, .int x5), (0, .ref (B + 0)), (1, .int a1), (2, .int a2), (3, .int a3)]) hx hb dX11_first_53 hl (k := 4) rfl (by rw [hx5]; rfl) (by decide) rfl (fun ls hl => ?_)
      refine lv_goto (tgt := 26) hx hb dX11_first_56 (by decide) ?_
      exact hs26 _ _ _ _ _ hM (lv_sub hl [1, 2, 3, 4, 0] rfl) he
    · rw [if_neg h3] at he
      refine lv_iload hx hb dX11_first_44 (lv_at hl 4 rfl) ?_
      cases he
      exact g_iret E hM hret hlk dX11_first_46

set_option maxHeartbeats 4000000 in
set_option maxRecDepth 100000 in
theorem w11_first_b26 (E : g_C p s m args c cX11_first RX11 D aC (g_Zs (g_A B 44))) (hml : c.maxLocals = 5) (hret : meth.sig.returnType = (some .int)) (hlk : meth.locks = false) {F : Nat} {q0 : Int32 × g_M} {a1 : Int32} {a2 : Int32} {a3 : Int32} : ∀ (v4 : Int32) (mem : g_M) (H : Heap) (locs : List Loc) (ls : Array Slot), g_At D aC B yM 44 mem s.heap H locs → lv_has ls 5 [(0, .ref (B + 0)), (1, .int a1), (2, .int a2), (3, .int a3), (4, .int v4)] → f11_first_b26 F a1 a2 a3 v4 mem = some q0 → W p l e (g_rm 8) s m args below meth c H locs 0 0 (g_MQ below D aC B yM 44 args s (some (.int q0.1)) q0.2) (F0 m 26 ls []) := by
  have key : ∀ (nn : Nat) (x : Int32 × g_M) (H : Heap) (locs : List Loc) (ls : Array Slot), g_At D aC B yM 44 x.2 s.heap H locs → lv_has ls 5 [(0, .ref (B + 0)), (1, .int a1), (2, .int a2), (3, .int a3), (4, .int x.1)] → g_fix (fun sf x => f11_first_b26_body F a1 a2 a3 (fun v4 mem => sf (v4, mem)) x.1 x.2) nn x = some q0 → W p l e (g_rm 8) s m args below meth c H locs 0 0 (g_MQ below D aC B yM 44 args s (some (.int q0.1)) q0.2) (F0 m 26 ls []) := by
    intro nn
    induction nn with
    | zero => intro x H locs ls hM hl he; simp [g_fix] at he
    | succ nn ih =>
      intro x H locs ls hM hl he
      exact w11_first_b26_body (F := F) (a1 := a1) (a2 := a2) (a3 := a3) E hml hret hlk (fun v4 mem H locs ls hM hl he => ih (v4, mem) H locs ls hM hl he) x.1 x.2 H locs ls hM hl he
  intro v4 mem H locs ls hM hl he
  exact key F (v4, mem) H locs ls hM hl he

set_option maxHeartbeats 4000000 in
set_option maxRecDepth 100000 in
theorem c11_first (l : Launch) (D : va_G) (aC : Nat → ClassId) (B : Nat) {F : Nat} {a1 : Int32} {a2 : Int32} {a3 : Int32} {mem : g_M} {q0 : Int32 × g_M} (he : f11_first F a1 a2 a3 mem = some q0) : g_Met l yX11_first cX11_first 5 (some .int) 8 D aC B yM 44 mem [.ref (B + 0), .int a1, .int a2, .int a3] (some (.int q0.1)) q0.2 := by
  refine g_ofW (by decide) (Nat.le_of_ble_eq_true rfl) ?_
  intro p e s m args below meth c ls E hml hret hlk hM hl
  have E : g_C p s m args c cX11_first RX11 D aC (g_Zs (g_A B 44)) := E
  have hx := E.1
  have hb := E.2.1
  have hown := E.2.2.1
  have hts := E.2.2.2.1
  have hl : lv_has ls 5 [(0, .ref (B + 0)), (1, .int a1), (2, .int a2), (3, .int a3)] := hl
  unfold f11_first at he
  refine lv_aload_n hx hb dX11_first_0 rfl (lv_at hl 0 rfl) ?_
  refine lv_iconst (v := (0 : Int32)) hx hb dX11_first_1 rfl ?_
  refine g_putI E hM (o := 0) (Nat.le_of_ble_eq_true rfl) rfl fp_X11_157 dX11_first_2 (fun H locs hM => ?_)
  obtain ⟨m6, hm6, he⟩ := g_let_ex he
  rw [← hm6] at hM
  refine lv_aload_n hx hb dX11_first_5 rfl (lv_at hl 0 rfl) ?_
  refine lv_iload_n hx hb dX11_first_6 rfl (lv_at hl 1 rfl) ?_
  refine lv_iload_n hx hb dX11_first_7 rfl (lv_at hl 2 rfl) ?_
  refine lv_iload_n hx hb dX11_first_8 rfl (lv_at hl 3 rfl) ?_
  obtain ⟨r7, hcr7, he⟩ := g_bind he
  refine g_callV [.int a1, .int a2, .int a3] (rest := []) E hml hl.1 hM cv_X11_444 (c11_areThese l D aC B hcr7) (o := 0) (Nat.le_of_ble_eq_true rfl) rfl (by decide) rfl rfl (Nat.le_of_ble_eq_true rfl) dX11_first_9 (fun H locs hM => ?_)
  refine W.eq (g2 := F0 m 12 ls [.int r7]) rfl ?_
  refine lv_if_ne (tgt := 17) hx hb dX11_first_12 (by decide) (fun h8 => ?_) (fun h8 => ?_)
  · rw [if_neg h8] at he
    refine lv_aload_n hx hb dX11_first_17 rfl (lv_at hl 0 rfl) ?_
    refine lv_iconst (v := (1 : Int32)) hx hb dX11_first_18 rfl ?_
    refine lv_iconst (v := (0 : Int32)) hx hb dX11_first_19 rfl ?_
    obtain ⟨r9, hcr9, he⟩ := g_bind he
    refine g_callV [.int (1 : Int32), .int (0 : Int32)] (rest := []) E hml hl.1 hM cv_X11_420 (c11_copies l D aC B hcr9) (o := 0) (Nat.le_of_ble_eq_true rfl) rfl (by decide) rfl rfl (Nat.le_of_ble_eq_true rfl) dX11_first_20 (fun H locs hM => ?_)
    refine W.eq (g2 := F0 m 23 ls []) rfl ?_
    refine lv_iconst (v := (0 : Int32)) hx hb dX11_first_23 rfl ?_
    refine lv_istore (lv' := [(4, .int (0 : Int32)), (0, .ref (B + 0)), (1, .int a1), (2, .int a2), (3, .int a3)]) hx hb dX11_first_24 hl (by decide) rfl (fun ls hl => ?_)
    exact w11_first_b26 (F := F) (a1 := a1) (a2 := a2) (a3 := a3) E hml hret hlk _ _ _ _ _ hM (lv_sub hl [1, 2, 3, 4, 0] rfl) he
  · rw [if_pos h8] at he
    refine lv_iconst (v := (-1 : Int32)) hx hb dX11_first_15 rfl ?_
    cases he
    exact g_iret E hM hret hlk dX11_first_16

set_option maxHeartbeats 4000000 in
set_option maxRecDepth 100000 in
theorem w11_layLoad_b213 (E : g_C p s m args c cX11_layLoad RX11 D aC (g_Zs (g_A B 44))) (hml : c.maxLocals = 8) (hret : meth.sig.returnType = none) (hlk : meth.locks = false) {F : Nat} {q0 : g_M} {s12 : Int32 → g_M → Option (g_M)} (hs12 : ∀ (v1 : Int32) (mem : g_M) (H : Heap) (locs : List Loc) (ls : Array Slot), g_At D aC B yM 44 mem s.heap H locs → lv_has ls 8 [(0, .ref (B + 0)), (1, .int v1)] → s12 v1 mem = some q0 → W p l e (g_rm 2) s m args below meth c H locs 0 0 (g_MQ below D aC B yM 44 args s none q0) (F0 m 12 ls [])) : ∀ (v1 : Int32) (mem : g_M) (H : Heap) (locs : List Loc) (ls : Array Slot), g_At D aC B yM 44 mem s.heap H locs → lv_has ls 8 [(0, .ref (B + 0)), (1, .int v1)] → f11_layLoad_b213 F s12 v1 mem = some q0 → W p l e (g_rm 2) s m args below meth c H locs 0 0 (g_MQ below D aC B yM 44 args s none q0) (F0 m 213 ls []) := by
  intro v1 mem H locs ls hM hl he
  unfold f11_layLoad_b213 at he
  have hx := E.1
  have hb := E.2.1
  have hown := E.2.2.1
  have hts := E.2.2.2.1
  obtain ⟨x1, hx1, he⟩ := g_let_ex he
  refine lv_iinc (v := x1) (lv' := [(1, .int x1), (0, .ref (B + 0))]) hx hb dX11_layLoad_213 hl (k := 1) rfl (by rw [hx1]; rfl) (by decide) rfl (fun ls hl => ?_)
  refine lv_goto (tgt := 12) hx hb dX11_layLoad_216 (by decide) ?_
  exact hs12 _ _ _ _ _ hM (lv_sub hl [1, 0] rfl) he

set_option maxHeartbeats 4000000 in
set_option maxRecDepth 100000 in
theorem w11_layLoad_b175 (E : g_C p s m args c cX11_layLoad RX11 D aC (g_Zs (g_A B 44))) (hml : c.maxLocals = 8) (hret : meth.sig.returnType = none) (hlk : meth.locks = false) {F : Nat} {q0 : g_M} {s12 : Int32 → g_M → Option (g_M)} (hs12 : ∀ (v1 : Int32) (mem : g_M) (H : Heap) (locs : List Loc) (ls : Array Slot), g_At D aC B yM 44 mem s.heap H locs → lv_has ls 8 [(0, .ref (B + 0)), (1, .int v1)] → s12 v1 mem = some q0 → W p l e (g_rm 2) s m args below meth c H locs 0 0 (g_MQ below D aC B yM 44 args s none q0) (F0 m 12 ls [])) : ∀ (v1 : Int32) (v3 : Int32) (v4 : Int32) (v5 : Int32) (mem : g_M) (H : Heap) (locs : List Loc) (ls : Array Slot), g_At D aC B yM 44 mem s.heap H locs → lv_has ls 8 [(0, .ref (B + 0)), (1, .int v1), (3, .int v3), (4, .int v4), (5, .int v5)] → f11_layLoad_b175 F s12 v1 v3 v4 v5 mem = some q0 → W p l e (g_rm 2) s m args below meth c H locs 0 0 (g_MQ below D aC B yM 44 args s none q0) (F0 m 175 ls []) := by
  intro v1 v3 v4 v5 mem H locs ls hM hl he
  unfold f11_layLoad_b175 at he
  have hx := E.1
  have hb := E.2.1
  have hown := E.2.2.1
  have hts := E.2.2.2.1
  refine lv_iload hx hb dX11_layLoad_175 (lv_at hl 4 rfl) ?_
  refine lv_if_eq (tgt := 213) hx hb dX11_layLoad_177 (by decide) (fun h2 => ?_) (fun h2 => ?_)
  · rw [if_pos h2] at he
    exact w11_layLoad_b213 (F := F) E hml hret hlk hs12 _ _ _ _ _ hM (lv_sub hl [0, 1] rfl) he
  · rw [if_neg h2] at he
    refine lv_iload_n hx hb dX11_layLoad_180 rfl (lv_at hl 2 rfl) ?_
    refine lv_aload_n hx hb dX11_layLoad_181 rfl (lv_at hl 0 rfl) ?_
    refine g_getP E hM (o := 0) (Nat.le_of_ble_eq_true rfl) rfl fl_X11_13 (q := 2) rfl dX11_layLoad_182 ?_
    refine lv_iconst (v := (5 : Int32)) hx hb dX11_layLoad_185 rfl ?_
    obtain ⟨h3, he⟩ := g_ck_some he
    refine g_iald E hM (o := 2) (Nat.le_of_ble_eq_true rfl) rfl h3 dX11_layLoad_186 ?_
    refine lv_icmp_gt (tgt := 213) hx hb dX11_layLoad_187 (by decide) (fun h4 => ?_) (fun h4 => ?_)
    · rw [if_neg (Int32.not_le.mpr h4)] at he
      exact w11_layLoad_b213 (F := F) E hml hret hlk hs12 _ _ _ _ _ hM (lv_sub hl [0, 1] rfl) he
    · rw [if_pos (Int32.not_lt.mp h4)] at he
      refine lv_iload hx hb dX11_layLoad_190 (lv_at hl 3 rfl) ?_
      refine lv_aload_n hx hb dX11_layLoad_192 rfl (lv_at hl 0 rfl) ?_
      refine g_getI E hM (o := 0) (Nat.le_of_ble_eq_true rfl) rfl fl_X11_469 dX11_layLoad_193 ?_
      refine lv_icmp_gt (tgt := 202) hx hb dX11_layLoad_196 (by decide) (fun h5 => ?_) (fun h5 => ?_)
      · rw [if_neg (Int32.not_le.mpr h5)] at he
        refine lv_aload_n hx hb dX11_layLoad_202 rfl (lv_at hl 0 rfl) ?_
        refine lv_iload_n hx hb dX11_layLoad_203 rfl (lv_at hl 1 rfl) ?_
        refine g_putI E hM (o := 0) (Nat.le_of_ble_eq_true rfl) rfl fp_X11_466 dX11_layLoad_204 (fun H locs hM => ?_)
        obtain ⟨m6, hm6, he⟩ := g_let_ex he
        rw [← hm6] at hM
        refine lv_aload_n hx hb dX11_layLoad_207 rfl (lv_at hl 0 rfl) ?_
        refine lv_iload hx hb dX11_layLoad_208 (lv_at hl 3 rfl) ?_
        refine g_putI E hM (o := 0) (Nat.le_of_ble_eq_true rfl) rfl fp_X11_469 dX11_layLoad_210 (fun H locs hM => ?_)
        obtain ⟨m7, hm7, he⟩ := g_let_ex he
        rw [← hm7] at hM
        exact w11_layLoad_b213 (F := F) E hml hret hlk hs12 _ _ _ _ _ hM (lv_sub hl [0, 1] rfl) he
      · rw [if_pos (Int32.not_lt.mp h5)] at he
        refine lv_goto (tgt := 213) hx hb dX11_layLoad_199 (by decide) ?_
        exact w11_layLoad_b213 (F := F) E hml hret hlk hs12 _ _ _ _ _ hM (lv_sub hl [0, 1] rfl) he

set_option maxHeartbeats 4000000 in
set_option maxRecDepth 100000 in
theorem w11_layLoad_b169 (E : g_C p s m args c cX11_layLoad RX11 D aC (g_Zs (g_A B 44))) (hml : c.maxLocals = 8) (hret : meth.sig.returnType = none) (hlk : meth.locks = false) {F : Nat} {q0 : g_M} {s37 : Int32 → Int32 → Int32 → Int32 → Int32 → Int32 → g_M → Option (g_M)} (hs37 : ∀ (v1 : Int32) (v2 : Int32) (v3 : Int32) (v4 : Int32) (v5 : Int32) (v6 : Int32) (mem : g_M) (H : Heap) (locs : List Loc) (ls : Array Slot), g_At D aC B yM 44 mem s.heap H locs → lv_has ls 8 [(0, .ref (B + 0)), (1, .int v1), (2, .int v2), (3, .int v3), (4, .int v4), (5, .int v5), (6, .int v6)] → s37 v1 v2 v3 v4 v5 v6 mem = some q0 → W p l e (g_rm 2) s m args below meth c H locs 0 0 (g_MQ below D aC B yM 44 args s none q0) (F0 m 37 ls [])) : ∀ (v1 : Int32) (v2 : Int32) (v3 : Int32) (v4 : Int32) (v5 : Int32) (v6 : Int32) (mem : g_M) (H : Heap) (locs : List Loc) (ls : Array Slot), g_At D aC B yM 44 mem s.heap H locs → lv_has ls 8 [(0, .ref (B + 0)), (1, .int v1), (2, .int v2), (3, .int v3), (4, .int v4), (5, .int v5), (6, .int v6)] → f11_layLoad_b169 F s37 v1 v2 v3 v4 v5 v6 mem = some q0 → W p l e (g_rm 2) s m args below meth c H locs 0 0 (g_MQ below D aC B yM 44 args s none q0) (F0 m 169 ls []) := by
  intro v1 v2 v3 v4 v5 v6 mem H locs ls hM hl he
  unfold f11_layLoad_b169 at he
  have hx := E.1
  have hb := E.2.1
  have hown := E.2.2.1
  have hts := E.2.2.2.1
  obtain ⟨x8, hx8, he⟩ := g_let_ex he
  refine lv_iinc (v := x8) (lv' := [(6, .int x8), (0, .ref (B + 0)), (1, .int v1), (2, .int v2), (3, .int v3), (4, .int v4), (5, .int v5)]) hx hb dX11_layLoad_169 hl (k := 6) rfl (by rw [hx8]; rfl) (by decide) rfl (fun ls hl => ?_)
  refine lv_goto (tgt := 37) hx hb dX11_layLoad_172 (by decide) ?_
  exact hs37 _ _ _ _ _ _ _ _ _ _ hM (lv_sub hl [1, 2, 3, 4, 5, 6, 0] rfl) he

set_option maxHeartbeats 4000000 in
set_option maxRecDepth 100000 in
theorem w11_layLoad_b130 (E : g_C p s m args c cX11_layLoad RX11 D aC (g_Zs (g_A B 44))) (hml : c.maxLocals = 8) (hret : meth.sig.returnType = none) (hlk : meth.locks = false) {F : Nat} {q0 : g_M} {s37 : Int32 → Int32 → Int32 → Int32 → Int32 → Int32 → g_M → Option (g_M)} (hs37 : ∀ (v1 : Int32) (v2 : Int32) (v3 : Int32) (v4 : Int32) (v5 : Int32) (v6 : Int32) (mem : g_M) (H : Heap) (locs : List Loc) (ls : Array Slot), g_At D aC B yM 44 mem s.heap H locs → lv_has ls 8 [(0, .ref (B + 0)), (1, .int v1), (2, .int v2), (3, .int v3), (4, .int v4), (5, .int v5), (6, .int v6)] → s37 v1 v2 v3 v4 v5 v6 mem = some q0 → W p l e (g_rm 2) s m args below meth c H locs 0 0 (g_MQ below D aC B yM 44 args s none q0) (F0 m 37 ls [])) : ∀ (v1 : Int32) (v2 : Int32) (v3 : Int32) (v4 : Int32) (v6 : Int32) (v7 : Int32) (w0 : Int32) (mem : g_M) (H : Heap) (locs : List Loc) (ls : Array Slot), g_At D aC B yM 44 mem s.heap H locs → lv_has ls 8 [(0, .ref (B + 0)), (1, .int v1), (2, .int v2), (3, .int v3), (4, .int v4), (6, .int v6), (7, .int v7)] → f11_layLoad_b130 F s37 v1 v2 v3 v4 v6 v7 w0 mem = some q0 → W p l e (g_rm 2) s m args below meth c H locs 0 0 (g_MQ below D aC B yM 44 args s none q0) (F0 m 130 ls [.int w0]) := by
  intro v1 v2 v3 v4 v6 v7 w0 mem H locs ls hM hl he
  unfold f11_layLoad_b130 at he
  have hx := E.1
  have hb := E.2.1
  have hown := E.2.2.1
  have hts := E.2.2.2.1
  refine lv_istore (lv' := [(5, .int w0), (0, .ref (B + 0)), (1, .int v1), (2, .int v2), (3, .int v3), (4, .int v4), (6, .int v6), (7, .int v7)]) hx hb dX11_layLoad_130 hl (by decide) rfl (fun ls hl => ?_)
  refine lv_iload_n hx hb dX11_layLoad_132 rfl (lv_at hl 3 rfl) ?_
  refine lv_iload hx hb dX11_layLoad_133 (lv_at hl 7 rfl) ?_
  refine lv_ior hx hb dX11_layLoad_135 ?_
  obtain ⟨x9, hx9, he⟩ := g_let_ex he
  refine g_topI hx9 ?_
  refine lv_istore_n (lv' := [(2, .int x9), (5, .int w0), (0, .ref (B + 0)), (1, .int v1), (3, .int v3), (4, .int v4), (6, .int v6), (7, .int v7)]) hx hb dX11_layLoad_136 rfl hl (by decide) rfl (fun ls hl => ?_)
  refine lv_iload_n hx hb dX11_layLoad_137 rfl (lv_at hl 4 rfl) ?_
  refine lv_aload_n hx hb dX11_layLoad_138 rfl (lv_at hl 2 rfl) ?_
  refine g_getP E hM (o := 0) (Nat.le_of_ble_eq_true rfl) rfl fl_X11_25 (q := 6) rfl dX11_layLoad_139 ?_
  refine lv_aload_n hx hb dX11_layLoad_142 rfl (lv_at hl 2 rfl) ?_
  refine g_getP E hM (o := 0) (Nat.le_of_ble_eq_true rfl) rfl fl_X11_111 (q := 33) rfl dX11_layLoad_143 ?_
  refine lv_iload hx hb dX11_layLoad_146 (lv_at hl 6 rfl) ?_
  obtain ⟨h10, he⟩ := g_ck_some he
  refine g_iald E hM (o := 33) (Nat.le_of_ble_eq_true rfl) rfl h10 dX11_layLoad_148 ?_
  obtain ⟨h11, he⟩ := g_ck_some he
  refine g_iald E hM (o := 6) (Nat.le_of_ble_eq_true rfl) rfl h11 dX11_layLoad_149 ?_
  refine lv_iadd hx hb dX11_layLoad_150 ?_
  obtain ⟨x12, hx12, he⟩ := g_let_ex he
  refine g_topI hx12 ?_
  refine lv_istore_n (lv' := [(3, .int x12), (2, .int x9), (5, .int w0), (0, .ref (B + 0)), (1, .int v1), (4, .int v4), (6, .int v6), (7, .int v7)]) hx hb dX11_layLoad_151 rfl hl (by decide) rfl (fun ls hl => ?_)
  refine lv_iload hx hb dX11_layLoad_152 (lv_at hl 5 rfl) ?_
  refine lv_aload_n hx hb dX11_layLoad_154 rfl (lv_at hl 3 rfl) ?_
  refine g_getP E hM (o := 0) (Nat.le_of_ble_eq_true rfl) rfl fl_X11_28 (q := 7) rfl dX11_layLoad_155 ?_
  refine lv_aload_n hx hb dX11_layLoad_158 rfl (lv_at hl 3 rfl) ?_
  refine g_getP E hM (o := 0) (Nat.le_of_ble_eq_true rfl) rfl fl_X11_111 (q := 33) rfl dX11_layLoad_159 ?_
  refine lv_iload hx hb dX11_layLoad_162 (lv_at hl 6 rfl) ?_
  obtain ⟨h13, he⟩ := g_ck_some he
  refine g_iald E hM (o := 33) (Nat.le_of_ble_eq_true rfl) rfl h13 dX11_layLoad_164 ?_
  obtain ⟨h14, he⟩ := g_ck_some he
  refine g_iald E hM (o := 7) (Nat.le_of_ble_eq_true rfl) rfl h14 dX11_layLoad_165 ?_
  refine lv_iadd hx hb dX11_layLoad_166 ?_
  obtain ⟨x15, hx15, he⟩ := g_let_ex he
  refine g_topI hx15 ?_
  refine lv_istore (lv' := [(4, .int x15), (3, .int x12), (2, .int x9), (5, .int w0), (0, .ref (B + 0)), (1, .int v1), (6, .int v6), (7, .int v7)]) hx hb dX11_layLoad_167 hl (by decide) rfl (fun ls hl => ?_)
  exact w11_layLoad_b169 (F := F) E hml hret hlk hs37 _ _ _ _ _ _ _ _ _ _ hM (lv_sub hl [4, 5, 2, 1, 0, 3, 6] rfl) he

set_option maxHeartbeats 4000000 in
set_option maxRecDepth 100000 in
theorem w11_layLoad_b129 (E : g_C p s m args c cX11_layLoad RX11 D aC (g_Zs (g_A B 44))) (hml : c.maxLocals = 8) (hret : meth.sig.returnType = none) (hlk : meth.locks = false) {F : Nat} {q0 : g_M} {s37 : Int32 → Int32 → Int32 → Int32 → Int32 → Int32 → g_M → Option (g_M)} (hs37 : ∀ (v1 : Int32) (v2 : Int32) (v3 : Int32) (v4 : Int32) (v5 : Int32) (v6 : Int32) (mem : g_M) (H : Heap) (locs : List Loc) (ls : Array Slot), g_At D aC B yM 44 mem s.heap H locs → lv_has ls 8 [(0, .ref (B + 0)), (1, .int v1), (2, .int v2), (3, .int v3), (4, .int v4), (5, .int v5), (6, .int v6)] → s37 v1 v2 v3 v4 v5 v6 mem = some q0 → W p l e (g_rm 2) s m args below meth c H locs 0 0 (g_MQ below D aC B yM 44 args s none q0) (F0 m 37 ls [])) : ∀ (v1 : Int32) (v2 : Int32) (v3 : Int32) (v4 : Int32) (v6 : Int32) (v7 : Int32) (mem : g_M) (H : Heap) (locs : List Loc) (ls : Array Slot), g_At D aC B yM 44 mem s.heap H locs → lv_has ls 8 [(0, .ref (B + 0)), (1, .int v1), (2, .int v2), (3, .int v3), (4, .int v4), (6, .int v6), (7, .int v7)] → f11_layLoad_b129 F s37 v1 v2 v3 v4 v6 v7 mem = some q0 → W p l e (g_rm 2) s m args below meth c H locs 0 0 (g_MQ below D aC B yM 44 args s none q0) (F0 m 129 ls []) := by
  intro v1 v2 v3 v4 v6 v7 mem H locs ls hM hl he
  unfold f11_layLoad_b129 at he
  have hx := E.1
  have hb := E.2.1
  have hown := E.2.2.1
  have hts := E.2.2.2.1
  refine lv_iconst (v := (0 : Int32)) hx hb dX11_layLoad_129 rfl ?_
  exact w11_layLoad_b130 (F := F) E hml hret hlk hs37 _ _ _ _ _ _ _ _ _ _ _ hM (lv_sub hl [0, 1, 2, 3, 4, 5, 6] rfl) he

set_option maxHeartbeats 4000000 in
set_option maxRecDepth 100000 in
theorem w11_layLoad_b37_body (E : g_C p s m args c cX11_layLoad RX11 D aC (g_Zs (g_A B 44))) (hml : c.maxLocals = 8) (hret : meth.sig.returnType = none) (hlk : meth.locks = false) {F : Nat} {q0 : g_M} {s12 : Int32 → g_M → Option (g_M)} (hs12 : ∀ (v1 : Int32) (mem : g_M) (H : Heap) (locs : List Loc) (ls : Array Slot), g_At D aC B yM 44 mem s.heap H locs → lv_has ls 8 [(0, .ref (B + 0)), (1, .int v1)] → s12 v1 mem = some q0 → W p l e (g_rm 2) s m args below meth c H locs 0 0 (g_MQ below D aC B yM 44 args s none q0) (F0 m 12 ls [])) {s37 : Int32 → Int32 → Int32 → Int32 → Int32 → Int32 → g_M → Option (g_M)} (hs37 : ∀ (v1 : Int32) (v2 : Int32) (v3 : Int32) (v4 : Int32) (v5 : Int32) (v6 : Int32) (mem : g_M) (H : Heap) (locs : List Loc) (ls : Array Slot), g_At D aC B yM 44 mem s.heap H locs → lv_has ls 8 [(0, .ref (B + 0)), (1, .int v1), (2, .int v2), (3, .int v3), (4, .int v4), (5, .int v5), (6, .int v6)] → s37 v1 v2 v3 v4 v5 v6 mem = some q0 → W p l e (g_rm 2) s m args below meth c H locs 0 0 (g_MQ below D aC B yM 44 args s none q0) (F0 m 37 ls [])) : ∀ (v1 : Int32) (v2 : Int32) (v3 : Int32) (v4 : Int32) (v5 : Int32) (v6 : Int32) (mem : g_M) (H : Heap) (locs : List Loc) (ls : Array Slot), g_At D aC B yM 44 mem s.heap H locs → lv_has ls 8 [(0, .ref (B + 0)), (1, .int v1), (2, .int v2), (3, .int v3), (4, .int v4), (5, .int v5), (6, .int v6)] → f11_layLoad_b37_body F s12 s37 v1 v2 v3 v4 v5 v6 mem = some q0 → W p l e (g_rm 2) s m args below meth c H locs 0 0 (g_MQ below D aC B yM 44 args s none q0) (F0 m 37 ls []) := by
  intro v1 v2 v3 v4 v5 v6 mem H locs ls hM hl he
  unfold f11_layLoad_b37_body at he
  have hx := E.1
  have hb := E.2.1
  have hown := E.2.2.1
  have hts := E.2.2.2.1
  refine lv_iload hx hb dX11_layLoad_37 (lv_at hl 6 rfl) ?_
  refine lv_aload_n hx hb dX11_layLoad_39 rfl (lv_at hl 0 rfl) ?_
  refine g_getP E hM (o := 0) (Nat.le_of_ble_eq_true rfl) rfl fl_X11_93 (q := 27) rfl dX11_layLoad_40 ?_
  refine lv_iconst (v := (0 : Int32)) hx hb dX11_layLoad_43 rfl ?_
  obtain ⟨h16, he⟩ := g_ck_some he
  refine g_iald E hM (o := 27) (Nat.le_of_ble_eq_true rfl) rfl h16 dX11_layLoad_44 ?_
  refine lv_icmp_ge (tgt := 175) hx hb dX11_layLoad_45 (by decide) (fun h17 => ?_) (fun h17 => ?_)
  · rw [if_neg (Int32.not_lt.mpr h17)] at he
    exact w11_layLoad_b175 (F := F) E hml hret hlk hs12 _ _ _ _ _ _ _ _ hM (lv_sub hl [0, 1, 3, 4, 5] rfl) he
  · rw [if_pos (Int32.not_le.mp h17)] at he
    refine lv_iload hx hb dX11_layLoad_48 (lv_at hl 5 rfl) ?_
    refine lv_if_eq (tgt := 175) hx hb dX11_layLoad_50 (by decide) (fun h18 => ?_) (fun h18 => ?_)
    · rw [if_pos h18] at he
      exact w11_layLoad_b175 (F := F) E hml hret hlk hs12 _ _ _ _ _ _ _ _ hM (lv_sub hl [0, 1, 3, 4, 5] rfl) he
    · rw [if_neg h18] at he
      refine lv_iload_n hx hb dX11_layLoad_53 rfl (lv_at hl 1 rfl) ?_
      refine lv_iload hx hb dX11_layLoad_54 (lv_at hl 6 rfl) ?_
      refine lv_ishr hx hb dX11_layLoad_56 ?_
      refine lv_iconst (v := (1 : Int32)) hx hb dX11_layLoad_57 rfl ?_
      refine lv_iand hx hb dX11_layLoad_58 ?_
      refine lv_if_ne (tgt := 65) hx hb dX11_layLoad_59 (by decide) (fun h19 => ?_) (fun h19 => ?_)
      · rw [if_neg h19] at he
        refine lv_iconst (v := (1 : Int32)) hx hb dX11_layLoad_65 rfl ?_
        refine lv_iconst (v := (5 : Int32)) hx hb dX11_layLoad_66 rfl ?_
        refine lv_aload_n hx hb dX11_layLoad_67 rfl (lv_at hl 0 rfl) ?_
        refine g_getP E hM (o := 0) (Nat.le_of_ble_eq_true rfl) rfl fl_X11_108 (q := 32) rfl dX11_layLoad_68 ?_
        refine lv_iload hx hb dX11_layLoad_71 (lv_at hl 6 rfl) ?_
        obtain ⟨h20, he⟩ := g_ck_some he
        refine g_iald E hM (o := 32) (Nat.le_of_ble_eq_true rfl) rfl h20 dX11_layLoad_73 ?_
        refine lv_imul hx hb dX11_layLoad_74 ?_
        refine lv_aload_n hx hb dX11_layLoad_75 rfl (lv_at hl 0 rfl) ?_
        refine g_getP E hM (o := 0) (Nat.le_of_ble_eq_true rfl) rfl fl_X11_111 (q := 33) rfl dX11_layLoad_76 ?_
        refine lv_iload hx hb dX11_layLoad_79 (lv_at hl 6 rfl) ?_
        obtain ⟨h21, he⟩ := g_ck_some he
        refine g_iald E hM (o := 33) (Nat.le_of_ble_eq_true rfl) rfl h21 dX11_layLoad_81 ?_
        refine lv_iadd hx hb dX11_layLoad_82 ?_
        refine lv_ishl hx hb dX11_layLoad_83 ?_
        obtain ⟨x22, hx22, he⟩ := g_let_ex he
        refine g_topI hx22 ?_
        refine lv_istore (lv' := [(7, .int x22), (0, .ref (B + 0)), (1, .int v1), (2, .int v2), (3, .int v3), (4, .int v4), (5, .int v5), (6, .int v6)]) hx hb dX11_layLoad_84 hl (by decide) rfl (fun ls hl => ?_)
        refine lv_aload_n hx hb dX11_layLoad_86 rfl (lv_at hl 1 rfl) ?_
        refine lv_iconst (v := (0 : Int32)) hx hb dX11_layLoad_87 rfl ?_
        refine lv_iload hx hb dX11_layLoad_88 (lv_at hl 7 rfl) ?_
        obtain ⟨r23, hcr23, he⟩ := g_bind he
        refine g_callV [.int (0 : Int32), .int v6] (rest := []) E hml hl.1 hM cv_X11_385 (c11_isDue l D aC B hcr23) (o := 0) (Nat.le_of_ble_eq_true rfl) rfl (by decide) rfl rfl (Nat.le_of_ble_eq_true rfl) dX11_layLoad_90 (fun H locs hM => ?_)
        refine W.eq (g2 := F0 m 93 ls [.int r23]) rfl ?_
        refine lv_if_eq (tgt := 129) hx hb dX11_layLoad_93 (by decide) (fun h24 => ?_) (fun h24 => ?_)
        · rw [if_pos h24] at he
          exact w11_layLoad_b129 (F := F) E hml hret hlk hs37 _ _ _ _ _ _ _ _ _ _ hM (lv_sub hl [1, 2, 3, 4, 5, 7, 0] rfl) he
        · rw [if_neg h24] at he
          refine lv_aload_n hx hb dX11_layLoad_96 rfl (lv_at hl 1 rfl) ?_
          refine lv_iconst (v := (0 : Int32)) hx hb dX11_layLoad_97 rfl ?_
          refine lv_aload_n hx hb dX11_layLoad_98 rfl (lv_at hl 1 rfl) ?_
          refine g_getP E hM (o := 0) (Nat.le_of_ble_eq_true rfl) rfl fl_X11_108 (q := 32) rfl dX11_layLoad_99 ?_
          refine lv_iload hx hb dX11_layLoad_102 (lv_at hl 7 rfl) ?_
          obtain ⟨h25, he⟩ := g_ck_some he
          refine g_iald E hM (o := 32) (Nat.le_of_ble_eq_true rfl) rfl h25 dX11_layLoad_104 ?_
          refine lv_aload_n hx hb dX11_layLoad_105 rfl (lv_at hl 1 rfl) ?_
          refine g_getP E hM (o := 0) (Nat.le_of_ble_eq_true rfl) rfl fl_X11_111 (q := 33) rfl dX11_layLoad_106 ?_
          refine lv_iload hx hb dX11_layLoad_109 (lv_at hl 7 rfl) ?_
          obtain ⟨h26, he⟩ := g_ck_some he
          refine g_iald E hM (o := 33) (Nat.le_of_ble_eq_true rfl) rfl h26 dX11_layLoad_111 ?_
          obtain ⟨r27, hcr27, he⟩ := g_bind he
          refine g_callV [.int (0 : Int32), .int (mem.1 32 v6.toNatClampNeg), .int (mem.1 33 v6.toNatClampNeg)] (rest := []) E hml hl.1 hM cv_X11_389 (c11_isAtBoat l D aC B hcr27) (o := 0) (Nat.le_of_ble_eq_true rfl) rfl (by decide) rfl rfl (Nat.le_of_ble_eq_true rfl) dX11_layLoad_112 (fun H locs hM => ?_)
          refine W.eq (g2 := F0 m 115 ls [.int r27]) rfl ?_
          refine lv_if_eq (tgt := 129) hx hb dX11_layLoad_115 (by decide) (fun h28 => ?_) (fun h28 => ?_)
          · rw [if_pos h28] at he
            exact w11_layLoad_b129 (F := F) E hml hret hlk hs37 _ _ _ _ _ _ _ _ _ _ hM (lv_sub hl [1, 2, 3, 4, 5, 7, 0] rfl) he
          · rw [if_neg h28] at he
            refine lv_iload_n hx hb dX11_layLoad_118 rfl (lv_at hl 3 rfl) ?_
            refine lv_iload hx hb dX11_layLoad_119 (lv_at hl 0 rfl) ?_
            refine lv_iand hx hb dX11_layLoad_121 ?_
            refine lv_if_ne (tgt := 129) hx hb dX11_layLoad_122 (by decide) (fun h29 => ?_) (fun h29 => ?_)
            · rw [if_neg h29] at he
              exact w11_layLoad_b129 (F := F) E hml hret hlk hs37 _ _ _ _ _ _ _ _ _ _ hM (lv_sub hl [1, 2, 3, 4, 5, 7, 0] rfl) he
            · rw [if_pos h29] at he
              refine lv_iconst (v := (1 : Int32)) hx hb dX11_layLoad_125 rfl ?_
              refine lv_goto (tgt := 130) hx hb dX11_layLoad_126 (by decide) ?_
              exact w11_layLoad_b130 (F := F) E hml hret hlk hs37 _ _ _ _ _ _ _ _ _ _ _ hM (lv_sub hl [1, 2, 3, 4, 5, 7, 0] rfl) he
      · rw [if_pos h19] at he
        refine lv_goto (tgt := 169) hx hb dX11_layLoad_62 (by decide) ?_
        exact w11_layLoad_b169 (F := F) E hml hret hlk hs37 _ _ _ _ _ _ _ _ _ _ hM (lv_sub hl [0, 1, 2, 3, 4, 5, 6] rfl) he

set_option maxHeartbeats 4000000 in
set_option maxRecDepth 100000 in
theorem w11_layLoad_b37 (E : g_C p s m args c cX11_layLoad RX11 D aC (g_Zs (g_A B 44))) (hml : c.maxLocals = 8) (hret : meth.sig.returnType = none) (hlk : meth.locks = false) {F : Nat} {q0 : g_M} {s12 : Int32 → g_M → Option (g_M)} (hs12 : ∀ (v1 : Int32) (mem : g_M) (H : Heap) (locs : List Loc) (ls : Array Slot), g_At D aC B yM 44 mem s.heap H locs → lv_has ls 8 [(0, .ref (B + 0)), (1, .int v1)] → s12 v1 mem = some q0 → W p l e (g_rm 2) s m args below meth c H locs 0 0 (g_MQ below D aC B yM 44 args s none q0) (F0 m 12 ls [])) : ∀ (v1 : Int32) (v2 : Int32) (v3 : Int32) (v4 : Int32) (v5 : Int32) (v6 : Int32) (mem : g_M) (H : Heap) (locs : List Loc) (ls : Array Slot), g_At D aC B yM 44 mem s.heap H locs → lv_has ls 8 [(0, .ref (B + 0)), (1, .int v1), (2, .int v2), (3, .int v3), (4, .int v4), (5, .int v5), (6, .int v6)] → f11_layLoad_b37 F s12 v1 v2 v3 v4 v5 v6 mem = some q0 → W p l e (g_rm 2) s m args below meth c H locs 0 0 (g_MQ below D aC B yM 44 args s none q0) (F0 m 37 ls []) := by
  have key : ∀ (nn : Nat) (x : Int32 × Int32 × Int32 × Int32 × Int32 × Int32 × g_M) (H : Heap) (locs : List Loc) (ls : Array Slot), g_At D aC B yM 44 x.2.2.2.2.2.2 s.heap H locs → lv_has ls 8 [(0, .ref (B + 0)), (1, .int x.1), (2, .int x.2.1), (3, .int x.2.2.1), (4, .int x.2.2.2.1), (5, .int x.2.2.2.2.1), (6, .int x.2.2.2.2.2.1)] → g_fix (fun sf x => f11_layLoad_b37_body F s12 (fun v1 v2 v3 v4 v5 v6 mem => sf (v1, v2, v3, v4, v5, v6, mem)) x.1 x.2.1 x.2.2.1 x.2.2.2.1 x.2.2.2.2.1 x.2.2.2.2.2.1 x.2.2.2.2.2.2) nn x = some q0 → W p l e (g_rm 2) s m args below meth c H locs 0 0 (g_MQ below D aC B yM 44 args s none q0) (F0 m 37 ls []) := by
    intro nn
    induction nn with
    | zero => intro x H locs ls hM hl he; simp [g_fix] at he
    | succ nn ih =>
      intro x H locs ls hM hl he
      exact w11_layLoad_b37_body (F := F) E hml hret hlk hs12 (fun v1 v2 v3 v4 v5 v6 mem H locs ls hM hl he => ih (v1, v2, v3, v4, v5, v6, mem) H locs ls hM hl he) x.1 x.2.1 x.2.2.1 x.2.2.2.1 x.2.2.2.2.1 x.2.2.2.2.2.1 x.2.2.2.2.2.2 H locs ls hM hl he
  intro v1 v2 v3 v4 v5 v6 mem H locs ls hM hl he
  exact key F (v1, v2, v3, v4, v5, v6, mem) H locs ls hM hl he

set_option maxHeartbeats 4000000 in
set_option maxRecDepth 100000 in
theorem w11_layLoad_b12_body (E : g_C p s m args c cX11_layLoad RX11 D aC (g_Zs (g_A B 44))) (hml : c.maxLocals = 8) (hret : meth.sig.returnType = none) (hlk : meth.locks = false) {F : Nat} {q0 : g_M} {s12 : Int32 → g_M → Option (g_M)} (hs12 : ∀ (v1 : Int32) (mem : g_M) (H : Heap) (locs : List Loc) (ls : Array Slot), g_At D aC B yM 44 mem s.heap H locs → lv_has ls 8 [(0, .ref (B + 0)), (1, .int v1)] → s12 v1 mem = some q0 → W p l e (g_rm 2) s m args below meth c H locs 0 0 (g_MQ below D aC B yM 44 args s none q0) (F0 m 12 ls [])) : ∀ (v1 : Int32) (mem : g_M) (H : Heap) (locs : List Loc) (ls : Array Slot), g_At D aC B yM 44 mem s.heap H locs → lv_has ls 8 [(0, .ref (B + 0)), (1, .int v1)] → f11_layLoad_b12_body F s12 v1 mem = some q0 → W p l e (g_rm 2) s m args below meth c H locs 0 0 (g_MQ below D aC B yM 44 args s none q0) (F0 m 12 ls []) := by
  intro v1 mem H locs ls hM hl he
  unfold f11_layLoad_b12_body at he
  have hx := E.1
  have hb := E.2.1
  have hown := E.2.2.1
  have hts := E.2.2.2.1
  refine lv_iload_n hx hb dX11_layLoad_12 rfl (lv_at hl 1 rfl) ?_
  refine lv_iconst (v := (1 : Int32)) hx hb dX11_layLoad_13 rfl ?_
  refine lv_aload_n hx hb dX11_layLoad_14 rfl (lv_at hl 0 rfl) ?_
  refine g_getP E hM (o := 0) (Nat.le_of_ble_eq_true rfl) rfl fl_X11_93 (q := 27) rfl dX11_layLoad_15 ?_
  refine lv_iconst (v := (0 : Int32)) hx hb dX11_layLoad_18 rfl ?_
  obtain ⟨h30, he⟩ := g_ck_some he
  refine g_iald E hM (o := 27) (Nat.le_of_ble_eq_true rfl) rfl h30 dX11_layLoad_19 ?_
  refine lv_ishl hx hb dX11_layLoad_20 ?_
  refine lv_icmp_ge (tgt := 219) hx hb dX11_layLoad_21 (by decide) (fun h31 => ?_) (fun h31 => ?_)
  · rw [if_neg (Int32.not_lt.mpr h31)] at he
    cases he
    exact g_vret E hM hret hlk dX11_layLoad_219
  · rw [if_pos (Int32.not_le.mp h31)] at he
    refine lv_iconst (v := (0 : Int32)) hx hb dX11_layLoad_24 rfl ?_
    refine lv_istore_n (lv' := [(2, .int (0 : Int32)), (0, .ref (B + 0)), (1, .int v1)]) hx hb dX11_layLoad_25 rfl hl (by decide) rfl (fun ls hl => ?_)
    refine lv_iconst (v := (0 : Int32)) hx hb dX11_layLoad_26 rfl ?_
    refine lv_istore_n (lv' := [(3, .int (0 : Int32)), (2, .int (0 : Int32)), (0, .ref (B + 0)), (1, .int v1)]) hx hb dX11_layLoad_27 rfl hl (by decide) rfl (fun ls hl => ?_)
    refine lv_iconst (v := (0 : Int32)) hx hb dX11_layLoad_28 rfl ?_
    refine lv_istore (lv' := [(4, .int (0 : Int32)), (3, .int (0 : Int32)), (2, .int (0 : Int32)), (0, .ref (B + 0)), (1, .int v1)]) hx hb dX11_layLoad_29 hl (by decide) rfl (fun ls hl => ?_)
    refine lv_iconst (v := (1 : Int32)) hx hb dX11_layLoad_31 rfl ?_
    refine lv_istore (lv' := [(5, .int (1 : Int32)), (4, .int (0 : Int32)), (3, .int (0 : Int32)), (2, .int (0 : Int32)), (0, .ref (B + 0)), (1, .int v1)]) hx hb dX11_layLoad_32 hl (by decide) rfl (fun ls hl => ?_)
    refine lv_iconst (v := (0 : Int32)) hx hb dX11_layLoad_34 rfl ?_
    refine lv_istore (lv' := [(6, .int (0 : Int32)), (5, .int (1 : Int32)), (4, .int (0 : Int32)), (3, .int (0 : Int32)), (2, .int (0 : Int32)), (0, .ref (B + 0)), (1, .int v1)]) hx hb dX11_layLoad_35 hl (by decide) rfl (fun ls hl => ?_)
    exact w11_layLoad_b37 (F := F) E hml hret hlk hs12 _ _ _ _ _ _ _ _ _ _ hM (lv_sub hl [5, 6, 4, 3, 2, 1, 0] rfl) he

set_option maxHeartbeats 4000000 in
set_option maxRecDepth 100000 in
theorem w11_layLoad_b12 (E : g_C p s m args c cX11_layLoad RX11 D aC (g_Zs (g_A B 44))) (hml : c.maxLocals = 8) (hret : meth.sig.returnType = none) (hlk : meth.locks = false) {F : Nat} {q0 : g_M} : ∀ (v1 : Int32) (mem : g_M) (H : Heap) (locs : List Loc) (ls : Array Slot), g_At D aC B yM 44 mem s.heap H locs → lv_has ls 8 [(0, .ref (B + 0)), (1, .int v1)] → f11_layLoad_b12 F v1 mem = some q0 → W p l e (g_rm 2) s m args below meth c H locs 0 0 (g_MQ below D aC B yM 44 args s none q0) (F0 m 12 ls []) := by
  have key : ∀ (nn : Nat) (x : Int32 × g_M) (H : Heap) (locs : List Loc) (ls : Array Slot), g_At D aC B yM 44 x.2 s.heap H locs → lv_has ls 8 [(0, .ref (B + 0)), (1, .int x.1)] → g_fix (fun sf x => f11_layLoad_b12_body F (fun v1 mem => sf (v1, mem)) x.1 x.2) nn x = some q0 → W p l e (g_rm 2) s m args below meth c H locs 0 0 (g_MQ below D aC B yM 44 args s none q0) (F0 m 12 ls []) := by
    intro nn
    induction nn with
    | zero => intro x H locs ls hM hl he; simp [g_fix] at he
    | succ nn ih =>
      intro x H locs ls hM hl he
      exact w11_layLoad_b12_body (F := F) E hml hret hlk (fun v1 mem H locs ls hM hl he => ih (v1, mem) H locs ls hM hl he) x.1 x.2 H locs ls hM hl he
  intro v1 mem H locs ls hM hl he
  exact key F (v1, mem) H locs ls hM hl he

set_option maxHeartbeats 4000000 in
set_option maxRecDepth 100000 in
theorem c11_layLoad (l : Launch) (D : va_G) (aC : Nat → ClassId) (B : Nat) {F : Nat} {mem : g_M} {q0 : g_M} (he : f11_layLoad F mem = some q0) : g_Met l yX11_layLoad cX11_layLoad 8 none 2 D aC B yM 44 mem [.ref (B + 0)] none q0 := by
  refine g_ofW (by decide) (Nat.le_of_ble_eq_true rfl) ?_
  intro p e s m args below meth c ls E hml hret hlk hM hl
  have E : g_C p s m args c cX11_layLoad RX11 D aC (g_Zs (g_A B 44)) := E
  have hx := E.1
  have hb := E.2.1
  have hown := E.2.2.1
  have hts := E.2.2.2.1
  have hl : lv_has ls 8 [(0, .ref (B + 0))] := hl
  unfold f11_layLoad at he
  refine lv_aload_n hx hb dX11_layLoad_0 rfl (lv_at hl 0 rfl) ?_
  refine lv_iconst (v := (0 : Int32)) hx hb dX11_layLoad_1 rfl ?_
  refine g_putI E hM (o := 0) (Nat.le_of_ble_eq_true rfl) rfl fp_X11_466 dX11_layLoad_2 (fun H locs hM => ?_)
  obtain ⟨m32, hm32, he⟩ := g_let_ex he
  rw [← hm32] at hM
  refine lv_aload_n hx hb dX11_layLoad_5 rfl (lv_at hl 0 rfl) ?_
  refine lv_iconst (v := (0 : Int32)) hx hb dX11_layLoad_6 rfl ?_
  refine g_putI E hM (o := 0) (Nat.le_of_ble_eq_true rfl) rfl fp_X11_469 dX11_layLoad_7 (fun H locs hM => ?_)
  obtain ⟨m33, hm33, he⟩ := g_let_ex he
  rw [← hm33] at hM
  refine lv_iconst (v := (0 : Int32)) hx hb dX11_layLoad_10 rfl ?_
  refine lv_istore_n (lv' := [(1, .int (0 : Int32)), (0, .ref (B + 0))]) hx hb dX11_layLoad_11 rfl hl (by decide) rfl (fun ls hl => ?_)
  exact w11_layLoad_b12 (F := F) E hml hret hlk _ _ _ _ _ hM (lv_sub hl [1, 0] rfl) he

set_option maxHeartbeats 4000000 in
set_option maxRecDepth 100000 in
theorem c11_load (l : Launch) (D : va_G) (aC : Nat → ClassId) (B : Nat) {F : Nat} {a1 : Int32} {mem : g_M} {q0 : Int32 × g_M} (he : f11_load F a1 mem = some q0) : g_Met l yX11_load cX11_load 2 (some .int) 3 D aC B yM 44 mem [.ref (B + 0), .int a1] (some (.int q0.1)) q0.2 := by
  refine g_ofW (by decide) (Nat.le_of_ble_eq_true rfl) ?_
  intro p e s m args below meth c ls E hml hret hlk hM hl
  have E : g_C p s m args c cX11_load RX11 D aC (g_Zs (g_A B 44)) := E
  have hx := E.1
  have hb := E.2.1
  have hown := E.2.2.1
  have hts := E.2.2.2.1
  have hl : lv_has ls 2 [(0, .ref (B + 0)), (1, .int a1)] := hl
  unfold f11_load at he
  refine lv_aload_n hx hb dX11_load_0 rfl (lv_at hl 0 rfl) ?_
  refine lv_iconst (v := (0 : Int32)) hx hb dX11_load_1 rfl ?_
  refine g_putI E hM (o := 0) (Nat.le_of_ble_eq_true rfl) rfl fp_X11_157 dX11_load_2 (fun H locs hM => ?_)
  obtain ⟨m1, hm1, he⟩ := g_let_ex he
  rw [← hm1] at hM
  refine lv_iload_n hx hb dX11_load_5 rfl (lv_at hl 1 rfl) ?_
  refine lv_if_lt (tgt := 14) hx hb dX11_load_6 (by decide) (fun h2 => ?_) (fun h2 => ?_)
  · rw [if_neg (Int32.not_le.mpr h2)] at he
    refine lv_iconst (v := (-1 : Int32)) hx hb dX11_load_14 rfl ?_
    cases he
    exact g_iret E hM hret hlk dX11_load_15
  · rw [if_pos (Int32.not_lt.mp h2)] at he
    refine lv_iload_n hx hb dX11_load_9 rfl (lv_at hl 1 rfl) ?_
    refine lv_iconst (v := (1 : Int32)) hx hb dX11_load_10 rfl ?_
    refine lv_icmp_le (tgt := 16) hx hb dX11_load_11 (by decide) (fun h3 => ?_) (fun h3 => ?_)
    · rw [if_neg (Int32.not_lt.mpr h3)] at he
      refine lv_aload_n hx hb dX11_load_16 rfl (lv_at hl 0 rfl) ?_
      obtain ⟨r4, hcr4, he⟩ := g_bind he
      refine g_callV [] (rest := []) E hml hl.1 hM cv_X11_472 (c11_layLoad l D aC B hcr4) (o := 0) (Nat.le_of_ble_eq_true rfl) rfl (by decide) rfl rfl (Nat.le_of_ble_eq_true rfl) dX11_load_17 (fun H locs hM => ?_)
      refine W.eq (g2 := F0 m 20 ls []) rfl ?_
      refine lv_iload_n hx hb dX11_load_20 rfl (lv_at hl 1 rfl) ?_
      refine lv_if_ne (tgt := 31) hx hb dX11_load_21 (by decide) (fun h5 => ?_) (fun h5 => ?_)
      · rw [if_neg h5] at he
        refine lv_aload_n hx hb dX11_load_31 rfl (lv_at hl 0 rfl) ?_
        refine g_getI E hM (o := 0) (Nat.le_of_ble_eq_true rfl) rfl fl_X11_469 dX11_load_32 ?_
        cases he
        exact g_iret E hM hret hlk dX11_load_35
      · rw [if_pos h5] at he
        refine lv_aload_n hx hb dX11_load_24 rfl (lv_at hl 0 rfl) ?_
        refine g_getI E hM (o := 0) (Nat.le_of_ble_eq_true rfl) rfl fl_X11_466 dX11_load_25 ?_
        refine lv_goto (tgt := 35) hx hb dX11_load_28 (by decide) ?_
        cases he
        exact g_iret E hM hret hlk dX11_load_35
    · rw [if_pos (Int32.not_le.mp h3)] at he
      refine lv_iconst (v := (-1 : Int32)) hx hb dX11_load_14 rfl ?_
      cases he
      exact g_iret E hM hret hlk dX11_load_15

def gR_ok (l : Launch) (D : va_G) (aC : Nat → ClassId) (B : Nat) (dd : Nat) (rc : Int32 → Int32 → g_M → Option g_M) : Prop := ∀ (a1 a2 : Int32) (mem q : g_M), rc a1 a2 mem = some q → g_Met l yX11_rows cX11_rows 5 none (9 + dd) D aC B yM 44 mem [.ref (B + 0), .int a1, .int a2] none q
set_option maxHeartbeats 4000000 in
set_option maxRecDepth 100000 in
theorem w11_rows_b54 (E : g_C p s m args c cX11_rows RX11 D aC (g_Zs (g_A B 44))) (hml : c.maxLocals = 5) (hret : meth.sig.returnType = none) (hlk : meth.locks = false) {F : Nat} {q0 : g_M} {dd : Nat} {rc : Int32 → Int32 → g_M → Option g_M} (hrc : gR_ok l D aC B dd rc) {a1 : Int32} {a2 : Int32} {s10 : Int32 → g_M → Option (g_M)} (hs10 : ∀ (v3 : Int32) (mem : g_M) (H : Heap) (locs : List Loc) (ls : Array Slot), g_At D aC B yM 44 mem s.heap H locs → lv_has ls 5 [(0, .ref (B + 0)), (1, .int a1), (2, .int a2), (3, .int v3)] → s10 v3 mem = some q0 → W p l e (g_rm (9 + (dd + 1))) s m args below meth c H locs 0 0 (g_MQ below D aC B yM 44 args s none q0) (F0 m 10 ls [])) : ∀ (v3 : Int32) (mem : g_M) (H : Heap) (locs : List Loc) (ls : Array Slot), g_At D aC B yM 44 mem s.heap H locs → lv_has ls 5 [(0, .ref (B + 0)), (1, .int a1), (2, .int a2), (3, .int v3)] → f11_rows_b54 F rc a1 a2 s10 v3 mem = some q0 → W p l e (g_rm (9 + (dd + 1))) s m args below meth c H locs 0 0 (g_MQ below D aC B yM 44 args s none q0) (F0 m 54 ls []) := by
  intro v3 mem H locs ls hM hl he
  unfold f11_rows_b54 at he
  have hx := E.1
  have hb := E.2.1
  have hown := E.2.2.1
  have hts := E.2.2.2.1
  obtain ⟨x1, hx1, he⟩ := g_let_ex he
  refine lv_iinc (v := x1) (lv' := [(3, .int x1), (0, .ref (B + 0)), (1, .int a1), (2, .int a2)]) hx hb dX11_rows_54 hl (k := 3) rfl (by rw [hx1]; rfl) (by decide) rfl (fun ls hl => ?_)
  refine lv_goto (tgt := 10) hx hb dX11_rows_57 (by decide) ?_
  exact hs10 _ _ _ _ _ hM (lv_sub hl [1, 2, 3, 0] rfl) he

set_option maxHeartbeats 4000000 in
set_option maxRecDepth 100000 in
theorem w11_rows_b10_body (E : g_C p s m args c cX11_rows RX11 D aC (g_Zs (g_A B 44))) (hml : c.maxLocals = 5) (hret : meth.sig.returnType = none) (hlk : meth.locks = false) {F : Nat} {q0 : g_M} {dd : Nat} {rc : Int32 → Int32 → g_M → Option g_M} (hrc : gR_ok l D aC B dd rc) {a1 : Int32} {a2 : Int32} {s10 : Int32 → g_M → Option (g_M)} (hs10 : ∀ (v3 : Int32) (mem : g_M) (H : Heap) (locs : List Loc) (ls : Array Slot), g_At D aC B yM 44 mem s.heap H locs → lv_has ls 5 [(0, .ref (B + 0)), (1, .int a1), (2, .int a2), (3, .int v3)] → s10 v3 mem = some q0 → W p l e (g_rm (9 + (dd + 1))) s m args below meth c H locs 0 0 (g_MQ below D aC B yM 44 args s none q0) (F0 m 10 ls [])) : ∀ (v3 : Int32) (mem : g_M) (H : Heap) (locs : List Loc) (ls : Array Slot), g_At D aC B yM 44 mem s.heap H locs → lv_has ls 5 [(0, .ref (B + 0)), (1, .int a1), (2, .int a2), (3, .int v3)] → f11_rows_b10_body F rc a1 a2 s10 v3 mem = some q0 → W p l e (g_rm (9 + (dd + 1))) s m args below meth c H locs 0 0 (g_MQ below D aC B yM 44 args s none q0) (F0 m 10 ls []) := by
  intro v3 mem H locs ls hM hl he
  unfold f11_rows_b10_body at he
  have hx := E.1
  have hb := E.2.1
  have hown := E.2.2.1
  have hts := E.2.2.2.1
  refine lv_iload_n hx hb dX11_rows_10 rfl (lv_at hl 3 rfl) ?_
  refine lv_aload_n hx hb dX11_rows_11 rfl (lv_at hl 0 rfl) ?_
  refine g_getI E hM (o := 0) (Nat.le_of_ble_eq_true rfl) rfl fl_X11_475 dX11_rows_12 ?_
  refine lv_icmp_ge (tgt := 60) hx hb dX11_rows_15 (by decide) (fun h2 => ?_) (fun h2 => ?_)
  · rw [if_neg (Int32.not_lt.mpr h2)] at he
    cases he
    exact g_vret E hM hret hlk dX11_rows_60
  · rw [if_pos (Int32.not_le.mp h2)] at he
    refine lv_iload_n hx hb dX11_rows_18 rfl (lv_at hl 2 rfl) ?_
    refine lv_iload_n hx hb dX11_rows_19 rfl (lv_at hl 3 rfl) ?_
    refine lv_ishr hx hb dX11_rows_20 ?_
    refine lv_iconst (v := (1 : Int32)) hx hb dX11_rows_21 rfl ?_
    refine lv_iand hx hb dX11_rows_22 ?_
    refine lv_iconst (v := (1 : Int32)) hx hb dX11_rows_23 rfl ?_
    refine lv_icmp_ne (tgt := 30) hx hb dX11_rows_24 (by decide) (fun h3 => ?_) (fun h3 => ?_)
    · rw [if_neg h3] at he
      refine lv_aload_n hx hb dX11_rows_30 rfl (lv_at hl 0 rfl) ?_
      refine g_getP E hM (o := 0) (Nat.le_of_ble_eq_true rfl) rfl fl_X11_129 (q := 37) rfl dX11_rows_31 ?_
      refine lv_iload_n hx hb dX11_rows_34 rfl (lv_at hl 1 rfl) ?_
      refine lv_aload_n hx hb dX11_rows_35 rfl (lv_at hl 0 rfl) ?_
      refine g_getP E hM (o := 0) (Nat.le_of_ble_eq_true rfl) rfl fl_X11_126 (q := 36) rfl dX11_rows_36 ?_
      refine lv_iload_n hx hb dX11_rows_39 rfl (lv_at hl 3 rfl) ?_
      obtain ⟨h4, he⟩ := g_ck_some he
      refine g_iald E hM (o := 36) (Nat.le_of_ble_eq_true rfl) rfl h4 dX11_rows_40 ?_
      obtain ⟨h5, he⟩ := g_ck_some he
      refine g_iast E hM (o := 37) (Nat.le_of_ble_eq_true rfl) rfl h5 dX11_rows_41 (fun H locs hM => ?_)
      obtain ⟨m6, hm6, he⟩ := g_let_ex he
      rw [← hm6] at hM
      refine lv_aload_n hx hb dX11_rows_42 rfl (lv_at hl 0 rfl) ?_
      refine lv_iload_n hx hb dX11_rows_43 rfl (lv_at hl 1 rfl) ?_
      refine lv_iconst (v := (1 : Int32)) hx hb dX11_rows_44 rfl ?_
      refine lv_iadd hx hb dX11_rows_45 ?_
      refine lv_iload_n hx hb dX11_rows_46 rfl (lv_at hl 2 rfl) ?_
      refine lv_iconst (v := (1 : Int32)) hx hb dX11_rows_47 rfl ?_
      refine lv_iload_n hx hb dX11_rows_48 rfl (lv_at hl 3 rfl) ?_
      refine lv_ishl hx hb dX11_rows_49 ?_
      refine lv_ior hx hb dX11_rows_50 ?_
      obtain ⟨r7, hcr7, he⟩ := g_bind he
      refine g_callV [.int (a1 + (1 : Int32)), .int (a2 ||| ((1 : Int32) <<< (v3 &&& 31)))] (rest := []) E hml hl.1 hM cv_X11_478 (hrc _ _ _ _ hcr7) (o := 0) (Nat.le_of_ble_eq_true rfl) rfl (by omega) rfl rfl (Nat.le_of_ble_eq_true rfl) dX11_rows_51 (fun H locs hM => ?_)
      refine W.eq (g2 := F0 m 54 ls []) rfl ?_
      exact w11_rows_b54 (F := F) (a1 := a1) (a2 := a2) E hml hret hlk hrc hs10 _ _ _ _ _ hM (lv_sub hl [0, 1, 2, 3] rfl) he
    · rw [if_pos h3] at he
      refine lv_goto (tgt := 54) hx hb dX11_rows_27 (by decide) ?_
      exact w11_rows_b54 (F := F) (a1 := a1) (a2 := a2) E hml hret hlk hrc hs10 _ _ _ _ _ hM (lv_sub hl [0, 1, 2, 3] rfl) he

set_option maxHeartbeats 4000000 in
set_option maxRecDepth 100000 in
theorem w11_rows_b10 (E : g_C p s m args c cX11_rows RX11 D aC (g_Zs (g_A B 44))) (hml : c.maxLocals = 5) (hret : meth.sig.returnType = none) (hlk : meth.locks = false) {F : Nat} {q0 : g_M} {dd : Nat} {rc : Int32 → Int32 → g_M → Option g_M} (hrc : gR_ok l D aC B dd rc) {a1 : Int32} {a2 : Int32} : ∀ (v3 : Int32) (mem : g_M) (H : Heap) (locs : List Loc) (ls : Array Slot), g_At D aC B yM 44 mem s.heap H locs → lv_has ls 5 [(0, .ref (B + 0)), (1, .int a1), (2, .int a2), (3, .int v3)] → f11_rows_b10 F rc a1 a2 v3 mem = some q0 → W p l e (g_rm (9 + (dd + 1))) s m args below meth c H locs 0 0 (g_MQ below D aC B yM 44 args s none q0) (F0 m 10 ls []) := by
  have key : ∀ (nn : Nat) (x : Int32 × g_M) (H : Heap) (locs : List Loc) (ls : Array Slot), g_At D aC B yM 44 x.2 s.heap H locs → lv_has ls 5 [(0, .ref (B + 0)), (1, .int a1), (2, .int a2), (3, .int x.1)] → g_fix (fun sf x => f11_rows_b10_body F rc a1 a2 (fun v3 mem => sf (v3, mem)) x.1 x.2) nn x = some q0 → W p l e (g_rm (9 + (dd + 1))) s m args below meth c H locs 0 0 (g_MQ below D aC B yM 44 args s none q0) (F0 m 10 ls []) := by
    intro nn
    induction nn with
    | zero => intro x H locs ls hM hl he; simp [g_fix] at he
    | succ nn ih =>
      intro x H locs ls hM hl he
      exact w11_rows_b10_body (F := F) (a1 := a1) (a2 := a2) E hml hret hlk hrc (fun v3 mem H locs ls hM hl he => ih (v3, mem) H locs ls hM hl he) x.1 x.2 H locs ls hM hl he
  intro v3 mem H locs ls hM hl he
  exact key F (v3, mem) H locs ls hM hl he

set_option maxHeartbeats 4000000 in
set_option maxRecDepth 100000 in
theorem w11_rows_b154_body (E : g_C p s m args c cX11_rows RX11 D aC (g_Zs (g_A B 44))) (hml : c.maxLocals = 5) (hret : meth.sig.returnType = none) (hlk : meth.locks = false) {F : Nat} {q0 : g_M} {dd : Nat} {rc : Int32 → Int32 → g_M → Option g_M} (hrc : gR_ok l D aC B dd rc) {a1 : Int32} {a2 : Int32} {s154 : Int32 → g_M → Option (g_M)} (hs154 : ∀ (v4 : Int32) (mem : g_M) (H : Heap) (locs : List Loc) (ls : Array Slot), g_At D aC B yM 44 mem s.heap H locs → lv_has ls 5 [(0, .ref (B + 0)), (4, .int v4)] → s154 v4 mem = some q0 → W p l e (g_rm (9 + (dd + 1))) s m args below meth c H locs 0 0 (g_MQ below D aC B yM 44 args s none q0) (F0 m 154 ls [])) : ∀ (v4 : Int32) (mem : g_M) (H : Heap) (locs : List Loc) (ls : Array Slot), g_At D aC B yM 44 mem s.heap H locs → lv_has ls 5 [(0, .ref (B + 0)), (4, .int v4)] → f11_rows_b154_body F rc a1 a2 s154 v4 mem = some q0 → W p l e (g_rm (9 + (dd + 1))) s m args below meth c H locs 0 0 (g_MQ below D aC B yM 44 args s none q0) (F0 m 154 ls []) := by
  intro v4 mem H locs ls hM hl he
  unfold f11_rows_b154_body at he
  have hx := E.1
  have hb := E.2.1
  have hown := E.2.2.1
  have hts := E.2.2.2.1
  refine lv_iload hx hb dX11_rows_154 (lv_at hl 1 rfl) ?_
  refine lv_aload_n hx hb dX11_rows_156 rfl (lv_at hl 0 rfl) ?_
  refine g_getI E hM (o := 0) (Nat.le_of_ble_eq_true rfl) rfl fl_X11_475 dX11_rows_157 ?_
  refine lv_icmp_ge (tgt := 183) hx hb dX11_rows_160 (by decide) (fun h8 => ?_) (fun h8 => ?_)
  · rw [if_neg (Int32.not_lt.mpr h8)] at he
    cases he
    exact g_vret E hM hret hlk dX11_rows_183
  · rw [if_pos (Int32.not_le.mp h8)] at he
    refine lv_aload_n hx hb dX11_rows_163 rfl (lv_at hl 0 rfl) ?_
    refine g_getP E hM (o := 0) (Nat.le_of_ble_eq_true rfl) rfl fl_X11_132 (q := 38) rfl dX11_rows_164 ?_
    refine lv_iload hx hb dX11_rows_167 (lv_at hl 1 rfl) ?_
    refine lv_aload_n hx hb dX11_rows_169 rfl (lv_at hl 0 rfl) ?_
    refine g_getP E hM (o := 0) (Nat.le_of_ble_eq_true rfl) rfl fl_X11_129 (q := 37) rfl dX11_rows_170 ?_
    refine lv_iload hx hb dX11_rows_173 (lv_at hl 1 rfl) ?_
    obtain ⟨h9, he⟩ := g_ck_some he
    refine g_iald E hM (o := 37) (Nat.le_of_ble_eq_true rfl) rfl h9 dX11_rows_175 ?_
    obtain ⟨h10, he⟩ := g_ck_some he
    refine g_iast E hM (o := 38) (Nat.le_of_ble_eq_true rfl) rfl h10 dX11_rows_176 (fun H locs hM => ?_)
    obtain ⟨m11, hm11, he⟩ := g_let_ex he
    rw [← hm11] at hM
    obtain ⟨x12, hx12, he⟩ := g_let_ex he
    refine lv_iinc (v := x12) (lv' := [(4, .int x12), (0, .ref (B + 0))]) hx hb dX11_rows_177 hl (k := 1) rfl (by rw [hx12]; rfl) (by decide) rfl (fun ls hl => ?_)
    refine lv_goto (tgt := 154) hx hb dX11_rows_180 (by decide) ?_
    exact hs154 _ _ _ _ _ hM (lv_sub hl [1, 0] rfl) he

set_option maxHeartbeats 4000000 in
set_option maxRecDepth 100000 in
theorem w11_rows_b154 (E : g_C p s m args c cX11_rows RX11 D aC (g_Zs (g_A B 44))) (hml : c.maxLocals = 5) (hret : meth.sig.returnType = none) (hlk : meth.locks = false) {F : Nat} {q0 : g_M} {dd : Nat} {rc : Int32 → Int32 → g_M → Option g_M} (hrc : gR_ok l D aC B dd rc) {a1 : Int32} {a2 : Int32} : ∀ (v4 : Int32) (mem : g_M) (H : Heap) (locs : List Loc) (ls : Array Slot), g_At D aC B yM 44 mem s.heap H locs → lv_has ls 5 [(0, .ref (B + 0)), (4, .int v4)] → f11_rows_b154 F rc a1 a2 v4 mem = some q0 → W p l e (g_rm (9 + (dd + 1))) s m args below meth c H locs 0 0 (g_MQ below D aC B yM 44 args s none q0) (F0 m 154 ls []) := by
  have key : ∀ (nn : Nat) (x : Int32 × g_M) (H : Heap) (locs : List Loc) (ls : Array Slot), g_At D aC B yM 44 x.2 s.heap H locs → lv_has ls 5 [(0, .ref (B + 0)), (4, .int x.1)] → g_fix (fun sf x => f11_rows_b154_body F rc a1 a2 (fun v4 mem => sf (v4, mem)) x.1 x.2) nn x = some q0 → W p l e (g_rm (9 + (dd + 1))) s m args below meth c H locs 0 0 (g_MQ below D aC B yM 44 args s none q0) (F0 m 154 ls []) := by
    intro nn
    induction nn with
    | zero => intro x H locs ls hM hl he; simp [g_fix] at he
    | succ nn ih =>
      intro x H locs ls hM hl he
      exact w11_rows_b154_body (F := F) (a1 := a1) (a2 := a2) E hml hret hlk hrc (fun v4 mem H locs ls hM hl he => ih (v4, mem) H locs ls hM hl he) x.1 x.2 H locs ls hM hl he
  intro v4 mem H locs ls hM hl he
  exact key F (v4, mem) H locs ls hM hl he

set_option maxHeartbeats 4000000 in
set_option maxRecDepth 100000 in
theorem w11_rows_b141 (E : g_C p s m args c cX11_rows RX11 D aC (g_Zs (g_A B 44))) (hml : c.maxLocals = 5) (hret : meth.sig.returnType = none) (hlk : meth.locks = false) {F : Nat} {q0 : g_M} {dd : Nat} {rc : Int32 → Int32 → g_M → Option g_M} (hrc : gR_ok l D aC B dd rc) {a1 : Int32} {a2 : Int32} : ∀ (v3 : Int32) (mem : g_M) (H : Heap) (locs : List Loc) (ls : Array Slot), g_At D aC B yM 44 mem s.heap H locs → lv_has ls 5 [(0, .ref (B + 0)), (3, .int v3)] → f11_rows_b141 F rc a1 a2 v3 mem = some q0 → W p l e (g_rm (9 + (dd + 1))) s m args below meth c H locs 0 0 (g_MQ below D aC B yM 44 args s none q0) (F0 m 141 ls []) := by
  intro v3 mem H locs ls hM hl he
  unfold f11_rows_b141 at he
  have hx := E.1
  have hb := E.2.1
  have hown := E.2.2.1
  have hts := E.2.2.2.1
  refine lv_aload_n hx hb dX11_rows_141 rfl (lv_at hl 0 rfl) ?_
  refine lv_iconst (v := (1 : Int32)) hx hb dX11_rows_142 rfl ?_
  refine g_putZ E hM (o := 0) (Nat.le_of_ble_eq_true rfl) rfl fp_X11_484 (Or.inr rfl) dX11_rows_143 (fun H locs hM => ?_)
  obtain ⟨m13, hm13, he⟩ := g_let_ex he
  rw [← hm13] at hM
  refine lv_aload_n hx hb dX11_rows_146 rfl (lv_at hl 0 rfl) ?_
  refine lv_iload_n hx hb dX11_rows_147 rfl (lv_at hl 1 rfl) ?_
  refine g_putI E hM (o := 0) (Nat.le_of_ble_eq_true rfl) rfl fp_X11_487 dX11_rows_148 (fun H locs hM => ?_)
  obtain ⟨m14, hm14, he⟩ := g_let_ex he
  rw [← hm14] at hM
  refine lv_iconst (v := (0 : Int32)) hx hb dX11_rows_151 rfl ?_
  refine lv_istore (lv' := [(4, .int (0 : Int32)), (0, .ref (B + 0)), (3, .int v3)]) hx hb dX11_rows_152 hl (by decide) rfl (fun ls hl => ?_)
  exact w11_rows_b154 (F := F) (a1 := a1) (a2 := a2) E hml hret hlk hrc _ _ _ _ _ hM (lv_sub hl [1, 0] rfl) he

set_option maxHeartbeats 4000000 in
set_option maxRecDepth 100000 in
theorem w11_rows_b69_body (E : g_C p s m args c cX11_rows RX11 D aC (g_Zs (g_A B 44))) (hml : c.maxLocals = 5) (hret : meth.sig.returnType = none) (hlk : meth.locks = false) {F : Nat} {q0 : g_M} {dd : Nat} {rc : Int32 → Int32 → g_M → Option g_M} (hrc : gR_ok l D aC B dd rc) {a1 : Int32} {a2 : Int32} {s69 : Int32 → g_M → Option (g_M)} (hs69 : ∀ (v3 : Int32) (mem : g_M) (H : Heap) (locs : List Loc) (ls : Array Slot), g_At D aC B yM 44 mem s.heap H locs → lv_has ls 5 [(0, .ref (B + 0)), (3, .int v3)] → s69 v3 mem = some q0 → W p l e (g_rm (9 + (dd + 1))) s m args below meth c H locs 0 0 (g_MQ below D aC B yM 44 args s none q0) (F0 m 69 ls [])) : ∀ (v3 : Int32) (mem : g_M) (H : Heap) (locs : List Loc) (ls : Array Slot), g_At D aC B yM 44 mem s.heap H locs → lv_has ls 5 [(0, .ref (B + 0)), (3, .int v3)] → f11_rows_b69_body F rc a1 a2 s69 v3 mem = some q0 → W p l e (g_rm (9 + (dd + 1))) s m args below meth c H locs 0 0 (g_MQ below D aC B yM 44 args s none q0) (F0 m 69 ls []) := by
  intro v3 mem H locs ls hM hl he
  unfold f11_rows_b69_body at he
  have hx := E.1
  have hb := E.2.1
  have hown := E.2.2.1
  have hts := E.2.2.2.1
  refine lv_iload_n hx hb dX11_rows_69 rfl (lv_at hl 1 rfl) ?_
  refine lv_aload_n hx hb dX11_rows_70 rfl (lv_at hl 0 rfl) ?_
  refine g_getI E hM (o := 0) (Nat.le_of_ble_eq_true rfl) rfl fl_X11_475 dX11_rows_71 ?_
  refine lv_icmp_ge (tgt := 107) hx hb dX11_rows_74 (by decide) (fun h15 => ?_) (fun h15 => ?_)
  · rw [if_neg (Int32.not_lt.mpr h15)] at he
    refine lv_aload_n hx hb dX11_rows_107 rfl (lv_at hl 0 rfl) ?_
    refine lv_bipush (v := (20 : Int32)) hx hb dX11_rows_108 rfl ?_
    obtain ⟨r21, hcr21, he⟩ := g_bind he
    refine g_callV [.int (20 : Int32)] (rest := []) E hml hl.1 hM cv_X11_423 (c11_goesOn l D aC B hcr21) (o := 0) (Nat.le_of_ble_eq_true rfl) rfl (by omega) rfl rfl (Nat.le_of_ble_eq_true rfl) dX11_rows_110 (fun H locs hM => ?_)
    refine W.eq (g2 := F0 m 113 ls []) rfl ?_
    refine lv_aload_n hx hb dX11_rows_113 rfl (lv_at hl 0 rfl) ?_
    refine lv_iconst (v := (1 : Int32)) hx hb dX11_rows_114 rfl ?_
    obtain ⟨r22, hcr22, he⟩ := g_bind he
    refine g_callV [.int (1 : Int32)] (rest := []) E hml hl.1 hM cv_X11_481 (c11_penceAll l D aC B hcr22) (o := 0) (Nat.le_of_ble_eq_true rfl) rfl (by omega) rfl rfl (Nat.le_of_ble_eq_true rfl) dX11_rows_115 (fun H locs hM => ?_)
    refine W.eq (g2 := F0 m 118 ls [.int r22]) rfl ?_
    refine lv_aload_n hx hb dX11_rows_118 rfl (lv_at hl 0 rfl) ?_
    refine lv_iconst (v := (0 : Int32)) hx hb dX11_rows_119 rfl ?_
    obtain ⟨r23, hcr23, he⟩ := g_bind he
    refine g_callV [.int (0 : Int32)] (rest := [.int r22]) E hml hl.1 hM cv_X11_481 (c11_penceAll l D aC B hcr23) (o := 0) (Nat.le_of_ble_eq_true rfl) rfl (by omega) rfl rfl (Nat.le_of_ble_eq_true rfl) dX11_rows_120 (fun H locs hM => ?_)
    refine W.eq (g2 := F0 m 123 ls [.int r23, .int r22]) rfl ?_
    refine lv_isub hx hb dX11_rows_123 ?_
    obtain ⟨x24, hx24, he⟩ := g_let_ex he
    refine g_topI hx24 ?_
    refine lv_istore_n (lv' := [(3, .int x24), (0, .ref (B + 0))]) hx hb dX11_rows_124 rfl hl (by decide) rfl (fun ls hl => ?_)
    refine lv_aload_n hx hb dX11_rows_125 rfl (lv_at hl 1 rfl) ?_
    refine g_getI E hM (o := 0) (Nat.le_of_ble_eq_true rfl) rfl fl_X11_484 dX11_rows_126 ?_
    refine lv_if_eq (tgt := 141) hx hb dX11_rows_129 (by decide) (fun h25 => ?_) (fun h25 => ?_)
    · rw [if_pos h25] at he
      exact w11_rows_b141 (F := F) (a1 := a1) (a2 := a2) E hml hret hlk hrc _ _ _ _ _ hM (lv_sub hl [1, 0] rfl) he
    · rw [if_neg h25] at he
      refine lv_iload_n hx hb dX11_rows_132 rfl (lv_at hl 0 rfl) ?_
      refine lv_aload_n hx hb dX11_rows_133 rfl (lv_at hl 1 rfl) ?_
      refine g_getI E hM (o := 0) (Nat.le_of_ble_eq_true rfl) rfl fl_X11_487 dX11_rows_134 ?_
      refine lv_icmp_gt (tgt := 141) hx hb dX11_rows_137 (by decide) (fun h26 => ?_) (fun h26 => ?_)
      · rw [if_neg (Int32.not_le.mpr h26)] at he
        exact w11_rows_b141 (F := F) (a1 := a1) (a2 := a2) E hml hret hlk hrc _ _ _ _ _ hM (lv_sub hl [1, 0] rfl) he
      · rw [if_pos (Int32.not_lt.mp h26)] at he
        cases he
        exact g_vret E hM hret hlk dX11_rows_140
  · rw [if_pos (Int32.not_le.mp h15)] at he
    refine lv_aload_n hx hb dX11_rows_77 rfl (lv_at hl 0 rfl) ?_
    refine g_getP E hM (o := 0) (Nat.le_of_ble_eq_true rfl) rfl fl_X11_114 (q := 34) rfl dX11_rows_78 ?_
    refine lv_bipush (v := (12 : Int32)) hx hb dX11_rows_81 rfl ?_
    refine lv_aload_n hx hb dX11_rows_83 rfl (lv_at hl 0 rfl) ?_
    refine g_getP E hM (o := 0) (Nat.le_of_ble_eq_true rfl) rfl fl_X11_129 (q := 37) rfl dX11_rows_84 ?_
    refine lv_iload_n hx hb dX11_rows_87 rfl (lv_at hl 1 rfl) ?_
    obtain ⟨h16, he⟩ := g_ck_some he
    refine g_iald E hM (o := 37) (Nat.le_of_ble_eq_true rfl) rfl h16 dX11_rows_88 ?_
    refine lv_iadd hx hb dX11_rows_89 ?_
    refine lv_aload_n hx hb dX11_rows_90 rfl (lv_at hl 0 rfl) ?_
    refine g_getP E hM (o := 0) (Nat.le_of_ble_eq_true rfl) rfl fl_X11_84 (q := 24) rfl dX11_rows_91 ?_
    refine lv_iconst (v := (0 : Int32)) hx hb dX11_rows_94 rfl ?_
    obtain ⟨h17, he⟩ := g_ck_some he
    refine g_iald E hM (o := 24) (Nat.le_of_ble_eq_true rfl) rfl h17 dX11_rows_95 ?_
    refine lv_iconst (v := (2 : Int32)) hx hb dX11_rows_96 rfl ?_
    refine lv_iload_n hx hb dX11_rows_97 rfl (lv_at hl 1 rfl) ?_
    refine lv_imul hx hb dX11_rows_98 ?_
    refine lv_iadd hx hb dX11_rows_99 ?_
    obtain ⟨h18, he⟩ := g_ck_some he
    refine g_iast E hM (o := 34) (Nat.le_of_ble_eq_true rfl) rfl h18 dX11_rows_100 (fun H locs hM => ?_)
    obtain ⟨m19, hm19, he⟩ := g_let_ex he
    rw [← hm19] at hM
    obtain ⟨x20, hx20, he⟩ := g_let_ex he
    refine lv_iinc (v := x20) (lv' := [(3, .int x20), (0, .ref (B + 0))]) hx hb dX11_rows_101 hl (k := 1) rfl (by rw [hx20]; rfl) (by decide) rfl (fun ls hl => ?_)
    refine lv_goto (tgt := 69) hx hb dX11_rows_104 (by decide) ?_
    exact hs69 _ _ _ _ _ hM (lv_sub hl [1, 0] rfl) he

set_option maxHeartbeats 4000000 in
set_option maxRecDepth 100000 in
theorem w11_rows_b69 (E : g_C p s m args c cX11_rows RX11 D aC (g_Zs (g_A B 44))) (hml : c.maxLocals = 5) (hret : meth.sig.returnType = none) (hlk : meth.locks = false) {F : Nat} {q0 : g_M} {dd : Nat} {rc : Int32 → Int32 → g_M → Option g_M} (hrc : gR_ok l D aC B dd rc) {a1 : Int32} {a2 : Int32} : ∀ (v3 : Int32) (mem : g_M) (H : Heap) (locs : List Loc) (ls : Array Slot), g_At D aC B yM 44 mem s.heap H locs → lv_has ls 5 [(0, .ref (B + 0)), (3, .int v3)] → f11_rows_b69 F rc a1 a2 v3 mem = some q0 → W p l e (g_rm (9 + (dd + 1))) s m args below meth c H locs 0 0 (g_MQ below D aC B yM 44 args s none q0) (F0 m 69 ls []) := by
  have key : ∀ (nn : Nat) (x : Int32 × g_M) (H : Heap) (locs : List Loc) (ls : Array Slot), g_At D aC B yM 44 x.2 s.heap H locs → lv_has ls 5 [(0, .ref (B + 0)), (3, .int x.1)] → g_fix (fun sf x => f11_rows_b69_body F rc a1 a2 (fun v3 mem => sf (v3, mem)) x.1 x.2) nn x = some q0 → W p l e (g_rm (9 + (dd + 1))) s m args below meth c H locs 0 0 (g_MQ below D aC B yM 44 args s none q0) (F0 m 69 ls []) := by
    intro nn
    induction nn with
    | zero => intro x H locs ls hM hl he; simp [g_fix] at he
    | succ nn ih =>
      intro x H locs ls hM hl he
      exact w11_rows_b69_body (F := F) (a1 := a1) (a2 := a2) E hml hret hlk hrc (fun v3 mem H locs ls hM hl he => ih (v3, mem) H locs ls hM hl he) x.1 x.2 H locs ls hM hl he
  intro v3 mem H locs ls hM hl he
  exact key F (v3, mem) H locs ls hM hl he

set_option maxHeartbeats 4000000 in
set_option maxRecDepth 100000 in
theorem c11_rows (l : Launch) (D : va_G) (aC : Nat → ClassId) (B : Nat) {F : Nat} {dd : Nat} {rc : Int32 → Int32 → g_M → Option g_M} (hrc : gR_ok l D aC B dd rc) {a1 : Int32} {a2 : Int32} {mem : g_M} {q0 : g_M} (he : f11_rows F rc a1 a2 mem = some q0) : g_Met l yX11_rows cX11_rows 5 none (9 + (dd + 1)) D aC B yM 44 mem [.ref (B + 0), .int a1, .int a2] none q0 := by
  refine g_ofW (by decide) (Nat.le_of_ble_eq_true rfl) ?_
  intro p e s m args below meth c ls E hml hret hlk hM hl
  have E : g_C p s m args c cX11_rows RX11 D aC (g_Zs (g_A B 44)) := E
  have hx := E.1
  have hb := E.2.1
  have hown := E.2.2.1
  have hts := E.2.2.2.1
  have hl : lv_has ls 5 [(0, .ref (B + 0)), (1, .int a1), (2, .int a2)] := hl
  unfold f11_rows at he
  refine lv_iload_n hx hb dX11_rows_0 rfl (lv_at hl 1 rfl) ?_
  refine lv_aload_n hx hb dX11_rows_1 rfl (lv_at hl 0 rfl) ?_
  refine g_getI E hM (o := 0) (Nat.le_of_ble_eq_true rfl) rfl fl_X11_475 dX11_rows_2 ?_
  refine lv_icmp_ge (tgt := 61) hx hb dX11_rows_5 (by decide) (fun h27 => ?_) (fun h27 => ?_)
  · rw [if_neg (Int32.not_lt.mpr h27)] at he
    refine lv_aload_n hx hb dX11_rows_61 rfl (lv_at hl 0 rfl) ?_
    refine lv_iconst (v := (1 : Int32)) hx hb dX11_rows_62 rfl ?_
    refine lv_iconst (v := (0 : Int32)) hx hb dX11_rows_63 rfl ?_
    obtain ⟨r28, hcr28, he⟩ := g_bind he
    refine g_callV [.int (1 : Int32), .int (0 : Int32)] (rest := []) E hml hl.1 hM cv_X11_420 (c11_copies l D aC B hcr28) (o := 0) (Nat.le_of_ble_eq_true rfl) rfl (by omega) rfl rfl (Nat.le_of_ble_eq_true rfl) dX11_rows_64 (fun H locs hM => ?_)
    refine W.eq (g2 := F0 m 67 ls []) rfl ?_
    refine lv_iconst (v := (0 : Int32)) hx hb dX11_rows_67 rfl ?_
    refine lv_istore_n (lv' := [(3, .int (0 : Int32)), (0, .ref (B + 0)), (1, .int a1), (2, .int a2)]) hx hb dX11_rows_68 rfl hl (by decide) rfl (fun ls hl => ?_)
    exact w11_rows_b69 (F := F) (a1 := a1) (a2 := a2) E hml hret hlk hrc _ _ _ _ _ hM (lv_sub hl [1, 0] rfl) he
  · rw [if_pos (Int32.not_le.mp h27)] at he
    refine lv_iconst (v := (0 : Int32)) hx hb dX11_rows_8 rfl ?_
    refine lv_istore_n (lv' := [(3, .int (0 : Int32)), (0, .ref (B + 0)), (1, .int a1), (2, .int a2)]) hx hb dX11_rows_9 rfl hl (by decide) rfl (fun ls hl => ?_)
    exact w11_rows_b10 (F := F) (a1 := a1) (a2 := a2) E hml hret hlk hrc _ _ _ _ _ hM (lv_sub hl [1, 2, 3, 0] rfl) he

theorem gR_all (l : Launch) (D : va_G) (aC : Nat → ClassId) (B : Nat) (F : Nat) : ∀ d, gR_ok l D aC B d (fgR F d) := by
  intro d
  induction d with
  | zero => intro a1 a2 mem q h; simp [fgR] at h
  | succ d ih =>
    intro a1 a2 mem q h
    exact c11_rows l D aC B ih h
set_option maxHeartbeats 4000000 in
set_option maxRecDepth 100000 in
theorem w11_order_b14 (E : g_C p s m args c cX11_order RX11 D aC (g_Zs (g_A B 44))) (hml : c.maxLocals = 3) (hret : meth.sig.returnType = (some .int)) (hlk : meth.locks = false) {F : Nat} {q0 : Int32 × g_M} {a1 : Int32} : ∀ (mem : g_M) (H : Heap) (locs : List Loc) (ls : Array Slot), g_At D aC B yM 44 mem s.heap H locs → lv_has ls 3 [] → f11_order_b14 F a1 mem = some q0 → W p l e (g_rm 18) s m args below meth c H locs 0 0 (g_MQ below D aC B yM 44 args s (some (.int q0.1)) q0.2) (F0 m 14 ls []) := by
  intro mem H locs ls hM hl he
  unfold f11_order_b14 at he
  have hx := E.1
  have hb := E.2.1
  have hown := E.2.2.1
  have hts := E.2.2.2.1
  refine lv_ldcw (v := (-2147483648 : Int32)) hx hb hown (hts _ kc_X11_490) dX11_order_14 ?_
  cases he
  exact g_iret E hM hret hlk dX11_order_17

set_option maxHeartbeats 4000000 in
set_option maxRecDepth 100000 in
theorem w11_order_b81 (E : g_C p s m args c cX11_order RX11 D aC (g_Zs (g_A B 44))) (hml : c.maxLocals = 3) (hret : meth.sig.returnType = (some .int)) (hlk : meth.locks = false) {F : Nat} {q0 : Int32 × g_M} {a1 : Int32} : ∀ (mem : g_M) (H : Heap) (locs : List Loc) (ls : Array Slot), g_At D aC B yM 44 mem s.heap H locs → lv_has ls 3 [(0, .ref (B + 0)), (1, .int a1)] → f11_order_b81 F a1 mem = some q0 → W p l e (g_rm 18) s m args below meth c H locs 0 0 (g_MQ below D aC B yM 44 args s (some (.int q0.1)) q0.2) (F0 m 81 ls []) := by
  intro mem H locs ls hM hl he
  unfold f11_order_b81 at he
  have hx := E.1
  have hb := E.2.1
  have hown := E.2.2.1
  have hts := E.2.2.2.1
  refine lv_aload_n hx hb dX11_order_81 rfl (lv_at hl 0 rfl) ?_
  refine lv_iconst (v := (0 : Int32)) hx hb dX11_order_82 rfl ?_
  refine g_putZ E hM (o := 0) (Nat.le_of_ble_eq_true rfl) rfl fp_X11_484 (Or.inl rfl) dX11_order_83 (fun H locs hM => ?_)
  obtain ⟨m1, hm1, he⟩ := g_let_ex he
  rw [← hm1] at hM
  refine lv_aload_n hx hb dX11_order_86 rfl (lv_at hl 0 rfl) ?_
  refine lv_iconst (v := (0 : Int32)) hx hb dX11_order_87 rfl ?_
  refine lv_iconst (v := (0 : Int32)) hx hb dX11_order_88 rfl ?_
  obtain ⟨r2, hcr2, he⟩ := g_bind he
  refine g_callV [.int (0 : Int32), .int (0 : Int32)] (rest := []) E hml hl.1 hM cv_X11_478 ((gR_all l D aC B F 8) _ _ _ _ hcr2) (o := 0) (Nat.le_of_ble_eq_true rfl) rfl (by decide) rfl rfl (Nat.le_of_ble_eq_true rfl) dX11_order_89 (fun H locs hM => ?_)
  refine W.eq (g2 := F0 m 92 ls []) rfl ?_
  refine lv_iload_n hx hb dX11_order_92 rfl (lv_at hl 1 rfl) ?_
  refine lv_iconst (v := (4 : Int32)) hx hb dX11_order_93 rfl ?_
  refine lv_icmp_ne (tgt := 104) hx hb dX11_order_94 (by decide) (fun h3 => ?_) (fun h3 => ?_)
  · rw [if_neg h3] at he
    refine lv_iload_n hx hb dX11_order_104 rfl (lv_at hl 1 rfl) ?_
    refine lv_aload_n hx hb dX11_order_105 rfl (lv_at hl 0 rfl) ?_
    refine g_getI E hM (o := 0) (Nat.le_of_ble_eq_true rfl) rfl fl_X11_475 dX11_order_106 ?_
    refine lv_icmp_ge (tgt := 121) hx hb dX11_order_109 (by decide) (fun h4 => ?_) (fun h4 => ?_)
    · rw [if_neg (Int32.not_lt.mpr h4)] at he
      refine lv_bipush (v := (-2 : Int32)) hx hb dX11_order_121 rfl ?_
      cases he
      exact g_iret E hM hret hlk dX11_order_123
    · rw [if_pos (Int32.not_le.mp h4)] at he
      refine lv_aload_n hx hb dX11_order_112 rfl (lv_at hl 0 rfl) ?_
      refine g_getP E hM (o := 0) (Nat.le_of_ble_eq_true rfl) rfl fl_X11_132 (q := 38) rfl dX11_order_113 ?_
      refine lv_iload_n hx hb dX11_order_116 rfl (lv_at hl 1 rfl) ?_
      obtain ⟨h5, he⟩ := g_ck_some he
      refine g_iald E hM (o := 38) (Nat.le_of_ble_eq_true rfl) rfl h5 dX11_order_117 ?_
      refine lv_goto (tgt := 123) hx hb dX11_order_118 (by decide) ?_
      cases he
      exact g_iret E hM hret hlk dX11_order_123
  · rw [if_pos h3] at he
    refine lv_aload_n hx hb dX11_order_97 rfl (lv_at hl 0 rfl) ?_
    refine g_getI E hM (o := 0) (Nat.le_of_ble_eq_true rfl) rfl fl_X11_487 dX11_order_98 ?_
    refine lv_goto (tgt := 123) hx hb dX11_order_101 (by decide) ?_
    cases he
    exact g_iret E hM hret hlk dX11_order_123

set_option maxHeartbeats 4000000 in
set_option maxRecDepth 100000 in
theorem w11_order_b75 (E : g_C p s m args c cX11_order RX11 D aC (g_Zs (g_A B 44))) (hml : c.maxLocals = 3) (hret : meth.sig.returnType = (some .int)) (hlk : meth.locks = false) {F : Nat} {q0 : Int32 × g_M} {a1 : Int32} {s25 : Int32 → g_M → Option (Int32 × g_M)} (hs25 : ∀ (v2 : Int32) (mem : g_M) (H : Heap) (locs : List Loc) (ls : Array Slot), g_At D aC B yM 44 mem s.heap H locs → lv_has ls 3 [(0, .ref (B + 0)), (1, .int a1), (2, .int v2)] → s25 v2 mem = some q0 → W p l e (g_rm 18) s m args below meth c H locs 0 0 (g_MQ below D aC B yM 44 args s (some (.int q0.1)) q0.2) (F0 m 25 ls [])) : ∀ (v2 : Int32) (mem : g_M) (H : Heap) (locs : List Loc) (ls : Array Slot), g_At D aC B yM 44 mem s.heap H locs → lv_has ls 3 [(0, .ref (B + 0)), (1, .int a1), (2, .int v2)] → f11_order_b75 F a1 s25 v2 mem = some q0 → W p l e (g_rm 18) s m args below meth c H locs 0 0 (g_MQ below D aC B yM 44 args s (some (.int q0.1)) q0.2) (F0 m 75 ls []) := by
  intro v2 mem H locs ls hM hl he
  unfold f11_order_b75 at he
  have hx := E.1
  have hb := E.2.1
  have hown := E.2.2.1
  have hts := E.2.2.2.1
  obtain ⟨x6, hx6, he⟩ := g_let_ex he
  refine lv_iinc (v := x6) (lv' := [(2, .int x6), (0, .ref (B + 0)), (1, .int a1)]) hx hb dX11_order_75 hl (k := 2) rfl (by rw [hx6]; rfl) (by decide) rfl (fun ls hl => ?_)
  refine lv_goto (tgt := 25) hx hb dX11_order_78 (by decide) ?_
  exact hs25 _ _ _ _ _ hM (lv_sub hl [1, 2, 0] rfl) he

set_option maxHeartbeats 4000000 in
set_option maxRecDepth 100000 in
theorem w11_order_b25_body (E : g_C p s m args c cX11_order RX11 D aC (g_Zs (g_A B 44))) (hml : c.maxLocals = 3) (hret : meth.sig.returnType = (some .int)) (hlk : meth.locks = false) {F : Nat} {q0 : Int32 × g_M} {a1 : Int32} {s25 : Int32 → g_M → Option (Int32 × g_M)} (hs25 : ∀ (v2 : Int32) (mem : g_M) (H : Heap) (locs : List Loc) (ls : Array Slot), g_At D aC B yM 44 mem s.heap H locs → lv_has ls 3 [(0, .ref (B + 0)), (1, .int a1), (2, .int v2)] → s25 v2 mem = some q0 → W p l e (g_rm 18) s m args below meth c H locs 0 0 (g_MQ below D aC B yM 44 args s (some (.int q0.1)) q0.2) (F0 m 25 ls [])) : ∀ (v2 : Int32) (mem : g_M) (H : Heap) (locs : List Loc) (ls : Array Slot), g_At D aC B yM 44 mem s.heap H locs → lv_has ls 3 [(0, .ref (B + 0)), (1, .int a1), (2, .int v2)] → f11_order_b25_body F a1 s25 v2 mem = some q0 → W p l e (g_rm 18) s m args below meth c H locs 0 0 (g_MQ below D aC B yM 44 args s (some (.int q0.1)) q0.2) (F0 m 25 ls []) := by
  intro v2 mem H locs ls hM hl he
  unfold f11_order_b25_body at he
  have hx := E.1
  have hb := E.2.1
  have hown := E.2.2.1
  have hts := E.2.2.2.1
  refine lv_iload_n hx hb dX11_order_25 rfl (lv_at hl 2 rfl) ?_
  refine lv_aload_n hx hb dX11_order_26 rfl (lv_at hl 0 rfl) ?_
  refine g_getP E hM (o := 0) (Nat.le_of_ble_eq_true rfl) rfl fl_X11_93 (q := 27) rfl dX11_order_27 ?_
  refine lv_iconst (v := (0 : Int32)) hx hb dX11_order_30 rfl ?_
  obtain ⟨h7, he⟩ := g_ck_some he
  refine g_iald E hM (o := 27) (Nat.le_of_ble_eq_true rfl) rfl h7 dX11_order_31 ?_
  refine lv_icmp_ge (tgt := 81) hx hb dX11_order_32 (by decide) (fun h8 => ?_) (fun h8 => ?_)
  · rw [if_neg (Int32.not_lt.mpr h8)] at he
    exact w11_order_b81 (F := F) (a1 := a1) E hml hret hlk _ _ _ _ hM (lv_sub hl [0, 1] rfl) he
  · rw [if_pos (Int32.not_le.mp h8)] at he
    refine lv_aload_n hx hb dX11_order_35 rfl (lv_at hl 0 rfl) ?_
    refine g_getI E hM (o := 0) (Nat.le_of_ble_eq_true rfl) rfl fl_X11_475 dX11_order_36 ?_
    refine lv_iconst (v := (4 : Int32)) hx hb dX11_order_39 rfl ?_
    refine lv_icmp_ge (tgt := 81) hx hb dX11_order_40 (by decide) (fun h9 => ?_) (fun h9 => ?_)
    · rw [if_neg (Int32.not_lt.mpr h9)] at he
      exact w11_order_b81 (F := F) (a1 := a1) E hml hret hlk _ _ _ _ hM (lv_sub hl [0, 1] rfl) he
    · rw [if_pos (Int32.not_le.mp h9)] at he
      refine lv_aload_n hx hb dX11_order_43 rfl (lv_at hl 0 rfl) ?_
      refine g_getP E hM (o := 0) (Nat.le_of_ble_eq_true rfl) rfl fl_X11_117 (q := 35) rfl dX11_order_44 ?_
      refine lv_iload_n hx hb dX11_order_47 rfl (lv_at hl 2 rfl) ?_
      obtain ⟨h10, he⟩ := g_ck_some he
      refine g_iald E hM (o := 35) (Nat.le_of_ble_eq_true rfl) rfl h10 dX11_order_48 ?_
      refine lv_if_eq (tgt := 55) hx hb dX11_order_49 (by decide) (fun h11 => ?_) (fun h11 => ?_)
      · rw [if_pos h11] at he
        refine lv_aload_n hx hb dX11_order_55 rfl (lv_at hl 0 rfl) ?_
        refine g_getP E hM (o := 0) (Nat.le_of_ble_eq_true rfl) rfl fl_X11_126 (q := 36) rfl dX11_order_56 ?_
        refine lv_aload_n hx hb dX11_order_59 rfl (lv_at hl 0 rfl) ?_
        refine g_getI E hM (o := 0) (Nat.le_of_ble_eq_true rfl) rfl fl_X11_475 dX11_order_60 ?_
        refine lv_iload_n hx hb dX11_order_63 rfl (lv_at hl 2 rfl) ?_
        obtain ⟨h12, he⟩ := g_ck_some he
        refine g_iast E hM (o := 36) (Nat.le_of_ble_eq_true rfl) rfl h12 dX11_order_64 (fun H locs hM => ?_)
        obtain ⟨m13, hm13, he⟩ := g_let_ex he
        rw [← hm13] at hM
        refine lv_aload_n hx hb dX11_order_65 rfl (lv_at hl 0 rfl) ?_
        refine lv_dup hx hb dX11_order_66 rfl ?_
        refine g_getI E hM (o := 0) (Nat.le_of_ble_eq_true rfl) rfl fl_X11_475 dX11_order_67 ?_
        refine lv_iconst (v := (1 : Int32)) hx hb dX11_order_70 rfl ?_
        refine lv_iadd hx hb dX11_order_71 ?_
        refine g_putI E hM (o := 0) (Nat.le_of_ble_eq_true rfl) rfl fp_X11_475 dX11_order_72 (fun H locs hM => ?_)
        obtain ⟨m14, hm14, he⟩ := g_let_ex he
        rw [← hm14] at hM
        exact w11_order_b75 (F := F) (a1 := a1) E hml hret hlk hs25 _ _ _ _ _ hM (lv_sub hl [0, 1, 2] rfl) he
      · rw [if_neg h11] at he
        refine lv_goto (tgt := 75) hx hb dX11_order_52 (by decide) ?_
        exact w11_order_b75 (F := F) (a1 := a1) E hml hret hlk hs25 _ _ _ _ _ hM (lv_sub hl [0, 1, 2] rfl) he

set_option maxHeartbeats 4000000 in
set_option maxRecDepth 100000 in
theorem w11_order_b25 (E : g_C p s m args c cX11_order RX11 D aC (g_Zs (g_A B 44))) (hml : c.maxLocals = 3) (hret : meth.sig.returnType = (some .int)) (hlk : meth.locks = false) {F : Nat} {q0 : Int32 × g_M} {a1 : Int32} : ∀ (v2 : Int32) (mem : g_M) (H : Heap) (locs : List Loc) (ls : Array Slot), g_At D aC B yM 44 mem s.heap H locs → lv_has ls 3 [(0, .ref (B + 0)), (1, .int a1), (2, .int v2)] → f11_order_b25 F a1 v2 mem = some q0 → W p l e (g_rm 18) s m args below meth c H locs 0 0 (g_MQ below D aC B yM 44 args s (some (.int q0.1)) q0.2) (F0 m 25 ls []) := by
  have key : ∀ (nn : Nat) (x : Int32 × g_M) (H : Heap) (locs : List Loc) (ls : Array Slot), g_At D aC B yM 44 x.2 s.heap H locs → lv_has ls 3 [(0, .ref (B + 0)), (1, .int a1), (2, .int x.1)] → g_fix (fun sf x => f11_order_b25_body F a1 (fun v2 mem => sf (v2, mem)) x.1 x.2) nn x = some q0 → W p l e (g_rm 18) s m args below meth c H locs 0 0 (g_MQ below D aC B yM 44 args s (some (.int q0.1)) q0.2) (F0 m 25 ls []) := by
    intro nn
    induction nn with
    | zero => intro x H locs ls hM hl he; simp [g_fix] at he
    | succ nn ih =>
      intro x H locs ls hM hl he
      exact w11_order_b25_body (F := F) (a1 := a1) E hml hret hlk (fun v2 mem H locs ls hM hl he => ih (v2, mem) H locs ls hM hl he) x.1 x.2 H locs ls hM hl he
  intro v2 mem H locs ls hM hl he
  exact key F (v2, mem) H locs ls hM hl he

set_option maxHeartbeats 4000000 in
set_option maxRecDepth 100000 in
theorem c11_order (l : Launch) (D : va_G) (aC : Nat → ClassId) (B : Nat) {F : Nat} {a1 : Int32} {mem : g_M} {q0 : Int32 × g_M} (he : f11_order F a1 mem = some q0) : g_Met l yX11_order cX11_order 3 (some .int) 18 D aC B yM 44 mem [.ref (B + 0), .int a1] (some (.int q0.1)) q0.2 := by
  refine g_ofW (by decide) (Nat.le_of_ble_eq_true rfl) ?_
  intro p e s m args below meth c ls E hml hret hlk hM hl
  have E : g_C p s m args c cX11_order RX11 D aC (g_Zs (g_A B 44)) := E
  have hx := E.1
  have hb := E.2.1
  have hown := E.2.2.1
  have hts := E.2.2.2.1
  have hl : lv_has ls 3 [(0, .ref (B + 0)), (1, .int a1)] := hl
  unfold f11_order at he
  refine lv_aload_n hx hb dX11_order_0 rfl (lv_at hl 0 rfl) ?_
  refine lv_iconst (v := (0 : Int32)) hx hb dX11_order_1 rfl ?_
  refine g_putI E hM (o := 0) (Nat.le_of_ble_eq_true rfl) rfl fp_X11_157 dX11_order_2 (fun H locs hM => ?_)
  obtain ⟨m15, hm15, he⟩ := g_let_ex he
  rw [← hm15] at hM
  refine lv_iload_n hx hb dX11_order_5 rfl (lv_at hl 1 rfl) ?_
  refine lv_if_lt (tgt := 14) hx hb dX11_order_6 (by decide) (fun h16 => ?_) (fun h16 => ?_)
  · rw [if_neg (Int32.not_le.mpr h16)] at he
    exact w11_order_b14 (F := F) (a1 := a1) E hml hret hlk _ _ _ _ hM (lv_sub hl [] rfl) he
  · rw [if_pos (Int32.not_lt.mp h16)] at he
    refine lv_iload_n hx hb dX11_order_9 rfl (lv_at hl 1 rfl) ?_
    refine lv_iconst (v := (4 : Int32)) hx hb dX11_order_10 rfl ?_
    refine lv_icmp_le (tgt := 18) hx hb dX11_order_11 (by decide) (fun h17 => ?_) (fun h17 => ?_)
    · rw [if_neg (Int32.not_lt.mpr h17)] at he
      refine lv_aload_n hx hb dX11_order_18 rfl (lv_at hl 0 rfl) ?_
      refine lv_iconst (v := (0 : Int32)) hx hb dX11_order_19 rfl ?_
      refine g_putI E hM (o := 0) (Nat.le_of_ble_eq_true rfl) rfl fp_X11_475 dX11_order_20 (fun H locs hM => ?_)
      obtain ⟨m18, hm18, he⟩ := g_let_ex he
      rw [← hm18] at hM
      refine lv_iconst (v := (0 : Int32)) hx hb dX11_order_23 rfl ?_
      refine lv_istore_n (lv' := [(2, .int (0 : Int32)), (0, .ref (B + 0)), (1, .int a1)]) hx hb dX11_order_24 rfl hl (by decide) rfl (fun ls hl => ?_)
      exact w11_order_b25 (F := F) (a1 := a1) E hml hret hlk _ _ _ _ _ hM (lv_sub hl [1, 2, 0] rfl) he
    · rw [if_pos (Int32.not_le.mp h17)] at he
      exact w11_order_b14 (F := F) (a1 := a1) E hml hret hlk _ _ _ _ hM (lv_sub hl [] rfl) he

end
