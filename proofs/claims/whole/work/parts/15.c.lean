theorem dX8_stepWord_0 : decode cX8_stepWord 0 = .ok (.aload_n 0, 1) := by decide +kernel
theorem dX8_stepWord_1 : decode cX8_stepWord 1 = .ok (.iconst 0, 1) := by decide +kernel
theorem dX8_stepWord_2 : decode cX8_stepWord 2 = .ok (.putfield 18, 3) := by decide +kernel
theorem dX8_stepWord_5 : decode cX8_stepWord 5 = .ok (.aload_n 0, 1) := by decide +kernel
theorem dX8_stepWord_6 : decode cX8_stepWord 6 = .ok (.getfield 24, 3) := by decide +kernel
theorem dX8_stepWord_9 : decode cX8_stepWord 9 = .ok (.aload_n 0, 1) := by decide +kernel
theorem dX8_stepWord_10 : decode cX8_stepWord 10 = .ok (.getfield 21, 3) := by decide +kernel
theorem dX8_stepWord_13 : decode cX8_stepWord 13 = .ok (.if_icmp .ge 75, 3) := by decide +kernel
theorem dX8_stepWord_16 : decode cX8_stepWord 16 = .ok (.aload_n 0, 1) := by decide +kernel
theorem dX8_stepWord_17 : decode cX8_stepWord 17 = .ok (.getfield 31, 3) := by decide +kernel
theorem dX8_stepWord_20 : decode cX8_stepWord 20 = .ok (.aload_n 0, 1) := by decide +kernel
theorem dX8_stepWord_21 : decode cX8_stepWord 21 = .ok (.getfield 24, 3) := by decide +kernel
theorem dX8_stepWord_24 : decode cX8_stepWord 24 = .ok (.baload, 1) := by decide +kernel
theorem dX8_stepWord_25 : decode cX8_stepWord 25 = .ok (.invokestatic 52, 3) := by decide +kernel
theorem dX8_stepWord_28 : decode cX8_stepWord 28 = .ok (.ifCond .eq 60, 3) := by decide +kernel
theorem dX8_stepWord_31 : decode cX8_stepWord 31 = .ok (.bipush 25, 2) := by decide +kernel
theorem dX8_stepWord_33 : decode cX8_stepWord 33 = .ok (.iconst 5, 1) := by decide +kernel
theorem dX8_stepWord_34 : decode cX8_stepWord 34 = .ok (.aload_n 0, 1) := by decide +kernel
theorem dX8_stepWord_35 : decode cX8_stepWord 35 = .ok (.getfield 24, 3) := by decide +kernel
theorem dX8_stepWord_38 : decode cX8_stepWord 38 = .ok (.aload_n 0, 1) := by decide +kernel
theorem dX8_stepWord_39 : decode cX8_stepWord 39 = .ok (.getfield 15, 3) := by decide +kernel
theorem dX8_stepWord_42 : decode cX8_stepWord 42 = .ok (.isub, 1) := by decide +kernel
theorem dX8_stepWord_43 : decode cX8_stepWord 43 = .ok (.imul, 1) := by decide +kernel
theorem dX8_stepWord_44 : decode cX8_stepWord 44 = .ok (.isub, 1) := by decide +kernel
theorem dX8_stepWord_45 : decode cX8_stepWord 45 = .ok (.istore_n 1, 1) := by decide +kernel
theorem dX8_stepWord_46 : decode cX8_stepWord 46 = .ok (.iload_n 1, 1) := by decide +kernel
theorem dX8_stepWord_47 : decode cX8_stepWord 47 = .ok (.ifCond .lt 28, 3) := by decide +kernel
theorem dX8_stepWord_50 : decode cX8_stepWord 50 = .ok (.aload_n 0, 1) := by decide +kernel
theorem dX8_stepWord_51 : decode cX8_stepWord 51 = .ok (.dup, 1) := by decide +kernel
theorem dX8_stepWord_52 : decode cX8_stepWord 52 = .ok (.getfield 18, 3) := by decide +kernel
theorem dX8_stepWord_55 : decode cX8_stepWord 55 = .ok (.aload_n 0, 1) := by decide +kernel
theorem dX8_stepWord_56 : decode cX8_stepWord 56 = .ok (.getfield 31, 3) := by decide +kernel
theorem dX8_stepWord_59 : decode cX8_stepWord 59 = .ok (.aload_n 0, 1) := by decide +kernel
theorem dX8_stepWord_60 : decode cX8_stepWord 60 = .ok (.getfield 24, 3) := by decide +kernel
theorem dX8_stepWord_63 : decode cX8_stepWord 63 = .ok (.baload, 1) := by decide +kernel
theorem dX8_stepWord_64 : decode cX8_stepWord 64 = .ok (.bipush 97, 2) := by decide +kernel
theorem dX8_stepWord_66 : decode cX8_stepWord 66 = .ok (.isub, 1) := by decide +kernel
theorem dX8_stepWord_67 : decode cX8_stepWord 67 = .ok (.iconst 1, 1) := by decide +kernel
theorem dX8_stepWord_68 : decode cX8_stepWord 68 = .ok (.iadd, 1) := by decide +kernel
theorem dX8_stepWord_69 : decode cX8_stepWord 69 = .ok (.iload_n 1, 1) := by decide +kernel
theorem dX8_stepWord_70 : decode cX8_stepWord 70 = .ok (.ishl, 1) := by decide +kernel
theorem dX8_stepWord_71 : decode cX8_stepWord 71 = .ok (.ior, 1) := by decide +kernel
theorem dX8_stepWord_72 : decode cX8_stepWord 72 = .ok (.putfield 18, 3) := by decide +kernel
theorem dX8_stepWord_75 : decode cX8_stepWord 75 = .ok (.aload_n 0, 1) := by decide +kernel
theorem dX8_stepWord_76 : decode cX8_stepWord 76 = .ok (.dup, 1) := by decide +kernel
theorem dX8_stepWord_77 : decode cX8_stepWord 77 = .ok (.getfield 24, 3) := by decide +kernel
theorem dX8_stepWord_80 : decode cX8_stepWord 80 = .ok (.iconst 1, 1) := by decide +kernel
theorem dX8_stepWord_81 : decode cX8_stepWord 81 = .ok (.iadd, 1) := by decide +kernel
theorem dX8_stepWord_82 : decode cX8_stepWord 82 = .ok (.putfield 24, 3) := by decide +kernel
theorem dX8_stepWord_85 : decode cX8_stepWord 85 = .ok (.goto (-80), 3) := by decide +kernel
theorem dX8_stepWord_88 : decode cX8_stepWord 88 = .ok (.aload_n 0, 1) := by decide +kernel
theorem dX8_stepWord_89 : decode cX8_stepWord 89 = .ok (.aload_n 0, 1) := by decide +kernel
theorem dX8_stepWord_90 : decode cX8_stepWord 90 = .ok (.getfield 24, 3) := by decide +kernel
theorem dX8_stepWord_93 : decode cX8_stepWord 93 = .ok (.aload_n 0, 1) := by decide +kernel
theorem dX8_stepWord_94 : decode cX8_stepWord 94 = .ok (.getfield 15, 3) := by decide +kernel
theorem dX8_stepWord_97 : decode cX8_stepWord 97 = .ok (.isub, 1) := by decide +kernel
theorem dX8_stepWord_98 : decode cX8_stepWord 98 = .ok (.bipush 6, 2) := by decide +kernel
theorem dX8_stepWord_100 : decode cX8_stepWord 100 = .ok (.if_icmp .le 7, 3) := by decide +kernel
theorem dX8_stepWord_103 : decode cX8_stepWord 103 = .ok (.iconst 5, 1) := by decide +kernel
theorem dX8_stepWord_104 : decode cX8_stepWord 104 = .ok (.goto 4, 3) := by decide +kernel
theorem dX8_stepWord_107 : decode cX8_stepWord 107 = .ok (.iconst 2, 1) := by decide +kernel
theorem dX8_stepWord_108 : decode cX8_stepWord 108 = .ok (.putfield 11, 3) := by decide +kernel
theorem dX8_stepWord_111 : decode cX8_stepWord 111 = .ok (.iconst 0, 1) := by decide +kernel
theorem dX8_stepWord_112 : decode cX8_stepWord 112 = .ok (.istore_n 1, 1) := by decide +kernel
theorem dX8_stepWord_113 : decode cX8_stepWord 113 = .ok (.iload_n 1, 1) := by decide +kernel
theorem dX8_stepWord_114 : decode cX8_stepWord 114 = .ok (.bipush 22, 2) := by decide +kernel
theorem dX8_stepWord_116 : decode cX8_stepWord 116 = .ok (.if_icmp .ge 40, 3) := by decide +kernel
theorem dX8_stepWord_119 : decode cX8_stepWord 119 = .ok (.aload_n 0, 1) := by decide +kernel
theorem dX8_stepWord_120 : decode cX8_stepWord 120 = .ok (.getfield 11, 3) := by decide +kernel
theorem dX8_stepWord_123 : decode cX8_stepWord 123 = .ok (.iconst 2, 1) := by decide +kernel
theorem dX8_stepWord_124 : decode cX8_stepWord 124 = .ok (.if_icmp .ne 32, 3) := by decide +kernel
theorem dX8_stepWord_127 : decode cX8_stepWord 127 = .ok (.aload_n 0, 1) := by decide +kernel
theorem dX8_stepWord_128 : decode cX8_stepWord 128 = .ok (.getfield 27, 3) := by decide +kernel
theorem dX8_stepWord_131 : decode cX8_stepWord 131 = .ok (.iload_n 1, 1) := by decide +kernel
theorem dX8_stepWord_132 : decode cX8_stepWord 132 = .ok (.iaload, 1) := by decide +kernel
theorem dX8_stepWord_133 : decode cX8_stepWord 133 = .ok (.aload_n 0, 1) := by decide +kernel
theorem dX8_stepWord_134 : decode cX8_stepWord 134 = .ok (.getfield 18, 3) := by decide +kernel
theorem dX8_stepWord_137 : decode cX8_stepWord 137 = .ok (.if_icmp .ne 13, 3) := by decide +kernel
theorem dX8_stepWord_140 : decode cX8_stepWord 140 = .ok (.aload_n 0, 1) := by decide +kernel
theorem dX8_stepWord_141 : decode cX8_stepWord 141 = .ok (.iconst 3, 1) := by decide +kernel
theorem dX8_stepWord_142 : decode cX8_stepWord 142 = .ok (.putfield 11, 3) := by decide +kernel
theorem dX8_stepWord_145 : decode cX8_stepWord 145 = .ok (.aload_n 0, 1) := by decide +kernel
theorem dX8_stepWord_146 : decode cX8_stepWord 146 = .ok (.iload_n 1, 1) := by decide +kernel
theorem dX8_stepWord_147 : decode cX8_stepWord 147 = .ok (.putfield 18, 3) := by decide +kernel
theorem dX8_stepWord_150 : decode cX8_stepWord 150 = .ok (.iinc 1 1, 3) := by decide +kernel
theorem dX8_stepWord_153 : decode cX8_stepWord 153 = .ok (.goto (-40), 3) := by decide +kernel
theorem dX8_stepWord_156 : decode cX8_stepWord 156 = .ok (.return_, 1) := by decide +kernel
theorem dX8_isDigit_0 : decode cX8_isDigit 0 = .ok (.iload_n 0, 1) := by decide +kernel
theorem dX8_isDigit_1 : decode cX8_isDigit 1 = .ok (.bipush 48, 2) := by decide +kernel
theorem dX8_isDigit_3 : decode cX8_isDigit 3 = .ok (.if_icmp .lt 13, 3) := by decide +kernel
theorem dX8_isDigit_6 : decode cX8_isDigit 6 = .ok (.iload_n 0, 1) := by decide +kernel
theorem dX8_isDigit_7 : decode cX8_isDigit 7 = .ok (.bipush 57, 2) := by decide +kernel
theorem dX8_isDigit_9 : decode cX8_isDigit 9 = .ok (.if_icmp .gt 7, 3) := by decide +kernel
theorem dX8_isDigit_12 : decode cX8_isDigit 12 = .ok (.iconst 1, 1) := by decide +kernel
theorem dX8_isDigit_13 : decode cX8_isDigit 13 = .ok (.goto 4, 3) := by decide +kernel
theorem dX8_isDigit_16 : decode cX8_isDigit 16 = .ok (.iconst 0, 1) := by decide +kernel
theorem dX8_isDigit_17 : decode cX8_isDigit 17 = .ok (.ireturn, 1) := by decide +kernel
theorem dX8_stepNumber_0 : decode cX8_stepNumber 0 = .ok (.aload_n 0, 1) := by decide +kernel
theorem dX8_stepNumber_1 : decode cX8_stepNumber 1 = .ok (.iconst 1, 1) := by decide +kernel
theorem dX8_stepNumber_2 : decode cX8_stepNumber 2 = .ok (.putfield 11, 3) := by decide +kernel
theorem dX8_stepNumber_5 : decode cX8_stepNumber 5 = .ok (.aload_n 0, 1) := by decide +kernel
theorem dX8_stepNumber_6 : decode cX8_stepNumber 6 = .ok (.iconst 0, 1) := by decide +kernel
theorem dX8_stepNumber_7 : decode cX8_stepNumber 7 = .ok (.putfield 18, 3) := by decide +kernel
theorem dX8_stepNumber_10 : decode cX8_stepNumber 10 = .ok (.aload_n 0, 1) := by decide +kernel
theorem dX8_stepNumber_11 : decode cX8_stepNumber 11 = .ok (.getfield 24, 3) := by decide +kernel
theorem dX8_stepNumber_14 : decode cX8_stepNumber 14 = .ok (.aload_n 0, 1) := by decide +kernel
theorem dX8_stepNumber_15 : decode cX8_stepNumber 15 = .ok (.getfield 21, 3) := by decide +kernel
theorem dX8_stepNumber_18 : decode cX8_stepNumber 18 = .ok (.if_icmp .ge 60, 3) := by decide +kernel
theorem dX8_stepNumber_21 : decode cX8_stepNumber 21 = .ok (.aload_n 0, 1) := by decide +kernel
theorem dX8_stepNumber_22 : decode cX8_stepNumber 22 = .ok (.getfield 31, 3) := by decide +kernel
theorem dX8_stepNumber_25 : decode cX8_stepNumber 25 = .ok (.aload_n 0, 1) := by decide +kernel
theorem dX8_stepNumber_26 : decode cX8_stepNumber 26 = .ok (.getfield 24, 3) := by decide +kernel
theorem dX8_stepNumber_29 : decode cX8_stepNumber 29 = .ok (.baload, 1) := by decide +kernel
theorem dX8_stepNumber_30 : decode cX8_stepNumber 30 = .ok (.invokestatic 59, 3) := by decide +kernel
theorem dX8_stepNumber_33 : decode cX8_stepNumber 33 = .ok (.ifCond .eq 45, 3) := by decide +kernel
theorem dX8_stepNumber_36 : decode cX8_stepNumber 36 = .ok (.aload_n 0, 1) := by decide +kernel
theorem dX8_stepNumber_37 : decode cX8_stepNumber 37 = .ok (.ldc 68, 2) := by decide +kernel
theorem dX8_stepNumber_39 : decode cX8_stepNumber 39 = .ok (.aload_n 0, 1) := by decide +kernel
theorem dX8_stepNumber_40 : decode cX8_stepNumber 40 = .ok (.getfield 18, 3) := by decide +kernel
theorem dX8_stepNumber_43 : decode cX8_stepNumber 43 = .ok (.bipush 10, 2) := by decide +kernel
theorem dX8_stepNumber_45 : decode cX8_stepNumber 45 = .ok (.imul, 1) := by decide +kernel
theorem dX8_stepNumber_46 : decode cX8_stepNumber 46 = .ok (.aload_n 0, 1) := by decide +kernel
theorem dX8_stepNumber_47 : decode cX8_stepNumber 47 = .ok (.getfield 31, 3) := by decide +kernel
theorem dX8_stepNumber_50 : decode cX8_stepNumber 50 = .ok (.aload_n 0, 1) := by decide +kernel
theorem dX8_stepNumber_51 : decode cX8_stepNumber 51 = .ok (.getfield 24, 3) := by decide +kernel
theorem dX8_stepNumber_54 : decode cX8_stepNumber 54 = .ok (.baload, 1) := by decide +kernel
theorem dX8_stepNumber_55 : decode cX8_stepNumber 55 = .ok (.iadd, 1) := by decide +kernel
theorem dX8_stepNumber_56 : decode cX8_stepNumber 56 = .ok (.bipush 48, 2) := by decide +kernel
theorem dX8_stepNumber_58 : decode cX8_stepNumber 58 = .ok (.isub, 1) := by decide +kernel
theorem dX8_stepNumber_59 : decode cX8_stepNumber 59 = .ok (.invokestatic 46, 3) := by decide +kernel
theorem dX8_stepNumber_62 : decode cX8_stepNumber 62 = .ok (.putfield 18, 3) := by decide +kernel
theorem dX8_stepNumber_65 : decode cX8_stepNumber 65 = .ok (.aload_n 0, 1) := by decide +kernel
theorem dX8_stepNumber_66 : decode cX8_stepNumber 66 = .ok (.dup, 1) := by decide +kernel
theorem dX8_stepNumber_67 : decode cX8_stepNumber 67 = .ok (.getfield 24, 3) := by decide +kernel
theorem dX8_stepNumber_70 : decode cX8_stepNumber 70 = .ok (.iconst 1, 1) := by decide +kernel
theorem dX8_stepNumber_71 : decode cX8_stepNumber 71 = .ok (.iadd, 1) := by decide +kernel
theorem dX8_stepNumber_72 : decode cX8_stepNumber 72 = .ok (.putfield 24, 3) := by decide +kernel
theorem dX8_stepNumber_75 : decode cX8_stepNumber 75 = .ok (.goto (-65), 3) := by decide +kernel
theorem dX8_stepNumber_78 : decode cX8_stepNumber 78 = .ok (.return_, 1) := by decide +kernel
theorem dX8_signOf_0 : decode cX8_signOf 0 = .ok (.iload_n 0, 1) := by decide +kernel
theorem dX8_signOf_1 : decode cX8_signOf 1 = .ok (.tableswitch 132 40 62 #[123, 126, 111, 107, 132, 109, 132, 113, 132, 132, 132, 132, 132, 132, 132, 132, 132, 132, 132, 129, 115, 117, 120], 107) := by decide +kernel
theorem dX8_signOf_108 : decode cX8_signOf 108 = .ok (.iconst 0, 1) := by decide +kernel
theorem dX8_signOf_109 : decode cX8_signOf 109 = .ok (.ireturn, 1) := by decide +kernel
theorem dX8_signOf_110 : decode cX8_signOf 110 = .ok (.iconst 1, 1) := by decide +kernel
theorem dX8_signOf_111 : decode cX8_signOf 111 = .ok (.ireturn, 1) := by decide +kernel
theorem dX8_signOf_112 : decode cX8_signOf 112 = .ok (.iconst 2, 1) := by decide +kernel
theorem dX8_signOf_113 : decode cX8_signOf 113 = .ok (.ireturn, 1) := by decide +kernel
theorem dX8_signOf_114 : decode cX8_signOf 114 = .ok (.iconst 3, 1) := by decide +kernel
theorem dX8_signOf_115 : decode cX8_signOf 115 = .ok (.ireturn, 1) := by decide +kernel
theorem dX8_signOf_116 : decode cX8_signOf 116 = .ok (.iconst 4, 1) := by decide +kernel
theorem dX8_signOf_117 : decode cX8_signOf 117 = .ok (.ireturn, 1) := by decide +kernel
theorem dX8_signOf_118 : decode cX8_signOf 118 = .ok (.bipush 6, 2) := by decide +kernel
theorem dX8_signOf_120 : decode cX8_signOf 120 = .ok (.ireturn, 1) := by decide +kernel
theorem dX8_signOf_121 : decode cX8_signOf 121 = .ok (.bipush 9, 2) := by decide +kernel
theorem dX8_signOf_123 : decode cX8_signOf 123 = .ok (.ireturn, 1) := by decide +kernel
theorem dX8_signOf_124 : decode cX8_signOf 124 = .ok (.bipush 13, 2) := by decide +kernel
theorem dX8_signOf_126 : decode cX8_signOf 126 = .ok (.ireturn, 1) := by decide +kernel
theorem dX8_signOf_127 : decode cX8_signOf 127 = .ok (.bipush 14, 2) := by decide +kernel
theorem dX8_signOf_129 : decode cX8_signOf 129 = .ok (.ireturn, 1) := by decide +kernel
theorem dX8_signOf_130 : decode cX8_signOf 130 = .ok (.bipush 15, 2) := by decide +kernel
theorem dX8_signOf_132 : decode cX8_signOf 132 = .ok (.ireturn, 1) := by decide +kernel
theorem dX8_signOf_133 : decode cX8_signOf 133 = .ok (.iconst (-1), 1) := by decide +kernel
theorem dX8_signOf_134 : decode cX8_signOf 134 = .ok (.ireturn, 1) := by decide +kernel
theorem dX8_stepSign_0 : decode cX8_stepSign 0 = .ok (.aload_n 0, 1) := by decide +kernel
theorem dX8_stepSign_1 : decode cX8_stepSign 1 = .ok (.getfield 31, 3) := by decide +kernel
theorem dX8_stepSign_4 : decode cX8_stepSign 4 = .ok (.aload_n 0, 1) := by decide +kernel
theorem dX8_stepSign_5 : decode cX8_stepSign 5 = .ok (.getfield 24, 3) := by decide +kernel
theorem dX8_stepSign_8 : decode cX8_stepSign 8 = .ok (.baload, 1) := by decide +kernel
theorem dX8_stepSign_9 : decode cX8_stepSign 9 = .ok (.istore_n 1, 1) := by decide +kernel
theorem dX8_stepSign_10 : decode cX8_stepSign 10 = .ok (.aload_n 0, 1) := by decide +kernel
theorem dX8_stepSign_11 : decode cX8_stepSign 11 = .ok (.dup, 1) := by decide +kernel
theorem dX8_stepSign_12 : decode cX8_stepSign 12 = .ok (.getfield 24, 3) := by decide +kernel
theorem dX8_stepSign_15 : decode cX8_stepSign 15 = .ok (.iconst 1, 1) := by decide +kernel
theorem dX8_stepSign_16 : decode cX8_stepSign 16 = .ok (.iadd, 1) := by decide +kernel
theorem dX8_stepSign_17 : decode cX8_stepSign 17 = .ok (.putfield 24, 3) := by decide +kernel
theorem dX8_stepSign_20 : decode cX8_stepSign 20 = .ok (.aload_n 0, 1) := by decide +kernel
theorem dX8_stepSign_21 : decode cX8_stepSign 21 = .ok (.getfield 24, 3) := by decide +kernel
theorem dX8_stepSign_24 : decode cX8_stepSign 24 = .ok (.aload_n 0, 1) := by decide +kernel
theorem dX8_stepSign_25 : decode cX8_stepSign 25 = .ok (.getfield 21, 3) := by decide +kernel
theorem dX8_stepSign_28 : decode cX8_stepSign 28 = .ok (.if_icmp .ge 15, 3) := by decide +kernel
theorem dX8_stepSign_31 : decode cX8_stepSign 31 = .ok (.aload_n 0, 1) := by decide +kernel
theorem dX8_stepSign_32 : decode cX8_stepSign 32 = .ok (.getfield 31, 3) := by decide +kernel
theorem dX8_stepSign_35 : decode cX8_stepSign 35 = .ok (.aload_n 0, 1) := by decide +kernel
theorem dX8_stepSign_36 : decode cX8_stepSign 36 = .ok (.getfield 24, 3) := by decide +kernel
theorem dX8_stepSign_39 : decode cX8_stepSign 39 = .ok (.baload, 1) := by decide +kernel
theorem dX8_stepSign_40 : decode cX8_stepSign 40 = .ok (.goto 4, 3) := by decide +kernel
theorem dX8_stepSign_43 : decode cX8_stepSign 43 = .ok (.iconst 0, 1) := by decide +kernel
theorem dX8_stepSign_44 : decode cX8_stepSign 44 = .ok (.istore_n 2, 1) := by decide +kernel
theorem dX8_stepSign_45 : decode cX8_stepSign 45 = .ok (.aload_n 0, 1) := by decide +kernel
theorem dX8_stepSign_46 : decode cX8_stepSign 46 = .ok (.iconst 4, 1) := by decide +kernel
theorem dX8_stepSign_47 : decode cX8_stepSign 47 = .ok (.putfield 11, 3) := by decide +kernel
theorem dX8_stepSign_50 : decode cX8_stepSign 50 = .ok (.iload_n 1, 1) := by decide +kernel
theorem dX8_stepSign_51 : decode cX8_stepSign 51 = .ok (.bipush 60, 2) := by decide +kernel
theorem dX8_stepSign_53 : decode cX8_stepSign 53 = .ok (.if_icmp .ne 28, 3) := by decide +kernel
theorem dX8_stepSign_56 : decode cX8_stepSign 56 = .ok (.iload_n 2, 1) := by decide +kernel
theorem dX8_stepSign_57 : decode cX8_stepSign 57 = .ok (.bipush 62, 2) := by decide +kernel
theorem dX8_stepSign_59 : decode cX8_stepSign 59 = .ok (.if_icmp .ne 22, 3) := by decide +kernel
theorem dX8_stepSign_62 : decode cX8_stepSign 62 = .ok (.aload_n 0, 1) := by decide +kernel
theorem dX8_stepSign_63 : decode cX8_stepSign 63 = .ok (.bipush 7, 2) := by decide +kernel
theorem dX8_stepSign_65 : decode cX8_stepSign 65 = .ok (.putfield 18, 3) := by decide +kernel
theorem dX8_stepSign_68 : decode cX8_stepSign 68 = .ok (.aload_n 0, 1) := by decide +kernel
theorem dX8_stepSign_69 : decode cX8_stepSign 69 = .ok (.dup, 1) := by decide +kernel
theorem dX8_stepSign_70 : decode cX8_stepSign 70 = .ok (.getfield 24, 3) := by decide +kernel
theorem dX8_stepSign_73 : decode cX8_stepSign 73 = .ok (.iconst 1, 1) := by decide +kernel
theorem dX8_stepSign_74 : decode cX8_stepSign 74 = .ok (.iadd, 1) := by decide +kernel
theorem dX8_stepSign_75 : decode cX8_stepSign 75 = .ok (.putfield 24, 3) := by decide +kernel
theorem dX8_stepSign_78 : decode cX8_stepSign 78 = .ok (.goto 75, 3) := by decide +kernel
theorem dX8_stepSign_81 : decode cX8_stepSign 81 = .ok (.iload_n 1, 1) := by decide +kernel
theorem dX8_stepSign_82 : decode cX8_stepSign 82 = .ok (.bipush 60, 2) := by decide +kernel
theorem dX8_stepSign_84 : decode cX8_stepSign 84 = .ok (.if_icmp .eq 9, 3) := by decide +kernel
theorem dX8_stepSign_87 : decode cX8_stepSign 87 = .ok (.iload_n 1, 1) := by decide +kernel
theorem dX8_stepSign_88 : decode cX8_stepSign 88 = .ok (.bipush 62, 2) := by decide +kernel
theorem dX8_stepSign_90 : decode cX8_stepSign 90 = .ok (.if_icmp .ne 38, 3) := by decide +kernel
theorem dX8_stepSign_93 : decode cX8_stepSign 93 = .ok (.iload_n 2, 1) := by decide +kernel
theorem dX8_stepSign_94 : decode cX8_stepSign 94 = .ok (.bipush 61, 2) := by decide +kernel
theorem dX8_stepSign_96 : decode cX8_stepSign 96 = .ok (.if_icmp .ne 32, 3) := by decide +kernel
theorem dX8_stepSign_99 : decode cX8_stepSign 99 = .ok (.aload_n 0, 1) := by decide +kernel
theorem dX8_stepSign_100 : decode cX8_stepSign 100 = .ok (.iload_n 1, 1) := by decide +kernel
theorem dX8_stepSign_101 : decode cX8_stepSign 101 = .ok (.bipush 60, 2) := by decide +kernel
theorem dX8_stepSign_103 : decode cX8_stepSign 103 = .ok (.if_icmp .ne 7, 3) := by decide +kernel
theorem dX8_stepSign_106 : decode cX8_stepSign 106 = .ok (.iconst 5, 1) := by decide +kernel
theorem dX8_stepSign_107 : decode cX8_stepSign 107 = .ok (.goto 5, 3) := by decide +kernel
theorem dX8_stepSign_110 : decode cX8_stepSign 110 = .ok (.bipush 8, 2) := by decide +kernel
theorem dX8_stepSign_112 : decode cX8_stepSign 112 = .ok (.putfield 18, 3) := by decide +kernel
theorem dX8_stepSign_115 : decode cX8_stepSign 115 = .ok (.aload_n 0, 1) := by decide +kernel
theorem dX8_stepSign_116 : decode cX8_stepSign 116 = .ok (.dup, 1) := by decide +kernel
theorem dX8_stepSign_117 : decode cX8_stepSign 117 = .ok (.getfield 24, 3) := by decide +kernel
theorem dX8_stepSign_120 : decode cX8_stepSign 120 = .ok (.iconst 1, 1) := by decide +kernel
theorem dX8_stepSign_121 : decode cX8_stepSign 121 = .ok (.iadd, 1) := by decide +kernel
theorem dX8_stepSign_122 : decode cX8_stepSign 122 = .ok (.putfield 24, 3) := by decide +kernel
theorem dX8_stepSign_125 : decode cX8_stepSign 125 = .ok (.goto 28, 3) := by decide +kernel
theorem dX8_stepSign_128 : decode cX8_stepSign 128 = .ok (.aload_n 0, 1) := by decide +kernel
theorem dX8_stepSign_129 : decode cX8_stepSign 129 = .ok (.iload_n 1, 1) := by decide +kernel
theorem dX8_stepSign_130 : decode cX8_stepSign 130 = .ok (.invokestatic 69, 3) := by decide +kernel
theorem dX8_stepSign_133 : decode cX8_stepSign 133 = .ok (.putfield 18, 3) := by decide +kernel
theorem dX8_stepSign_136 : decode cX8_stepSign 136 = .ok (.aload_n 0, 1) := by decide +kernel
theorem dX8_stepSign_137 : decode cX8_stepSign 137 = .ok (.aload_n 0, 1) := by decide +kernel
theorem dX8_stepSign_138 : decode cX8_stepSign 138 = .ok (.getfield 18, 3) := by decide +kernel
theorem dX8_stepSign_141 : decode cX8_stepSign 141 = .ok (.iconst (-1), 1) := by decide +kernel
theorem dX8_stepSign_142 : decode cX8_stepSign 142 = .ok (.if_icmp .ne 7, 3) := by decide +kernel
theorem dX8_stepSign_145 : decode cX8_stepSign 145 = .ok (.iconst 5, 1) := by decide +kernel
theorem dX8_stepSign_146 : decode cX8_stepSign 146 = .ok (.goto 4, 3) := by decide +kernel
theorem dX8_stepSign_149 : decode cX8_stepSign 149 = .ok (.iconst 4, 1) := by decide +kernel
theorem dX8_stepSign_150 : decode cX8_stepSign 150 = .ok (.putfield 11, 3) := by decide +kernel
theorem dX8_stepSign_153 : decode cX8_stepSign 153 = .ok (.return_, 1) := by decide +kernel
theorem dX8_step_0 : decode cX8_step 0 = .ok (.aload_n 0, 1) := by decide +kernel
theorem dX8_step_1 : decode cX8_step 1 = .ok (.getfield 24, 3) := by decide +kernel
theorem dX8_step_4 : decode cX8_step 4 = .ok (.aload_n 0, 1) := by decide +kernel
theorem dX8_step_5 : decode cX8_step 5 = .ok (.getfield 21, 3) := by decide +kernel
theorem dX8_step_8 : decode cX8_step 8 = .ok (.if_icmp .ge 44, 3) := by decide +kernel
theorem dX8_step_11 : decode cX8_step 11 = .ok (.aload_n 0, 1) := by decide +kernel
theorem dX8_step_12 : decode cX8_step 12 = .ok (.getfield 31, 3) := by decide +kernel
theorem dX8_step_15 : decode cX8_step 15 = .ok (.aload_n 0, 1) := by decide +kernel
theorem dX8_step_16 : decode cX8_step 16 = .ok (.getfield 24, 3) := by decide +kernel
theorem dX8_step_19 : decode cX8_step 19 = .ok (.baload, 1) := by decide +kernel
theorem dX8_step_20 : decode cX8_step 20 = .ok (.bipush 10, 2) := by decide +kernel
theorem dX8_step_22 : decode cX8_step 22 = .ok (.if_icmp .eq 17, 3) := by decide +kernel
theorem dX8_step_25 : decode cX8_step 25 = .ok (.aload_n 0, 1) := by decide +kernel
theorem dX8_step_26 : decode cX8_step 26 = .ok (.getfield 31, 3) := by decide +kernel
theorem dX8_step_29 : decode cX8_step 29 = .ok (.aload_n 0, 1) := by decide +kernel
theorem dX8_step_30 : decode cX8_step 30 = .ok (.getfield 24, 3) := by decide +kernel
theorem dX8_step_33 : decode cX8_step 33 = .ok (.baload, 1) := by decide +kernel
theorem dX8_step_34 : decode cX8_step 34 = .ok (.bipush 32, 2) := by decide +kernel
theorem dX8_step_36 : decode cX8_step 36 = .ok (.if_icmp .ne 16, 3) := by decide +kernel
theorem dX8_step_39 : decode cX8_step 39 = .ok (.aload_n 0, 1) := by decide +kernel
theorem dX8_step_40 : decode cX8_step 40 = .ok (.dup, 1) := by decide +kernel
theorem dX8_step_41 : decode cX8_step 41 = .ok (.getfield 24, 3) := by decide +kernel
theorem dX8_step_44 : decode cX8_step 44 = .ok (.iconst 1, 1) := by decide +kernel
theorem dX8_step_45 : decode cX8_step 45 = .ok (.iadd, 1) := by decide +kernel
theorem dX8_step_46 : decode cX8_step 46 = .ok (.putfield 24, 3) := by decide +kernel
theorem dX8_step_49 : decode cX8_step 49 = .ok (.goto (-49), 3) := by decide +kernel
theorem dX8_step_52 : decode cX8_step 52 = .ok (.aload_n 0, 1) := by decide +kernel
theorem dX8_step_53 : decode cX8_step 53 = .ok (.aload_n 0, 1) := by decide +kernel
theorem dX8_step_54 : decode cX8_step 54 = .ok (.getfield 24, 3) := by decide +kernel
theorem dX8_step_57 : decode cX8_step 57 = .ok (.putfield 15, 3) := by decide +kernel
theorem dX8_step_60 : decode cX8_step 60 = .ok (.aload_n 0, 1) := by decide +kernel
theorem dX8_step_61 : decode cX8_step 61 = .ok (.getfield 24, 3) := by decide +kernel
theorem dX8_step_64 : decode cX8_step 64 = .ok (.aload_n 0, 1) := by decide +kernel
theorem dX8_step_65 : decode cX8_step 65 = .ok (.getfield 21, 3) := by decide +kernel
theorem dX8_step_68 : decode cX8_step 68 = .ok (.if_icmp .lt 11, 3) := by decide +kernel
theorem dX8_step_71 : decode cX8_step 71 = .ok (.aload_n 0, 1) := by decide +kernel
theorem dX8_step_72 : decode cX8_step 72 = .ok (.iconst 0, 1) := by decide +kernel
theorem dX8_step_73 : decode cX8_step 73 = .ok (.putfield 11, 3) := by decide +kernel
theorem dX8_step_76 : decode cX8_step 76 = .ok (.goto 51, 3) := by decide +kernel
theorem dX8_step_79 : decode cX8_step 79 = .ok (.aload_n 0, 1) := by decide +kernel
theorem dX8_step_80 : decode cX8_step 80 = .ok (.getfield 31, 3) := by decide +kernel
theorem dX8_step_83 : decode cX8_step 83 = .ok (.aload_n 0, 1) := by decide +kernel
theorem dX8_step_84 : decode cX8_step 84 = .ok (.getfield 24, 3) := by decide +kernel
theorem dX8_step_87 : decode cX8_step 87 = .ok (.baload, 1) := by decide +kernel
theorem dX8_step_88 : decode cX8_step 88 = .ok (.invokestatic 52, 3) := by decide +kernel
theorem dX8_step_91 : decode cX8_step 91 = .ok (.ifCond .eq 10, 3) := by decide +kernel
theorem dX8_step_94 : decode cX8_step 94 = .ok (.aload_n 0, 1) := by decide +kernel
theorem dX8_step_95 : decode cX8_step 95 = .ok (.invokevirtual 56, 3) := by decide +kernel
theorem dX8_step_98 : decode cX8_step 98 = .ok (.goto 29, 3) := by decide +kernel
theorem dX8_step_101 : decode cX8_step 101 = .ok (.aload_n 0, 1) := by decide +kernel
theorem dX8_step_102 : decode cX8_step 102 = .ok (.getfield 31, 3) := by decide +kernel
theorem dX8_step_105 : decode cX8_step 105 = .ok (.aload_n 0, 1) := by decide +kernel
theorem dX8_step_106 : decode cX8_step 106 = .ok (.getfield 24, 3) := by decide +kernel
theorem dX8_step_109 : decode cX8_step 109 = .ok (.baload, 1) := by decide +kernel
theorem dX8_step_110 : decode cX8_step 110 = .ok (.invokestatic 59, 3) := by decide +kernel
theorem dX8_step_113 : decode cX8_step 113 = .ok (.ifCond .eq 10, 3) := by decide +kernel
theorem dX8_step_116 : decode cX8_step 116 = .ok (.aload_n 0, 1) := by decide +kernel
theorem dX8_step_117 : decode cX8_step 117 = .ok (.invokevirtual 62, 3) := by decide +kernel
theorem dX8_step_120 : decode cX8_step 120 = .ok (.goto 7, 3) := by decide +kernel
theorem dX8_step_123 : decode cX8_step 123 = .ok (.aload_n 0, 1) := by decide +kernel
theorem dX8_step_124 : decode cX8_step 124 = .ok (.invokevirtual 65, 3) := by decide +kernel
theorem dX8_step_127 : decode cX8_step 127 = .ok (.return_, 1) := by decide +kernel
theorem dX1_reads_0 : decode cX1_reads 0 = .ok (.aload_n 0, 1) := by decide +kernel
theorem dX1_reads_1 : decode cX1_reads 1 = .ok (.aload_n 1, 1) := by decide +kernel
theorem dX1_reads_2 : decode cX1_reads 2 = .ok (.putfield 35, 3) := by decide +kernel
theorem dX1_reads_5 : decode cX1_reads 5 = .ok (.aload_n 0, 1) := by decide +kernel
theorem dX1_reads_6 : decode cX1_reads 6 = .ok (.iconst 0, 1) := by decide +kernel
theorem dX1_reads_7 : decode cX1_reads 7 = .ok (.putfield 17, 3) := by decide +kernel
theorem dX1_reads_10 : decode cX1_reads 10 = .ok (.aload_n 0, 1) := by decide +kernel
theorem dX1_reads_11 : decode cX1_reads 11 = .ok (.iconst 0, 1) := by decide +kernel
theorem dX1_reads_12 : decode cX1_reads 12 = .ok (.putfield 21, 3) := by decide +kernel
theorem dX1_reads_15 : decode cX1_reads 15 = .ok (.aload_n 0, 1) := by decide +kernel
theorem dX1_reads_16 : decode cX1_reads 16 = .ok (.aload_n 0, 1) := by decide +kernel
theorem dX1_reads_17 : decode cX1_reads 17 = .ok (.getfield 35, 3) := by decide +kernel
theorem dX1_reads_20 : decode cX1_reads 20 = .ok (.getfield 39, 3) := by decide +kernel
theorem dX1_reads_23 : decode cX1_reads 23 = .ok (.putfield 24, 3) := by decide +kernel
theorem dX1_reads_26 : decode cX1_reads 26 = .ok (.aload_n 0, 1) := by decide +kernel
theorem dX1_reads_27 : decode cX1_reads 27 = .ok (.iconst 1, 1) := by decide +kernel
theorem dX1_reads_28 : decode cX1_reads 28 = .ok (.putfield 27, 3) := by decide +kernel
theorem dX1_reads_31 : decode cX1_reads 31 = .ok (.aload_n 0, 1) := by decide +kernel
theorem dX1_reads_32 : decode cX1_reads 32 = .ok (.getfield 35, 3) := by decide +kernel
theorem dX1_reads_35 : decode cX1_reads 35 = .ok (.getfield 42, 3) := by decide +kernel
theorem dX1_reads_38 : decode cX1_reads 38 = .ok (.iload_n 2, 1) := by decide +kernel
theorem dX1_reads_39 : decode cX1_reads 39 = .ok (.aload_n 0, 1) := by decide +kernel
theorem dX1_reads_40 : decode cX1_reads 40 = .ok (.getfield 24, 3) := by decide +kernel
theorem dX1_reads_43 : decode cX1_reads 43 = .ok (.iastore, 1) := by decide +kernel
theorem dX1_reads_44 : decode cX1_reads 44 = .ok (.iconst 0, 1) := by decide +kernel
theorem dX1_reads_45 : decode cX1_reads 45 = .ok (.istore_n 3, 1) := by decide +kernel
theorem dX1_reads_46 : decode cX1_reads 46 = .ok (.iload_n 3, 1) := by decide +kernel
theorem dX1_reads_47 : decode cX1_reads 47 = .ok (.sipush 700, 3) := by decide +kernel
theorem dX1_reads_50 : decode cX1_reads 50 = .ok (.if_icmp .ge 72, 3) := by decide +kernel
theorem dX1_reads_53 : decode cX1_reads 53 = .ok (.aload_n 0, 1) := by decide +kernel
theorem dX1_reads_54 : decode cX1_reads 54 = .ok (.invokevirtual 45, 3) := by decide +kernel
theorem dX1_reads_57 : decode cX1_reads 57 = .ok (.ifCond .ne 65, 3) := by decide +kernel
theorem dX1_reads_60 : decode cX1_reads 60 = .ok (.aload_n 0, 1) := by decide +kernel
theorem dX1_reads_61 : decode cX1_reads 61 = .ok (.getfield 27, 3) := by decide +kernel
theorem dX1_reads_64 : decode cX1_reads 64 = .ok (.ifCond .eq 12, 3) := by decide +kernel
theorem dX1_reads_67 : decode cX1_reads 67 = .ok (.aload_n 0, 1) := by decide +kernel
theorem dX1_reads_68 : decode cX1_reads 68 = .ok (.invokevirtual 49, 3) := by decide +kernel
theorem dX1_reads_71 : decode cX1_reads 71 = .ok (.istore 4, 2) := by decide +kernel
theorem dX1_reads_73 : decode cX1_reads 73 = .ok (.goto 28, 3) := by decide +kernel
theorem dX1_reads_76 : decode cX1_reads 76 = .ok (.aload_n 0, 1) := by decide +kernel
theorem dX1_reads_77 : decode cX1_reads 77 = .ok (.getfield 31, 3) := by decide +kernel
theorem dX1_reads_80 : decode cX1_reads 80 = .ok (.bipush 14, 2) := by decide +kernel
theorem dX1_reads_82 : decode cX1_reads 82 = .ok (.invokevirtual 53, 3) := by decide +kernel
theorem dX1_reads_85 : decode cX1_reads 85 = .ok (.ifCond .eq 10, 3) := by decide +kernel
theorem dX1_reads_88 : decode cX1_reads 88 = .ok (.aload_n 0, 1) := by decide +kernel
theorem dX1_reads_89 : decode cX1_reads 89 = .ok (.invokevirtual 59, 3) := by decide +kernel
theorem dX1_reads_92 : decode cX1_reads 92 = .ok (.goto 7, 3) := by decide +kernel
theorem dX1_reads_95 : decode cX1_reads 95 = .ok (.aload_n 0, 1) := by decide +kernel
theorem dX1_reads_96 : decode cX1_reads 96 = .ok (.invokevirtual 62, 3) := by decide +kernel
theorem dX1_reads_99 : decode cX1_reads 99 = .ok (.istore 4, 2) := by decide +kernel
theorem dX1_reads_101 : decode cX1_reads 101 = .ok (.iload 4, 2) := by decide +kernel
theorem dX1_reads_103 : decode cX1_reads 103 = .ok (.ifCond .eq 6, 3) := by decide +kernel
theorem dX1_reads_106 : decode cX1_reads 106 = .ok (.iload 4, 2) := by decide +kernel
theorem dX1_reads_108 : decode cX1_reads 108 = .ok (.ireturn, 1) := by decide +kernel
theorem dX1_reads_109 : decode cX1_reads 109 = .ok (.aload_n 0, 1) := by decide +kernel
theorem dX1_reads_110 : decode cX1_reads 110 = .ok (.getfield 31, 3) := by decide +kernel
theorem dX1_reads_113 : decode cX1_reads 113 = .ok (.invokevirtual 65, 3) := by decide +kernel
theorem dX1_reads_116 : decode cX1_reads 116 = .ok (.iinc 3 1, 3) := by decide +kernel
theorem dX1_reads_119 : decode cX1_reads 119 = .ok (.goto (-73), 3) := by decide +kernel
theorem dX1_reads_122 : decode cX1_reads 122 = .ok (.aload_n 0, 1) := by decide +kernel
theorem dX1_reads_123 : decode cX1_reads 123 = .ok (.iconst 1, 1) := by decide +kernel
theorem dX1_reads_124 : decode cX1_reads 124 = .ok (.invokevirtual 68, 3) := by decide +kernel
theorem dX1_reads_127 : decode cX1_reads 127 = .ok (.aload_n 0, 1) := by decide +kernel
theorem dX1_reads_128 : decode cX1_reads 128 = .ok (.getfield 35, 3) := by decide +kernel
theorem dX1_reads_131 : decode cX1_reads 131 = .ok (.getfield 72, 3) := by decide +kernel
theorem dX1_reads_134 : decode cX1_reads 134 = .ok (.iload_n 2, 1) := by decide +kernel
theorem dX1_reads_135 : decode cX1_reads 135 = .ok (.aload_n 0, 1) := by decide +kernel
theorem dX1_reads_136 : decode cX1_reads 136 = .ok (.getfield 24, 3) := by decide +kernel
theorem dX1_reads_139 : decode cX1_reads 139 = .ok (.iastore, 1) := by decide +kernel
theorem dX1_reads_140 : decode cX1_reads 140 = .ok (.iconst 0, 1) := by decide +kernel
theorem dX1_reads_141 : decode cX1_reads 141 = .ok (.ireturn, 1) := by decide +kernel
theorem dX2_clear_0 : decode cX2_clear 0 = .ok (.aload_n 0, 1) := by decide +kernel
theorem dX2_clear_1 : decode cX2_clear 1 = .ok (.iconst 0, 1) := by decide +kernel
theorem dX2_clear_2 : decode cX2_clear 2 = .ok (.putfield 23, 3) := by decide +kernel
theorem dX2_clear_5 : decode cX2_clear 5 = .ok (.iconst 0, 1) := by decide +kernel
theorem dX2_clear_6 : decode cX2_clear 6 = .ok (.istore_n 1, 1) := by decide +kernel
theorem dX2_clear_7 : decode cX2_clear 7 = .ok (.iload_n 1, 1) := by decide +kernel
theorem dX2_clear_8 : decode cX2_clear 8 = .ok (.iconst 3, 1) := by decide +kernel
theorem dX2_clear_9 : decode cX2_clear 9 = .ok (.if_icmp .ge 23, 3) := by decide +kernel
theorem dX2_clear_12 : decode cX2_clear 12 = .ok (.aload_n 0, 1) := by decide +kernel
theorem dX2_clear_13 : decode cX2_clear 13 = .ok (.getfield 17, 3) := by decide +kernel
theorem dX2_clear_16 : decode cX2_clear 16 = .ok (.iload_n 1, 1) := by decide +kernel
theorem dX2_clear_17 : decode cX2_clear 17 = .ok (.iconst 0, 1) := by decide +kernel
theorem dX2_clear_18 : decode cX2_clear 18 = .ok (.iastore, 1) := by decide +kernel
theorem dX2_clear_19 : decode cX2_clear 19 = .ok (.aload_n 0, 1) := by decide +kernel
theorem dX2_clear_20 : decode cX2_clear 20 = .ok (.getfield 20, 3) := by decide +kernel
theorem dX2_clear_23 : decode cX2_clear 23 = .ok (.iload_n 1, 1) := by decide +kernel
theorem dX2_clear_24 : decode cX2_clear 24 = .ok (.iconst 0, 1) := by decide +kernel
theorem dX2_clear_25 : decode cX2_clear 25 = .ok (.iastore, 1) := by decide +kernel
theorem dX2_clear_26 : decode cX2_clear 26 = .ok (.iinc 1 1, 3) := by decide +kernel
theorem dX2_clear_29 : decode cX2_clear 29 = .ok (.goto (-22), 3) := by decide +kernel
theorem dX2_clear_32 : decode cX2_clear 32 = .ok (.return_, 1) := by decide +kernel
theorem dX3_clear_0 : decode cX3_clear 0 = .ok (.aload_n 0, 1) := by decide +kernel
theorem dX3_clear_1 : decode cX3_clear 1 = .ok (.iconst 0, 1) := by decide +kernel
theorem dX3_clear_2 : decode cX3_clear 2 = .ok (.putfield 9, 3) := by decide +kernel
theorem dX3_clear_5 : decode cX3_clear 5 = .ok (.return_, 1) := by decide +kernel
theorem dX3_note_0 : decode cX3_note 0 = .ok (.aload_n 0, 1) := by decide +kernel
theorem dX3_note_1 : decode cX3_note 1 = .ok (.getfield 9, 3) := by decide +kernel
theorem dX3_note_4 : decode cX3_note 4 = .ok (.bipush 20, 2) := by decide +kernel
theorem dX3_note_6 : decode cX3_note 6 = .ok (.if_icmp .lt 29, 3) := by decide +kernel
theorem dX3_note_9 : decode cX3_note 9 = .ok (.aload_n 0, 1) := by decide +kernel
theorem dX3_note_10 : decode cX3_note 10 = .ok (.getfield 15, 3) := by decide +kernel
theorem dX3_note_13 : decode cX3_note 13 = .ok (.iconst 4, 1) := by decide +kernel
theorem dX3_note_14 : decode cX3_note 14 = .ok (.aload_n 0, 1) := by decide +kernel
theorem dX3_note_15 : decode cX3_note 15 = .ok (.getfield 15, 3) := by decide +kernel
theorem dX3_note_18 : decode cX3_note 18 = .ok (.iconst 0, 1) := by decide +kernel
theorem dX3_note_19 : decode cX3_note 19 = .ok (.aload_n 0, 1) := by decide +kernel
theorem dX3_note_20 : decode cX3_note 20 = .ok (.getfield 15, 3) := by decide +kernel
theorem dX3_note_23 : decode cX3_note 23 = .ok (.arraylength, 1) := by decide +kernel
theorem dX3_note_24 : decode cX3_note 24 = .ok (.iconst 4, 1) := by decide +kernel
theorem dX3_note_25 : decode cX3_note 25 = .ok (.isub, 1) := by decide +kernel
theorem dX3_note_26 : decode cX3_note 26 = .ok (.invokestatic 19, 3) := by decide +kernel
theorem dX3_note_29 : decode cX3_note 29 = .ok (.aload_n 0, 1) := by decide +kernel
theorem dX3_note_30 : decode cX3_note 30 = .ok (.bipush 19, 2) := by decide +kernel
theorem dX3_note_32 : decode cX3_note 32 = .ok (.putfield 9, 3) := by decide +kernel
theorem dX3_note_35 : decode cX3_note 35 = .ok (.aload_n 0, 1) := by decide +kernel
theorem dX3_note_36 : decode cX3_note 36 = .ok (.getfield 15, 3) := by decide +kernel
theorem dX3_note_39 : decode cX3_note 39 = .ok (.aload_n 0, 1) := by decide +kernel
theorem dX3_note_40 : decode cX3_note 40 = .ok (.getfield 9, 3) := by decide +kernel
theorem dX3_note_43 : decode cX3_note 43 = .ok (.iconst 4, 1) := by decide +kernel
theorem dX3_note_44 : decode cX3_note 44 = .ok (.imul, 1) := by decide +kernel
theorem dX3_note_45 : decode cX3_note 45 = .ok (.iload_n 1, 1) := by decide +kernel
theorem dX3_note_46 : decode cX3_note 46 = .ok (.iastore, 1) := by decide +kernel
theorem dX3_note_47 : decode cX3_note 47 = .ok (.aload_n 0, 1) := by decide +kernel
theorem dX3_note_48 : decode cX3_note 48 = .ok (.getfield 15, 3) := by decide +kernel
theorem dX3_note_51 : decode cX3_note 51 = .ok (.aload_n 0, 1) := by decide +kernel
theorem dX3_note_52 : decode cX3_note 52 = .ok (.getfield 9, 3) := by decide +kernel
theorem dX3_note_55 : decode cX3_note 55 = .ok (.iconst 4, 1) := by decide +kernel
theorem dX3_note_56 : decode cX3_note 56 = .ok (.imul, 1) := by decide +kernel
theorem dX3_note_57 : decode cX3_note 57 = .ok (.iconst 1, 1) := by decide +kernel
theorem dX3_note_58 : decode cX3_note 58 = .ok (.iadd, 1) := by decide +kernel
theorem dX3_note_59 : decode cX3_note 59 = .ok (.iload_n 2, 1) := by decide +kernel
theorem dX3_note_60 : decode cX3_note 60 = .ok (.iastore, 1) := by decide +kernel
theorem dX3_note_61 : decode cX3_note 61 = .ok (.aload_n 0, 1) := by decide +kernel
theorem dX3_note_62 : decode cX3_note 62 = .ok (.getfield 15, 3) := by decide +kernel
theorem dX3_note_65 : decode cX3_note 65 = .ok (.aload_n 0, 1) := by decide +kernel
theorem dX3_note_66 : decode cX3_note 66 = .ok (.getfield 9, 3) := by decide +kernel
theorem dX3_note_69 : decode cX3_note 69 = .ok (.iconst 4, 1) := by decide +kernel
theorem dX3_note_70 : decode cX3_note 70 = .ok (.imul, 1) := by decide +kernel
theorem dX3_note_71 : decode cX3_note 71 = .ok (.iconst 2, 1) := by decide +kernel
theorem dX3_note_72 : decode cX3_note 72 = .ok (.iadd, 1) := by decide +kernel
theorem dX3_note_73 : decode cX3_note 73 = .ok (.iload_n 3, 1) := by decide +kernel
theorem dX3_note_74 : decode cX3_note 74 = .ok (.iastore, 1) := by decide +kernel
theorem dX3_note_75 : decode cX3_note 75 = .ok (.aload_n 0, 1) := by decide +kernel
theorem dX3_note_76 : decode cX3_note 76 = .ok (.getfield 15, 3) := by decide +kernel
theorem dX3_note_79 : decode cX3_note 79 = .ok (.aload_n 0, 1) := by decide +kernel
theorem dX3_note_80 : decode cX3_note 80 = .ok (.getfield 9, 3) := by decide +kernel
theorem dX3_note_83 : decode cX3_note 83 = .ok (.iconst 4, 1) := by decide +kernel
theorem dX3_note_84 : decode cX3_note 84 = .ok (.imul, 1) := by decide +kernel
theorem dX3_note_85 : decode cX3_note 85 = .ok (.iconst 3, 1) := by decide +kernel
theorem dX3_note_86 : decode cX3_note 86 = .ok (.iadd, 1) := by decide +kernel
theorem dX3_note_87 : decode cX3_note 87 = .ok (.iload 4, 2) := by decide +kernel
theorem dX3_note_89 : decode cX3_note 89 = .ok (.iastore, 1) := by decide +kernel
theorem dX3_note_90 : decode cX3_note 90 = .ok (.aload_n 0, 1) := by decide +kernel
theorem dX3_note_91 : decode cX3_note 91 = .ok (.dup, 1) := by decide +kernel
theorem dX3_note_92 : decode cX3_note 92 = .ok (.getfield 9, 3) := by decide +kernel
theorem dX3_note_95 : decode cX3_note 95 = .ok (.iconst 1, 1) := by decide +kernel
theorem dX3_note_96 : decode cX3_note 96 = .ok (.iadd, 1) := by decide +kernel
theorem dX3_note_97 : decode cX3_note 97 = .ok (.putfield 9, 3) := by decide +kernel
theorem dX3_note_100 : decode cX3_note 100 = .ok (.return_, 1) := by decide +kernel
theorem dX3_at_0 : decode cX3_at 0 = .ok (.aload_n 0, 1) := by decide +kernel
theorem dX3_at_1 : decode cX3_at 1 = .ok (.getfield 15, 3) := by decide +kernel
theorem dX3_at_4 : decode cX3_at 4 = .ok (.iload_n 1, 1) := by decide +kernel
theorem dX3_at_5 : decode cX3_at 5 = .ok (.iconst 4, 1) := by decide +kernel
theorem dX3_at_6 : decode cX3_at 6 = .ok (.imul, 1) := by decide +kernel
theorem dX3_at_7 : decode cX3_at 7 = .ok (.iload_n 2, 1) := by decide +kernel
theorem dX3_at_8 : decode cX3_at 8 = .ok (.iadd, 1) := by decide +kernel
theorem dX3_at_9 : decode cX3_at 9 = .ok (.iaload, 1) := by decide +kernel
theorem dX3_at_10 : decode cX3_at 10 = .ok (.ireturn, 1) := by decide +kernel
theorem dX4_choose_0 : decode cX4_choose 0 = .ok (.aload_n 0, 1) := by decide +kernel
theorem dX4_choose_1 : decode cX4_choose 1 = .ok (.iconst 0, 1) := by decide +kernel
theorem dX4_choose_2 : decode cX4_choose 2 = .ok (.putfield 22, 3) := by decide +kernel
theorem dX4_choose_5 : decode cX4_choose 5 = .ok (.aload_n 0, 1) := by decide +kernel
theorem dX4_choose_6 : decode cX4_choose 6 = .ok (.iconst 0, 1) := by decide +kernel
theorem dX4_choose_7 : decode cX4_choose 7 = .ok (.putfield 9, 3) := by decide +kernel
theorem dX4_choose_10 : decode cX4_choose 10 = .ok (.iconst 0, 1) := by decide +kernel
theorem dX4_choose_11 : decode cX4_choose 11 = .ok (.istore_n 2, 1) := by decide +kernel
theorem dX4_choose_12 : decode cX4_choose 12 = .ok (.iload_n 2, 1) := by decide +kernel
theorem dX4_choose_13 : decode cX4_choose 13 = .ok (.aload_n 1, 1) := by decide +kernel
theorem dX4_choose_14 : decode cX4_choose 14 = .ok (.getfield 29, 3) := by decide +kernel
theorem dX4_choose_17 : decode cX4_choose 17 = .ok (.if_icmp .ge 46, 3) := by decide +kernel
theorem dX4_choose_20 : decode cX4_choose 20 = .ok (.aload_n 0, 1) := by decide +kernel
theorem dX4_choose_21 : decode cX4_choose 21 = .ok (.getfield 9, 3) := by decide +kernel
theorem dX4_choose_24 : decode cX4_choose 24 = .ok (.iconst 4, 1) := by decide +kernel
theorem dX4_choose_25 : decode cX4_choose 25 = .ok (.if_icmp .ge 38, 3) := by decide +kernel
theorem dX4_choose_28 : decode cX4_choose 28 = .ok (.aload_n 1, 1) := by decide +kernel
theorem dX4_choose_29 : decode cX4_choose 29 = .ok (.iload_n 2, 1) := by decide +kernel
theorem dX4_choose_30 : decode cX4_choose 30 = .ok (.iconst 3, 1) := by decide +kernel
theorem dX4_choose_31 : decode cX4_choose 31 = .ok (.invokevirtual 34, 3) := by decide +kernel
theorem dX4_choose_34 : decode cX4_choose 34 = .ok (.ifCond .ne 23, 3) := by decide +kernel
theorem dX4_choose_37 : decode cX4_choose 37 = .ok (.aload_n 0, 1) := by decide +kernel
theorem dX4_choose_38 : decode cX4_choose 38 = .ok (.getfield 26, 3) := by decide +kernel
theorem dX4_choose_41 : decode cX4_choose 41 = .ok (.aload_n 0, 1) := by decide +kernel
theorem dX4_choose_42 : decode cX4_choose 42 = .ok (.getfield 9, 3) := by decide +kernel
theorem dX4_choose_45 : decode cX4_choose 45 = .ok (.iload_n 2, 1) := by decide +kernel
theorem dX4_choose_46 : decode cX4_choose 46 = .ok (.iastore, 1) := by decide +kernel
theorem dX4_choose_47 : decode cX4_choose 47 = .ok (.aload_n 0, 1) := by decide +kernel
theorem dX4_choose_48 : decode cX4_choose 48 = .ok (.dup, 1) := by decide +kernel
theorem dX4_choose_49 : decode cX4_choose 49 = .ok (.getfield 9, 3) := by decide +kernel
theorem dX4_choose_52 : decode cX4_choose 52 = .ok (.iconst 1, 1) := by decide +kernel
theorem dX4_choose_53 : decode cX4_choose 53 = .ok (.iadd, 1) := by decide +kernel
theorem dX4_choose_54 : decode cX4_choose 54 = .ok (.putfield 9, 3) := by decide +kernel
theorem dX4_choose_57 : decode cX4_choose 57 = .ok (.iinc 2 1, 3) := by decide +kernel
theorem dX4_choose_60 : decode cX4_choose 60 = .ok (.goto (-48), 3) := by decide +kernel
theorem dX4_choose_63 : decode cX4_choose 63 = .ok (.return_, 1) := by decide +kernel
theorem dX4_digit_0 : decode cX4_digit 0 = .ok (.iload_n 0, 1) := by decide +kernel
theorem dX4_digit_1 : decode cX4_digit 1 = .ok (.bipush 6, 2) := by decide +kernel
theorem dX4_digit_3 : decode cX4_digit 3 = .ok (.iconst 2, 1) := by decide +kernel
theorem dX4_digit_4 : decode cX4_digit 4 = .ok (.iload_n 1, 1) := by decide +kernel
theorem dX4_digit_5 : decode cX4_digit 5 = .ok (.imul, 1) := by decide +kernel
theorem dX4_digit_6 : decode cX4_digit 6 = .ok (.isub, 1) := by decide +kernel
theorem dX4_digit_7 : decode cX4_digit 7 = .ok (.ishr, 1) := by decide +kernel
theorem dX4_digit_8 : decode cX4_digit 8 = .ok (.iconst 3, 1) := by decide +kernel
theorem dX4_digit_9 : decode cX4_digit 9 = .ok (.iand, 1) := by decide +kernel
theorem dX4_digit_10 : decode cX4_digit 10 = .ok (.ireturn, 1) := by decide +kernel
theorem dX4_isRow_0 : decode cX4_isRow 0 = .ok (.iconst 0, 1) := by decide +kernel
theorem dX4_isRow_1 : decode cX4_isRow 1 = .ok (.istore_n 2, 1) := by decide +kernel
theorem dX4_isRow_2 : decode cX4_isRow 2 = .ok (.iconst 0, 1) := by decide +kernel
theorem dX4_isRow_3 : decode cX4_isRow 3 = .ok (.istore_n 3, 1) := by decide +kernel
theorem dX4_isRow_4 : decode cX4_isRow 4 = .ok (.iload_n 3, 1) := by decide +kernel
theorem dX4_isRow_5 : decode cX4_isRow 5 = .ok (.iconst 4, 1) := by decide +kernel
theorem dX4_isRow_6 : decode cX4_isRow 6 = .ok (.if_icmp .ge 71, 3) := by decide +kernel
theorem dX4_isRow_9 : decode cX4_isRow 9 = .ok (.iload_n 1, 1) := by decide +kernel
theorem dX4_isRow_10 : decode cX4_isRow 10 = .ok (.iload_n 3, 1) := by decide +kernel
theorem dX4_isRow_11 : decode cX4_isRow 11 = .ok (.invokestatic 38, 3) := by decide +kernel
theorem dX4_isRow_14 : decode cX4_isRow 14 = .ok (.istore 4, 2) := by decide +kernel
theorem dX4_isRow_16 : decode cX4_isRow 16 = .ok (.iload 4, 2) := by decide +kernel
theorem dX4_isRow_18 : decode cX4_isRow 18 = .ok (.aload_n 0, 1) := by decide +kernel
theorem dX4_isRow_19 : decode cX4_isRow 19 = .ok (.getfield 9, 3) := by decide +kernel
theorem dX4_isRow_22 : decode cX4_isRow 22 = .ok (.if_icmp .ge 16, 3) := by decide +kernel
theorem dX4_isRow_25 : decode cX4_isRow 25 = .ok (.iload_n 2, 1) := by decide +kernel
theorem dX4_isRow_26 : decode cX4_isRow 26 = .ok (.iload 4, 2) := by decide +kernel
theorem dX4_isRow_28 : decode cX4_isRow 28 = .ok (.ishr, 1) := by decide +kernel
theorem dX4_isRow_29 : decode cX4_isRow 29 = .ok (.iconst 1, 1) := by decide +kernel
theorem dX4_isRow_30 : decode cX4_isRow 30 = .ok (.iand, 1) := by decide +kernel
theorem dX4_isRow_31 : decode cX4_isRow 31 = .ok (.ifCond .ne 7, 3) := by decide +kernel
theorem dX4_isRow_34 : decode cX4_isRow 34 = .ok (.iconst 1, 1) := by decide +kernel
theorem dX4_isRow_35 : decode cX4_isRow 35 = .ok (.goto 4, 3) := by decide +kernel
theorem dX4_isRow_38 : decode cX4_isRow 38 = .ok (.iconst 0, 1) := by decide +kernel
theorem dX4_isRow_39 : decode cX4_isRow 39 = .ok (.istore 5, 2) := by decide +kernel
theorem dX4_isRow_41 : decode cX4_isRow 41 = .ok (.iload_n 3, 1) := by decide +kernel
theorem dX4_isRow_42 : decode cX4_isRow 42 = .ok (.aload_n 0, 1) := by decide +kernel
theorem dX4_isRow_43 : decode cX4_isRow 43 = .ok (.getfield 9, 3) := by decide +kernel
theorem dX4_isRow_46 : decode cX4_isRow 46 = .ok (.if_icmp .ge 11, 3) := by decide +kernel
theorem dX4_isRow_49 : decode cX4_isRow 49 = .ok (.iload 5, 2) := by decide +kernel
theorem dX4_isRow_51 : decode cX4_isRow 51 = .ok (.ifCond .ne 13, 3) := by decide +kernel
theorem dX4_isRow_54 : decode cX4_isRow 54 = .ok (.goto 8, 3) := by decide +kernel
theorem dX4_isRow_57 : decode cX4_isRow 57 = .ok (.iload 4, 2) := by decide +kernel
theorem dX4_isRow_59 : decode cX4_isRow 59 = .ok (.ifCond .eq 5, 3) := by decide +kernel
theorem dX4_isRow_62 : decode cX4_isRow 62 = .ok (.iconst 0, 1) := by decide +kernel
theorem dX4_isRow_63 : decode cX4_isRow 63 = .ok (.ireturn, 1) := by decide +kernel
theorem dX4_isRow_64 : decode cX4_isRow 64 = .ok (.iload_n 2, 1) := by decide +kernel
theorem dX4_isRow_65 : decode cX4_isRow 65 = .ok (.iconst 1, 1) := by decide +kernel
theorem dX4_isRow_66 : decode cX4_isRow 66 = .ok (.iload 4, 2) := by decide +kernel
theorem dX4_isRow_68 : decode cX4_isRow 68 = .ok (.ishl, 1) := by decide +kernel
theorem dX4_isRow_69 : decode cX4_isRow 69 = .ok (.ior, 1) := by decide +kernel
theorem dX4_isRow_70 : decode cX4_isRow 70 = .ok (.istore_n 2, 1) := by decide +kernel
theorem dX4_isRow_71 : decode cX4_isRow 71 = .ok (.iinc 3 1, 3) := by decide +kernel
theorem dX4_isRow_74 : decode cX4_isRow 74 = .ok (.goto (-70), 3) := by decide +kernel
theorem dX4_isRow_77 : decode cX4_isRow 77 = .ok (.iconst 1, 1) := by decide +kernel
theorem dX4_isRow_78 : decode cX4_isRow 78 = .ok (.ireturn, 1) := by decide +kernel
theorem dX4_layOut_0 : decode cX4_layOut 0 = .ok (.iconst 0, 1) := by decide +kernel
theorem dX4_layOut_1 : decode cX4_layOut 1 = .ok (.istore_n 3, 1) := by decide +kernel
theorem dX4_layOut_2 : decode cX4_layOut 2 = .ok (.iload_n 3, 1) := by decide +kernel
theorem dX4_layOut_3 : decode cX4_layOut 3 = .ok (.aload_n 0, 1) := by decide +kernel
theorem dX4_layOut_4 : decode cX4_layOut 4 = .ok (.getfield 9, 3) := by decide +kernel
theorem dX4_layOut_7 : decode cX4_layOut 7 = .ok (.if_icmp .ge 32, 3) := by decide +kernel
theorem dX4_layOut_10 : decode cX4_layOut 10 = .ok (.aload_n 2, 1) := by decide +kernel
theorem dX4_layOut_11 : decode cX4_layOut 11 = .ok (.aload_n 0, 1) := by decide +kernel
theorem dX4_layOut_12 : decode cX4_layOut 12 = .ok (.getfield 26, 3) := by decide +kernel
theorem dX4_layOut_15 : decode cX4_layOut 15 = .ok (.iload_n 1, 1) := by decide +kernel
theorem dX4_layOut_16 : decode cX4_layOut 16 = .ok (.iload_n 3, 1) := by decide +kernel
theorem dX4_layOut_17 : decode cX4_layOut 17 = .ok (.invokestatic 38, 3) := by decide +kernel
theorem dX4_layOut_20 : decode cX4_layOut 20 = .ok (.iaload, 1) := by decide +kernel
theorem dX4_layOut_21 : decode cX4_layOut 21 = .ok (.iconst 2, 1) := by decide +kernel
theorem dX4_layOut_22 : decode cX4_layOut 22 = .ok (.aload_n 2, 1) := by decide +kernel
theorem dX4_layOut_23 : decode cX4_layOut 23 = .ok (.getfield 41, 3) := by decide +kernel
theorem dX4_layOut_26 : decode cX4_layOut 26 = .ok (.iconst 2, 1) := by decide +kernel
theorem dX4_layOut_27 : decode cX4_layOut 27 = .ok (.iload_n 3, 1) := by decide +kernel
theorem dX4_layOut_28 : decode cX4_layOut 28 = .ok (.imul, 1) := by decide +kernel
theorem dX4_layOut_29 : decode cX4_layOut 29 = .ok (.iadd, 1) := by decide +kernel
theorem dX4_layOut_30 : decode cX4_layOut 30 = .ok (.invokevirtual 44, 3) := by decide +kernel
theorem dX4_layOut_33 : decode cX4_layOut 33 = .ok (.iinc 3 1, 3) := by decide +kernel
theorem dX4_layOut_36 : decode cX4_layOut 36 = .ok (.goto (-34), 3) := by decide +kernel
theorem dX4_layOut_39 : decode cX4_layOut 39 = .ok (.return_, 1) := by decide +kernel
theorem dX4_weigh_0 : decode cX4_weigh 0 = .ok (.aload_n 0, 1) := by decide +kernel
theorem dX4_weigh_1 : decode cX4_weigh 1 = .ok (.getfield 22, 3) := by decide +kernel
theorem dX4_weigh_4 : decode cX4_weigh 4 = .ok (.ifCond .eq 12, 3) := by decide +kernel
theorem dX4_weigh_7 : decode cX4_weigh 7 = .ok (.iload_n 2, 1) := by decide +kernel
theorem dX4_weigh_8 : decode cX4_weigh 8 = .ok (.aload_n 0, 1) := by decide +kernel
theorem dX4_weigh_9 : decode cX4_weigh 9 = .ok (.getfield 15, 3) := by decide +kernel
theorem dX4_weigh_12 : decode cX4_weigh 12 = .ok (.if_icmp .gt 4, 3) := by decide +kernel
theorem dX4_weigh_15 : decode cX4_weigh 15 = .ok (.return_, 1) := by decide +kernel
theorem dX4_weigh_16 : decode cX4_weigh 16 = .ok (.aload_n 0, 1) := by decide +kernel
theorem dX4_weigh_17 : decode cX4_weigh 17 = .ok (.iconst 1, 1) := by decide +kernel
theorem dX4_weigh_18 : decode cX4_weigh 18 = .ok (.putfield 22, 3) := by decide +kernel
theorem dX4_weigh_21 : decode cX4_weigh 21 = .ok (.aload_n 0, 1) := by decide +kernel
theorem dX4_weigh_22 : decode cX4_weigh 22 = .ok (.iload_n 2, 1) := by decide +kernel
theorem dX4_weigh_23 : decode cX4_weigh 23 = .ok (.putfield 15, 3) := by decide +kernel
theorem dX4_weigh_26 : decode cX4_weigh 26 = .ok (.iconst 0, 1) := by decide +kernel
theorem dX4_weigh_27 : decode cX4_weigh 27 = .ok (.istore_n 3, 1) := by decide +kernel
theorem dX4_weigh_28 : decode cX4_weigh 28 = .ok (.iload_n 3, 1) := by decide +kernel
theorem dX4_weigh_29 : decode cX4_weigh 29 = .ok (.aload_n 0, 1) := by decide +kernel
theorem dX4_weigh_30 : decode cX4_weigh 30 = .ok (.getfield 9, 3) := by decide +kernel
theorem dX4_weigh_33 : decode cX4_weigh 33 = .ok (.if_icmp .ge 25, 3) := by decide +kernel
theorem dX4_weigh_36 : decode cX4_weigh 36 = .ok (.aload_n 0, 1) := by decide +kernel
theorem dX4_weigh_37 : decode cX4_weigh 37 = .ok (.getfield 18, 3) := by decide +kernel
theorem dX4_weigh_40 : decode cX4_weigh 40 = .ok (.iload_n 3, 1) := by decide +kernel
theorem dX4_weigh_41 : decode cX4_weigh 41 = .ok (.aload_n 0, 1) := by decide +kernel
theorem dX4_weigh_42 : decode cX4_weigh 42 = .ok (.getfield 26, 3) := by decide +kernel
theorem dX4_weigh_45 : decode cX4_weigh 45 = .ok (.iload_n 1, 1) := by decide +kernel
theorem dX4_weigh_46 : decode cX4_weigh 46 = .ok (.iload_n 3, 1) := by decide +kernel
theorem dX4_weigh_47 : decode cX4_weigh 47 = .ok (.invokestatic 38, 3) := by decide +kernel
theorem dX4_weigh_50 : decode cX4_weigh 50 = .ok (.iaload, 1) := by decide +kernel
theorem dX4_weigh_51 : decode cX4_weigh 51 = .ok (.iastore, 1) := by decide +kernel
theorem dX4_weigh_52 : decode cX4_weigh 52 = .ok (.iinc 3 1, 3) := by decide +kernel
theorem dX4_weigh_55 : decode cX4_weigh 55 = .ok (.goto (-27), 3) := by decide +kernel
theorem dX4_weigh_58 : decode cX4_weigh 58 = .ok (.return_, 1) := by decide +kernel
theorem dX9_clear_0 : decode cX9_clear 0 = .ok (.aload_n 0, 1) := by decide +kernel
theorem dX9_clear_1 : decode cX9_clear 1 = .ok (.getfield 9, 3) := by decide +kernel
theorem dX9_clear_4 : decode cX9_clear 4 = .ok (.iconst 0, 1) := by decide +kernel
theorem dX9_clear_5 : decode cX9_clear 5 = .ok (.iconst 0, 1) := by decide +kernel
theorem dX9_clear_6 : decode cX9_clear 6 = .ok (.iastore, 1) := by decide +kernel
theorem dX9_clear_7 : decode cX9_clear 7 = .ok (.aload_n 0, 1) := by decide +kernel
theorem dX9_clear_8 : decode cX9_clear 8 = .ok (.getfield 9, 3) := by decide +kernel
theorem dX9_clear_11 : decode cX9_clear 11 = .ok (.iconst 1, 1) := by decide +kernel
theorem dX9_clear_12 : decode cX9_clear 12 = .ok (.iconst 0, 1) := by decide +kernel
theorem dX9_clear_13 : decode cX9_clear 13 = .ok (.iastore, 1) := by decide +kernel
theorem dX9_clear_14 : decode cX9_clear 14 = .ok (.aload_n 0, 1) := by decide +kernel
theorem dX9_clear_15 : decode cX9_clear 15 = .ok (.getfield 9, 3) := by decide +kernel
theorem dX9_clear_18 : decode cX9_clear 18 = .ok (.iconst 2, 1) := by decide +kernel
theorem dX9_clear_19 : decode cX9_clear 19 = .ok (.iconst 0, 1) := by decide +kernel
theorem dX9_clear_20 : decode cX9_clear 20 = .ok (.iastore, 1) := by decide +kernel
theorem dX9_clear_21 : decode cX9_clear 21 = .ok (.aload_n 0, 1) := by decide +kernel
theorem dX9_clear_22 : decode cX9_clear 22 = .ok (.iconst 0, 1) := by decide +kernel
theorem dX9_clear_23 : decode cX9_clear 23 = .ok (.putfield 30, 3) := by decide +kernel
theorem dX9_clear_26 : decode cX9_clear 26 = .ok (.aload_n 0, 1) := by decide +kernel
theorem dX9_clear_27 : decode cX9_clear 27 = .ok (.iconst 0, 1) := by decide +kernel
theorem dX9_clear_28 : decode cX9_clear 28 = .ok (.putfield 37, 3) := by decide +kernel
theorem dX9_clear_31 : decode cX9_clear 31 = .ok (.aload_n 0, 1) := by decide +kernel
theorem dX9_clear_32 : decode cX9_clear 32 = .ok (.bipush 9, 2) := by decide +kernel
theorem dX9_clear_34 : decode cX9_clear 34 = .ok (.putfield 43, 3) := by decide +kernel
theorem dX9_clear_37 : decode cX9_clear 37 = .ok (.aload_n 0, 1) := by decide +kernel
theorem dX9_clear_38 : decode cX9_clear 38 = .ok (.iconst 0, 1) := by decide +kernel
theorem dX9_clear_39 : decode cX9_clear 39 = .ok (.putfield 46, 3) := by decide +kernel
theorem dX9_clear_42 : decode cX9_clear 42 = .ok (.aload_n 0, 1) := by decide +kernel
theorem dX9_clear_43 : decode cX9_clear 43 = .ok (.iconst 0, 1) := by decide +kernel
theorem dX9_clear_44 : decode cX9_clear 44 = .ok (.putfield 49, 3) := by decide +kernel
theorem dX9_clear_47 : decode cX9_clear 47 = .ok (.aload_n 0, 1) := by decide +kernel
theorem dX9_clear_48 : decode cX9_clear 48 = .ok (.getfield 55, 3) := by decide +kernel
theorem dX9_clear_51 : decode cX9_clear 51 = .ok (.invokevirtual 59, 3) := by decide +kernel
theorem dX9_clear_54 : decode cX9_clear 54 = .ok (.return_, 1) := by decide +kernel
theorem dX8_begin_0 : decode cX8_begin 0 = .ok (.aload_n 0, 1) := by decide +kernel
theorem dX8_begin_1 : decode cX8_begin 1 = .ok (.iload_n 1, 1) := by decide +kernel
theorem dX8_begin_2 : decode cX8_begin 2 = .ok (.aload_n 0, 1) := by decide +kernel
theorem dX8_begin_3 : decode cX8_begin 3 = .ok (.getfield 31, 3) := by decide +kernel
theorem dX8_begin_6 : decode cX8_begin 6 = .ok (.arraylength, 1) := by decide +kernel
theorem dX8_begin_7 : decode cX8_begin 7 = .ok (.invokestatic 46, 3) := by decide +kernel
theorem dX8_begin_10 : decode cX8_begin 10 = .ok (.putfield 21, 3) := by decide +kernel
theorem dX8_begin_13 : decode cX8_begin 13 = .ok (.aload_n 0, 1) := by decide +kernel
theorem dX8_begin_14 : decode cX8_begin 14 = .ok (.iconst 0, 1) := by decide +kernel
theorem dX8_begin_15 : decode cX8_begin 15 = .ok (.putfield 24, 3) := by decide +kernel
theorem dX8_begin_18 : decode cX8_begin 18 = .ok (.return_, 1) := by decide +kernel
theorem dX5_fail_0 : decode cX5_fail 0 = .ok (.aload_n 0, 1) := by decide +kernel
theorem dX5_fail_1 : decode cX5_fail 1 = .ok (.getfield 9, 3) := by decide +kernel
theorem dX5_fail_4 : decode cX5_fail 4 = .ok (.ifCond .ne 19, 3) := by decide +kernel
theorem dX5_fail_7 : decode cX5_fail 7 = .ok (.aload_n 0, 1) := by decide +kernel
theorem dX5_fail_8 : decode cX5_fail 8 = .ok (.iload_n 1, 1) := by decide +kernel
theorem dX5_fail_9 : decode cX5_fail 9 = .ok (.putfield 9, 3) := by decide +kernel
theorem dX5_fail_12 : decode cX5_fail 12 = .ok (.aload_n 0, 1) := by decide +kernel
theorem dX5_fail_13 : decode cX5_fail 13 = .ok (.aload_n 0, 1) := by decide +kernel
theorem dX5_fail_14 : decode cX5_fail 14 = .ok (.getfield 40, 3) := by decide +kernel
theorem dX5_fail_17 : decode cX5_fail 17 = .ok (.getfield 78, 3) := by decide +kernel
theorem dX5_fail_20 : decode cX5_fail 20 = .ok (.putfield 15, 3) := by decide +kernel
theorem dX5_fail_23 : decode cX5_fail 23 = .ok (.return_, 1) := by decide +kernel
theorem dX5_failIf_0 : decode cX5_failIf 0 = .ok (.iload_n 1, 1) := by decide +kernel
theorem dX5_failIf_1 : decode cX5_failIf 1 = .ok (.ifCond .eq 8, 3) := by decide +kernel
theorem dX5_failIf_4 : decode cX5_failIf 4 = .ok (.aload_n 0, 1) := by decide +kernel
theorem dX5_failIf_5 : decode cX5_failIf 5 = .ok (.iload_n 2, 1) := by decide +kernel
theorem dX5_failIf_6 : decode cX5_failIf 6 = .ok (.invokevirtual 81, 3) := by decide +kernel
theorem dX5_failIf_9 : decode cX5_failIf 9 = .ok (.return_, 1) := by decide +kernel
theorem dX9_find_0 : decode cX9_find 0 = .ok (.iconst 0, 1) := by decide +kernel
theorem dX9_find_1 : decode cX9_find 1 = .ok (.istore_n 3, 1) := by decide +kernel
theorem dX9_find_2 : decode cX9_find 2 = .ok (.iload_n 3, 1) := by decide +kernel
theorem dX9_find_3 : decode cX9_find 3 = .ok (.aload_n 0, 1) := by decide +kernel
theorem dX9_find_4 : decode cX9_find 4 = .ok (.getfield 9, 3) := by decide +kernel
theorem dX9_find_7 : decode cX9_find 7 = .ok (.iload_n 1, 1) := by decide +kernel
theorem dX9_find_8 : decode cX9_find 8 = .ok (.iaload, 1) := by decide +kernel
theorem dX9_find_9 : decode cX9_find 9 = .ok (.if_icmp .ge 25, 3) := by decide +kernel
theorem dX9_find_12 : decode cX9_find 12 = .ok (.aload_n 0, 1) := by decide +kernel
theorem dX9_find_13 : decode cX9_find 13 = .ok (.getfield 15, 3) := by decide +kernel
theorem dX9_find_16 : decode cX9_find 16 = .ok (.iload_n 1, 1) := by decide +kernel
theorem dX9_find_17 : decode cX9_find 17 = .ok (.iconst 5, 1) := by decide +kernel
theorem dX9_find_18 : decode cX9_find 18 = .ok (.imul, 1) := by decide +kernel
theorem dX9_find_19 : decode cX9_find 19 = .ok (.iload_n 3, 1) := by decide +kernel
theorem dX9_find_20 : decode cX9_find 20 = .ok (.iadd, 1) := by decide +kernel
theorem dX9_find_21 : decode cX9_find 21 = .ok (.iaload, 1) := by decide +kernel
theorem dX9_find_22 : decode cX9_find 22 = .ok (.iload_n 2, 1) := by decide +kernel
theorem dX9_find_23 : decode cX9_find 23 = .ok (.if_icmp .ne 5, 3) := by decide +kernel
theorem dX9_find_26 : decode cX9_find 26 = .ok (.iload_n 3, 1) := by decide +kernel
theorem dX9_find_27 : decode cX9_find 27 = .ok (.ireturn, 1) := by decide +kernel
theorem dX9_find_28 : decode cX9_find 28 = .ok (.iinc 3 1, 3) := by decide +kernel
theorem dX9_find_31 : decode cX9_find 31 = .ok (.goto (-29), 3) := by decide +kernel
theorem dX9_find_34 : decode cX9_find 34 = .ok (.iconst (-1), 1) := by decide +kernel
theorem dX9_find_35 : decode cX9_find 35 = .ok (.ireturn, 1) := by decide +kernel
theorem dX5_newOne_0 : decode cX5_newOne 0 = .ok (.aload_n 0, 1) := by decide +kernel
theorem dX5_newOne_1 : decode cX5_newOne 1 = .ok (.getfield 31, 3) := by decide +kernel
theorem dX5_newOne_4 : decode cX5_newOne 4 = .ok (.getfield 177, 3) := by decide +kernel
theorem dX5_newOne_7 : decode cX5_newOne 7 = .ok (.iload_n 1, 1) := by decide +kernel
theorem dX5_newOne_8 : decode cX5_newOne 8 = .ok (.iaload, 1) := by decide +kernel
theorem dX5_newOne_9 : decode cX5_newOne 9 = .ok (.istore_n 3, 1) := by decide +kernel
theorem dX5_newOne_10 : decode cX5_newOne 10 = .ok (.aload_n 0, 1) := by decide +kernel
theorem dX5_newOne_11 : decode cX5_newOne 11 = .ok (.iload_n 3, 1) := by decide +kernel
theorem dX5_newOne_12 : decode cX5_newOne 12 = .ok (.iload_n 2, 1) := by decide +kernel
theorem dX5_newOne_13 : decode cX5_newOne 13 = .ok (.if_icmp .lt 7, 3) := by decide +kernel
theorem dX5_newOne_16 : decode cX5_newOne 16 = .ok (.iconst 1, 1) := by decide +kernel
theorem dX5_newOne_17 : decode cX5_newOne 17 = .ok (.goto 4, 3) := by decide +kernel
theorem dX5_newOne_20 : decode cX5_newOne 20 = .ok (.iconst 0, 1) := by decide +kernel
theorem dX5_newOne_21 : decode cX5_newOne 21 = .ok (.iconst 2, 1) := by decide +kernel
theorem dX5_newOne_22 : decode cX5_newOne 22 = .ok (.invokevirtual 88, 3) := by decide +kernel
theorem dX5_newOne_25 : decode cX5_newOne 25 = .ok (.aload_n 0, 1) := by decide +kernel
theorem dX5_newOne_26 : decode cX5_newOne 26 = .ok (.getfield 40, 3) := by decide +kernel
theorem dX5_newOne_29 : decode cX5_newOne 29 = .ok (.invokevirtual 66, 3) := by decide +kernel
theorem dX5_newOne_32 : decode cX5_newOne 32 = .ok (.aload_n 0, 1) := by decide +kernel
theorem dX5_newOne_33 : decode cX5_newOne 33 = .ok (.aload_n 0, 1) := by decide +kernel
theorem dX5_newOne_34 : decode cX5_newOne 34 = .ok (.getfield 40, 3) := by decide +kernel
theorem dX5_newOne_37 : decode cX5_newOne 37 = .ok (.getfield 69, 3) := by decide +kernel
theorem dX5_newOne_40 : decode cX5_newOne 40 = .ok (.iconst 2, 1) := by decide +kernel
theorem dX5_newOne_41 : decode cX5_newOne 41 = .ok (.if_icmp .eq 7, 3) := by decide +kernel
theorem dX5_newOne_44 : decode cX5_newOne 44 = .ok (.iconst 1, 1) := by decide +kernel
theorem dX5_newOne_45 : decode cX5_newOne 45 = .ok (.goto 4, 3) := by decide +kernel
theorem dX5_newOne_48 : decode cX5_newOne 48 = .ok (.iconst 0, 1) := by decide +kernel
theorem dX5_newOne_49 : decode cX5_newOne 49 = .ok (.iconst 1, 1) := by decide +kernel
theorem dX5_newOne_50 : decode cX5_newOne 50 = .ok (.invokevirtual 88, 3) := by decide +kernel
theorem dX5_newOne_53 : decode cX5_newOne 53 = .ok (.aload_n 0, 1) := by decide +kernel
theorem dX5_newOne_54 : decode cX5_newOne 54 = .ok (.aload_n 0, 1) := by decide +kernel
theorem dX5_newOne_55 : decode cX5_newOne 55 = .ok (.getfield 31, 3) := by decide +kernel
theorem dX5_newOne_58 : decode cX5_newOne 58 = .ok (.iload_n 1, 1) := by decide +kernel
theorem dX5_newOne_59 : decode cX5_newOne 59 = .ok (.aload_n 0, 1) := by decide +kernel
theorem dX5_newOne_60 : decode cX5_newOne 60 = .ok (.getfield 40, 3) := by decide +kernel
theorem dX5_newOne_63 : decode cX5_newOne 63 = .ok (.getfield 92, 3) := by decide +kernel
theorem dX5_newOne_66 : decode cX5_newOne 66 = .ok (.invokevirtual 180, 3) := by decide +kernel
theorem dX5_newOne_69 : decode cX5_newOne 69 = .ok (.iconst (-1), 1) := by decide +kernel
theorem dX5_newOne_70 : decode cX5_newOne 70 = .ok (.if_icmp .eq 7, 3) := by decide +kernel
theorem dX5_newOne_73 : decode cX5_newOne 73 = .ok (.iconst 1, 1) := by decide +kernel
theorem dX5_newOne_74 : decode cX5_newOne 74 = .ok (.goto 4, 3) := by decide +kernel
theorem dX5_newOne_77 : decode cX5_newOne 77 = .ok (.iconst 0, 1) := by decide +kernel
theorem dX5_newOne_78 : decode cX5_newOne 78 = .ok (.iconst 3, 1) := by decide +kernel
theorem dX5_newOne_79 : decode cX5_newOne 79 = .ok (.invokevirtual 88, 3) := by decide +kernel
theorem dX5_newOne_82 : decode cX5_newOne 82 = .ok (.aload_n 0, 1) := by decide +kernel
theorem dX5_newOne_83 : decode cX5_newOne 83 = .ok (.getfield 9, 3) := by decide +kernel
theorem dX5_newOne_86 : decode cX5_newOne 86 = .ok (.ifCond .ne 36, 3) := by decide +kernel
theorem dX5_newOne_89 : decode cX5_newOne 89 = .ok (.aload_n 0, 1) := by decide +kernel
theorem dX5_newOne_90 : decode cX5_newOne 90 = .ok (.getfield 31, 3) := by decide +kernel
theorem dX5_newOne_93 : decode cX5_newOne 93 = .ok (.getfield 183, 3) := by decide +kernel
theorem dX5_newOne_96 : decode cX5_newOne 96 = .ok (.iload_n 1, 1) := by decide +kernel
theorem dX5_newOne_97 : decode cX5_newOne 97 = .ok (.iconst 5, 1) := by decide +kernel
theorem dX5_newOne_98 : decode cX5_newOne 98 = .ok (.imul, 1) := by decide +kernel
theorem dX5_newOne_99 : decode cX5_newOne 99 = .ok (.iload_n 3, 1) := by decide +kernel
theorem dX5_newOne_100 : decode cX5_newOne 100 = .ok (.iadd, 1) := by decide +kernel
theorem dX5_newOne_101 : decode cX5_newOne 101 = .ok (.aload_n 0, 1) := by decide +kernel
theorem dX5_newOne_102 : decode cX5_newOne 102 = .ok (.getfield 40, 3) := by decide +kernel
theorem dX5_newOne_105 : decode cX5_newOne 105 = .ok (.getfield 92, 3) := by decide +kernel
theorem dX5_newOne_108 : decode cX5_newOne 108 = .ok (.iastore, 1) := by decide +kernel
theorem dX5_newOne_109 : decode cX5_newOne 109 = .ok (.aload_n 0, 1) := by decide +kernel
theorem dX5_newOne_110 : decode cX5_newOne 110 = .ok (.getfield 31, 3) := by decide +kernel
theorem dX5_newOne_113 : decode cX5_newOne 113 = .ok (.getfield 177, 3) := by decide +kernel
theorem dX5_newOne_116 : decode cX5_newOne 116 = .ok (.iload_n 1, 1) := by decide +kernel
theorem dX5_newOne_117 : decode cX5_newOne 117 = .ok (.dup2, 1) := by decide +kernel
theorem dX5_newOne_118 : decode cX5_newOne 118 = .ok (.iaload, 1) := by decide +kernel
theorem dX5_newOne_119 : decode cX5_newOne 119 = .ok (.iconst 1, 1) := by decide +kernel
theorem dX5_newOne_120 : decode cX5_newOne 120 = .ok (.iadd, 1) := by decide +kernel
theorem dX5_newOne_121 : decode cX5_newOne 121 = .ok (.iastore, 1) := by decide +kernel
theorem dX5_newOne_122 : decode cX5_newOne 122 = .ok (.aload_n 0, 1) := by decide +kernel
theorem dX5_newOne_123 : decode cX5_newOne 123 = .ok (.getfield 40, 3) := by decide +kernel
theorem dX5_newOne_126 : decode cX5_newOne 126 = .ok (.invokevirtual 66, 3) := by decide +kernel
theorem dX5_newOne_129 : decode cX5_newOne 129 = .ok (.iload_n 3, 1) := by decide +kernel
theorem dX5_newOne_130 : decode cX5_newOne 130 = .ok (.ireturn, 1) := by decide +kernel
theorem dX5_number_0 : decode cX5_number 0 = .ok (.aload_n 0, 1) := by decide +kernel
theorem dX5_number_1 : decode cX5_number 1 = .ok (.aload_n 0, 1) := by decide +kernel
theorem dX5_number_2 : decode cX5_number 2 = .ok (.getfield 40, 3) := by decide +kernel
theorem dX5_number_5 : decode cX5_number 5 = .ok (.getfield 69, 3) := by decide +kernel
theorem dX5_number_8 : decode cX5_number 8 = .ok (.iconst 1, 1) := by decide +kernel
theorem dX5_number_9 : decode cX5_number 9 = .ok (.if_icmp .eq 7, 3) := by decide +kernel
theorem dX5_number_12 : decode cX5_number 12 = .ok (.iconst 1, 1) := by decide +kernel
theorem dX5_number_13 : decode cX5_number 13 = .ok (.goto 4, 3) := by decide +kernel
theorem dX5_number_16 : decode cX5_number 16 = .ok (.iconst 0, 1) := by decide +kernel
theorem dX5_number_17 : decode cX5_number 17 = .ok (.iconst 1, 1) := by decide +kernel
theorem dX5_number_18 : decode cX5_number 18 = .ok (.invokevirtual 88, 3) := by decide +kernel
theorem dX5_number_21 : decode cX5_number 21 = .ok (.aload_n 0, 1) := by decide +kernel
theorem dX5_number_22 : decode cX5_number 22 = .ok (.getfield 40, 3) := by decide +kernel
theorem dX5_number_25 : decode cX5_number 25 = .ok (.getfield 92, 3) := by decide +kernel
theorem dX5_number_28 : decode cX5_number 28 = .ok (.istore_n 3, 1) := by decide +kernel
theorem dX5_number_29 : decode cX5_number 29 = .ok (.aload_n 0, 1) := by decide +kernel
theorem dX5_number_30 : decode cX5_number 30 = .ok (.iload_n 3, 1) := by decide +kernel
theorem dX5_number_31 : decode cX5_number 31 = .ok (.iload_n 1, 1) := by decide +kernel
theorem dX5_number_32 : decode cX5_number 32 = .ok (.if_icmp .lt 8, 3) := by decide +kernel
theorem dX5_number_35 : decode cX5_number 35 = .ok (.iload_n 3, 1) := by decide +kernel
theorem dX5_number_36 : decode cX5_number 36 = .ok (.iload_n 2, 1) := by decide +kernel
theorem dX5_number_37 : decode cX5_number 37 = .ok (.if_icmp .le 7, 3) := by decide +kernel
theorem dX5_number_40 : decode cX5_number 40 = .ok (.iconst 1, 1) := by decide +kernel
theorem dX5_number_41 : decode cX5_number 41 = .ok (.goto 4, 3) := by decide +kernel
theorem dX5_number_44 : decode cX5_number 44 = .ok (.iconst 0, 1) := by decide +kernel
theorem dX5_number_45 : decode cX5_number 45 = .ok (.iconst 2, 1) := by decide +kernel
theorem dX5_number_46 : decode cX5_number 46 = .ok (.invokevirtual 88, 3) := by decide +kernel
theorem dX5_number_49 : decode cX5_number 49 = .ok (.aload_n 0, 1) := by decide +kernel
theorem dX5_number_50 : decode cX5_number 50 = .ok (.getfield 40, 3) := by decide +kernel
theorem dX5_number_53 : decode cX5_number 53 = .ok (.invokevirtual 66, 3) := by decide +kernel
theorem dX5_number_56 : decode cX5_number 56 = .ok (.iload_n 3, 1) := by decide +kernel
theorem dX5_number_57 : decode cX5_number 57 = .ok (.ireturn, 1) := by decide +kernel
theorem dX5_readMan_0 : decode cX5_readMan 0 = .ok (.aload_n 0, 1) := by decide +kernel
theorem dX5_readMan_1 : decode cX5_readMan 1 = .ok (.iconst 0, 1) := by decide +kernel
theorem dX5_readMan_2 : decode cX5_readMan 2 = .ok (.iconst 5, 1) := by decide +kernel
theorem dX5_readMan_3 : decode cX5_readMan 3 = .ok (.invokevirtual 122, 3) := by decide +kernel
theorem dX5_readMan_6 : decode cX5_readMan 6 = .ok (.istore_n 1, 1) := by decide +kernel
theorem dX5_readMan_7 : decode cX5_readMan 7 = .ok (.aload_n 0, 1) := by decide +kernel
theorem dX5_readMan_8 : decode cX5_readMan 8 = .ok (.iconst 0, 1) := by decide +kernel
theorem dX5_readMan_9 : decode cX5_readMan 9 = .ok (.sipush 999, 3) := by decide +kernel
theorem dX5_readMan_12 : decode cX5_readMan 12 = .ok (.invokevirtual 126, 3) := by decide +kernel
theorem dX5_readMan_15 : decode cX5_readMan 15 = .ok (.istore_n 2, 1) := by decide +kernel
theorem dX5_readMan_16 : decode cX5_readMan 16 = .ok (.aload_n 0, 1) := by decide +kernel
theorem dX5_readMan_17 : decode cX5_readMan 17 = .ok (.getfield 9, 3) := by decide +kernel
theorem dX5_readMan_20 : decode cX5_readMan 20 = .ok (.ifCond .ne 13, 3) := by decide +kernel
theorem dX5_readMan_23 : decode cX5_readMan 23 = .ok (.aload_n 0, 1) := by decide +kernel
theorem dX5_readMan_24 : decode cX5_readMan 24 = .ok (.getfield 31, 3) := by decide +kernel
theorem dX5_readMan_27 : decode cX5_readMan 27 = .ok (.getfield 129, 3) := by decide +kernel
theorem dX5_readMan_30 : decode cX5_readMan 30 = .ok (.iload_n 1, 1) := by decide +kernel
theorem dX5_readMan_31 : decode cX5_readMan 31 = .ok (.iload_n 2, 1) := by decide +kernel
theorem dX5_readMan_32 : decode cX5_readMan 32 = .ok (.iastore, 1) := by decide +kernel
theorem dX5_readMan_33 : decode cX5_readMan 33 = .ok (.return_, 1) := by decide +kernel
theorem dX5_readSort_0 : decode cX5_readSort 0 = .ok (.aload_n 0, 1) := by decide +kernel
theorem dX5_readSort_1 : decode cX5_readSort 1 = .ok (.iconst 1, 1) := by decide +kernel
theorem dX5_readSort_2 : decode cX5_readSort 2 = .ok (.iconst 5, 1) := by decide +kernel
theorem dX5_readSort_3 : decode cX5_readSort 3 = .ok (.invokevirtual 122, 3) := by decide +kernel
theorem dX5_readSort_6 : decode cX5_readSort 6 = .ok (.istore_n 1, 1) := by decide +kernel
theorem dX5_readSort_7 : decode cX5_readSort 7 = .ok (.aload_n 0, 1) := by decide +kernel
theorem dX5_readSort_8 : decode cX5_readSort 8 = .ok (.iconst 1, 1) := by decide +kernel
theorem dX5_readSort_9 : decode cX5_readSort 9 = .ok (.bipush 9, 2) := by decide +kernel
theorem dX5_readSort_11 : decode cX5_readSort 11 = .ok (.invokevirtual 126, 3) := by decide +kernel
theorem dX5_readSort_14 : decode cX5_readSort 14 = .ok (.istore_n 2, 1) := by decide +kernel
theorem dX5_readSort_15 : decode cX5_readSort 15 = .ok (.aload_n 0, 1) := by decide +kernel
theorem dX5_readSort_16 : decode cX5_readSort 16 = .ok (.iconst 0, 1) := by decide +kernel
theorem dX5_readSort_17 : decode cX5_readSort 17 = .ok (.bipush 99, 2) := by decide +kernel
theorem dX5_readSort_19 : decode cX5_readSort 19 = .ok (.invokevirtual 126, 3) := by decide +kernel
theorem dX5_readSort_22 : decode cX5_readSort 22 = .ok (.istore_n 3, 1) := by decide +kernel
theorem dX5_readSort_23 : decode cX5_readSort 23 = .ok (.aload_n 0, 1) := by decide +kernel
theorem dX5_readSort_24 : decode cX5_readSort 24 = .ok (.getfield 9, 3) := by decide +kernel
theorem dX5_readSort_27 : decode cX5_readSort 27 = .ok (.ifCond .ne 23, 3) := by decide +kernel
theorem dX5_readSort_30 : decode cX5_readSort 30 = .ok (.aload_n 0, 1) := by decide +kernel
theorem dX5_readSort_31 : decode cX5_readSort 31 = .ok (.getfield 31, 3) := by decide +kernel
theorem dX5_readSort_34 : decode cX5_readSort 34 = .ok (.getfield 133, 3) := by decide +kernel
theorem dX5_readSort_37 : decode cX5_readSort 37 = .ok (.iload_n 1, 1) := by decide +kernel
theorem dX5_readSort_38 : decode cX5_readSort 38 = .ok (.iload_n 2, 1) := by decide +kernel
theorem dX5_readSort_39 : decode cX5_readSort 39 = .ok (.iastore, 1) := by decide +kernel
theorem dX5_readSort_40 : decode cX5_readSort 40 = .ok (.aload_n 0, 1) := by decide +kernel
theorem dX5_readSort_41 : decode cX5_readSort 41 = .ok (.getfield 31, 3) := by decide +kernel
theorem dX5_readSort_44 : decode cX5_readSort 44 = .ok (.getfield 136, 3) := by decide +kernel
theorem dX5_readSort_47 : decode cX5_readSort 47 = .ok (.iload_n 1, 1) := by decide +kernel
theorem dX5_readSort_48 : decode cX5_readSort 48 = .ok (.iload_n 3, 1) := by decide +kernel
theorem dX5_readSort_49 : decode cX5_readSort 49 = .ok (.iastore, 1) := by decide +kernel
theorem dX5_readSort_50 : decode cX5_readSort 50 = .ok (.return_, 1) := by decide +kernel
theorem dX5_readDeed_0 : decode cX5_readDeed 0 = .ok (.aload_n 0, 1) := by decide +kernel
theorem dX5_readDeed_1 : decode cX5_readDeed 1 = .ok (.iconst 2, 1) := by decide +kernel
theorem dX5_readDeed_2 : decode cX5_readDeed 2 = .ok (.iconst 5, 1) := by decide +kernel
theorem dX5_readDeed_3 : decode cX5_readDeed 3 = .ok (.invokevirtual 122, 3) := by decide +kernel
theorem dX5_readDeed_6 : decode cX5_readDeed 6 = .ok (.istore_n 1, 1) := by decide +kernel
theorem dX5_readDeed_7 : decode cX5_readDeed 7 = .ok (.aload_n 0, 1) := by decide +kernel
theorem dX5_readDeed_8 : decode cX5_readDeed 8 = .ok (.iconst 0, 1) := by decide +kernel
theorem dX5_readDeed_9 : decode cX5_readDeed 9 = .ok (.bipush 31, 2) := by decide +kernel
theorem dX5_readDeed_11 : decode cX5_readDeed 11 = .ok (.invokevirtual 126, 3) := by decide +kernel
theorem dX5_readDeed_14 : decode cX5_readDeed 14 = .ok (.istore_n 2, 1) := by decide +kernel
theorem dX5_readDeed_15 : decode cX5_readDeed 15 = .ok (.aload_n 0, 1) := by decide +kernel
theorem dX5_readDeed_16 : decode cX5_readDeed 16 = .ok (.getfield 9, 3) := by decide +kernel
theorem dX5_readDeed_19 : decode cX5_readDeed 19 = .ok (.ifCond .ne 13, 3) := by decide +kernel
theorem dX5_readDeed_22 : decode cX5_readDeed 22 = .ok (.aload_n 0, 1) := by decide +kernel
theorem dX5_readDeed_23 : decode cX5_readDeed 23 = .ok (.getfield 31, 3) := by decide +kernel
theorem dX5_readDeed_26 : decode cX5_readDeed 26 = .ok (.getfield 139, 3) := by decide +kernel
theorem dX5_readDeed_29 : decode cX5_readDeed 29 = .ok (.iload_n 1, 1) := by decide +kernel
theorem dX5_readDeed_30 : decode cX5_readDeed 30 = .ok (.iload_n 2, 1) := by decide +kernel
theorem dX5_readDeed_31 : decode cX5_readDeed 31 = .ok (.iastore, 1) := by decide +kernel
theorem dX5_readDeed_32 : decode cX5_readDeed 32 = .ok (.return_, 1) := by decide +kernel
theorem dX5_oldOne_0 : decode cX5_oldOne 0 = .ok (.aload_n 0, 1) := by decide +kernel
theorem dX5_oldOne_1 : decode cX5_oldOne 1 = .ok (.aload_n 0, 1) := by decide +kernel
theorem dX5_oldOne_2 : decode cX5_oldOne 2 = .ok (.getfield 40, 3) := by decide +kernel
theorem dX5_oldOne_5 : decode cX5_oldOne 5 = .ok (.getfield 69, 3) := by decide +kernel
theorem dX5_oldOne_8 : decode cX5_oldOne 8 = .ok (.iconst 2, 1) := by decide +kernel
theorem dX5_oldOne_9 : decode cX5_oldOne 9 = .ok (.if_icmp .eq 7, 3) := by decide +kernel
theorem dX5_oldOne_12 : decode cX5_oldOne 12 = .ok (.iconst 1, 1) := by decide +kernel
theorem dX5_oldOne_13 : decode cX5_oldOne 13 = .ok (.goto 4, 3) := by decide +kernel
theorem dX5_oldOne_16 : decode cX5_oldOne 16 = .ok (.iconst 0, 1) := by decide +kernel
theorem dX5_oldOne_17 : decode cX5_oldOne 17 = .ok (.iconst 1, 1) := by decide +kernel
theorem dX5_oldOne_18 : decode cX5_oldOne 18 = .ok (.invokevirtual 88, 3) := by decide +kernel
theorem dX5_oldOne_21 : decode cX5_oldOne 21 = .ok (.aload_n 0, 1) := by decide +kernel
theorem dX5_oldOne_22 : decode cX5_oldOne 22 = .ok (.getfield 31, 3) := by decide +kernel
theorem dX5_oldOne_25 : decode cX5_oldOne 25 = .ok (.iload_n 1, 1) := by decide +kernel
theorem dX5_oldOne_26 : decode cX5_oldOne 26 = .ok (.aload_n 0, 1) := by decide +kernel
theorem dX5_oldOne_27 : decode cX5_oldOne 27 = .ok (.getfield 40, 3) := by decide +kernel
theorem dX5_oldOne_30 : decode cX5_oldOne 30 = .ok (.getfield 92, 3) := by decide +kernel
theorem dX5_oldOne_33 : decode cX5_oldOne 33 = .ok (.invokevirtual 180, 3) := by decide +kernel
theorem dX5_oldOne_36 : decode cX5_oldOne 36 = .ok (.istore_n 2, 1) := by decide +kernel
theorem dX5_oldOne_37 : decode cX5_oldOne 37 = .ok (.aload_n 0, 1) := by decide +kernel
theorem dX5_oldOne_38 : decode cX5_oldOne 38 = .ok (.iload_n 2, 1) := by decide +kernel
theorem dX5_oldOne_39 : decode cX5_oldOne 39 = .ok (.iconst (-1), 1) := by decide +kernel
theorem dX5_oldOne_40 : decode cX5_oldOne 40 = .ok (.if_icmp .ne 7, 3) := by decide +kernel
theorem dX5_oldOne_43 : decode cX5_oldOne 43 = .ok (.iconst 1, 1) := by decide +kernel
theorem dX5_oldOne_44 : decode cX5_oldOne 44 = .ok (.goto 4, 3) := by decide +kernel
theorem dX5_oldOne_47 : decode cX5_oldOne 47 = .ok (.iconst 0, 1) := by decide +kernel
theorem dX5_oldOne_48 : decode cX5_oldOne 48 = .ok (.iconst 4, 1) := by decide +kernel
theorem dX5_oldOne_49 : decode cX5_oldOne 49 = .ok (.invokevirtual 88, 3) := by decide +kernel
theorem dX5_oldOne_52 : decode cX5_oldOne 52 = .ok (.aload_n 0, 1) := by decide +kernel
theorem dX5_oldOne_53 : decode cX5_oldOne 53 = .ok (.getfield 40, 3) := by decide +kernel
theorem dX5_oldOne_56 : decode cX5_oldOne 56 = .ok (.invokevirtual 66, 3) := by decide +kernel
theorem dX5_oldOne_59 : decode cX5_oldOne 59 = .ok (.iload_n 2, 1) := by decide +kernel
theorem dX5_oldOne_60 : decode cX5_oldOne 60 = .ok (.ireturn, 1) := by decide +kernel
theorem dX5_readSend_0 : decode cX5_readSend 0 = .ok (.aload_n 0, 1) := by decide +kernel
theorem dX5_readSend_1 : decode cX5_readSend 1 = .ok (.aload_n 0, 1) := by decide +kernel
theorem dX5_readSend_2 : decode cX5_readSend 2 = .ok (.getfield 31, 3) := by decide +kernel
theorem dX5_readSend_5 : decode cX5_readSend 5 = .ok (.getfield 142, 3) := by decide +kernel
theorem dX5_readSend_8 : decode cX5_readSend 8 = .ok (.bipush 12, 2) := by decide +kernel
theorem dX5_readSend_10 : decode cX5_readSend 10 = .ok (.if_icmp .lt 7, 3) := by decide +kernel
theorem dX5_readSend_13 : decode cX5_readSend 13 = .ok (.iconst 1, 1) := by decide +kernel
theorem dX5_readSend_14 : decode cX5_readSend 14 = .ok (.goto 4, 3) := by decide +kernel
theorem dX5_readSend_17 : decode cX5_readSend 17 = .ok (.iconst 0, 1) := by decide +kernel
theorem dX5_readSend_18 : decode cX5_readSend 18 = .ok (.iconst 2, 1) := by decide +kernel
theorem dX5_readSend_19 : decode cX5_readSend 19 = .ok (.invokevirtual 88, 3) := by decide +kernel
theorem dX5_readSend_22 : decode cX5_readSend 22 = .ok (.aload_n 0, 1) := by decide +kernel
theorem dX5_readSend_23 : decode cX5_readSend 23 = .ok (.getfield 40, 3) := by decide +kernel
theorem dX5_readSend_26 : decode cX5_readSend 26 = .ok (.invokevirtual 66, 3) := by decide +kernel
theorem dX5_readSend_29 : decode cX5_readSend 29 = .ok (.aload_n 0, 1) := by decide +kernel
theorem dX5_readSend_30 : decode cX5_readSend 30 = .ok (.getfield 31, 3) := by decide +kernel
theorem dX5_readSend_33 : decode cX5_readSend 33 = .ok (.getfield 142, 3) := by decide +kernel
theorem dX5_readSend_36 : decode cX5_readSend 36 = .ok (.iconst 4, 1) := by decide +kernel
theorem dX5_readSend_37 : decode cX5_readSend 37 = .ok (.imul, 1) := by decide +kernel
theorem dX5_readSend_38 : decode cX5_readSend 38 = .ok (.istore_n 1, 1) := by decide +kernel
theorem dX5_readSend_39 : decode cX5_readSend 39 = .ok (.aload_n 0, 1) := by decide +kernel
theorem dX5_readSend_40 : decode cX5_readSend 40 = .ok (.iconst 0, 1) := by decide +kernel
theorem dX5_readSend_41 : decode cX5_readSend 41 = .ok (.invokevirtual 145, 3) := by decide +kernel
theorem dX5_readSend_44 : decode cX5_readSend 44 = .ok (.istore_n 2, 1) := by decide +kernel
theorem dX5_readSend_45 : decode cX5_readSend 45 = .ok (.aload_n 0, 1) := by decide +kernel
theorem dX5_readSend_46 : decode cX5_readSend 46 = .ok (.iconst 1, 1) := by decide +kernel
theorem dX5_readSend_47 : decode cX5_readSend 47 = .ok (.invokevirtual 145, 3) := by decide +kernel
theorem dX5_readSend_50 : decode cX5_readSend 50 = .ok (.istore_n 3, 1) := by decide +kernel
theorem dX5_readSend_51 : decode cX5_readSend 51 = .ok (.aload_n 0, 1) := by decide +kernel
theorem dX5_readSend_52 : decode cX5_readSend 52 = .ok (.iconst 0, 1) := by decide +kernel
theorem dX5_readSend_53 : decode cX5_readSend 53 = .ok (.bipush 99, 2) := by decide +kernel
theorem dX5_readSend_55 : decode cX5_readSend 55 = .ok (.invokevirtual 126, 3) := by decide +kernel
theorem dX5_readSend_58 : decode cX5_readSend 58 = .ok (.istore 4, 2) := by decide +kernel
theorem dX5_readSend_60 : decode cX5_readSend 60 = .ok (.aload_n 0, 1) := by decide +kernel
theorem dX5_readSend_61 : decode cX5_readSend 61 = .ok (.getfield 9, 3) := by decide +kernel
theorem dX5_readSend_64 : decode cX5_readSend 64 = .ok (.ifCond .ne 65, 3) := by decide +kernel
theorem dX5_readSend_67 : decode cX5_readSend 67 = .ok (.aload_n 0, 1) := by decide +kernel
theorem dX5_readSend_68 : decode cX5_readSend 68 = .ok (.getfield 31, 3) := by decide +kernel
theorem dX5_readSend_71 : decode cX5_readSend 71 = .ok (.getfield 149, 3) := by decide +kernel
theorem dX5_readSend_74 : decode cX5_readSend 74 = .ok (.iload_n 1, 1) := by decide +kernel
theorem dX5_readSend_75 : decode cX5_readSend 75 = .ok (.iconst 0, 1) := by decide +kernel
theorem dX5_readSend_76 : decode cX5_readSend 76 = .ok (.iadd, 1) := by decide +kernel
theorem dX5_readSend_77 : decode cX5_readSend 77 = .ok (.iload_n 2, 1) := by decide +kernel
theorem dX5_readSend_78 : decode cX5_readSend 78 = .ok (.iastore, 1) := by decide +kernel
theorem dX5_readSend_79 : decode cX5_readSend 79 = .ok (.aload_n 0, 1) := by decide +kernel
theorem dX5_readSend_80 : decode cX5_readSend 80 = .ok (.getfield 31, 3) := by decide +kernel
theorem dX5_readSend_83 : decode cX5_readSend 83 = .ok (.getfield 149, 3) := by decide +kernel
theorem dX5_readSend_86 : decode cX5_readSend 86 = .ok (.iload_n 1, 1) := by decide +kernel
theorem dX5_readSend_87 : decode cX5_readSend 87 = .ok (.iconst 1, 1) := by decide +kernel
theorem dX5_readSend_88 : decode cX5_readSend 88 = .ok (.iadd, 1) := by decide +kernel
theorem dX5_readSend_89 : decode cX5_readSend 89 = .ok (.iload_n 3, 1) := by decide +kernel
theorem dX5_readSend_90 : decode cX5_readSend 90 = .ok (.iastore, 1) := by decide +kernel
theorem dX5_readSend_91 : decode cX5_readSend 91 = .ok (.aload_n 0, 1) := by decide +kernel
theorem dX5_readSend_92 : decode cX5_readSend 92 = .ok (.getfield 31, 3) := by decide +kernel
theorem dX5_readSend_95 : decode cX5_readSend 95 = .ok (.getfield 149, 3) := by decide +kernel
theorem dX5_readSend_98 : decode cX5_readSend 98 = .ok (.iload_n 1, 1) := by decide +kernel
theorem dX5_readSend_99 : decode cX5_readSend 99 = .ok (.iconst 2, 1) := by decide +kernel
theorem dX5_readSend_100 : decode cX5_readSend 100 = .ok (.iadd, 1) := by decide +kernel
theorem dX5_readSend_101 : decode cX5_readSend 101 = .ok (.iload 4, 2) := by decide +kernel
theorem dX5_readSend_103 : decode cX5_readSend 103 = .ok (.iastore, 1) := by decide +kernel
theorem dX5_readSend_104 : decode cX5_readSend 104 = .ok (.aload_n 0, 1) := by decide +kernel
theorem dX5_readSend_105 : decode cX5_readSend 105 = .ok (.getfield 31, 3) := by decide +kernel
theorem dX5_readSend_108 : decode cX5_readSend 108 = .ok (.getfield 149, 3) := by decide +kernel
theorem dX5_readSend_111 : decode cX5_readSend 111 = .ok (.iload_n 1, 1) := by decide +kernel
theorem dX5_readSend_112 : decode cX5_readSend 112 = .ok (.iconst 3, 1) := by decide +kernel
theorem dX5_readSend_113 : decode cX5_readSend 113 = .ok (.iadd, 1) := by decide +kernel
theorem dX5_readSend_114 : decode cX5_readSend 114 = .ok (.iconst 0, 1) := by decide +kernel
theorem dX5_readSend_115 : decode cX5_readSend 115 = .ok (.iastore, 1) := by decide +kernel
theorem dX5_readSend_116 : decode cX5_readSend 116 = .ok (.aload_n 0, 1) := by decide +kernel
theorem dX5_readSend_117 : decode cX5_readSend 117 = .ok (.getfield 31, 3) := by decide +kernel
theorem dX5_readSend_120 : decode cX5_readSend 120 = .ok (.dup, 1) := by decide +kernel
theorem dX5_readSend_121 : decode cX5_readSend 121 = .ok (.getfield 142, 3) := by decide +kernel
theorem dX5_readSend_124 : decode cX5_readSend 124 = .ok (.iconst 1, 1) := by decide +kernel
theorem dX5_readSend_125 : decode cX5_readSend 125 = .ok (.iadd, 1) := by decide +kernel
theorem dX5_readSend_126 : decode cX5_readSend 126 = .ok (.putfield 142, 3) := by decide +kernel
theorem dX5_readSend_129 : decode cX5_readSend 129 = .ok (.return_, 1) := by decide +kernel
theorem dX5_readWant_0 : decode cX5_readWant 0 = .ok (.aload_n 0, 1) := by decide +kernel
theorem dX5_readWant_1 : decode cX5_readWant 1 = .ok (.aload_n 0, 1) := by decide +kernel
theorem dX5_readWant_2 : decode cX5_readWant 2 = .ok (.getfield 31, 3) := by decide +kernel
theorem dX5_readWant_5 : decode cX5_readWant 5 = .ok (.getfield 152, 3) := by decide +kernel
theorem dX5_readWant_8 : decode cX5_readWant 8 = .ok (.bipush 8, 2) := by decide +kernel
theorem dX5_readWant_10 : decode cX5_readWant 10 = .ok (.if_icmp .lt 7, 3) := by decide +kernel
theorem dX5_readWant_13 : decode cX5_readWant 13 = .ok (.iconst 1, 1) := by decide +kernel
theorem dX5_readWant_14 : decode cX5_readWant 14 = .ok (.goto 4, 3) := by decide +kernel
theorem dX5_readWant_17 : decode cX5_readWant 17 = .ok (.iconst 0, 1) := by decide +kernel
theorem dX5_readWant_18 : decode cX5_readWant 18 = .ok (.iconst 2, 1) := by decide +kernel
theorem dX5_readWant_19 : decode cX5_readWant 19 = .ok (.invokevirtual 88, 3) := by decide +kernel
theorem dX5_readWant_22 : decode cX5_readWant 22 = .ok (.aload_n 0, 1) := by decide +kernel
theorem dX5_readWant_23 : decode cX5_readWant 23 = .ok (.getfield 40, 3) := by decide +kernel
theorem dX5_readWant_26 : decode cX5_readWant 26 = .ok (.invokevirtual 66, 3) := by decide +kernel
theorem dX5_readWant_29 : decode cX5_readWant 29 = .ok (.aload_n 0, 1) := by decide +kernel
theorem dX5_readWant_30 : decode cX5_readWant 30 = .ok (.getfield 31, 3) := by decide +kernel
theorem dX5_readWant_33 : decode cX5_readWant 33 = .ok (.getfield 152, 3) := by decide +kernel
theorem dX5_readWant_36 : decode cX5_readWant 36 = .ok (.iconst 5, 1) := by decide +kernel
theorem dX5_readWant_37 : decode cX5_readWant 37 = .ok (.imul, 1) := by decide +kernel
theorem dX5_readWant_38 : decode cX5_readWant 38 = .ok (.istore_n 1, 1) := by decide +kernel
theorem dX5_readWant_39 : decode cX5_readWant 39 = .ok (.aload_n 0, 1) := by decide +kernel
theorem dX5_readWant_40 : decode cX5_readWant 40 = .ok (.iconst 0, 1) := by decide +kernel
theorem dX5_readWant_41 : decode cX5_readWant 41 = .ok (.invokevirtual 145, 3) := by decide +kernel
theorem dX5_readWant_44 : decode cX5_readWant 44 = .ok (.istore_n 2, 1) := by decide +kernel
theorem dX5_readWant_45 : decode cX5_readWant 45 = .ok (.aload_n 0, 1) := by decide +kernel
theorem dX5_readWant_46 : decode cX5_readWant 46 = .ok (.iconst 2, 1) := by decide +kernel
theorem dX5_readWant_47 : decode cX5_readWant 47 = .ok (.invokevirtual 145, 3) := by decide +kernel
theorem dX5_readWant_50 : decode cX5_readWant 50 = .ok (.istore_n 3, 1) := by decide +kernel
theorem dX5_readWant_51 : decode cX5_readWant 51 = .ok (.aload_n 0, 1) := by decide +kernel
theorem dX5_readWant_52 : decode cX5_readWant 52 = .ok (.iconst 0, 1) := by decide +kernel
theorem dX5_readWant_53 : decode cX5_readWant 53 = .ok (.iconst 1, 1) := by decide +kernel
theorem dX5_readWant_54 : decode cX5_readWant 54 = .ok (.invokevirtual 126, 3) := by decide +kernel
theorem dX5_readWant_57 : decode cX5_readWant 57 = .ok (.istore 4, 2) := by decide +kernel
theorem dX5_readWant_59 : decode cX5_readWant 59 = .ok (.aload_n 0, 1) := by decide +kernel
theorem dX5_readWant_60 : decode cX5_readWant 60 = .ok (.iconst 0, 1) := by decide +kernel
theorem dX5_readWant_61 : decode cX5_readWant 61 = .ok (.bipush 99, 2) := by decide +kernel
theorem dX5_readWant_63 : decode cX5_readWant 63 = .ok (.invokevirtual 126, 3) := by decide +kernel
theorem dX5_readWant_66 : decode cX5_readWant 66 = .ok (.istore 5, 2) := by decide +kernel
theorem dX5_readWant_68 : decode cX5_readWant 68 = .ok (.aload_n 0, 1) := by decide +kernel
theorem dX5_readWant_69 : decode cX5_readWant 69 = .ok (.iconst 0, 1) := by decide +kernel
theorem dX5_readWant_70 : decode cX5_readWant 70 = .ok (.bipush 99, 2) := by decide +kernel
theorem dX5_readWant_72 : decode cX5_readWant 72 = .ok (.invokevirtual 126, 3) := by decide +kernel
theorem dX5_readWant_75 : decode cX5_readWant 75 = .ok (.istore 6, 2) := by decide +kernel
theorem dX5_readWant_77 : decode cX5_readWant 77 = .ok (.aload_n 0, 1) := by decide +kernel
theorem dX5_readWant_78 : decode cX5_readWant 78 = .ok (.getfield 9, 3) := by decide +kernel
theorem dX5_readWant_81 : decode cX5_readWant 81 = .ok (.ifCond .ne 79, 3) := by decide +kernel
theorem dX5_readWant_84 : decode cX5_readWant 84 = .ok (.aload_n 0, 1) := by decide +kernel
theorem dX5_readWant_85 : decode cX5_readWant 85 = .ok (.getfield 31, 3) := by decide +kernel
theorem dX5_readWant_88 : decode cX5_readWant 88 = .ok (.getfield 155, 3) := by decide +kernel
theorem dX5_readWant_91 : decode cX5_readWant 91 = .ok (.iload_n 1, 1) := by decide +kernel
theorem dX5_readWant_92 : decode cX5_readWant 92 = .ok (.iconst 0, 1) := by decide +kernel
theorem dX5_readWant_93 : decode cX5_readWant 93 = .ok (.iadd, 1) := by decide +kernel
theorem dX5_readWant_94 : decode cX5_readWant 94 = .ok (.iload_n 2, 1) := by decide +kernel
theorem dX5_readWant_95 : decode cX5_readWant 95 = .ok (.iastore, 1) := by decide +kernel
theorem dX5_readWant_96 : decode cX5_readWant 96 = .ok (.aload_n 0, 1) := by decide +kernel
theorem dX5_readWant_97 : decode cX5_readWant 97 = .ok (.getfield 31, 3) := by decide +kernel
theorem dX5_readWant_100 : decode cX5_readWant 100 = .ok (.getfield 155, 3) := by decide +kernel
theorem dX5_readWant_103 : decode cX5_readWant 103 = .ok (.iload_n 1, 1) := by decide +kernel
theorem dX5_readWant_104 : decode cX5_readWant 104 = .ok (.iconst 1, 1) := by decide +kernel
theorem dX5_readWant_105 : decode cX5_readWant 105 = .ok (.iadd, 1) := by decide +kernel
theorem dX5_readWant_106 : decode cX5_readWant 106 = .ok (.iload_n 3, 1) := by decide +kernel
theorem dX5_readWant_107 : decode cX5_readWant 107 = .ok (.iastore, 1) := by decide +kernel
theorem dX5_readWant_108 : decode cX5_readWant 108 = .ok (.aload_n 0, 1) := by decide +kernel
theorem dX5_readWant_109 : decode cX5_readWant 109 = .ok (.getfield 31, 3) := by decide +kernel
theorem dX5_readWant_112 : decode cX5_readWant 112 = .ok (.getfield 155, 3) := by decide +kernel
theorem dX5_readWant_115 : decode cX5_readWant 115 = .ok (.iload_n 1, 1) := by decide +kernel
theorem dX5_readWant_116 : decode cX5_readWant 116 = .ok (.iconst 2, 1) := by decide +kernel
theorem dX5_readWant_117 : decode cX5_readWant 117 = .ok (.iadd, 1) := by decide +kernel
theorem dX5_readWant_118 : decode cX5_readWant 118 = .ok (.iload 4, 2) := by decide +kernel
theorem dX5_readWant_120 : decode cX5_readWant 120 = .ok (.iastore, 1) := by decide +kernel
theorem dX5_readWant_121 : decode cX5_readWant 121 = .ok (.aload_n 0, 1) := by decide +kernel
theorem dX5_readWant_122 : decode cX5_readWant 122 = .ok (.getfield 31, 3) := by decide +kernel
theorem dX5_readWant_125 : decode cX5_readWant 125 = .ok (.getfield 155, 3) := by decide +kernel
theorem dX5_readWant_128 : decode cX5_readWant 128 = .ok (.iload_n 1, 1) := by decide +kernel
theorem dX5_readWant_129 : decode cX5_readWant 129 = .ok (.iconst 3, 1) := by decide +kernel
theorem dX5_readWant_130 : decode cX5_readWant 130 = .ok (.iadd, 1) := by decide +kernel
theorem dX5_readWant_131 : decode cX5_readWant 131 = .ok (.iload 5, 2) := by decide +kernel
theorem dX5_readWant_133 : decode cX5_readWant 133 = .ok (.iastore, 1) := by decide +kernel
theorem dX5_readWant_134 : decode cX5_readWant 134 = .ok (.aload_n 0, 1) := by decide +kernel
theorem dX5_readWant_135 : decode cX5_readWant 135 = .ok (.getfield 31, 3) := by decide +kernel
theorem dX5_readWant_138 : decode cX5_readWant 138 = .ok (.getfield 155, 3) := by decide +kernel
theorem dX5_readWant_141 : decode cX5_readWant 141 = .ok (.iload_n 1, 1) := by decide +kernel
theorem dX5_readWant_142 : decode cX5_readWant 142 = .ok (.iconst 4, 1) := by decide +kernel
theorem dX5_readWant_143 : decode cX5_readWant 143 = .ok (.iadd, 1) := by decide +kernel
theorem dX5_readWant_144 : decode cX5_readWant 144 = .ok (.iload 6, 2) := by decide +kernel
theorem dX5_readWant_146 : decode cX5_readWant 146 = .ok (.iastore, 1) := by decide +kernel
theorem dX5_readWant_147 : decode cX5_readWant 147 = .ok (.aload_n 0, 1) := by decide +kernel
theorem dX5_readWant_148 : decode cX5_readWant 148 = .ok (.getfield 31, 3) := by decide +kernel
theorem dX5_readWant_151 : decode cX5_readWant 151 = .ok (.dup, 1) := by decide +kernel
theorem dX5_readWant_152 : decode cX5_readWant 152 = .ok (.getfield 152, 3) := by decide +kernel
theorem dX5_readWant_155 : decode cX5_readWant 155 = .ok (.iconst 1, 1) := by decide +kernel
theorem dX5_readWant_156 : decode cX5_readWant 156 = .ok (.iadd, 1) := by decide +kernel
theorem dX5_readWant_157 : decode cX5_readWant 157 = .ok (.putfield 152, 3) := by decide +kernel
theorem dX5_readWant_160 : decode cX5_readWant 160 = .ok (.return_, 1) := by decide +kernel
theorem dX5_readRoom_0 : decode cX5_readRoom 0 = .ok (.aload_n 0, 1) := by decide +kernel
theorem dX5_readRoom_1 : decode cX5_readRoom 1 = .ok (.aload_n 0, 1) := by decide +kernel
theorem dX5_readRoom_2 : decode cX5_readRoom 2 = .ok (.getfield 21, 3) := by decide +kernel
theorem dX5_readRoom_5 : decode cX5_readRoom 5 = .ok (.iconst 3, 1) := by decide +kernel
theorem dX5_readRoom_6 : decode cX5_readRoom 6 = .ok (.invokevirtual 88, 3) := by decide +kernel
theorem dX5_readRoom_9 : decode cX5_readRoom 9 = .ok (.aload_n 0, 1) := by decide +kernel
theorem dX5_readRoom_10 : decode cX5_readRoom 10 = .ok (.getfield 40, 3) := by decide +kernel
theorem dX5_readRoom_13 : decode cX5_readRoom 13 = .ok (.invokevirtual 66, 3) := by decide +kernel
theorem dX5_readRoom_16 : decode cX5_readRoom 16 = .ok (.aload_n 0, 1) := by decide +kernel
theorem dX5_readRoom_17 : decode cX5_readRoom 17 = .ok (.iconst 1, 1) := by decide +kernel
theorem dX5_readRoom_18 : decode cX5_readRoom 18 = .ok (.putfield 21, 3) := by decide +kernel
theorem dX5_readRoom_21 : decode cX5_readRoom 21 = .ok (.aload_n 0, 1) := by decide +kernel
theorem dX5_readRoom_22 : decode cX5_readRoom 22 = .ok (.getfield 31, 3) := by decide +kernel
theorem dX5_readRoom_25 : decode cX5_readRoom 25 = .ok (.aload_n 0, 1) := by decide +kernel
theorem dX5_readRoom_26 : decode cX5_readRoom 26 = .ok (.iconst 1, 1) := by decide +kernel
theorem dX5_readRoom_27 : decode cX5_readRoom 27 = .ok (.bipush 30, 2) := by decide +kernel
theorem dX5_readRoom_29 : decode cX5_readRoom 29 = .ok (.invokevirtual 126, 3) := by decide +kernel
theorem dX5_readRoom_32 : decode cX5_readRoom 32 = .ok (.putfield 158, 3) := by decide +kernel
theorem dX5_readRoom_35 : decode cX5_readRoom 35 = .ok (.return_, 1) := by decide +kernel
theorem dX5_readStorm_0 : decode cX5_readStorm 0 = .ok (.aload_n 0, 1) := by decide +kernel
theorem dX5_readStorm_1 : decode cX5_readStorm 1 = .ok (.aload_n 0, 1) := by decide +kernel
theorem dX5_readStorm_2 : decode cX5_readStorm 2 = .ok (.getfield 25, 3) := by decide +kernel
theorem dX5_readStorm_5 : decode cX5_readStorm 5 = .ok (.iconst 3, 1) := by decide +kernel
theorem dX5_readStorm_6 : decode cX5_readStorm 6 = .ok (.invokevirtual 88, 3) := by decide +kernel
theorem dX5_readStorm_9 : decode cX5_readStorm 9 = .ok (.aload_n 0, 1) := by decide +kernel
theorem dX5_readStorm_10 : decode cX5_readStorm 10 = .ok (.getfield 40, 3) := by decide +kernel
theorem dX5_readStorm_13 : decode cX5_readStorm 13 = .ok (.invokevirtual 66, 3) := by decide +kernel
theorem dX5_readStorm_16 : decode cX5_readStorm 16 = .ok (.aload_n 0, 1) := by decide +kernel
theorem dX5_readStorm_17 : decode cX5_readStorm 17 = .ok (.iconst 1, 1) := by decide +kernel
theorem dX5_readStorm_18 : decode cX5_readStorm 18 = .ok (.putfield 25, 3) := by decide +kernel
theorem dX5_readStorm_21 : decode cX5_readStorm 21 = .ok (.aload_n 0, 1) := by decide +kernel
theorem dX5_readStorm_22 : decode cX5_readStorm 22 = .ok (.getfield 31, 3) := by decide +kernel
theorem dX5_readStorm_25 : decode cX5_readStorm 25 = .ok (.aload_n 0, 1) := by decide +kernel
theorem dX5_readStorm_26 : decode cX5_readStorm 26 = .ok (.iconst 0, 1) := by decide +kernel
theorem dX5_readStorm_27 : decode cX5_readStorm 27 = .ok (.bipush 100, 2) := by decide +kernel
theorem dX5_readStorm_29 : decode cX5_readStorm 29 = .ok (.invokevirtual 126, 3) := by decide +kernel
theorem dX5_readStorm_32 : decode cX5_readStorm 32 = .ok (.putfield 161, 3) := by decide +kernel
theorem dX5_readStorm_35 : decode cX5_readStorm 35 = .ok (.return_, 1) := by decide +kernel
theorem dX5_readSeed_0 : decode cX5_readSeed 0 = .ok (.aload_n 0, 1) := by decide +kernel
theorem dX5_readSeed_1 : decode cX5_readSeed 1 = .ok (.aload_n 0, 1) := by decide +kernel
theorem dX5_readSeed_2 : decode cX5_readSeed 2 = .ok (.getfield 28, 3) := by decide +kernel
theorem dX5_readSeed_5 : decode cX5_readSeed 5 = .ok (.iconst 3, 1) := by decide +kernel
theorem dX5_readSeed_6 : decode cX5_readSeed 6 = .ok (.invokevirtual 88, 3) := by decide +kernel
theorem dX5_readSeed_9 : decode cX5_readSeed 9 = .ok (.aload_n 0, 1) := by decide +kernel
theorem dX5_readSeed_10 : decode cX5_readSeed 10 = .ok (.getfield 40, 3) := by decide +kernel
theorem dX5_readSeed_13 : decode cX5_readSeed 13 = .ok (.invokevirtual 66, 3) := by decide +kernel
theorem dX5_readSeed_16 : decode cX5_readSeed 16 = .ok (.aload_n 0, 1) := by decide +kernel
theorem dX5_readSeed_17 : decode cX5_readSeed 17 = .ok (.iconst 1, 1) := by decide +kernel
theorem dX5_readSeed_18 : decode cX5_readSeed 18 = .ok (.putfield 28, 3) := by decide +kernel
theorem dX5_readSeed_21 : decode cX5_readSeed 21 = .ok (.aload_n 0, 1) := by decide +kernel
theorem dX5_readSeed_22 : decode cX5_readSeed 22 = .ok (.getfield 31, 3) := by decide +kernel
theorem dX5_readSeed_25 : decode cX5_readSeed 25 = .ok (.aload_n 0, 1) := by decide +kernel
theorem dX5_readSeed_26 : decode cX5_readSeed 26 = .ok (.iconst 0, 1) := by decide +kernel
theorem dX5_readSeed_27 : decode cX5_readSeed 27 = .ok (.ldc 164, 2) := by decide +kernel
theorem dX5_readSeed_29 : decode cX5_readSeed 29 = .ok (.invokevirtual 126, 3) := by decide +kernel
theorem dX5_readSeed_32 : decode cX5_readSeed 32 = .ok (.putfield 165, 3) := by decide +kernel
theorem dX5_readSeed_35 : decode cX5_readSeed 35 = .ok (.return_, 1) := by decide +kernel
theorem dX5_readLaw_0 : decode cX5_readLaw 0 = .ok (.aload_n 0, 1) := by decide +kernel
theorem dX5_readLaw_1 : decode cX5_readLaw 1 = .ok (.getfield 40, 3) := by decide +kernel
theorem dX5_readLaw_4 : decode cX5_readLaw 4 = .ok (.invokevirtual 66, 3) := by decide +kernel
theorem dX5_readLaw_7 : decode cX5_readLaw 7 = .ok (.aload_n 0, 1) := by decide +kernel
theorem dX5_readLaw_8 : decode cX5_readLaw 8 = .ok (.getfield 40, 3) := by decide +kernel
theorem dX5_readLaw_11 : decode cX5_readLaw 11 = .ok (.getfield 69, 3) := by decide +kernel
theorem dX5_readLaw_14 : decode cX5_readLaw 14 = .ok (.iconst 3, 1) := by decide +kernel
theorem dX5_readLaw_15 : decode cX5_readLaw 15 = .ok (.if_icmp .ne 16, 3) := by decide +kernel
theorem dX5_readLaw_18 : decode cX5_readLaw 18 = .ok (.aload_n 0, 1) := by decide +kernel
theorem dX5_readLaw_19 : decode cX5_readLaw 19 = .ok (.getfield 40, 3) := by decide +kernel
theorem dX5_readLaw_22 : decode cX5_readLaw 22 = .ok (.getfield 92, 3) := by decide +kernel
theorem dX5_readLaw_25 : decode cX5_readLaw 25 = .ok (.bipush 9, 2) := by decide +kernel
theorem dX5_readLaw_27 : decode cX5_readLaw 27 = .ok (.isub, 1) := by decide +kernel
theorem dX5_readLaw_28 : decode cX5_readLaw 28 = .ok (.goto 4, 3) := by decide +kernel
theorem dX5_readLaw_31 : decode cX5_readLaw 31 = .ok (.iconst (-1), 1) := by decide +kernel
theorem dX5_readLaw_32 : decode cX5_readLaw 32 = .ok (.istore_n 1, 1) := by decide +kernel
theorem dX5_readLaw_33 : decode cX5_readLaw 33 = .ok (.iload_n 1, 1) := by decide +kernel
theorem dX5_readLaw_34 : decode cX5_readLaw 34 = .ok (.ifCond .lt 8, 3) := by decide +kernel
theorem dX5_readLaw_37 : decode cX5_readLaw 37 = .ok (.iload_n 1, 1) := by decide +kernel
theorem dX5_readLaw_38 : decode cX5_readLaw 38 = .ok (.iconst 2, 1) := by decide +kernel
theorem dX5_readLaw_39 : decode cX5_readLaw 39 = .ok (.if_icmp .le 9, 3) := by decide +kernel
theorem dX5_readLaw_42 : decode cX5_readLaw 42 = .ok (.aload_n 0, 1) := by decide +kernel
theorem dX5_readLaw_43 : decode cX5_readLaw 43 = .ok (.iconst 1, 1) := by decide +kernel
theorem dX5_readLaw_44 : decode cX5_readLaw 44 = .ok (.invokevirtual 81, 3) := by decide +kernel
theorem dX5_readLaw_47 : decode cX5_readLaw 47 = .ok (.return_, 1) := by decide +kernel
theorem dX5_readLaw_48 : decode cX5_readLaw 48 = .ok (.aload_n 0, 1) := by decide +kernel
theorem dX5_readLaw_49 : decode cX5_readLaw 49 = .ok (.aload_n 0, 1) := by decide +kernel
theorem dX5_readLaw_50 : decode cX5_readLaw 50 = .ok (.getfield 31, 3) := by decide +kernel
theorem dX5_readLaw_53 : decode cX5_readLaw 53 = .ok (.getfield 46, 3) := by decide +kernel
theorem dX5_readLaw_56 : decode cX5_readLaw 56 = .ok (.iload_n 1, 1) := by decide +kernel
theorem dX5_readLaw_57 : decode cX5_readLaw 57 = .ok (.invokevirtual 168, 3) := by decide +kernel
theorem dX5_readLaw_60 : decode cX5_readLaw 60 = .ok (.iconst 3, 1) := by decide +kernel
theorem dX5_readLaw_61 : decode cX5_readLaw 61 = .ok (.invokevirtual 88, 3) := by decide +kernel
theorem dX5_readLaw_64 : decode cX5_readLaw 64 = .ok (.aload_n 0, 1) := by decide +kernel
theorem dX5_readLaw_65 : decode cX5_readLaw 65 = .ok (.getfield 40, 3) := by decide +kernel
theorem dX5_readLaw_68 : decode cX5_readLaw 68 = .ok (.invokevirtual 66, 3) := by decide +kernel
theorem dX5_readLaw_71 : decode cX5_readLaw 71 = .ok (.aload_n 0, 1) := by decide +kernel
theorem dX5_readLaw_72 : decode cX5_readLaw 72 = .ok (.getfield 9, 3) := by decide +kernel
theorem dX5_readLaw_75 : decode cX5_readLaw 75 = .ok (.ifCond .ne 33, 3) := by decide +kernel
theorem dX5_readLaw_78 : decode cX5_readLaw 78 = .ok (.aload_n 0, 1) := by decide +kernel
theorem dX5_readLaw_79 : decode cX5_readLaw 79 = .ok (.getfield 55, 3) := by decide +kernel
theorem dX5_readLaw_82 : decode cX5_readLaw 82 = .ok (.aload_n 0, 1) := by decide +kernel
theorem dX5_readLaw_83 : decode cX5_readLaw 83 = .ok (.getfield 31, 3) := by decide +kernel
theorem dX5_readLaw_86 : decode cX5_readLaw 86 = .ok (.getfield 46, 3) := by decide +kernel
theorem dX5_readLaw_89 : decode cX5_readLaw 89 = .ok (.iload_n 1, 1) := by decide +kernel
theorem dX5_readLaw_90 : decode cX5_readLaw 90 = .ok (.invokevirtual 173, 3) := by decide +kernel
theorem dX5_readLaw_93 : decode cX5_readLaw 93 = .ok (.istore_n 2, 1) := by decide +kernel
theorem dX5_readLaw_94 : decode cX5_readLaw 94 = .ok (.aload_n 0, 1) := by decide +kernel
theorem dX5_readLaw_95 : decode cX5_readLaw 95 = .ok (.iload_n 2, 1) := by decide +kernel
theorem dX5_readLaw_96 : decode cX5_readLaw 96 = .ok (.ifCond .eq 7, 3) := by decide +kernel
theorem dX5_readLaw_99 : decode cX5_readLaw 99 = .ok (.iconst 1, 1) := by decide +kernel
theorem dX5_readLaw_100 : decode cX5_readLaw 100 = .ok (.goto 4, 3) := by decide +kernel
theorem dX5_readLaw_103 : decode cX5_readLaw 103 = .ok (.iconst 0, 1) := by decide +kernel
theorem dX5_readLaw_104 : decode cX5_readLaw 104 = .ok (.iload_n 2, 1) := by decide +kernel
theorem dX5_readLaw_105 : decode cX5_readLaw 105 = .ok (.invokevirtual 88, 3) := by decide +kernel
theorem dX5_readLaw_108 : decode cX5_readLaw 108 = .ok (.return_, 1) := by decide +kernel
theorem dX5_readLine_0 : decode cX5_readLine 0 = .ok (.aload_n 0, 1) := by decide +kernel
theorem dX5_readLine_1 : decode cX5_readLine 1 = .ok (.getfield 40, 3) := by decide +kernel
theorem dX5_readLine_4 : decode cX5_readLine 4 = .ok (.getfield 69, 3) := by decide +kernel
theorem dX5_readLine_7 : decode cX5_readLine 7 = .ok (.iconst 3, 1) := by decide +kernel
theorem dX5_readLine_8 : decode cX5_readLine 8 = .ok (.if_icmp .ne 13, 3) := by decide +kernel
theorem dX5_readLine_11 : decode cX5_readLine 11 = .ok (.aload_n 0, 1) := by decide +kernel
theorem dX5_readLine_12 : decode cX5_readLine 12 = .ok (.getfield 40, 3) := by decide +kernel
theorem dX5_readLine_15 : decode cX5_readLine 15 = .ok (.getfield 92, 3) := by decide +kernel
theorem dX5_readLine_18 : decode cX5_readLine 18 = .ok (.goto 4, 3) := by decide +kernel
theorem dX5_readLine_21 : decode cX5_readLine 21 = .ok (.iconst (-1), 1) := by decide +kernel
theorem dX5_readLine_22 : decode cX5_readLine 22 = .ok (.istore_n 1, 1) := by decide +kernel
theorem dX5_readLine_23 : decode cX5_readLine 23 = .ok (.iload_n 1, 1) := by decide +kernel
theorem dX5_readLine_24 : decode cX5_readLine 24 = .ok (.tableswitch 115 0 8 #[52, 59, 66, 73, 80, 87, 94, 101, 108], 52) := by decide +kernel
theorem dX5_readLine_76 : decode cX5_readLine 76 = .ok (.aload_n 0, 1) := by decide +kernel
theorem dX5_readLine_77 : decode cX5_readLine 77 = .ok (.invokevirtual 95, 3) := by decide +kernel
theorem dX5_readLine_80 : decode cX5_readLine 80 = .ok (.goto 64, 3) := by decide +kernel
theorem dX5_readLine_83 : decode cX5_readLine 83 = .ok (.aload_n 0, 1) := by decide +kernel
theorem dX5_readLine_84 : decode cX5_readLine 84 = .ok (.invokevirtual 98, 3) := by decide +kernel
theorem dX5_readLine_87 : decode cX5_readLine 87 = .ok (.goto 57, 3) := by decide +kernel
theorem dX5_readLine_90 : decode cX5_readLine 90 = .ok (.aload_n 0, 1) := by decide +kernel
theorem dX5_readLine_91 : decode cX5_readLine 91 = .ok (.invokevirtual 101, 3) := by decide +kernel
theorem dX5_readLine_94 : decode cX5_readLine 94 = .ok (.goto 50, 3) := by decide +kernel
theorem dX5_readLine_97 : decode cX5_readLine 97 = .ok (.aload_n 0, 1) := by decide +kernel
theorem dX5_readLine_98 : decode cX5_readLine 98 = .ok (.invokevirtual 104, 3) := by decide +kernel
theorem dX5_readLine_101 : decode cX5_readLine 101 = .ok (.goto 43, 3) := by decide +kernel
theorem dX5_readLine_104 : decode cX5_readLine 104 = .ok (.aload_n 0, 1) := by decide +kernel
theorem dX5_readLine_105 : decode cX5_readLine 105 = .ok (.invokevirtual 107, 3) := by decide +kernel
theorem dX5_readLine_108 : decode cX5_readLine 108 = .ok (.goto 36, 3) := by decide +kernel
theorem dX5_readLine_111 : decode cX5_readLine 111 = .ok (.aload_n 0, 1) := by decide +kernel
theorem dX5_readLine_112 : decode cX5_readLine 112 = .ok (.invokevirtual 110, 3) := by decide +kernel
theorem dX5_readLine_115 : decode cX5_readLine 115 = .ok (.goto 29, 3) := by decide +kernel
theorem dX5_readLine_118 : decode cX5_readLine 118 = .ok (.aload_n 0, 1) := by decide +kernel
theorem dX5_readLine_119 : decode cX5_readLine 119 = .ok (.invokevirtual 113, 3) := by decide +kernel
theorem dX5_readLine_122 : decode cX5_readLine 122 = .ok (.goto 22, 3) := by decide +kernel
theorem dX5_readLine_125 : decode cX5_readLine 125 = .ok (.aload_n 0, 1) := by decide +kernel
theorem dX5_readLine_126 : decode cX5_readLine 126 = .ok (.invokevirtual 116, 3) := by decide +kernel
theorem dX5_readLine_129 : decode cX5_readLine 129 = .ok (.goto 15, 3) := by decide +kernel
theorem dX5_readLine_132 : decode cX5_readLine 132 = .ok (.aload_n 0, 1) := by decide +kernel
theorem dX5_readLine_133 : decode cX5_readLine 133 = .ok (.invokevirtual 119, 3) := by decide +kernel
theorem dX5_readLine_136 : decode cX5_readLine 136 = .ok (.goto 8, 3) := by decide +kernel
theorem dX5_readLine_139 : decode cX5_readLine 139 = .ok (.aload_n 0, 1) := by decide +kernel
theorem dX5_readLine_140 : decode cX5_readLine 140 = .ok (.iconst 1, 1) := by decide +kernel
theorem dX5_readLine_141 : decode cX5_readLine 141 = .ok (.invokevirtual 81, 3) := by decide +kernel
theorem dX5_readLine_144 : decode cX5_readLine 144 = .ok (.return_, 1) := by decide +kernel
theorem dX5_needSign_0 : decode cX5_needSign 0 = .ok (.aload_n 0, 1) := by decide +kernel
theorem dX5_needSign_1 : decode cX5_needSign 1 = .ok (.aload_n 0, 1) := by decide +kernel
theorem dX5_needSign_2 : decode cX5_needSign 2 = .ok (.getfield 40, 3) := by decide +kernel
theorem dX5_needSign_5 : decode cX5_needSign 5 = .ok (.iload_n 1, 1) := by decide +kernel
theorem dX5_needSign_6 : decode cX5_needSign 6 = .ok (.invokevirtual 84, 3) := by decide +kernel
theorem dX5_needSign_9 : decode cX5_needSign 9 = .ok (.ifCond .ne 7, 3) := by decide +kernel
theorem dX5_needSign_12 : decode cX5_needSign 12 = .ok (.iconst 1, 1) := by decide +kernel
theorem dX5_needSign_13 : decode cX5_needSign 13 = .ok (.goto 4, 3) := by decide +kernel
theorem dX5_needSign_16 : decode cX5_needSign 16 = .ok (.iconst 0, 1) := by decide +kernel
theorem dX5_needSign_17 : decode cX5_needSign 17 = .ok (.iconst 1, 1) := by decide +kernel
theorem dX5_needSign_18 : decode cX5_needSign 18 = .ok (.invokevirtual 88, 3) := by decide +kernel
theorem dX5_needSign_21 : decode cX5_needSign 21 = .ok (.aload_n 0, 1) := by decide +kernel
theorem dX5_needSign_22 : decode cX5_needSign 22 = .ok (.getfield 40, 3) := by decide +kernel
theorem dX5_needSign_25 : decode cX5_needSign 25 = .ok (.invokevirtual 66, 3) := by decide +kernel
theorem dX5_needSign_28 : decode cX5_needSign 28 = .ok (.return_, 1) := by decide +kernel
theorem dX5_reads_0 : decode cX5_reads 0 = .ok (.aload_n 0, 1) := by decide +kernel
theorem dX5_reads_1 : decode cX5_reads 1 = .ok (.aload_n 2, 1) := by decide +kernel
theorem dX5_reads_2 : decode cX5_reads 2 = .ok (.putfield 31, 3) := by decide +kernel
theorem dX5_reads_5 : decode cX5_reads 5 = .ok (.aload_n 0, 1) := by decide +kernel
theorem dX5_reads_6 : decode cX5_reads 6 = .ok (.getfield 31, 3) := by decide +kernel
theorem dX5_reads_9 : decode cX5_reads 9 = .ok (.invokevirtual 59, 3) := by decide +kernel
theorem dX5_reads_12 : decode cX5_reads 12 = .ok (.aload_n 0, 1) := by decide +kernel
theorem dX5_reads_13 : decode cX5_reads 13 = .ok (.iconst 0, 1) := by decide +kernel
theorem dX5_reads_14 : decode cX5_reads 14 = .ok (.putfield 9, 3) := by decide +kernel
theorem dX5_reads_17 : decode cX5_reads 17 = .ok (.aload_n 0, 1) := by decide +kernel
theorem dX5_reads_18 : decode cX5_reads 18 = .ok (.iconst (-1), 1) := by decide +kernel
theorem dX5_reads_19 : decode cX5_reads 19 = .ok (.putfield 15, 3) := by decide +kernel
theorem dX5_reads_22 : decode cX5_reads 22 = .ok (.aload_n 0, 1) := by decide +kernel
theorem dX5_reads_23 : decode cX5_reads 23 = .ok (.iconst 0, 1) := by decide +kernel
theorem dX5_reads_24 : decode cX5_reads 24 = .ok (.putfield 18, 3) := by decide +kernel
theorem dX5_reads_27 : decode cX5_reads 27 = .ok (.aload_n 0, 1) := by decide +kernel
theorem dX5_reads_28 : decode cX5_reads 28 = .ok (.iconst 0, 1) := by decide +kernel
theorem dX5_reads_29 : decode cX5_reads 29 = .ok (.putfield 21, 3) := by decide +kernel
theorem dX5_reads_32 : decode cX5_reads 32 = .ok (.aload_n 0, 1) := by decide +kernel
theorem dX5_reads_33 : decode cX5_reads 33 = .ok (.iconst 0, 1) := by decide +kernel
theorem dX5_reads_34 : decode cX5_reads 34 = .ok (.putfield 25, 3) := by decide +kernel
theorem dX5_reads_37 : decode cX5_reads 37 = .ok (.aload_n 0, 1) := by decide +kernel
theorem dX5_reads_38 : decode cX5_reads 38 = .ok (.iconst 0, 1) := by decide +kernel
theorem dX5_reads_39 : decode cX5_reads 39 = .ok (.putfield 28, 3) := by decide +kernel
theorem dX5_reads_42 : decode cX5_reads 42 = .ok (.aload_n 0, 1) := by decide +kernel
theorem dX5_reads_43 : decode cX5_reads 43 = .ok (.getfield 40, 3) := by decide +kernel
theorem dX5_reads_46 : decode cX5_reads 46 = .ok (.iload_n 1, 1) := by decide +kernel
theorem dX5_reads_47 : decode cX5_reads 47 = .ok (.invokevirtual 62, 3) := by decide +kernel
theorem dX5_reads_50 : decode cX5_reads 50 = .ok (.aload_n 0, 1) := by decide +kernel
theorem dX5_reads_51 : decode cX5_reads 51 = .ok (.getfield 40, 3) := by decide +kernel
theorem dX5_reads_54 : decode cX5_reads 54 = .ok (.invokevirtual 66, 3) := by decide +kernel
theorem dX5_reads_57 : decode cX5_reads 57 = .ok (.iconst 0, 1) := by decide +kernel
theorem dX5_reads_58 : decode cX5_reads 58 = .ok (.istore_n 3, 1) := by decide +kernel
theorem dX5_reads_59 : decode cX5_reads 59 = .ok (.iload_n 3, 1) := by decide +kernel
theorem dX5_reads_60 : decode cX5_reads 60 = .ok (.iload_n 1, 1) := by decide +kernel
theorem dX5_reads_61 : decode cX5_reads 61 = .ok (.if_icmp .ge 46, 3) := by decide +kernel
theorem dX5_reads_64 : decode cX5_reads 64 = .ok (.aload_n 0, 1) := by decide +kernel
theorem dX5_reads_65 : decode cX5_reads 65 = .ok (.getfield 40, 3) := by decide +kernel
theorem dX5_reads_68 : decode cX5_reads 68 = .ok (.getfield 69, 3) := by decide +kernel
theorem dX5_reads_71 : decode cX5_reads 71 = .ok (.ifCond .eq 36, 3) := by decide +kernel
theorem dX5_reads_74 : decode cX5_reads 74 = .ok (.aload_n 0, 1) := by decide +kernel
theorem dX5_reads_75 : decode cX5_reads 75 = .ok (.getfield 9, 3) := by decide +kernel
theorem dX5_reads_78 : decode cX5_reads 78 = .ok (.ifCond .ne 29, 3) := by decide +kernel
theorem dX5_reads_81 : decode cX5_reads 81 = .ok (.aload_n 0, 1) := by decide +kernel
theorem dX5_reads_82 : decode cX5_reads 82 = .ok (.invokevirtual 72, 3) := by decide +kernel
theorem dX5_reads_85 : decode cX5_reads 85 = .ok (.aload_n 0, 1) := by decide +kernel
theorem dX5_reads_86 : decode cX5_reads 86 = .ok (.bipush 15, 2) := by decide +kernel
theorem dX5_reads_88 : decode cX5_reads 88 = .ok (.invokevirtual 75, 3) := by decide +kernel
theorem dX5_reads_91 : decode cX5_reads 91 = .ok (.aload_n 0, 1) := by decide +kernel
theorem dX5_reads_92 : decode cX5_reads 92 = .ok (.dup, 1) := by decide +kernel
theorem dX5_reads_93 : decode cX5_reads 93 = .ok (.getfield 18, 3) := by decide +kernel
theorem dX5_reads_96 : decode cX5_reads 96 = .ok (.iconst 1, 1) := by decide +kernel
theorem dX5_reads_97 : decode cX5_reads 97 = .ok (.iadd, 1) := by decide +kernel
theorem dX5_reads_98 : decode cX5_reads 98 = .ok (.putfield 18, 3) := by decide +kernel
theorem dX5_reads_101 : decode cX5_reads 101 = .ok (.iinc 3 1, 3) := by decide +kernel
theorem dX5_reads_104 : decode cX5_reads 104 = .ok (.goto (-45), 3) := by decide +kernel
theorem dX5_reads_107 : decode cX5_reads 107 = .ok (.aload_n 0, 1) := by decide +kernel
theorem dX5_reads_108 : decode cX5_reads 108 = .ok (.getfield 9, 3) := by decide +kernel
theorem dX5_reads_111 : decode cX5_reads 111 = .ok (.ifCond .ne 7, 3) := by decide +kernel
theorem dX5_reads_114 : decode cX5_reads 114 = .ok (.iconst 1, 1) := by decide +kernel
theorem dX5_reads_115 : decode cX5_reads 115 = .ok (.goto 4, 3) := by decide +kernel
theorem dX5_reads_118 : decode cX5_reads 118 = .ok (.iconst 0, 1) := by decide +kernel
theorem dX5_reads_119 : decode cX5_reads 119 = .ok (.ireturn, 1) := by decide +kernel
theorem dX6_clear_0 : decode cX6_clear 0 = .ok (.aload_n 0, 1) := by decide +kernel
theorem dX6_clear_1 : decode cX6_clear 1 = .ok (.iconst 0, 1) := by decide +kernel
theorem dX6_clear_2 : decode cX6_clear 2 = .ok (.putfield 9, 3) := by decide +kernel
theorem dX6_clear_5 : decode cX6_clear 5 = .ok (.aload_n 0, 1) := by decide +kernel
theorem dX6_clear_6 : decode cX6_clear 6 = .ok (.iconst (-1), 1) := by decide +kernel
theorem dX6_clear_7 : decode cX6_clear 7 = .ok (.putfield 15, 3) := by decide +kernel
theorem dX6_clear_10 : decode cX6_clear 10 = .ok (.return_, 1) := by decide +kernel
theorem dX6_limit_0 : decode cX6_limit 0 = .ok (.aload_n 0, 1) := by decide +kernel
theorem dX6_limit_1 : decode cX6_limit 1 = .ok (.getfield 15, 3) := by decide +kernel
theorem dX6_limit_4 : decode cX6_limit 4 = .ok (.iconst (-1), 1) := by decide +kernel
theorem dX6_limit_5 : decode cX6_limit 5 = .ok (.if_icmp .ne 10, 3) := by decide +kernel
theorem dX6_limit_8 : decode cX6_limit 8 = .ok (.aload_n 0, 1) := by decide +kernel
theorem dX6_limit_9 : decode cX6_limit 9 = .ok (.getfield 9, 3) := by decide +kernel
theorem dX6_limit_12 : decode cX6_limit 12 = .ok (.goto 7, 3) := by decide +kernel
theorem dX6_limit_15 : decode cX6_limit 15 = .ok (.aload_n 0, 1) := by decide +kernel
theorem dX6_limit_16 : decode cX6_limit 16 = .ok (.getfield 15, 3) := by decide +kernel
theorem dX6_limit_19 : decode cX6_limit 19 = .ok (.ireturn, 1) := by decide +kernel
theorem dX6_put_0 : decode cX6_put 0 = .ok (.aload_n 0, 1) := by decide +kernel
theorem dX6_put_1 : decode cX6_put 1 = .ok (.getfield 18, 3) := by decide +kernel
theorem dX6_put_4 : decode cX6_put 4 = .ok (.aload_n 0, 1) := by decide +kernel
theorem dX6_put_5 : decode cX6_put 5 = .ok (.getfield 9, 3) := by decide +kernel
theorem dX6_put_8 : decode cX6_put 8 = .ok (.iload_n 1, 1) := by decide +kernel
theorem dX6_put_9 : decode cX6_put 9 = .ok (.iastore, 1) := by decide +kernel
theorem dX6_put_10 : decode cX6_put 10 = .ok (.aload_n 0, 1) := by decide +kernel
theorem dX6_put_11 : decode cX6_put 11 = .ok (.getfield 22, 3) := by decide +kernel
theorem dX6_put_14 : decode cX6_put 14 = .ok (.aload_n 0, 1) := by decide +kernel
theorem dX6_put_15 : decode cX6_put 15 = .ok (.getfield 9, 3) := by decide +kernel
theorem dX6_put_18 : decode cX6_put 18 = .ok (.iload_n 2, 1) := by decide +kernel
theorem dX6_put_19 : decode cX6_put 19 = .ok (.iastore, 1) := by decide +kernel
theorem dX6_put_20 : decode cX6_put 20 = .ok (.aload_n 0, 1) := by decide +kernel
theorem dX6_put_21 : decode cX6_put 21 = .ok (.getfield 25, 3) := by decide +kernel
theorem dX6_put_24 : decode cX6_put 24 = .ok (.aload_n 0, 1) := by decide +kernel
theorem dX6_put_25 : decode cX6_put 25 = .ok (.getfield 9, 3) := by decide +kernel
theorem dX6_put_28 : decode cX6_put 28 = .ok (.iload_n 3, 1) := by decide +kernel
theorem dX6_put_29 : decode cX6_put 29 = .ok (.iastore, 1) := by decide +kernel
theorem dX6_put_30 : decode cX6_put 30 = .ok (.aload_n 0, 1) := by decide +kernel
theorem dX6_put_31 : decode cX6_put 31 = .ok (.getfield 28, 3) := by decide +kernel
theorem dX6_put_34 : decode cX6_put 34 = .ok (.aload_n 0, 1) := by decide +kernel
theorem dX6_put_35 : decode cX6_put 35 = .ok (.getfield 9, 3) := by decide +kernel
theorem dX6_put_38 : decode cX6_put 38 = .ok (.iload 4, 2) := by decide +kernel
theorem dX6_put_40 : decode cX6_put 40 = .ok (.bastore, 1) := by decide +kernel
theorem dX6_put_41 : decode cX6_put 41 = .ok (.aload_n 0, 1) := by decide +kernel
theorem dX6_put_42 : decode cX6_put 42 = .ok (.getfield 32, 3) := by decide +kernel
theorem dX6_put_45 : decode cX6_put 45 = .ok (.aload_n 0, 1) := by decide +kernel
theorem dX6_put_46 : decode cX6_put 46 = .ok (.getfield 9, 3) := by decide +kernel
theorem dX6_put_49 : decode cX6_put 49 = .ok (.iconst (-1), 1) := by decide +kernel
theorem dX6_put_50 : decode cX6_put 50 = .ok (.iastore, 1) := by decide +kernel
theorem dX6_put_51 : decode cX6_put 51 = .ok (.aload_n 0, 1) := by decide +kernel
theorem dX6_put_52 : decode cX6_put 52 = .ok (.dup, 1) := by decide +kernel
theorem dX6_put_53 : decode cX6_put 53 = .ok (.getfield 9, 3) := by decide +kernel
theorem dX6_put_56 : decode cX6_put 56 = .ok (.iconst 1, 1) := by decide +kernel
theorem dX6_put_57 : decode cX6_put 57 = .ok (.iadd, 1) := by decide +kernel
theorem dX6_put_58 : decode cX6_put 58 = .ok (.putfield 9, 3) := by decide +kernel
theorem dX6_put_61 : decode cX6_put 61 = .ok (.aload_n 0, 1) := by decide +kernel
theorem dX6_put_62 : decode cX6_put 62 = .ok (.getfield 9, 3) := by decide +kernel
theorem dX6_put_65 : decode cX6_put 65 = .ok (.iconst 1, 1) := by decide +kernel
theorem dX6_put_66 : decode cX6_put 66 = .ok (.isub, 1) := by decide +kernel
theorem dX6_put_67 : decode cX6_put 67 = .ok (.ireturn, 1) := by decide +kernel
theorem dX6_putStrike_0 : decode cX6_putStrike 0 = .ok (.aload_n 0, 1) := by decide +kernel
theorem dX6_putStrike_1 : decode cX6_putStrike 1 = .ok (.iconst 0, 1) := by decide +kernel
theorem dX6_putStrike_2 : decode cX6_putStrike 2 = .ok (.iconst 0, 1) := by decide +kernel
theorem dX6_putStrike_3 : decode cX6_putStrike 3 = .ok (.iconst 0, 1) := by decide +kernel
theorem dX6_putStrike_4 : decode cX6_putStrike 4 = .ok (.iconst 0, 1) := by decide +kernel
theorem dX6_putStrike_5 : decode cX6_putStrike 5 = .ok (.invokevirtual 38, 3) := by decide +kernel
theorem dX6_putStrike_8 : decode cX6_putStrike 8 = .ok (.istore_n 2, 1) := by decide +kernel
theorem dX6_putStrike_9 : decode cX6_putStrike 9 = .ok (.aload_n 0, 1) := by decide +kernel
theorem dX6_putStrike_10 : decode cX6_putStrike 10 = .ok (.getfield 32, 3) := by decide +kernel
theorem dX6_putStrike_13 : decode cX6_putStrike 13 = .ok (.iload_n 2, 1) := by decide +kernel
theorem dX6_putStrike_14 : decode cX6_putStrike 14 = .ok (.iload_n 1, 1) := by decide +kernel
theorem dX6_putStrike_15 : decode cX6_putStrike 15 = .ok (.iastore, 1) := by decide +kernel
theorem dX6_putStrike_16 : decode cX6_putStrike 16 = .ok (.iload_n 2, 1) := by decide +kernel
theorem dX6_putStrike_17 : decode cX6_putStrike 17 = .ok (.ireturn, 1) := by decide +kernel
theorem dX6_weigh_0 : decode cX6_weigh 0 = .ok (.iconst 0, 1) := by decide +kernel
theorem dX6_weigh_1 : decode cX6_weigh 1 = .ok (.istore_n 1, 1) := by decide +kernel
theorem dX6_weigh_2 : decode cX6_weigh 2 = .ok (.iconst 0, 1) := by decide +kernel
theorem dX6_weigh_3 : decode cX6_weigh 3 = .ok (.istore_n 2, 1) := by decide +kernel
theorem dX6_weigh_4 : decode cX6_weigh 4 = .ok (.iload_n 2, 1) := by decide +kernel
theorem dX6_weigh_5 : decode cX6_weigh 5 = .ok (.aload_n 0, 1) := by decide +kernel
theorem dX6_weigh_6 : decode cX6_weigh 6 = .ok (.getfield 9, 3) := by decide +kernel
theorem dX6_weigh_9 : decode cX6_weigh 9 = .ok (.if_icmp .ge 16, 3) := by decide +kernel
theorem dX6_weigh_12 : decode cX6_weigh 12 = .ok (.aload_n 0, 1) := by decide +kernel
theorem dX6_weigh_13 : decode cX6_weigh 13 = .ok (.getfield 35, 3) := by decide +kernel
theorem dX6_weigh_16 : decode cX6_weigh 16 = .ok (.iload_n 2, 1) := by decide +kernel
theorem dX6_weigh_17 : decode cX6_weigh 17 = .ok (.iconst 0, 1) := by decide +kernel
theorem dX6_weigh_18 : decode cX6_weigh 18 = .ok (.bastore, 1) := by decide +kernel
theorem dX6_weigh_19 : decode cX6_weigh 19 = .ok (.iinc 2 1, 3) := by decide +kernel
theorem dX6_weigh_22 : decode cX6_weigh 22 = .ok (.goto (-18), 3) := by decide +kernel
theorem dX6_weigh_25 : decode cX6_weigh 25 = .ok (.aload_n 0, 1) := by decide +kernel
theorem dX6_weigh_26 : decode cX6_weigh 26 = .ok (.invokevirtual 42, 3) := by decide +kernel
theorem dX6_weigh_29 : decode cX6_weigh 29 = .ok (.iconst 1, 1) := by decide +kernel
theorem dX6_weigh_30 : decode cX6_weigh 30 = .ok (.isub, 1) := by decide +kernel
theorem dX6_weigh_31 : decode cX6_weigh 31 = .ok (.istore_n 2, 1) := by decide +kernel
theorem dX6_weigh_32 : decode cX6_weigh 32 = .ok (.iload_n 2, 1) := by decide +kernel
theorem dX6_weigh_33 : decode cX6_weigh 33 = .ok (.ifCond .lt 63, 3) := by decide +kernel
theorem dX6_weigh_36 : decode cX6_weigh 36 = .ok (.aload_n 0, 1) := by decide +kernel
theorem dX6_weigh_37 : decode cX6_weigh 37 = .ok (.getfield 35, 3) := by decide +kernel
theorem dX6_weigh_40 : decode cX6_weigh 40 = .ok (.iload_n 2, 1) := by decide +kernel
theorem dX6_weigh_41 : decode cX6_weigh 41 = .ok (.baload, 1) := by decide +kernel
theorem dX6_weigh_42 : decode cX6_weigh 42 = .ok (.ifCond .ne 28, 3) := by decide +kernel
theorem dX6_weigh_45 : decode cX6_weigh 45 = .ok (.aload_n 0, 1) := by decide +kernel
theorem dX6_weigh_46 : decode cX6_weigh 46 = .ok (.getfield 32, 3) := by decide +kernel
theorem dX6_weigh_49 : decode cX6_weigh 49 = .ok (.iload_n 2, 1) := by decide +kernel
theorem dX6_weigh_50 : decode cX6_weigh 50 = .ok (.iaload, 1) := by decide +kernel
theorem dX6_weigh_51 : decode cX6_weigh 51 = .ok (.iconst (-1), 1) := by decide +kernel
theorem dX6_weigh_52 : decode cX6_weigh 52 = .ok (.if_icmp .eq 18, 3) := by decide +kernel
theorem dX6_weigh_55 : decode cX6_weigh 55 = .ok (.aload_n 0, 1) := by decide +kernel
theorem dX6_weigh_56 : decode cX6_weigh 56 = .ok (.getfield 35, 3) := by decide +kernel
theorem dX6_weigh_59 : decode cX6_weigh 59 = .ok (.aload_n 0, 1) := by decide +kernel
theorem dX6_weigh_60 : decode cX6_weigh 60 = .ok (.getfield 32, 3) := by decide +kernel
theorem dX6_weigh_63 : decode cX6_weigh 63 = .ok (.iload_n 2, 1) := by decide +kernel
theorem dX6_weigh_64 : decode cX6_weigh 64 = .ok (.iaload, 1) := by decide +kernel
theorem dX6_weigh_65 : decode cX6_weigh 65 = .ok (.iconst 1, 1) := by decide +kernel
theorem dX6_weigh_66 : decode cX6_weigh 66 = .ok (.bastore, 1) := by decide +kernel
theorem dX6_weigh_67 : decode cX6_weigh 67 = .ok (.goto 23, 3) := by decide +kernel
theorem dX6_weigh_70 : decode cX6_weigh 70 = .ok (.aload_n 0, 1) := by decide +kernel
theorem dX6_weigh_71 : decode cX6_weigh 71 = .ok (.getfield 35, 3) := by decide +kernel
theorem dX6_weigh_74 : decode cX6_weigh 74 = .ok (.iload_n 2, 1) := by decide +kernel
theorem dX6_weigh_75 : decode cX6_weigh 75 = .ok (.baload, 1) := by decide +kernel
theorem dX6_weigh_76 : decode cX6_weigh 76 = .ok (.ifCond .ne 14, 3) := by decide +kernel
theorem dX6_weigh_79 : decode cX6_weigh 79 = .ok (.iload_n 1, 1) := by decide +kernel
theorem dX6_weigh_80 : decode cX6_weigh 80 = .ok (.aload_n 0, 1) := by decide +kernel
theorem dX6_weigh_81 : decode cX6_weigh 81 = .ok (.getfield 18, 3) := by decide +kernel
theorem dX6_weigh_84 : decode cX6_weigh 84 = .ok (.iload_n 2, 1) := by decide +kernel
theorem dX6_weigh_85 : decode cX6_weigh 85 = .ok (.iaload, 1) := by decide +kernel
theorem dX6_weigh_86 : decode cX6_weigh 86 = .ok (.invokestatic 46, 3) := by decide +kernel
theorem dX6_weigh_89 : decode cX6_weigh 89 = .ok (.istore_n 1, 1) := by decide +kernel
theorem dX6_weigh_90 : decode cX6_weigh 90 = .ok (.iinc 2 (-1), 3) := by decide +kernel
theorem dX6_weigh_93 : decode cX6_weigh 93 = .ok (.goto (-61), 3) := by decide +kernel
theorem dX6_weigh_96 : decode cX6_weigh 96 = .ok (.iload_n 1, 1) := by decide +kernel
theorem dX6_weigh_97 : decode cX6_weigh 97 = .ok (.ireturn, 1) := by decide +kernel
section GRB
variable {p : Program} {l : Launch} {e : Env} {R : Room} {s : State} {m : MethodId} {args : Array Value} {below : List Frame} {meth : Method} {c : Code} {H : Heap} {locs : List Loc} {cells slots : Nat} {Q : State → Prop}
variable {cc : ByteArray} {pc : Nat} {ls : Array Slot} {rest : List Value} {D : va_G} {aC : Nat → ClassId} {B n : Nat} {Y : g_Y} {mem : g_M} {H0 : Heap} {own : String} {Z : State → Prop}
theorem g_alenB (E : g_C p s m args c cc own D aC Z) (hM : g_At D aC B Y n mem H0 H locs) {o L : Nat} {v : Int32} (ho : o < n) (hY : Y.1 o = (53, L)) (hv : Int32.ofNat L = v) (hdg : decode cc pc = .ok (.arraylength, 1))
    (kk : W p l e R s m args below meth c H locs cells slots Q (F0 m (pc + 1) ls (.int v :: rest))) : W p l e R s m args below meth c H locs cells slots Q (F0 m pc ls (.ref (B + o) :: rest)) :=
  va_alen E.1 E.2.1 E.2.2.2.2.1 hM.1 o 3 (by rw [g_Wat ho, g_EB hY]) rfl hv hdg kk
end GRB
section
variable {p : Program} {l : Launch} {e : Env} {s : State} {m : MethodId} {args : Array Value} {below : List Frame} {meth : Method} {c : Code} {D : va_G} {aC : Nat → ClassId} {B : Nat}
set_option maxHeartbeats 4000000 in
set_option maxRecDepth 100000 in
theorem w8_stepWord_b150 (E : g_C p s m args c cX8_stepWord RX8 D aC (g_Zs (g_A B 69))) (hml : c.maxLocals = 2) (hret : meth.sig.returnType = none) (hlk : meth.locks = false) {F : Nat} {q0 : g_M} {s113 : Int32 → g_M → Option (g_M)} (hs113 : ∀ (v1 : Int32) (mem : g_M) (H : Heap) (locs : List Loc) (ls : Array Slot), g_At D aC B yC 69 mem s.heap H locs → lv_has ls 2 [(0, .ref (B + 31)), (1, .int v1)] → s113 v1 mem = some q0 → W p l e (g_rm 2) s m args below meth c H locs 0 0 (g_MQ below D aC B yC 69 args s none q0) (F0 m 113 ls [])) : ∀ (v1 : Int32) (mem : g_M) (H : Heap) (locs : List Loc) (ls : Array Slot), g_At D aC B yC 69 mem s.heap H locs → lv_has ls 2 [(0, .ref (B + 31)), (1, .int v1)] → f8_stepWord_b150 F s113 v1 mem = some q0 → W p l e (g_rm 2) s m args below meth c H locs 0 0 (g_MQ below D aC B yC 69 args s none q0) (F0 m 150 ls []) := by
  intro v1 mem H locs ls hM hl he
  unfold f8_stepWord_b150 at he
  have hx := E.1
  have hb := E.2.1
  have hown := E.2.2.1
  have hts := E.2.2.2.1
  obtain ⟨x1, hx1, he⟩ := g_let_ex he
  refine lv_iinc (v := x1) (lv' := [(1, .int x1), (0, .ref (B + 31))]) hx hb dX8_stepWord_150 hl (k := 1) rfl (by rw [hx1]; rfl) (by decide) rfl (fun ls hl => ?_)
  refine lv_goto (tgt := 113) hx hb dX8_stepWord_153 (by decide) ?_
  exact hs113 _ _ _ _ _ hM (lv_sub hl [1, 0] rfl) he

set_option maxHeartbeats 4000000 in
set_option maxRecDepth 100000 in
theorem w8_stepWord_b113_body (E : g_C p s m args c cX8_stepWord RX8 D aC (g_Zs (g_A B 69))) (hml : c.maxLocals = 2) (hret : meth.sig.returnType = none) (hlk : meth.locks = false) {F : Nat} {q0 : g_M} {s113 : Int32 → g_M → Option (g_M)} (hs113 : ∀ (v1 : Int32) (mem : g_M) (H : Heap) (locs : List Loc) (ls : Array Slot), g_At D aC B yC 69 mem s.heap H locs → lv_has ls 2 [(0, .ref (B + 31)), (1, .int v1)] → s113 v1 mem = some q0 → W p l e (g_rm 2) s m args below meth c H locs 0 0 (g_MQ below D aC B yC 69 args s none q0) (F0 m 113 ls [])) : ∀ (v1 : Int32) (mem : g_M) (H : Heap) (locs : List Loc) (ls : Array Slot), g_At D aC B yC 69 mem s.heap H locs → lv_has ls 2 [(0, .ref (B + 31)), (1, .int v1)] → f8_stepWord_b113_body F s113 v1 mem = some q0 → W p l e (g_rm 2) s m args below meth c H locs 0 0 (g_MQ below D aC B yC 69 args s none q0) (F0 m 113 ls []) := by
  intro v1 mem H locs ls hM hl he
  unfold f8_stepWord_b113_body at he
  have hx := E.1
  have hb := E.2.1
  have hown := E.2.2.1
  have hts := E.2.2.2.1
  refine lv_iload_n hx hb dX8_stepWord_113 rfl (lv_at hl 1 rfl) ?_
  refine lv_bipush (v := (22 : Int32)) hx hb dX8_stepWord_114 rfl ?_
  refine lv_icmp_ge (tgt := 156) hx hb dX8_stepWord_116 (by decide) (fun h2 => ?_) (fun h2 => ?_)
  · rw [if_neg (Int32.not_lt.mpr h2)] at he
    cases he
    exact g_vret E hM hret hlk dX8_stepWord_156
  · rw [if_pos (Int32.not_le.mp h2)] at he
    refine lv_aload_n hx hb dX8_stepWord_119 rfl (lv_at hl 0 rfl) ?_
    refine g_getI E hM (o := 31) (Nat.le_of_ble_eq_true rfl) rfl fl_X8_11 dX8_stepWord_120 ?_
    refine lv_iconst (v := (2 : Int32)) hx hb dX8_stepWord_123 rfl ?_
    refine lv_icmp_ne (tgt := 156) hx hb dX8_stepWord_124 (by decide) (fun h3 => ?_) (fun h3 => ?_)
    · rw [if_neg h3] at he
      cases he
      exact g_vret E hM hret hlk dX8_stepWord_156
    · rw [if_pos h3] at he
      refine lv_aload_n hx hb dX8_stepWord_127 rfl (lv_at hl 0 rfl) ?_
      refine g_getP E hM (o := 31) (Nat.le_of_ble_eq_true rfl) rfl fl_X8_27 (q := 32) rfl dX8_stepWord_128 ?_
      refine lv_iload_n hx hb dX8_stepWord_131 rfl (lv_at hl 1 rfl) ?_
      obtain ⟨h4, he⟩ := g_ck_some he
      refine g_iald E hM (o := 32) (Nat.le_of_ble_eq_true rfl) rfl h4 dX8_stepWord_132 ?_
      refine lv_aload_n hx hb dX8_stepWord_133 rfl (lv_at hl 0 rfl) ?_
      refine g_getI E hM (o := 31) (Nat.le_of_ble_eq_true rfl) rfl fl_X8_18 dX8_stepWord_134 ?_
      refine lv_icmp_ne (tgt := 150) hx hb dX8_stepWord_137 (by decide) (fun h5 => ?_) (fun h5 => ?_)
      · rw [if_neg h5] at he
        exact w8_stepWord_b150 (F := F) E hml hret hlk hs113 _ _ _ _ _ hM (lv_sub hl [0, 1] rfl) he
      · rw [if_pos h5] at he
        refine lv_aload_n hx hb dX8_stepWord_140 rfl (lv_at hl 0 rfl) ?_
        refine lv_iconst (v := (3 : Int32)) hx hb dX8_stepWord_141 rfl ?_
        refine g_putI E hM (o := 31) (Nat.le_of_ble_eq_true rfl) rfl fp_X8_11 dX8_stepWord_142 (fun H locs hM => ?_)
        obtain ⟨m6, hm6, he⟩ := g_let_ex he
        rw [← hm6] at hM
        refine lv_aload_n hx hb dX8_stepWord_145 rfl (lv_at hl 0 rfl) ?_
        refine lv_iload_n hx hb dX8_stepWord_146 rfl (lv_at hl 1 rfl) ?_
        refine g_putI E hM (o := 31) (Nat.le_of_ble_eq_true rfl) rfl fp_X8_18 dX8_stepWord_147 (fun H locs hM => ?_)
        obtain ⟨m7, hm7, he⟩ := g_let_ex he
        rw [← hm7] at hM
        exact w8_stepWord_b150 (F := F) E hml hret hlk hs113 _ _ _ _ _ hM (lv_sub hl [0, 1] rfl) he

set_option maxHeartbeats 4000000 in
set_option maxRecDepth 100000 in
theorem w8_stepWord_b113 (E : g_C p s m args c cX8_stepWord RX8 D aC (g_Zs (g_A B 69))) (hml : c.maxLocals = 2) (hret : meth.sig.returnType = none) (hlk : meth.locks = false) {F : Nat} {q0 : g_M} : ∀ (v1 : Int32) (mem : g_M) (H : Heap) (locs : List Loc) (ls : Array Slot), g_At D aC B yC 69 mem s.heap H locs → lv_has ls 2 [(0, .ref (B + 31)), (1, .int v1)] → f8_stepWord_b113 F v1 mem = some q0 → W p l e (g_rm 2) s m args below meth c H locs 0 0 (g_MQ below D aC B yC 69 args s none q0) (F0 m 113 ls []) := by
  have key : ∀ (nn : Nat) (x : Int32 × g_M) (H : Heap) (locs : List Loc) (ls : Array Slot), g_At D aC B yC 69 x.2 s.heap H locs → lv_has ls 2 [(0, .ref (B + 31)), (1, .int x.1)] → g_fix (fun sf x => f8_stepWord_b113_body F (fun v1 mem => sf (v1, mem)) x.1 x.2) nn x = some q0 → W p l e (g_rm 2) s m args below meth c H locs 0 0 (g_MQ below D aC B yC 69 args s none q0) (F0 m 113 ls []) := by
    intro nn
    induction nn with
    | zero => intro x H locs ls hM hl he; simp [g_fix] at he
    | succ nn ih =>
      intro x H locs ls hM hl he
      exact w8_stepWord_b113_body (F := F) E hml hret hlk (fun v1 mem H locs ls hM hl he => ih (v1, mem) H locs ls hM hl he) x.1 x.2 H locs ls hM hl he
  intro v1 mem H locs ls hM hl he
  exact key F (v1, mem) H locs ls hM hl he

set_option maxHeartbeats 4000000 in
set_option maxRecDepth 100000 in
theorem w8_stepWord_b108 (E : g_C p s m args c cX8_stepWord RX8 D aC (g_Zs (g_A B 69))) (hml : c.maxLocals = 2) (hret : meth.sig.returnType = none) (hlk : meth.locks = false) {F : Nat} {q0 : g_M} : ∀ (w1 : Int32) (mem : g_M) (H : Heap) (locs : List Loc) (ls : Array Slot), g_At D aC B yC 69 mem s.heap H locs → lv_has ls 2 [(0, .ref (B + 31))] → f8_stepWord_b108 F w1 mem = some q0 → W p l e (g_rm 2) s m args below meth c H locs 0 0 (g_MQ below D aC B yC 69 args s none q0) (F0 m 108 ls [.int w1, .ref (B + 31)]) := by
  intro w1 mem H locs ls hM hl he
  unfold f8_stepWord_b108 at he
  have hx := E.1
  have hb := E.2.1
  have hown := E.2.2.1
  have hts := E.2.2.2.1
  refine g_putI E hM (o := 31) (Nat.le_of_ble_eq_true rfl) rfl fp_X8_11 dX8_stepWord_108 (fun H locs hM => ?_)
  obtain ⟨m8, hm8, he⟩ := g_let_ex he
  rw [← hm8] at hM
  refine lv_iconst (v := (0 : Int32)) hx hb dX8_stepWord_111 rfl ?_
  refine lv_istore_n (lv' := [(1, .int (0 : Int32)), (0, .ref (B + 31))]) hx hb dX8_stepWord_112 rfl hl (by decide) rfl (fun ls hl => ?_)
  exact w8_stepWord_b113 (F := F) E hml hret hlk _ _ _ _ _ hM (lv_sub hl [1, 0] rfl) he

set_option maxHeartbeats 4000000 in
set_option maxRecDepth 100000 in
theorem w8_stepWord_b88 (E : g_C p s m args c cX8_stepWord RX8 D aC (g_Zs (g_A B 69))) (hml : c.maxLocals = 2) (hret : meth.sig.returnType = none) (hlk : meth.locks = false) {F : Nat} {q0 : g_M} : ∀ (mem : g_M) (H : Heap) (locs : List Loc) (ls : Array Slot), g_At D aC B yC 69 mem s.heap H locs → lv_has ls 2 [(0, .ref (B + 31))] → f8_stepWord_b88 F mem = some q0 → W p l e (g_rm 2) s m args below meth c H locs 0 0 (g_MQ below D aC B yC 69 args s none q0) (F0 m 88 ls []) := by
  intro mem H locs ls hM hl he
  unfold f8_stepWord_b88 at he
  have hx := E.1
  have hb := E.2.1
  have hown := E.2.2.1
  have hts := E.2.2.2.1
  refine lv_aload_n hx hb dX8_stepWord_88 rfl (lv_at hl 0 rfl) ?_
  refine lv_aload_n hx hb dX8_stepWord_89 rfl (lv_at hl 0 rfl) ?_
  refine g_getI E hM (o := 31) (Nat.le_of_ble_eq_true rfl) rfl fl_X8_24 dX8_stepWord_90 ?_
  refine lv_aload_n hx hb dX8_stepWord_93 rfl (lv_at hl 0 rfl) ?_
  refine g_getI E hM (o := 31) (Nat.le_of_ble_eq_true rfl) rfl fl_X8_15 dX8_stepWord_94 ?_
  refine lv_isub hx hb dX8_stepWord_97 ?_
  refine lv_bipush (v := (6 : Int32)) hx hb dX8_stepWord_98 rfl ?_
  refine lv_icmp_le (tgt := 107) hx hb dX8_stepWord_100 (by decide) (fun h9 => ?_) (fun h9 => ?_)
  · rw [if_neg (Int32.not_lt.mpr h9)] at he
    refine lv_iconst (v := (2 : Int32)) hx hb dX8_stepWord_107 rfl ?_
    exact w8_stepWord_b108 (F := F) E hml hret hlk _ _ _ _ _ hM (lv_sub hl [0] rfl) he
  · rw [if_pos (Int32.not_le.mp h9)] at he
    refine lv_iconst (v := (5 : Int32)) hx hb dX8_stepWord_103 rfl ?_
    refine lv_goto (tgt := 108) hx hb dX8_stepWord_104 (by decide) ?_
    exact w8_stepWord_b108 (F := F) E hml hret hlk _ _ _ _ _ hM (lv_sub hl [0] rfl) he

set_option maxHeartbeats 4000000 in
set_option maxRecDepth 100000 in
theorem w8_stepWord_b75 (E : g_C p s m args c cX8_stepWord RX8 D aC (g_Zs (g_A B 69))) (hml : c.maxLocals = 2) (hret : meth.sig.returnType = none) (hlk : meth.locks = false) {F : Nat} {q0 : g_M} {s5 : g_M → Option (g_M)} (hs5 : ∀ (mem : g_M) (H : Heap) (locs : List Loc) (ls : Array Slot), g_At D aC B yC 69 mem s.heap H locs → lv_has ls 2 [(0, .ref (B + 31))] → s5 mem = some q0 → W p l e (g_rm 2) s m args below meth c H locs 0 0 (g_MQ below D aC B yC 69 args s none q0) (F0 m 5 ls [])) : ∀ (mem : g_M) (H : Heap) (locs : List Loc) (ls : Array Slot), g_At D aC B yC 69 mem s.heap H locs → lv_has ls 2 [(0, .ref (B + 31))] → f8_stepWord_b75 F s5 mem = some q0 → W p l e (g_rm 2) s m args below meth c H locs 0 0 (g_MQ below D aC B yC 69 args s none q0) (F0 m 75 ls []) := by
  intro mem H locs ls hM hl he
  unfold f8_stepWord_b75 at he
  have hx := E.1
  have hb := E.2.1
  have hown := E.2.2.1
  have hts := E.2.2.2.1
  refine lv_aload_n hx hb dX8_stepWord_75 rfl (lv_at hl 0 rfl) ?_
  refine lv_dup hx hb dX8_stepWord_76 rfl ?_
  refine g_getI E hM (o := 31) (Nat.le_of_ble_eq_true rfl) rfl fl_X8_24 dX8_stepWord_77 ?_
  refine lv_iconst (v := (1 : Int32)) hx hb dX8_stepWord_80 rfl ?_
  refine lv_iadd hx hb dX8_stepWord_81 ?_
  refine g_putI E hM (o := 31) (Nat.le_of_ble_eq_true rfl) rfl fp_X8_24 dX8_stepWord_82 (fun H locs hM => ?_)
  obtain ⟨m10, hm10, he⟩ := g_let_ex he
  rw [← hm10] at hM
  refine lv_goto (tgt := 5) hx hb dX8_stepWord_85 (by decide) ?_
  exact hs5 _ _ _ _ hM (lv_sub hl [0] rfl) he

set_option maxHeartbeats 4000000 in
set_option maxRecDepth 100000 in
theorem w8_stepWord_b5_body (E : g_C p s m args c cX8_stepWord RX8 D aC (g_Zs (g_A B 69))) (hml : c.maxLocals = 2) (hret : meth.sig.returnType = none) (hlk : meth.locks = false) {F : Nat} {q0 : g_M} {s5 : g_M → Option (g_M)} (hs5 : ∀ (mem : g_M) (H : Heap) (locs : List Loc) (ls : Array Slot), g_At D aC B yC 69 mem s.heap H locs → lv_has ls 2 [(0, .ref (B + 31))] → s5 mem = some q0 → W p l e (g_rm 2) s m args below meth c H locs 0 0 (g_MQ below D aC B yC 69 args s none q0) (F0 m 5 ls [])) : ∀ (mem : g_M) (H : Heap) (locs : List Loc) (ls : Array Slot), g_At D aC B yC 69 mem s.heap H locs → lv_has ls 2 [(0, .ref (B + 31))] → f8_stepWord_b5_body F s5 mem = some q0 → W p l e (g_rm 2) s m args below meth c H locs 0 0 (g_MQ below D aC B yC 69 args s none q0) (F0 m 5 ls []) := by
  intro mem H locs ls hM hl he
  unfold f8_stepWord_b5_body at he
  have hx := E.1
  have hb := E.2.1
  have hown := E.2.2.1
  have hts := E.2.2.2.1
  refine lv_aload_n hx hb dX8_stepWord_5 rfl (lv_at hl 0 rfl) ?_
  refine g_getI E hM (o := 31) (Nat.le_of_ble_eq_true rfl) rfl fl_X8_24 dX8_stepWord_6 ?_
  refine lv_aload_n hx hb dX8_stepWord_9 rfl (lv_at hl 0 rfl) ?_
  refine g_getI E hM (o := 31) (Nat.le_of_ble_eq_true rfl) rfl fl_X8_21 dX8_stepWord_10 ?_
  refine lv_icmp_ge (tgt := 88) hx hb dX8_stepWord_13 (by decide) (fun h11 => ?_) (fun h11 => ?_)
  · rw [if_neg (Int32.not_lt.mpr h11)] at he
    exact w8_stepWord_b88 (F := F) E hml hret hlk _ _ _ _ hM (lv_sub hl [0] rfl) he
  · rw [if_pos (Int32.not_le.mp h11)] at he
    refine lv_aload_n hx hb dX8_stepWord_16 rfl (lv_at hl 0 rfl) ?_
    refine g_getP E hM (o := 31) (Nat.le_of_ble_eq_true rfl) rfl fl_X8_31 (q := 1) rfl dX8_stepWord_17 ?_
    refine lv_aload_n hx hb dX8_stepWord_20 rfl (lv_at hl 0 rfl) ?_
    refine g_getI E hM (o := 31) (Nat.le_of_ble_eq_true rfl) rfl fl_X8_24 dX8_stepWord_21 ?_
    obtain ⟨h12, he⟩ := g_ck_some he
    refine g_bald E hM (o := 1) (Nat.le_of_ble_eq_true rfl) rfl h12 dX8_stepWord_24 ?_
    obtain ⟨r13, hcr13, he⟩ := g_bind he
    refine g_callS [.int (mem.1 1 (mem.1 31 5).toNatClampNeg)] (rest := []) E hml hl.1 hM cs_X8_52 (c8_isLetter l D aC B hcr13) (by decide) rfl rfl (Nat.le_of_ble_eq_true rfl) dX8_stepWord_25 (fun H locs hM => ?_)
    refine W.eq (g2 := F0 m 28 ls [.int r13]) rfl ?_
    refine lv_if_eq (tgt := 88) hx hb dX8_stepWord_28 (by decide) (fun h14 => ?_) (fun h14 => ?_)
    · rw [if_pos h14] at he
      exact w8_stepWord_b88 (F := F) E hml hret hlk _ _ _ _ hM (lv_sub hl [0] rfl) he
    · rw [if_neg h14] at he
      refine lv_bipush (v := (25 : Int32)) hx hb dX8_stepWord_31 rfl ?_
      refine lv_iconst (v := (5 : Int32)) hx hb dX8_stepWord_33 rfl ?_
      refine lv_aload_n hx hb dX8_stepWord_34 rfl (lv_at hl 0 rfl) ?_
      refine g_getI E hM (o := 31) (Nat.le_of_ble_eq_true rfl) rfl fl_X8_24 dX8_stepWord_35 ?_
      refine lv_aload_n hx hb dX8_stepWord_38 rfl (lv_at hl 0 rfl) ?_
      refine g_getI E hM (o := 31) (Nat.le_of_ble_eq_true rfl) rfl fl_X8_15 dX8_stepWord_39 ?_
      refine lv_isub hx hb dX8_stepWord_42 ?_
      refine lv_imul hx hb dX8_stepWord_43 ?_
      refine lv_isub hx hb dX8_stepWord_44 ?_
      obtain ⟨x15, hx15, he⟩ := g_let_ex he
      refine g_topI hx15 ?_
      refine lv_istore_n (lv' := [(1, .int x15), (0, .ref (B + 31))]) hx hb dX8_stepWord_45 rfl hl (by decide) rfl (fun ls hl => ?_)
      refine lv_iload_n hx hb dX8_stepWord_46 rfl (lv_at hl 0 rfl) ?_
      refine lv_if_lt (tgt := 75) hx hb dX8_stepWord_47 (by decide) (fun h16 => ?_) (fun h16 => ?_)
      · rw [if_neg (Int32.not_le.mpr h16)] at he
        exact w8_stepWord_b75 (F := F) E hml hret hlk hs5 _ _ _ _ hM (lv_sub hl [1] rfl) he
      · rw [if_pos (Int32.not_lt.mp h16)] at he
        refine lv_aload_n hx hb dX8_stepWord_50 rfl (lv_at hl 1 rfl) ?_
        refine lv_dup hx hb dX8_stepWord_51 rfl ?_
        refine g_getI E hM (o := 31) (Nat.le_of_ble_eq_true rfl) rfl fl_X8_18 dX8_stepWord_52 ?_
        refine lv_aload_n hx hb dX8_stepWord_55 rfl (lv_at hl 1 rfl) ?_
        refine g_getP E hM (o := 31) (Nat.le_of_ble_eq_true rfl) rfl fl_X8_31 (q := 1) rfl dX8_stepWord_56 ?_
        refine lv_aload_n hx hb dX8_stepWord_59 rfl (lv_at hl 1 rfl) ?_
        refine g_getI E hM (o := 31) (Nat.le_of_ble_eq_true rfl) rfl fl_X8_24 dX8_stepWord_60 ?_
        obtain ⟨h17, he⟩ := g_ck_some he
        refine g_bald E hM (o := 1) (Nat.le_of_ble_eq_true rfl) rfl h17 dX8_stepWord_63 ?_
        refine lv_bipush (v := (97 : Int32)) hx hb dX8_stepWord_64 rfl ?_
        refine lv_isub hx hb dX8_stepWord_66 ?_
        refine lv_iconst (v := (1 : Int32)) hx hb dX8_stepWord_67 rfl ?_
        refine lv_iadd hx hb dX8_stepWord_68 ?_
        refine lv_iload_n hx hb dX8_stepWord_69 rfl (lv_at hl 0 rfl) ?_
        refine lv_ishl hx hb dX8_stepWord_70 ?_
        refine lv_ior hx hb dX8_stepWord_71 ?_
        refine g_putI E hM (o := 31) (Nat.le_of_ble_eq_true rfl) rfl fp_X8_18 dX8_stepWord_72 (fun H locs hM => ?_)
        obtain ⟨m18, hm18, he⟩ := g_let_ex he
        rw [← hm18] at hM
        exact w8_stepWord_b75 (F := F) E hml hret hlk hs5 _ _ _ _ hM (lv_sub hl [1] rfl) he

set_option maxHeartbeats 4000000 in
set_option maxRecDepth 100000 in
theorem w8_stepWord_b5 (E : g_C p s m args c cX8_stepWord RX8 D aC (g_Zs (g_A B 69))) (hml : c.maxLocals = 2) (hret : meth.sig.returnType = none) (hlk : meth.locks = false) {F : Nat} {q0 : g_M} : ∀ (mem : g_M) (H : Heap) (locs : List Loc) (ls : Array Slot), g_At D aC B yC 69 mem s.heap H locs → lv_has ls 2 [(0, .ref (B + 31))] → f8_stepWord_b5 F mem = some q0 → W p l e (g_rm 2) s m args below meth c H locs 0 0 (g_MQ below D aC B yC 69 args s none q0) (F0 m 5 ls []) := by
  have key : ∀ (nn : Nat) (x : g_M) (H : Heap) (locs : List Loc) (ls : Array Slot), g_At D aC B yC 69 x s.heap H locs → lv_has ls 2 [(0, .ref (B + 31))] → g_fix (fun sf x => f8_stepWord_b5_body F (fun mem => sf mem) x) nn x = some q0 → W p l e (g_rm 2) s m args below meth c H locs 0 0 (g_MQ below D aC B yC 69 args s none q0) (F0 m 5 ls []) := by
    intro nn
    induction nn with
    | zero => intro x H locs ls hM hl he; simp [g_fix] at he
    | succ nn ih =>
      intro x H locs ls hM hl he
      exact w8_stepWord_b5_body (F := F) E hml hret hlk (fun mem H locs ls hM hl he => ih mem H locs ls hM hl he) x H locs ls hM hl he
  intro mem H locs ls hM hl he
  exact key F mem H locs ls hM hl he

set_option maxHeartbeats 4000000 in
set_option maxRecDepth 100000 in
theorem c8_stepWord (l : Launch) (D : va_G) (aC : Nat → ClassId) (B : Nat) {F : Nat} {mem : g_M} {q0 : g_M} (he : f8_stepWord F mem = some q0) : g_Met l yX8_stepWord cX8_stepWord 2 none 2 D aC B yC 69 mem [.ref (B + 31)] none q0 := by
  refine g_ofW (by decide) (Nat.le_of_ble_eq_true rfl) ?_
  intro p e s m args below meth c ls E hml hret hlk hM hl
  have E : g_C p s m args c cX8_stepWord RX8 D aC (g_Zs (g_A B 69)) := E
  have hx := E.1
  have hb := E.2.1
  have hown := E.2.2.1
  have hts := E.2.2.2.1
  have hl : lv_has ls 2 [(0, .ref (B + 31))] := hl
  unfold f8_stepWord at he
  refine lv_aload_n hx hb dX8_stepWord_0 rfl (lv_at hl 0 rfl) ?_
  refine lv_iconst (v := (0 : Int32)) hx hb dX8_stepWord_1 rfl ?_
  refine g_putI E hM (o := 31) (Nat.le_of_ble_eq_true rfl) rfl fp_X8_18 dX8_stepWord_2 (fun H locs hM => ?_)
  obtain ⟨m19, hm19, he⟩ := g_let_ex he
  rw [← hm19] at hM
  exact w8_stepWord_b5 (F := F) E hml hret hlk _ _ _ _ hM (lv_sub hl [0] rfl) he

set_option maxHeartbeats 4000000 in
set_option maxRecDepth 100000 in
theorem c8_isDigit (l : Launch) (D : va_G) (aC : Nat → ClassId) (B : Nat) {F : Nat} {a0 : Int32} {mem : g_M} {q0 : Int32} (he : f8_isDigit F a0 mem = some q0) : g_Met l yX8_isDigit cX8_isDigit 1 (some .boolean) 1 D aC B yC 69 mem [.int a0] (some (.int q0)) mem := by
  refine g_ofW (by decide) (Nat.le_of_ble_eq_true rfl) ?_
  intro p e s m args below meth c ls E hml hret hlk hM hl
  have E : g_C p s m args c cX8_isDigit RX8 D aC (g_Zs (g_A B 69)) := E
  have hx := E.1
  have hb := E.2.1
  have hown := E.2.2.1
  have hts := E.2.2.2.1
  have hl : lv_has ls 1 [(0, .int a0)] := hl
  unfold f8_isDigit at he
  refine lv_iload_n hx hb dX8_isDigit_0 rfl (lv_at hl 0 rfl) ?_
  refine lv_bipush (v := (48 : Int32)) hx hb dX8_isDigit_1 rfl ?_
  refine lv_icmp_lt (tgt := 16) hx hb dX8_isDigit_3 (by decide) (fun h1 => ?_) (fun h1 => ?_)
  · rw [if_neg (Int32.not_le.mpr h1)] at he
    refine lv_iconst (v := (0 : Int32)) hx hb dX8_isDigit_16 rfl ?_
    cases he
    exact g_zret E hM hret hlk (Or.inl rfl) dX8_isDigit_17
  · rw [if_pos (Int32.not_lt.mp h1)] at he
    refine lv_iload_n hx hb dX8_isDigit_6 rfl (lv_at hl 0 rfl) ?_
    refine lv_bipush (v := (57 : Int32)) hx hb dX8_isDigit_7 rfl ?_
    refine lv_icmp_gt (tgt := 16) hx hb dX8_isDigit_9 (by decide) (fun h2 => ?_) (fun h2 => ?_)
    · rw [if_neg (Int32.not_le.mpr h2)] at he
      refine lv_iconst (v := (0 : Int32)) hx hb dX8_isDigit_16 rfl ?_
      cases he
      exact g_zret E hM hret hlk (Or.inl rfl) dX8_isDigit_17
    · rw [if_pos (Int32.not_lt.mp h2)] at he
      refine lv_iconst (v := (1 : Int32)) hx hb dX8_isDigit_12 rfl ?_
      refine lv_goto (tgt := 17) hx hb dX8_isDigit_13 (by decide) ?_
      cases he
      exact g_zret E hM hret hlk (Or.inr rfl) dX8_isDigit_17

set_option maxHeartbeats 4000000 in
set_option maxRecDepth 100000 in
theorem w8_stepNumber_b10_body (E : g_C p s m args c cX8_stepNumber RX8 D aC (g_Zs (g_A B 69))) (hml : c.maxLocals = 1) (hret : meth.sig.returnType = none) (hlk : meth.locks = false) {F : Nat} {q0 : g_M} {s10 : g_M → Option (g_M)} (hs10 : ∀ (mem : g_M) (H : Heap) (locs : List Loc) (ls : Array Slot), g_At D aC B yC 69 mem s.heap H locs → lv_has ls 1 [(0, .ref (B + 31))] → s10 mem = some q0 → W p l e (g_rm 2) s m args below meth c H locs 0 0 (g_MQ below D aC B yC 69 args s none q0) (F0 m 10 ls [])) : ∀ (mem : g_M) (H : Heap) (locs : List Loc) (ls : Array Slot), g_At D aC B yC 69 mem s.heap H locs → lv_has ls 1 [(0, .ref (B + 31))] → f8_stepNumber_b10_body F s10 mem = some q0 → W p l e (g_rm 2) s m args below meth c H locs 0 0 (g_MQ below D aC B yC 69 args s none q0) (F0 m 10 ls []) := by
  intro mem H locs ls hM hl he
  unfold f8_stepNumber_b10_body at he
  have hx := E.1
  have hb := E.2.1
  have hown := E.2.2.1
  have hts := E.2.2.2.1
  refine lv_aload_n hx hb dX8_stepNumber_10 rfl (lv_at hl 0 rfl) ?_
  refine g_getI E hM (o := 31) (Nat.le_of_ble_eq_true rfl) rfl fl_X8_24 dX8_stepNumber_11 ?_
  refine lv_aload_n hx hb dX8_stepNumber_14 rfl (lv_at hl 0 rfl) ?_
  refine g_getI E hM (o := 31) (Nat.le_of_ble_eq_true rfl) rfl fl_X8_21 dX8_stepNumber_15 ?_
  refine lv_icmp_ge (tgt := 78) hx hb dX8_stepNumber_18 (by decide) (fun h1 => ?_) (fun h1 => ?_)
  · rw [if_neg (Int32.not_lt.mpr h1)] at he
    cases he
    exact g_vret E hM hret hlk dX8_stepNumber_78
  · rw [if_pos (Int32.not_le.mp h1)] at he
    refine lv_aload_n hx hb dX8_stepNumber_21 rfl (lv_at hl 0 rfl) ?_
    refine g_getP E hM (o := 31) (Nat.le_of_ble_eq_true rfl) rfl fl_X8_31 (q := 1) rfl dX8_stepNumber_22 ?_
    refine lv_aload_n hx hb dX8_stepNumber_25 rfl (lv_at hl 0 rfl) ?_
    refine g_getI E hM (o := 31) (Nat.le_of_ble_eq_true rfl) rfl fl_X8_24 dX8_stepNumber_26 ?_
    obtain ⟨h2, he⟩ := g_ck_some he
    refine g_bald E hM (o := 1) (Nat.le_of_ble_eq_true rfl) rfl h2 dX8_stepNumber_29 ?_
    obtain ⟨r3, hcr3, he⟩ := g_bind he
    refine g_callS [.int (mem.1 1 (mem.1 31 5).toNatClampNeg)] (rest := []) E hml hl.1 hM cs_X8_59 (c8_isDigit l D aC B hcr3) (by decide) rfl rfl (Nat.le_of_ble_eq_true rfl) dX8_stepNumber_30 (fun H locs hM => ?_)
    refine W.eq (g2 := F0 m 33 ls [.int r3]) rfl ?_
    refine lv_if_eq (tgt := 78) hx hb dX8_stepNumber_33 (by decide) (fun h4 => ?_) (fun h4 => ?_)
    · rw [if_pos h4] at he
      cases he
      exact g_vret E hM hret hlk dX8_stepNumber_78
    · rw [if_neg h4] at he
      refine lv_aload_n hx hb dX8_stepNumber_36 rfl (lv_at hl 0 rfl) ?_
      refine lv_ldc (v := (1000000 : Int32)) hx hb hown (hts _ kc_X8_68) dX8_stepNumber_37 ?_
      refine lv_aload_n hx hb dX8_stepNumber_39 rfl (lv_at hl 0 rfl) ?_
      refine g_getI E hM (o := 31) (Nat.le_of_ble_eq_true rfl) rfl fl_X8_18 dX8_stepNumber_40 ?_
      refine lv_bipush (v := (10 : Int32)) hx hb dX8_stepNumber_43 rfl ?_
      refine lv_imul hx hb dX8_stepNumber_45 ?_
      refine lv_aload_n hx hb dX8_stepNumber_46 rfl (lv_at hl 0 rfl) ?_
      refine g_getP E hM (o := 31) (Nat.le_of_ble_eq_true rfl) rfl fl_X8_31 (q := 1) rfl dX8_stepNumber_47 ?_
      refine lv_aload_n hx hb dX8_stepNumber_50 rfl (lv_at hl 0 rfl) ?_
      refine g_getI E hM (o := 31) (Nat.le_of_ble_eq_true rfl) rfl fl_X8_24 dX8_stepNumber_51 ?_
      obtain ⟨h5, he⟩ := g_ck_some he
      refine g_bald E hM (o := 1) (Nat.le_of_ble_eq_true rfl) rfl h5 dX8_stepNumber_54 ?_
      refine lv_iadd hx hb dX8_stepNumber_55 ?_
      refine lv_bipush (v := (48 : Int32)) hx hb dX8_stepNumber_56 rfl ?_
      refine lv_isub hx hb dX8_stepNumber_58 ?_
      refine va_mmin hx hb (hml.trans hl.1.symm) hown (hts _ mm_X8_46) (hts _ km_min.1) (hts _ ki_Math) (hts _ km_min.2) (Nat.le_of_ble_eq_true rfl) (Nat.le_of_ble_eq_true rfl) (Nat.zero_le _) (Nat.zero_le _) dX8_stepNumber_59 ?_
      refine g_putI E hM (o := 31) (Nat.le_of_ble_eq_true rfl) rfl fp_X8_18 dX8_stepNumber_62 (fun H locs hM => ?_)
      obtain ⟨m6, hm6, he⟩ := g_let_ex he
      rw [← hm6] at hM
      refine lv_aload_n hx hb dX8_stepNumber_65 rfl (lv_at hl 0 rfl) ?_
      refine lv_dup hx hb dX8_stepNumber_66 rfl ?_
      refine g_getI E hM (o := 31) (Nat.le_of_ble_eq_true rfl) rfl fl_X8_24 dX8_stepNumber_67 ?_
      refine lv_iconst (v := (1 : Int32)) hx hb dX8_stepNumber_70 rfl ?_
      refine lv_iadd hx hb dX8_stepNumber_71 ?_
      refine g_putI E hM (o := 31) (Nat.le_of_ble_eq_true rfl) rfl fp_X8_24 dX8_stepNumber_72 (fun H locs hM => ?_)
      obtain ⟨m7, hm7, he⟩ := g_let_ex he
      rw [← hm7] at hM
      refine lv_goto (tgt := 10) hx hb dX8_stepNumber_75 (by decide) ?_
      exact hs10 _ _ _ _ hM (lv_sub hl [0] rfl) he

set_option maxHeartbeats 4000000 in
set_option maxRecDepth 100000 in
theorem w8_stepNumber_b10 (E : g_C p s m args c cX8_stepNumber RX8 D aC (g_Zs (g_A B 69))) (hml : c.maxLocals = 1) (hret : meth.sig.returnType = none) (hlk : meth.locks = false) {F : Nat} {q0 : g_M} : ∀ (mem : g_M) (H : Heap) (locs : List Loc) (ls : Array Slot), g_At D aC B yC 69 mem s.heap H locs → lv_has ls 1 [(0, .ref (B + 31))] → f8_stepNumber_b10 F mem = some q0 → W p l e (g_rm 2) s m args below meth c H locs 0 0 (g_MQ below D aC B yC 69 args s none q0) (F0 m 10 ls []) := by
  have key : ∀ (nn : Nat) (x : g_M) (H : Heap) (locs : List Loc) (ls : Array Slot), g_At D aC B yC 69 x s.heap H locs → lv_has ls 1 [(0, .ref (B + 31))] → g_fix (fun sf x => f8_stepNumber_b10_body F (fun mem => sf mem) x) nn x = some q0 → W p l e (g_rm 2) s m args below meth c H locs 0 0 (g_MQ below D aC B yC 69 args s none q0) (F0 m 10 ls []) := by
    intro nn
    induction nn with
    | zero => intro x H locs ls hM hl he; simp [g_fix] at he
    | succ nn ih =>
      intro x H locs ls hM hl he
      exact w8_stepNumber_b10_body (F := F) E hml hret hlk (fun mem H locs ls hM hl he => ih mem H locs ls hM hl he) x H locs ls hM hl he
  intro mem H locs ls hM hl he
  exact key F mem H locs ls hM hl he

set_option maxHeartbeats 4000000 in
set_option maxRecDepth 100000 in
theorem c8_stepNumber (l : Launch) (D : va_G) (aC : Nat → ClassId) (B : Nat) {F : Nat} {mem : g_M} {q0 : g_M} (he : f8_stepNumber F mem = some q0) : g_Met l yX8_stepNumber cX8_stepNumber 1 none 2 D aC B yC 69 mem [.ref (B + 31)] none q0 := by
  refine g_ofW (by decide) (Nat.le_of_ble_eq_true rfl) ?_
  intro p e s m args below meth c ls E hml hret hlk hM hl
  have E : g_C p s m args c cX8_stepNumber RX8 D aC (g_Zs (g_A B 69)) := E
  have hx := E.1
  have hb := E.2.1
  have hown := E.2.2.1
  have hts := E.2.2.2.1
  have hl : lv_has ls 1 [(0, .ref (B + 31))] := hl
  unfold f8_stepNumber at he
  refine lv_aload_n hx hb dX8_stepNumber_0 rfl (lv_at hl 0 rfl) ?_
  refine lv_iconst (v := (1 : Int32)) hx hb dX8_stepNumber_1 rfl ?_
  refine g_putI E hM (o := 31) (Nat.le_of_ble_eq_true rfl) rfl fp_X8_11 dX8_stepNumber_2 (fun H locs hM => ?_)
  obtain ⟨m8, hm8, he⟩ := g_let_ex he
  rw [← hm8] at hM
  refine lv_aload_n hx hb dX8_stepNumber_5 rfl (lv_at hl 0 rfl) ?_
  refine lv_iconst (v := (0 : Int32)) hx hb dX8_stepNumber_6 rfl ?_
  refine g_putI E hM (o := 31) (Nat.le_of_ble_eq_true rfl) rfl fp_X8_18 dX8_stepNumber_7 (fun H locs hM => ?_)
  obtain ⟨m9, hm9, he⟩ := g_let_ex he
  rw [← hm9] at hM
  exact w8_stepNumber_b10 (F := F) E hml hret hlk _ _ _ _ hM (lv_sub hl [0] rfl) he

set_option maxHeartbeats 4000000 in
set_option maxRecDepth 100000 in
theorem c8_signOf (l : Launch) (D : va_G) (aC : Nat → ClassId) (B : Nat) {F : Nat} {a0 : Int32} {mem : g_M} {q0 : Int32} (he : f8_signOf F a0 mem = some q0) : g_Met l yX8_signOf cX8_signOf 1 (some .int) 1 D aC B yC 69 mem [.int a0] (some (.int q0)) mem := by
  refine g_ofW (by decide) (Nat.le_of_ble_eq_true rfl) ?_
  intro p e s m args below meth c ls E hml hret hlk hM hl
  have E : g_C p s m args c cX8_signOf RX8 D aC (g_Zs (g_A B 69)) := E
  have hx := E.1
  have hb := E.2.1
  have hown := E.2.2.1
  have hts := E.2.2.2.1
  have hl : lv_has ls 1 [(0, .int a0)] := hl
  unfold f8_signOf at he
  refine lv_iload_n hx hb dX8_signOf_0 rfl (lv_at hl 0 rfl) ?_
  by_cases h1 : a0 = (40 : Int32)
  · rw [if_pos h1] at he
    refine lv_tableIn (tgt := 124) (off := 123) hx hb dX8_signOf_1 (by rw [h1]; decide) (by rw [h1]; decide) (by rw [h1]; rfl) (by decide) ?_
    refine lv_bipush (v := (13 : Int32)) hx hb dX8_signOf_124 rfl ?_
    cases he
    exact g_iret E hM hret hlk dX8_signOf_126
  rw [if_neg h1] at he
  by_cases h2 : a0 = (41 : Int32)
  · rw [if_pos h2] at he
    refine lv_tableIn (tgt := 127) (off := 126) hx hb dX8_signOf_1 (by rw [h2]; decide) (by rw [h2]; decide) (by rw [h2]; rfl) (by decide) ?_
    refine lv_bipush (v := (14 : Int32)) hx hb dX8_signOf_127 rfl ?_
    cases he
    exact g_iret E hM hret hlk dX8_signOf_129
  rw [if_neg h2] at he
  by_cases h3 : a0 = (42 : Int32)
  · rw [if_pos h3] at he
    refine lv_tableIn (tgt := 112) (off := 111) hx hb dX8_signOf_1 (by rw [h3]; decide) (by rw [h3]; decide) (by rw [h3]; rfl) (by decide) ?_
    refine lv_iconst (v := (2 : Int32)) hx hb dX8_signOf_112 rfl ?_
    cases he
    exact g_iret E hM hret hlk dX8_signOf_113
  rw [if_neg h3] at he
  by_cases h4 : a0 = (43 : Int32)
  · rw [if_pos h4] at he
    refine lv_tableIn (tgt := 108) (off := 107) hx hb dX8_signOf_1 (by rw [h4]; decide) (by rw [h4]; decide) (by rw [h4]; rfl) (by decide) ?_
    refine lv_iconst (v := (0 : Int32)) hx hb dX8_signOf_108 rfl ?_
    cases he
    exact g_iret E hM hret hlk dX8_signOf_109
  rw [if_neg h4] at he
  by_cases h5 : a0 = (44 : Int32)
  · rw [if_pos h5] at he
    refine lv_tableIn (tgt := 133) (off := 132) hx hb dX8_signOf_1 (by rw [h5]; decide) (by rw [h5]; decide) (by rw [h5]; rfl) (by decide) ?_
    refine lv_iconst (v := (-1 : Int32)) hx hb dX8_signOf_133 rfl ?_
    cases he
    exact g_iret E hM hret hlk dX8_signOf_134
  rw [if_neg h5] at he
  by_cases h6 : a0 = (45 : Int32)
  · rw [if_pos h6] at he
    refine lv_tableIn (tgt := 110) (off := 109) hx hb dX8_signOf_1 (by rw [h6]; decide) (by rw [h6]; decide) (by rw [h6]; rfl) (by decide) ?_
    refine lv_iconst (v := (1 : Int32)) hx hb dX8_signOf_110 rfl ?_
    cases he
    exact g_iret E hM hret hlk dX8_signOf_111
  rw [if_neg h6] at he
  by_cases h7 : a0 = (46 : Int32)
  · rw [if_pos h7] at he
    refine lv_tableIn (tgt := 133) (off := 132) hx hb dX8_signOf_1 (by rw [h7]; decide) (by rw [h7]; decide) (by rw [h7]; rfl) (by decide) ?_
    refine lv_iconst (v := (-1 : Int32)) hx hb dX8_signOf_133 rfl ?_
    cases he
    exact g_iret E hM hret hlk dX8_signOf_134
  rw [if_neg h7] at he
  by_cases h8 : a0 = (47 : Int32)
  · rw [if_pos h8] at he
    refine lv_tableIn (tgt := 114) (off := 113) hx hb dX8_signOf_1 (by rw [h8]; decide) (by rw [h8]; decide) (by rw [h8]; rfl) (by decide) ?_
    refine lv_iconst (v := (3 : Int32)) hx hb dX8_signOf_114 rfl ?_
    cases he
    exact g_iret E hM hret hlk dX8_signOf_115
  rw [if_neg h8] at he
  by_cases h9 : a0 = (48 : Int32)
  · rw [if_pos h9] at he
    refine lv_tableIn (tgt := 133) (off := 132) hx hb dX8_signOf_1 (by rw [h9]; decide) (by rw [h9]; decide) (by rw [h9]; rfl) (by decide) ?_
    refine lv_iconst (v := (-1 : Int32)) hx hb dX8_signOf_133 rfl ?_
    cases he
    exact g_iret E hM hret hlk dX8_signOf_134
  rw [if_neg h9] at he
  by_cases h10 : a0 = (49 : Int32)
  · rw [if_pos h10] at he
    refine lv_tableIn (tgt := 133) (off := 132) hx hb dX8_signOf_1 (by rw [h10]; decide) (by rw [h10]; decide) (by rw [h10]; rfl) (by decide) ?_
    refine lv_iconst (v := (-1 : Int32)) hx hb dX8_signOf_133 rfl ?_
    cases he
    exact g_iret E hM hret hlk dX8_signOf_134
  rw [if_neg h10] at he
  by_cases h11 : a0 = (50 : Int32)
  · rw [if_pos h11] at he
    refine lv_tableIn (tgt := 133) (off := 132) hx hb dX8_signOf_1 (by rw [h11]; decide) (by rw [h11]; decide) (by rw [h11]; rfl) (by decide) ?_
    refine lv_iconst (v := (-1 : Int32)) hx hb dX8_signOf_133 rfl ?_
    cases he
    exact g_iret E hM hret hlk dX8_signOf_134
  rw [if_neg h11] at he
  by_cases h12 : a0 = (51 : Int32)
  · rw [if_pos h12] at he
    refine lv_tableIn (tgt := 133) (off := 132) hx hb dX8_signOf_1 (by rw [h12]; decide) (by rw [h12]; decide) (by rw [h12]; rfl) (by decide) ?_
    refine lv_iconst (v := (-1 : Int32)) hx hb dX8_signOf_133 rfl ?_
    cases he
    exact g_iret E hM hret hlk dX8_signOf_134
  rw [if_neg h12] at he
  by_cases h13 : a0 = (52 : Int32)
  · rw [if_pos h13] at he
    refine lv_tableIn (tgt := 133) (off := 132) hx hb dX8_signOf_1 (by rw [h13]; decide) (by rw [h13]; decide) (by rw [h13]; rfl) (by decide) ?_
    refine lv_iconst (v := (-1 : Int32)) hx hb dX8_signOf_133 rfl ?_
    cases he
    exact g_iret E hM hret hlk dX8_signOf_134
  rw [if_neg h13] at he
  by_cases h14 : a0 = (53 : Int32)
  · rw [if_pos h14] at he
    refine lv_tableIn (tgt := 133) (off := 132) hx hb dX8_signOf_1 (by rw [h14]; decide) (by rw [h14]; decide) (by rw [h14]; rfl) (by decide) ?_
    refine lv_iconst (v := (-1 : Int32)) hx hb dX8_signOf_133 rfl ?_
    cases he
    exact g_iret E hM hret hlk dX8_signOf_134
  rw [if_neg h14] at he
  by_cases h15 : a0 = (54 : Int32)
  · rw [if_pos h15] at he
    refine lv_tableIn (tgt := 133) (off := 132) hx hb dX8_signOf_1 (by rw [h15]; decide) (by rw [h15]; decide) (by rw [h15]; rfl) (by decide) ?_
    refine lv_iconst (v := (-1 : Int32)) hx hb dX8_signOf_133 rfl ?_
    cases he
    exact g_iret E hM hret hlk dX8_signOf_134
  rw [if_neg h15] at he
  by_cases h16 : a0 = (55 : Int32)
  · rw [if_pos h16] at he
    refine lv_tableIn (tgt := 133) (off := 132) hx hb dX8_signOf_1 (by rw [h16]; decide) (by rw [h16]; decide) (by rw [h16]; rfl) (by decide) ?_
    refine lv_iconst (v := (-1 : Int32)) hx hb dX8_signOf_133 rfl ?_
    cases he
    exact g_iret E hM hret hlk dX8_signOf_134
  rw [if_neg h16] at he
  by_cases h17 : a0 = (56 : Int32)
  · rw [if_pos h17] at he
    refine lv_tableIn (tgt := 133) (off := 132) hx hb dX8_signOf_1 (by rw [h17]; decide) (by rw [h17]; decide) (by rw [h17]; rfl) (by decide) ?_
    refine lv_iconst (v := (-1 : Int32)) hx hb dX8_signOf_133 rfl ?_
    cases he
    exact g_iret E hM hret hlk dX8_signOf_134
  rw [if_neg h17] at he
  by_cases h18 : a0 = (57 : Int32)
  · rw [if_pos h18] at he
    refine lv_tableIn (tgt := 133) (off := 132) hx hb dX8_signOf_1 (by rw [h18]; decide) (by rw [h18]; decide) (by rw [h18]; rfl) (by decide) ?_
    refine lv_iconst (v := (-1 : Int32)) hx hb dX8_signOf_133 rfl ?_
    cases he
    exact g_iret E hM hret hlk dX8_signOf_134
  rw [if_neg h18] at he
  by_cases h19 : a0 = (58 : Int32)
  · rw [if_pos h19] at he
    refine lv_tableIn (tgt := 133) (off := 132) hx hb dX8_signOf_1 (by rw [h19]; decide) (by rw [h19]; decide) (by rw [h19]; rfl) (by decide) ?_
    refine lv_iconst (v := (-1 : Int32)) hx hb dX8_signOf_133 rfl ?_
    cases he
    exact g_iret E hM hret hlk dX8_signOf_134
  rw [if_neg h19] at he
  by_cases h20 : a0 = (59 : Int32)
  · rw [if_pos h20] at he
    refine lv_tableIn (tgt := 130) (off := 129) hx hb dX8_signOf_1 (by rw [h20]; decide) (by rw [h20]; decide) (by rw [h20]; rfl) (by decide) ?_
    refine lv_bipush (v := (15 : Int32)) hx hb dX8_signOf_130 rfl ?_
    cases he
    exact g_iret E hM hret hlk dX8_signOf_132
  rw [if_neg h20] at he
  by_cases h21 : a0 = (60 : Int32)
  · rw [if_pos h21] at he
    refine lv_tableIn (tgt := 116) (off := 115) hx hb dX8_signOf_1 (by rw [h21]; decide) (by rw [h21]; decide) (by rw [h21]; rfl) (by decide) ?_
    refine lv_iconst (v := (4 : Int32)) hx hb dX8_signOf_116 rfl ?_
    cases he
    exact g_iret E hM hret hlk dX8_signOf_117
  rw [if_neg h21] at he
  by_cases h22 : a0 = (61 : Int32)
  · rw [if_pos h22] at he
    refine lv_tableIn (tgt := 118) (off := 117) hx hb dX8_signOf_1 (by rw [h22]; decide) (by rw [h22]; decide) (by rw [h22]; rfl) (by decide) ?_
    refine lv_bipush (v := (6 : Int32)) hx hb dX8_signOf_118 rfl ?_
    cases he
    exact g_iret E hM hret hlk dX8_signOf_120
  rw [if_neg h22] at he
  by_cases h23 : a0 = (62 : Int32)
  · rw [if_pos h23] at he
    refine lv_tableIn (tgt := 121) (off := 120) hx hb dX8_signOf_1 (by rw [h23]; decide) (by rw [h23]; decide) (by rw [h23]; rfl) (by decide) ?_
    refine lv_bipush (v := (9 : Int32)) hx hb dX8_signOf_121 rfl ?_
    cases he
    exact g_iret E hM hret hlk dX8_signOf_123
  rw [if_neg h23] at he
  refine lv_tableOut (tgt := 133) hx hb dX8_signOf_1 (by have zh1 := lv_neT (a := 40) h1 rfl; have zh2 := lv_neT (a := 41) h2 rfl; have zh3 := lv_neT (a := 42) h3 rfl; have zh4 := lv_neT (a := 43) h4 rfl; have zh5 := lv_neT (a := 44) h5 rfl; have zh6 := lv_neT (a := 45) h6 rfl; have zh7 := lv_neT (a := 46) h7 rfl; have zh8 := lv_neT (a := 47) h8 rfl; have zh9 := lv_neT (a := 48) h9 rfl; have zh10 := lv_neT (a := 49) h10 rfl; have zh11 := lv_neT (a := 50) h11 rfl; have zh12 := lv_neT (a := 51) h12 rfl; have zh13 := lv_neT (a := 52) h13 rfl; have zh14 := lv_neT (a := 53) h14 rfl; have zh15 := lv_neT (a := 54) h15 rfl; have zh16 := lv_neT (a := 55) h16 rfl; have zh17 := lv_neT (a := 56) h17 rfl; have zh18 := lv_neT (a := 57) h18 rfl; have zh19 := lv_neT (a := 58) h19 rfl; have zh20 := lv_neT (a := 59) h20 rfl; have zh21 := lv_neT (a := 60) h21 rfl; have zh22 := lv_neT (a := 61) h22 rfl; have zh23 := lv_neT (a := 62) h23 rfl; omega) (by decide) ?_
  refine lv_iconst (v := (-1 : Int32)) hx hb dX8_signOf_133 rfl ?_
  cases he
  exact g_iret E hM hret hlk dX8_signOf_134

set_option maxHeartbeats 4000000 in
set_option maxRecDepth 100000 in
theorem w8_stepSign_b150 (E : g_C p s m args c cX8_stepSign RX8 D aC (g_Zs (g_A B 69))) (hml : c.maxLocals = 3) (hret : meth.sig.returnType = none) (hlk : meth.locks = false) {F : Nat} {q0 : g_M} : ∀ (w1 : Int32) (mem : g_M) (H : Heap) (locs : List Loc) (ls : Array Slot), g_At D aC B yC 69 mem s.heap H locs → lv_has ls 3 [] → f8_stepSign_b150 F w1 mem = some q0 → W p l e (g_rm 2) s m args below meth c H locs 0 0 (g_MQ below D aC B yC 69 args s none q0) (F0 m 150 ls [.int w1, .ref (B + 31)]) := by
  intro w1 mem H locs ls hM hl he
  unfold f8_stepSign_b150 at he
  have hx := E.1
  have hb := E.2.1
  have hown := E.2.2.1
  have hts := E.2.2.2.1
  refine g_putI E hM (o := 31) (Nat.le_of_ble_eq_true rfl) rfl fp_X8_11 dX8_stepSign_150 (fun H locs hM => ?_)
  obtain ⟨m1, hm1, he⟩ := g_let_ex he
  rw [← hm1] at hM
  cases he
  exact g_vret E hM hret hlk dX8_stepSign_153

set_option maxHeartbeats 4000000 in
set_option maxRecDepth 100000 in
theorem w8_stepSign_b128 (E : g_C p s m args c cX8_stepSign RX8 D aC (g_Zs (g_A B 69))) (hml : c.maxLocals = 3) (hret : meth.sig.returnType = none) (hlk : meth.locks = false) {F : Nat} {q0 : g_M} : ∀ (v1 : Int32) (mem : g_M) (H : Heap) (locs : List Loc) (ls : Array Slot), g_At D aC B yC 69 mem s.heap H locs → lv_has ls 3 [(0, .ref (B + 31)), (1, .int v1)] → f8_stepSign_b128 F v1 mem = some q0 → W p l e (g_rm 2) s m args below meth c H locs 0 0 (g_MQ below D aC B yC 69 args s none q0) (F0 m 128 ls []) := by
  intro v1 mem H locs ls hM hl he
  unfold f8_stepSign_b128 at he
  have hx := E.1
  have hb := E.2.1
  have hown := E.2.2.1
  have hts := E.2.2.2.1
  refine lv_aload_n hx hb dX8_stepSign_128 rfl (lv_at hl 0 rfl) ?_
  refine lv_iload_n hx hb dX8_stepSign_129 rfl (lv_at hl 1 rfl) ?_
  obtain ⟨r2, hcr2, he⟩ := g_bind he
  refine g_callS [.int v1] (rest := [.ref (B + 31)]) E hml hl.1 hM cs_X8_69 (c8_signOf l D aC B hcr2) (by decide) rfl rfl (Nat.le_of_ble_eq_true rfl) dX8_stepSign_130 (fun H locs hM => ?_)
  refine W.eq (g2 := F0 m 133 ls [.int r2, .ref (B + 31)]) rfl ?_
  refine g_putI E hM (o := 31) (Nat.le_of_ble_eq_true rfl) rfl fp_X8_18 dX8_stepSign_133 (fun H locs hM => ?_)
  obtain ⟨m3, hm3, he⟩ := g_let_ex he
  rw [← hm3] at hM
  refine lv_aload_n hx hb dX8_stepSign_136 rfl (lv_at hl 0 rfl) ?_
  refine lv_aload_n hx hb dX8_stepSign_137 rfl (lv_at hl 0 rfl) ?_
  refine g_getI E hM (o := 31) (Nat.le_of_ble_eq_true rfl) rfl fl_X8_18 dX8_stepSign_138 ?_
  refine lv_iconst (v := (-1 : Int32)) hx hb dX8_stepSign_141 rfl ?_
  refine lv_icmp_ne (tgt := 149) hx hb dX8_stepSign_142 (by decide) (fun h4 => ?_) (fun h4 => ?_)
  · rw [if_neg h4] at he
    refine lv_iconst (v := (4 : Int32)) hx hb dX8_stepSign_149 rfl ?_
    exact w8_stepSign_b150 (F := F) E hml hret hlk _ _ _ _ _ hM (lv_sub hl [] rfl) he
  · rw [if_pos h4] at he
    refine lv_iconst (v := (5 : Int32)) hx hb dX8_stepSign_145 rfl ?_
    refine lv_goto (tgt := 150) hx hb dX8_stepSign_146 (by decide) ?_
    exact w8_stepSign_b150 (F := F) E hml hret hlk _ _ _ _ _ hM (lv_sub hl [] rfl) he

set_option maxHeartbeats 4000000 in
set_option maxRecDepth 100000 in
theorem w8_stepSign_b112 (E : g_C p s m args c cX8_stepSign RX8 D aC (g_Zs (g_A B 69))) (hml : c.maxLocals = 3) (hret : meth.sig.returnType = none) (hlk : meth.locks = false) {F : Nat} {q0 : g_M} : ∀ (w1 : Int32) (mem : g_M) (H : Heap) (locs : List Loc) (ls : Array Slot), g_At D aC B yC 69 mem s.heap H locs → lv_has ls 3 [(0, .ref (B + 31))] → f8_stepSign_b112 F w1 mem = some q0 → W p l e (g_rm 2) s m args below meth c H locs 0 0 (g_MQ below D aC B yC 69 args s none q0) (F0 m 112 ls [.int w1, .ref (B + 31)]) := by
  intro w1 mem H locs ls hM hl he
  unfold f8_stepSign_b112 at he
  have hx := E.1
  have hb := E.2.1
  have hown := E.2.2.1
  have hts := E.2.2.2.1
  refine g_putI E hM (o := 31) (Nat.le_of_ble_eq_true rfl) rfl fp_X8_18 dX8_stepSign_112 (fun H locs hM => ?_)
  obtain ⟨m5, hm5, he⟩ := g_let_ex he
  rw [← hm5] at hM
  refine lv_aload_n hx hb dX8_stepSign_115 rfl (lv_at hl 0 rfl) ?_
  refine lv_dup hx hb dX8_stepSign_116 rfl ?_
  refine g_getI E hM (o := 31) (Nat.le_of_ble_eq_true rfl) rfl fl_X8_24 dX8_stepSign_117 ?_
  refine lv_iconst (v := (1 : Int32)) hx hb dX8_stepSign_120 rfl ?_
  refine lv_iadd hx hb dX8_stepSign_121 ?_
  refine g_putI E hM (o := 31) (Nat.le_of_ble_eq_true rfl) rfl fp_X8_24 dX8_stepSign_122 (fun H locs hM => ?_)
  obtain ⟨m6, hm6, he⟩ := g_let_ex he
  rw [← hm6] at hM
  refine lv_goto (tgt := 153) hx hb dX8_stepSign_125 (by decide) ?_
  cases he
  exact g_vret E hM hret hlk dX8_stepSign_153

set_option maxHeartbeats 4000000 in
set_option maxRecDepth 100000 in
theorem w8_stepSign_b93 (E : g_C p s m args c cX8_stepSign RX8 D aC (g_Zs (g_A B 69))) (hml : c.maxLocals = 3) (hret : meth.sig.returnType = none) (hlk : meth.locks = false) {F : Nat} {q0 : g_M} : ∀ (v1 : Int32) (v2 : Int32) (mem : g_M) (H : Heap) (locs : List Loc) (ls : Array Slot), g_At D aC B yC 69 mem s.heap H locs → lv_has ls 3 [(0, .ref (B + 31)), (1, .int v1), (2, .int v2)] → f8_stepSign_b93 F v1 v2 mem = some q0 → W p l e (g_rm 2) s m args below meth c H locs 0 0 (g_MQ below D aC B yC 69 args s none q0) (F0 m 93 ls []) := by
  intro v1 v2 mem H locs ls hM hl he
  unfold f8_stepSign_b93 at he
  have hx := E.1
  have hb := E.2.1
  have hown := E.2.2.1
  have hts := E.2.2.2.1
  refine lv_iload_n hx hb dX8_stepSign_93 rfl (lv_at hl 2 rfl) ?_
  refine lv_bipush (v := (61 : Int32)) hx hb dX8_stepSign_94 rfl ?_
  refine lv_icmp_ne (tgt := 128) hx hb dX8_stepSign_96 (by decide) (fun h7 => ?_) (fun h7 => ?_)
  · rw [if_neg h7] at he
    exact w8_stepSign_b128 (F := F) E hml hret hlk _ _ _ _ _ hM (lv_sub hl [0, 1] rfl) he
  · rw [if_pos h7] at he
    refine lv_aload_n hx hb dX8_stepSign_99 rfl (lv_at hl 0 rfl) ?_
    refine lv_iload_n hx hb dX8_stepSign_100 rfl (lv_at hl 1 rfl) ?_
    refine lv_bipush (v := (60 : Int32)) hx hb dX8_stepSign_101 rfl ?_
    refine lv_icmp_ne (tgt := 110) hx hb dX8_stepSign_103 (by decide) (fun h8 => ?_) (fun h8 => ?_)
    · rw [if_neg h8] at he
      refine lv_bipush (v := (8 : Int32)) hx hb dX8_stepSign_110 rfl ?_
      exact w8_stepSign_b112 (F := F) E hml hret hlk _ _ _ _ _ hM (lv_sub hl [0] rfl) he
    · rw [if_pos h8] at he
      refine lv_iconst (v := (5 : Int32)) hx hb dX8_stepSign_106 rfl ?_
      refine lv_goto (tgt := 112) hx hb dX8_stepSign_107 (by decide) ?_
      exact w8_stepSign_b112 (F := F) E hml hret hlk _ _ _ _ _ hM (lv_sub hl [0] rfl) he

set_option maxHeartbeats 4000000 in
set_option maxRecDepth 100000 in
theorem w8_stepSign_b81 (E : g_C p s m args c cX8_stepSign RX8 D aC (g_Zs (g_A B 69))) (hml : c.maxLocals = 3) (hret : meth.sig.returnType = none) (hlk : meth.locks = false) {F : Nat} {q0 : g_M} : ∀ (v1 : Int32) (v2 : Int32) (mem : g_M) (H : Heap) (locs : List Loc) (ls : Array Slot), g_At D aC B yC 69 mem s.heap H locs → lv_has ls 3 [(0, .ref (B + 31)), (1, .int v1), (2, .int v2)] → f8_stepSign_b81 F v1 v2 mem = some q0 → W p l e (g_rm 2) s m args below meth c H locs 0 0 (g_MQ below D aC B yC 69 args s none q0) (F0 m 81 ls []) := by
  intro v1 v2 mem H locs ls hM hl he
  unfold f8_stepSign_b81 at he
  have hx := E.1
  have hb := E.2.1
  have hown := E.2.2.1
  have hts := E.2.2.2.1
  refine lv_iload_n hx hb dX8_stepSign_81 rfl (lv_at hl 1 rfl) ?_
  refine lv_bipush (v := (60 : Int32)) hx hb dX8_stepSign_82 rfl ?_
  refine lv_icmp_eq (tgt := 93) hx hb dX8_stepSign_84 (by decide) (fun h9 => ?_) (fun h9 => ?_)
  · rw [if_pos h9] at he
    exact w8_stepSign_b93 (F := F) E hml hret hlk _ _ _ _ _ _ hM (lv_sub hl [0, 1, 2] rfl) he
  · rw [if_neg h9] at he
    refine lv_iload_n hx hb dX8_stepSign_87 rfl (lv_at hl 1 rfl) ?_
    refine lv_bipush (v := (62 : Int32)) hx hb dX8_stepSign_88 rfl ?_
    refine lv_icmp_ne (tgt := 128) hx hb dX8_stepSign_90 (by decide) (fun h10 => ?_) (fun h10 => ?_)
    · rw [if_neg h10] at he
      exact w8_stepSign_b128 (F := F) E hml hret hlk _ _ _ _ _ hM (lv_sub hl [0, 1] rfl) he
    · rw [if_pos h10] at he
      exact w8_stepSign_b93 (F := F) E hml hret hlk _ _ _ _ _ _ hM (lv_sub hl [0, 1, 2] rfl) he

set_option maxHeartbeats 4000000 in
set_option maxRecDepth 100000 in
theorem w8_stepSign_b44 (E : g_C p s m args c cX8_stepSign RX8 D aC (g_Zs (g_A B 69))) (hml : c.maxLocals = 3) (hret : meth.sig.returnType = none) (hlk : meth.locks = false) {F : Nat} {q0 : g_M} : ∀ (v1 : Int32) (w0 : Int32) (mem : g_M) (H : Heap) (locs : List Loc) (ls : Array Slot), g_At D aC B yC 69 mem s.heap H locs → lv_has ls 3 [(0, .ref (B + 31)), (1, .int v1)] → f8_stepSign_b44 F v1 w0 mem = some q0 → W p l e (g_rm 2) s m args below meth c H locs 0 0 (g_MQ below D aC B yC 69 args s none q0) (F0 m 44 ls [.int w0]) := by
  intro v1 w0 mem H locs ls hM hl he
  unfold f8_stepSign_b44 at he
  have hx := E.1
  have hb := E.2.1
  have hown := E.2.2.1
  have hts := E.2.2.2.1
  refine lv_istore_n (lv' := [(2, .int w0), (0, .ref (B + 31)), (1, .int v1)]) hx hb dX8_stepSign_44 rfl hl (by decide) rfl (fun ls hl => ?_)
  refine lv_aload_n hx hb dX8_stepSign_45 rfl (lv_at hl 1 rfl) ?_
  refine lv_iconst (v := (4 : Int32)) hx hb dX8_stepSign_46 rfl ?_
  refine g_putI E hM (o := 31) (Nat.le_of_ble_eq_true rfl) rfl fp_X8_11 dX8_stepSign_47 (fun H locs hM => ?_)
  obtain ⟨m11, hm11, he⟩ := g_let_ex he
  rw [← hm11] at hM
  refine lv_iload_n hx hb dX8_stepSign_50 rfl (lv_at hl 2 rfl) ?_
  refine lv_bipush (v := (60 : Int32)) hx hb dX8_stepSign_51 rfl ?_
  refine lv_icmp_ne (tgt := 81) hx hb dX8_stepSign_53 (by decide) (fun h12 => ?_) (fun h12 => ?_)
  · rw [if_neg h12] at he
    exact w8_stepSign_b81 (F := F) E hml hret hlk _ _ _ _ _ _ hM (lv_sub hl [1, 2, 0] rfl) he
  · rw [if_pos h12] at he
    refine lv_iload_n hx hb dX8_stepSign_56 rfl (lv_at hl 0 rfl) ?_
    refine lv_bipush (v := (62 : Int32)) hx hb dX8_stepSign_57 rfl ?_
    refine lv_icmp_ne (tgt := 81) hx hb dX8_stepSign_59 (by decide) (fun h13 => ?_) (fun h13 => ?_)
    · rw [if_neg h13] at he
      exact w8_stepSign_b81 (F := F) E hml hret hlk _ _ _ _ _ _ hM (lv_sub hl [1, 2, 0] rfl) he
    · rw [if_pos h13] at he
      refine lv_aload_n hx hb dX8_stepSign_62 rfl (lv_at hl 1 rfl) ?_
      refine lv_bipush (v := (7 : Int32)) hx hb dX8_stepSign_63 rfl ?_
      refine g_putI E hM (o := 31) (Nat.le_of_ble_eq_true rfl) rfl fp_X8_18 dX8_stepSign_65 (fun H locs hM => ?_)
      obtain ⟨m14, hm14, he⟩ := g_let_ex he
      rw [← hm14] at hM
      refine lv_aload_n hx hb dX8_stepSign_68 rfl (lv_at hl 1 rfl) ?_
      refine lv_dup hx hb dX8_stepSign_69 rfl ?_
      refine g_getI E hM (o := 31) (Nat.le_of_ble_eq_true rfl) rfl fl_X8_24 dX8_stepSign_70 ?_
      refine lv_iconst (v := (1 : Int32)) hx hb dX8_stepSign_73 rfl ?_
      refine lv_iadd hx hb dX8_stepSign_74 ?_
      refine g_putI E hM (o := 31) (Nat.le_of_ble_eq_true rfl) rfl fp_X8_24 dX8_stepSign_75 (fun H locs hM => ?_)
      obtain ⟨m15, hm15, he⟩ := g_let_ex he
      rw [← hm15] at hM
      refine lv_goto (tgt := 153) hx hb dX8_stepSign_78 (by decide) ?_
      cases he
      exact g_vret E hM hret hlk dX8_stepSign_153

set_option maxHeartbeats 4000000 in
set_option maxRecDepth 100000 in
theorem c8_stepSign (l : Launch) (D : va_G) (aC : Nat → ClassId) (B : Nat) {F : Nat} {mem : g_M} {q0 : g_M} (he : f8_stepSign F mem = some q0) : g_Met l yX8_stepSign cX8_stepSign 3 none 2 D aC B yC 69 mem [.ref (B + 31)] none q0 := by
  refine g_ofW (by decide) (Nat.le_of_ble_eq_true rfl) ?_
  intro p e s m args below meth c ls E hml hret hlk hM hl
  have E : g_C p s m args c cX8_stepSign RX8 D aC (g_Zs (g_A B 69)) := E
  have hx := E.1
  have hb := E.2.1
  have hown := E.2.2.1
  have hts := E.2.2.2.1
  have hl : lv_has ls 3 [(0, .ref (B + 31))] := hl
  unfold f8_stepSign at he
  refine lv_aload_n hx hb dX8_stepSign_0 rfl (lv_at hl 0 rfl) ?_
  refine g_getP E hM (o := 31) (Nat.le_of_ble_eq_true rfl) rfl fl_X8_31 (q := 1) rfl dX8_stepSign_1 ?_
  refine lv_aload_n hx hb dX8_stepSign_4 rfl (lv_at hl 0 rfl) ?_
  refine g_getI E hM (o := 31) (Nat.le_of_ble_eq_true rfl) rfl fl_X8_24 dX8_stepSign_5 ?_
  obtain ⟨h16, he⟩ := g_ck_some he
  refine g_bald E hM (o := 1) (Nat.le_of_ble_eq_true rfl) rfl h16 dX8_stepSign_8 ?_
  obtain ⟨x17, hx17, he⟩ := g_let_ex he
  refine g_topI hx17 ?_
  refine lv_istore_n (lv' := [(1, .int x17), (0, .ref (B + 31))]) hx hb dX8_stepSign_9 rfl hl (by decide) rfl (fun ls hl => ?_)
  refine lv_aload_n hx hb dX8_stepSign_10 rfl (lv_at hl 1 rfl) ?_
  refine lv_dup hx hb dX8_stepSign_11 rfl ?_
  refine g_getI E hM (o := 31) (Nat.le_of_ble_eq_true rfl) rfl fl_X8_24 dX8_stepSign_12 ?_
  refine lv_iconst (v := (1 : Int32)) hx hb dX8_stepSign_15 rfl ?_
  refine lv_iadd hx hb dX8_stepSign_16 ?_
  refine g_putI E hM (o := 31) (Nat.le_of_ble_eq_true rfl) rfl fp_X8_24 dX8_stepSign_17 (fun H locs hM => ?_)
  obtain ⟨m18, hm18, he⟩ := g_let_ex he
  rw [← hm18] at hM
  refine lv_aload_n hx hb dX8_stepSign_20 rfl (lv_at hl 1 rfl) ?_
  refine g_getI E hM (o := 31) (Nat.le_of_ble_eq_true rfl) rfl fl_X8_24 dX8_stepSign_21 ?_
  refine lv_aload_n hx hb dX8_stepSign_24 rfl (lv_at hl 1 rfl) ?_
  refine g_getI E hM (o := 31) (Nat.le_of_ble_eq_true rfl) rfl fl_X8_21 dX8_stepSign_25 ?_
  refine lv_icmp_ge (tgt := 43) hx hb dX8_stepSign_28 (by decide) (fun h19 => ?_) (fun h19 => ?_)
  · rw [if_neg (Int32.not_lt.mpr h19)] at he
    refine lv_iconst (v := (0 : Int32)) hx hb dX8_stepSign_43 rfl ?_
    exact w8_stepSign_b44 (F := F) E hml hret hlk _ _ _ _ _ _ hM (lv_sub hl [1, 0] rfl) he
  · rw [if_pos (Int32.not_le.mp h19)] at he
    refine lv_aload_n hx hb dX8_stepSign_31 rfl (lv_at hl 1 rfl) ?_
    refine g_getP E hM (o := 31) (Nat.le_of_ble_eq_true rfl) rfl fl_X8_31 (q := 1) rfl dX8_stepSign_32 ?_
    refine lv_aload_n hx hb dX8_stepSign_35 rfl (lv_at hl 1 rfl) ?_
    refine g_getI E hM (o := 31) (Nat.le_of_ble_eq_true rfl) rfl fl_X8_24 dX8_stepSign_36 ?_
    obtain ⟨h20, he⟩ := g_ck_some he
    refine g_bald E hM (o := 1) (Nat.le_of_ble_eq_true rfl) rfl h20 dX8_stepSign_39 ?_
    refine lv_goto (tgt := 44) hx hb dX8_stepSign_40 (by decide) ?_
    exact w8_stepSign_b44 (F := F) E hml hret hlk _ _ _ _ _ _ hM (lv_sub hl [1, 0] rfl) he

set_option maxHeartbeats 4000000 in
set_option maxRecDepth 100000 in
theorem w8_step_b52 (E : g_C p s m args c cX8_step RX8 D aC (g_Zs (g_A B 69))) (hml : c.maxLocals = 1) (hret : meth.sig.returnType = none) (hlk : meth.locks = false) {F : Nat} {q0 : g_M} : ∀ (mem : g_M) (H : Heap) (locs : List Loc) (ls : Array Slot), g_At D aC B yC 69 mem s.heap H locs → lv_has ls 1 [(0, .ref (B + 31))] → f8_step_b52 F mem = some q0 → W p l e (g_rm 3) s m args below meth c H locs 0 0 (g_MQ below D aC B yC 69 args s none q0) (F0 m 52 ls []) := by
  intro mem H locs ls hM hl he
  unfold f8_step_b52 at he
  have hx := E.1
  have hb := E.2.1
  have hown := E.2.2.1
  have hts := E.2.2.2.1
  refine lv_aload_n hx hb dX8_step_52 rfl (lv_at hl 0 rfl) ?_
  refine lv_aload_n hx hb dX8_step_53 rfl (lv_at hl 0 rfl) ?_
  refine g_getI E hM (o := 31) (Nat.le_of_ble_eq_true rfl) rfl fl_X8_24 dX8_step_54 ?_
  refine g_putI E hM (o := 31) (Nat.le_of_ble_eq_true rfl) rfl fp_X8_15 dX8_step_57 (fun H locs hM => ?_)
  obtain ⟨m1, hm1, he⟩ := g_let_ex he
  rw [← hm1] at hM
  refine lv_aload_n hx hb dX8_step_60 rfl (lv_at hl 0 rfl) ?_
  refine g_getI E hM (o := 31) (Nat.le_of_ble_eq_true rfl) rfl fl_X8_24 dX8_step_61 ?_
  refine lv_aload_n hx hb dX8_step_64 rfl (lv_at hl 0 rfl) ?_
  refine g_getI E hM (o := 31) (Nat.le_of_ble_eq_true rfl) rfl fl_X8_21 dX8_step_65 ?_
  refine lv_icmp_lt (tgt := 79) hx hb dX8_step_68 (by decide) (fun h2 => ?_) (fun h2 => ?_)
  · rw [if_neg (Int32.not_le.mpr h2)] at he
    refine lv_aload_n hx hb dX8_step_79 rfl (lv_at hl 0 rfl) ?_
    refine g_getP E hM (o := 31) (Nat.le_of_ble_eq_true rfl) rfl fl_X8_31 (q := 1) rfl dX8_step_80 ?_
    refine lv_aload_n hx hb dX8_step_83 rfl (lv_at hl 0 rfl) ?_
    refine g_getI E hM (o := 31) (Nat.le_of_ble_eq_true rfl) rfl fl_X8_24 dX8_step_84 ?_
    obtain ⟨h4, he⟩ := g_ck_some he
    refine g_bald E hM (o := 1) (Nat.le_of_ble_eq_true rfl) rfl h4 dX8_step_87 ?_
    obtain ⟨r5, hcr5, he⟩ := g_bind he
    refine g_callS [.int (m1.1 1 (m1.1 31 5).toNatClampNeg)] (rest := []) E hml hl.1 hM cs_X8_52 (c8_isLetter l D aC B hcr5) (by decide) rfl rfl (Nat.le_of_ble_eq_true rfl) dX8_step_88 (fun H locs hM => ?_)
    refine W.eq (g2 := F0 m 91 ls [.int r5]) rfl ?_
    refine lv_if_eq (tgt := 101) hx hb dX8_step_91 (by decide) (fun h6 => ?_) (fun h6 => ?_)
    · rw [if_pos h6] at he
      refine lv_aload_n hx hb dX8_step_101 rfl (lv_at hl 0 rfl) ?_
      refine g_getP E hM (o := 31) (Nat.le_of_ble_eq_true rfl) rfl fl_X8_31 (q := 1) rfl dX8_step_102 ?_
      refine lv_aload_n hx hb dX8_step_105 rfl (lv_at hl 0 rfl) ?_
      refine g_getI E hM (o := 31) (Nat.le_of_ble_eq_true rfl) rfl fl_X8_24 dX8_step_106 ?_
      obtain ⟨h8, he⟩ := g_ck_some he
      refine g_bald E hM (o := 1) (Nat.le_of_ble_eq_true rfl) rfl h8 dX8_step_109 ?_
      obtain ⟨r9, hcr9, he⟩ := g_bind he
      refine g_callS [.int (m1.1 1 (m1.1 31 5).toNatClampNeg)] (rest := []) E hml hl.1 hM cs_X8_59 (c8_isDigit l D aC B hcr9) (by decide) rfl rfl (Nat.le_of_ble_eq_true rfl) dX8_step_110 (fun H locs hM => ?_)
      refine W.eq (g2 := F0 m 113 ls [.int r9]) rfl ?_
      refine lv_if_eq (tgt := 123) hx hb dX8_step_113 (by decide) (fun h10 => ?_) (fun h10 => ?_)
      · rw [if_pos h10] at he
        refine lv_aload_n hx hb dX8_step_123 rfl (lv_at hl 0 rfl) ?_
        obtain ⟨r12, hcr12, he⟩ := g_bind he
        refine g_callV [] (rest := []) E hml hl.1 hM cv_X8_65 (c8_stepSign l D aC B hcr12) (o := 31) (Nat.le_of_ble_eq_true rfl) rfl (by decide) rfl rfl (Nat.le_of_ble_eq_true rfl) dX8_step_124 (fun H locs hM => ?_)
        refine W.eq (g2 := F0 m 127 ls []) rfl ?_
        cases he
        exact g_vret E hM hret hlk dX8_step_127
      · rw [if_neg h10] at he
        refine lv_aload_n hx hb dX8_step_116 rfl (lv_at hl 0 rfl) ?_
        obtain ⟨r11, hcr11, he⟩ := g_bind he
        refine g_callV [] (rest := []) E hml hl.1 hM cv_X8_62 (c8_stepNumber l D aC B hcr11) (o := 31) (Nat.le_of_ble_eq_true rfl) rfl (by decide) rfl rfl (Nat.le_of_ble_eq_true rfl) dX8_step_117 (fun H locs hM => ?_)
        refine W.eq (g2 := F0 m 120 ls []) rfl ?_
        refine lv_goto (tgt := 127) hx hb dX8_step_120 (by decide) ?_
        cases he
        exact g_vret E hM hret hlk dX8_step_127
    · rw [if_neg h6] at he
      refine lv_aload_n hx hb dX8_step_94 rfl (lv_at hl 0 rfl) ?_
      obtain ⟨r7, hcr7, he⟩ := g_bind he
      refine g_callV [] (rest := []) E hml hl.1 hM cv_X8_56 (c8_stepWord l D aC B hcr7) (o := 31) (Nat.le_of_ble_eq_true rfl) rfl (by decide) rfl rfl (Nat.le_of_ble_eq_true rfl) dX8_step_95 (fun H locs hM => ?_)
      refine W.eq (g2 := F0 m 98 ls []) rfl ?_
      refine lv_goto (tgt := 127) hx hb dX8_step_98 (by decide) ?_
      cases he
      exact g_vret E hM hret hlk dX8_step_127
  · rw [if_pos (Int32.not_lt.mp h2)] at he
    refine lv_aload_n hx hb dX8_step_71 rfl (lv_at hl 0 rfl) ?_
    refine lv_iconst (v := (0 : Int32)) hx hb dX8_step_72 rfl ?_
    refine g_putI E hM (o := 31) (Nat.le_of_ble_eq_true rfl) rfl fp_X8_11 dX8_step_73 (fun H locs hM => ?_)
    obtain ⟨m3, hm3, he⟩ := g_let_ex he
    rw [← hm3] at hM
    refine lv_goto (tgt := 127) hx hb dX8_step_76 (by decide) ?_
    cases he
    exact g_vret E hM hret hlk dX8_step_127

set_option maxHeartbeats 4000000 in
set_option maxRecDepth 100000 in
theorem w8_step_b39 (E : g_C p s m args c cX8_step RX8 D aC (g_Zs (g_A B 69))) (hml : c.maxLocals = 1) (hret : meth.sig.returnType = none) (hlk : meth.locks = false) {F : Nat} {q0 : g_M} {s0 : g_M → Option (g_M)} (hs0 : ∀ (mem : g_M) (H : Heap) (locs : List Loc) (ls : Array Slot), g_At D aC B yC 69 mem s.heap H locs → lv_has ls 1 [(0, .ref (B + 31))] → s0 mem = some q0 → W p l e (g_rm 3) s m args below meth c H locs 0 0 (g_MQ below D aC B yC 69 args s none q0) (F0 m 0 ls [])) : ∀ (mem : g_M) (H : Heap) (locs : List Loc) (ls : Array Slot), g_At D aC B yC 69 mem s.heap H locs → lv_has ls 1 [(0, .ref (B + 31))] → f8_step_b39 F s0 mem = some q0 → W p l e (g_rm 3) s m args below meth c H locs 0 0 (g_MQ below D aC B yC 69 args s none q0) (F0 m 39 ls []) := by
  intro mem H locs ls hM hl he
  unfold f8_step_b39 at he
  have hx := E.1
  have hb := E.2.1
  have hown := E.2.2.1
  have hts := E.2.2.2.1
  refine lv_aload_n hx hb dX8_step_39 rfl (lv_at hl 0 rfl) ?_
  refine lv_dup hx hb dX8_step_40 rfl ?_
  refine g_getI E hM (o := 31) (Nat.le_of_ble_eq_true rfl) rfl fl_X8_24 dX8_step_41 ?_
  refine lv_iconst (v := (1 : Int32)) hx hb dX8_step_44 rfl ?_
  refine lv_iadd hx hb dX8_step_45 ?_
  refine g_putI E hM (o := 31) (Nat.le_of_ble_eq_true rfl) rfl fp_X8_24 dX8_step_46 (fun H locs hM => ?_)
  obtain ⟨m13, hm13, he⟩ := g_let_ex he
  rw [← hm13] at hM
  refine lv_goto (tgt := 0) hx hb dX8_step_49 (by decide) ?_
  exact hs0 _ _ _ _ hM (lv_sub hl [0] rfl) he

set_option maxHeartbeats 4000000 in
set_option maxRecDepth 100000 in
theorem w8_step_b0_body (E : g_C p s m args c cX8_step RX8 D aC (g_Zs (g_A B 69))) (hml : c.maxLocals = 1) (hret : meth.sig.returnType = none) (hlk : meth.locks = false) {F : Nat} {q0 : g_M} {s0 : g_M → Option (g_M)} (hs0 : ∀ (mem : g_M) (H : Heap) (locs : List Loc) (ls : Array Slot), g_At D aC B yC 69 mem s.heap H locs → lv_has ls 1 [(0, .ref (B + 31))] → s0 mem = some q0 → W p l e (g_rm 3) s m args below meth c H locs 0 0 (g_MQ below D aC B yC 69 args s none q0) (F0 m 0 ls [])) : ∀ (mem : g_M) (H : Heap) (locs : List Loc) (ls : Array Slot), g_At D aC B yC 69 mem s.heap H locs → lv_has ls 1 [(0, .ref (B + 31))] → f8_step_b0_body F s0 mem = some q0 → W p l e (g_rm 3) s m args below meth c H locs 0 0 (g_MQ below D aC B yC 69 args s none q0) (F0 m 0 ls []) := by
  intro mem H locs ls hM hl he
  unfold f8_step_b0_body at he
  have hx := E.1
  have hb := E.2.1
  have hown := E.2.2.1
  have hts := E.2.2.2.1
  refine lv_aload_n hx hb dX8_step_0 rfl (lv_at hl 0 rfl) ?_
  refine g_getI E hM (o := 31) (Nat.le_of_ble_eq_true rfl) rfl fl_X8_24 dX8_step_1 ?_
  refine lv_aload_n hx hb dX8_step_4 rfl (lv_at hl 0 rfl) ?_
  refine g_getI E hM (o := 31) (Nat.le_of_ble_eq_true rfl) rfl fl_X8_21 dX8_step_5 ?_
  refine lv_icmp_ge (tgt := 52) hx hb dX8_step_8 (by decide) (fun h14 => ?_) (fun h14 => ?_)
  · rw [if_neg (Int32.not_lt.mpr h14)] at he
    exact w8_step_b52 (F := F) E hml hret hlk _ _ _ _ hM (lv_sub hl [0] rfl) he
  · rw [if_pos (Int32.not_le.mp h14)] at he
    refine lv_aload_n hx hb dX8_step_11 rfl (lv_at hl 0 rfl) ?_
    refine g_getP E hM (o := 31) (Nat.le_of_ble_eq_true rfl) rfl fl_X8_31 (q := 1) rfl dX8_step_12 ?_
    refine lv_aload_n hx hb dX8_step_15 rfl (lv_at hl 0 rfl) ?_
    refine g_getI E hM (o := 31) (Nat.le_of_ble_eq_true rfl) rfl fl_X8_24 dX8_step_16 ?_
    obtain ⟨h15, he⟩ := g_ck_some he
    refine g_bald E hM (o := 1) (Nat.le_of_ble_eq_true rfl) rfl h15 dX8_step_19 ?_
    refine lv_bipush (v := (10 : Int32)) hx hb dX8_step_20 rfl ?_
    refine lv_icmp_eq (tgt := 39) hx hb dX8_step_22 (by decide) (fun h16 => ?_) (fun h16 => ?_)
    · rw [if_pos h16] at he
      exact w8_step_b39 (F := F) E hml hret hlk hs0 _ _ _ _ hM (lv_sub hl [0] rfl) he
    · rw [if_neg h16] at he
      refine lv_aload_n hx hb dX8_step_25 rfl (lv_at hl 0 rfl) ?_
      refine g_getP E hM (o := 31) (Nat.le_of_ble_eq_true rfl) rfl fl_X8_31 (q := 1) rfl dX8_step_26 ?_
      refine lv_aload_n hx hb dX8_step_29 rfl (lv_at hl 0 rfl) ?_
      refine g_getI E hM (o := 31) (Nat.le_of_ble_eq_true rfl) rfl fl_X8_24 dX8_step_30 ?_
      obtain ⟨h17, he⟩ := g_ck_some he
      refine g_bald E hM (o := 1) (Nat.le_of_ble_eq_true rfl) rfl h17 dX8_step_33 ?_
      refine lv_bipush (v := (32 : Int32)) hx hb dX8_step_34 rfl ?_
      refine lv_icmp_ne (tgt := 52) hx hb dX8_step_36 (by decide) (fun h18 => ?_) (fun h18 => ?_)
      · rw [if_neg h18] at he
        exact w8_step_b52 (F := F) E hml hret hlk _ _ _ _ hM (lv_sub hl [0] rfl) he
      · rw [if_pos h18] at he
        exact w8_step_b39 (F := F) E hml hret hlk hs0 _ _ _ _ hM (lv_sub hl [0] rfl) he

set_option maxHeartbeats 4000000 in
set_option maxRecDepth 100000 in
theorem w8_step_b0 (E : g_C p s m args c cX8_step RX8 D aC (g_Zs (g_A B 69))) (hml : c.maxLocals = 1) (hret : meth.sig.returnType = none) (hlk : meth.locks = false) {F : Nat} {q0 : g_M} : ∀ (mem : g_M) (H : Heap) (locs : List Loc) (ls : Array Slot), g_At D aC B yC 69 mem s.heap H locs → lv_has ls 1 [(0, .ref (B + 31))] → f8_step_b0 F mem = some q0 → W p l e (g_rm 3) s m args below meth c H locs 0 0 (g_MQ below D aC B yC 69 args s none q0) (F0 m 0 ls []) := by
  have key : ∀ (nn : Nat) (x : g_M) (H : Heap) (locs : List Loc) (ls : Array Slot), g_At D aC B yC 69 x s.heap H locs → lv_has ls 1 [(0, .ref (B + 31))] → g_fix (fun sf x => f8_step_b0_body F (fun mem => sf mem) x) nn x = some q0 → W p l e (g_rm 3) s m args below meth c H locs 0 0 (g_MQ below D aC B yC 69 args s none q0) (F0 m 0 ls []) := by
    intro nn
    induction nn with
    | zero => intro x H locs ls hM hl he; simp [g_fix] at he
    | succ nn ih =>
      intro x H locs ls hM hl he
      exact w8_step_b0_body (F := F) E hml hret hlk (fun mem H locs ls hM hl he => ih mem H locs ls hM hl he) x H locs ls hM hl he
  intro mem H locs ls hM hl he
  exact key F mem H locs ls hM hl he

set_option maxHeartbeats 4000000 in
set_option maxRecDepth 100000 in
theorem c8_step (l : Launch) (D : va_G) (aC : Nat → ClassId) (B : Nat) {F : Nat} {mem : g_M} {q0 : g_M} (he : f8_step F mem = some q0) : g_Met l yX8_step cX8_step 1 none 3 D aC B yC 69 mem [.ref (B + 31)] none q0 := by
  refine g_ofW (by decide) (Nat.le_of_ble_eq_true rfl) ?_
  intro p e s m args below meth c ls E hml hret hlk hM hl
  have E : g_C p s m args c cX8_step RX8 D aC (g_Zs (g_A B 69)) := E
  have hx := E.1
  have hb := E.2.1
  have hown := E.2.2.1
  have hts := E.2.2.2.1
  have hl : lv_has ls 1 [(0, .ref (B + 31))] := hl
  unfold f8_step at he
  exact w8_step_b0 (F := F) E hml hret hlk _ _ _ _ hM (lv_sub hl [0] rfl) he

set_option maxHeartbeats 4000000 in
set_option maxRecDepth 100000 in
theorem w1_reads_b122 (E : g_C p s m args c cX1_reads RX1 D aC (g_Zs (g_A B 69))) (hml : c.maxLocals = 5) (hret : meth.sig.returnType = (some .int)) (hlk : meth.locks = false) {F : Nat} {q0 : Int32 × g_M} {a1 : Nat} {a2 : Int32} (ha1 : a1 < 69) (hYa1 : yC.1 a1 = (2, 0)) : ∀ (mem : g_M) (H : Heap) (locs : List Loc) (ls : Array Slot), g_At D aC B yC 69 mem s.heap H locs → lv_has ls 5 [(0, .ref (B + 33)), (2, .int a2)] → f1_reads_b122 F a1 a2 mem = some q0 → W p l e (g_rm 4) s m args below meth c H locs 0 0 (g_MQ below D aC B yC 69 args s (some (.int q0.1)) q0.2) (F0 m 122 ls []) := by
  intro mem H locs ls hM hl he
  unfold f1_reads_b122 at he
  have hx := E.1
  have hb := E.2.1
  have hown := E.2.2.1
  have hts := E.2.2.2.1
  refine lv_aload_n hx hb dX1_reads_122 rfl (lv_at hl 0 rfl) ?_
  refine lv_iconst (v := (1 : Int32)) hx hb dX1_reads_123 rfl ?_
  obtain ⟨r1, hcr1, he⟩ := g_bind he
  refine g_callV [.int (1 : Int32)] (rest := []) E hml hl.1 hM cv_X1_68 (c1_writeWaiting l D aC B hcr1) (o := 33) (Nat.le_of_ble_eq_true rfl) rfl (by decide) rfl rfl (Nat.le_of_ble_eq_true rfl) dX1_reads_124 (fun H locs hM => ?_)
  refine W.eq (g2 := F0 m 127 ls []) rfl ?_
  refine lv_aload_n hx hb dX1_reads_127 rfl (lv_at hl 0 rfl) ?_
  obtain ⟨q2, hqq2, hq2, hYq2, he⟩ := g_dr_some he
  refine g_getD E hM (o := 33) (Nat.le_of_ble_eq_true rfl) rfl fl_X1_35 rfl hqq2 dX1_reads_128 ?_
  refine g_getP E hM (o := q2) hq2 hYq2 fl_X1_72 (q := (q2 + 3)) (pt_2_2 q2 hq2 hYq2).1 dX1_reads_131 ?_
  refine lv_iload_n hx hb dX1_reads_134 rfl (lv_at hl 1 rfl) ?_
  refine lv_aload_n hx hb dX1_reads_135 rfl (lv_at hl 0 rfl) ?_
  refine g_getI E hM (o := 33) (Nat.le_of_ble_eq_true rfl) rfl fl_X1_24 dX1_reads_136 ?_
  obtain ⟨h3, he⟩ := g_ck_some he
  refine g_iast E hM (o := (q2 + 3)) (pt_2_2 q2 hq2 hYq2).2.1 (pt_2_2 q2 hq2 hYq2).2.2 h3 dX1_reads_139 (fun H locs hM => ?_)
  obtain ⟨m4, hm4, he⟩ := g_let_ex he
  rw [← hm4] at hM
  refine lv_iconst (v := (0 : Int32)) hx hb dX1_reads_140 rfl ?_
  cases he
  exact g_iret E hM hret hlk dX1_reads_141

set_option maxHeartbeats 4000000 in
set_option maxRecDepth 100000 in
theorem w1_reads_b101 (E : g_C p s m args c cX1_reads RX1 D aC (g_Zs (g_A B 69))) (hml : c.maxLocals = 5) (hret : meth.sig.returnType = (some .int)) (hlk : meth.locks = false) {F : Nat} {q0 : Int32 × g_M} {a1 : Nat} {a2 : Int32} (ha1 : a1 < 69) (hYa1 : yC.1 a1 = (2, 0)) {s46 : Int32 → g_M → Option (Int32 × g_M)} (hs46 : ∀ (v3 : Int32) (mem : g_M) (H : Heap) (locs : List Loc) (ls : Array Slot), g_At D aC B yC 69 mem s.heap H locs → lv_has ls 5 [(0, .ref (B + 33)), (2, .int a2), (3, .int v3)] → s46 v3 mem = some q0 → W p l e (g_rm 4) s m args below meth c H locs 0 0 (g_MQ below D aC B yC 69 args s (some (.int q0.1)) q0.2) (F0 m 46 ls [])) : ∀ (v3 : Int32) (v4 : Int32) (mem : g_M) (H : Heap) (locs : List Loc) (ls : Array Slot), g_At D aC B yC 69 mem s.heap H locs → lv_has ls 5 [(0, .ref (B + 33)), (2, .int a2), (3, .int v3), (4, .int v4)] → f1_reads_b101 F a1 a2 s46 v3 v4 mem = some q0 → W p l e (g_rm 4) s m args below meth c H locs 0 0 (g_MQ below D aC B yC 69 args s (some (.int q0.1)) q0.2) (F0 m 101 ls []) := by
  intro v3 v4 mem H locs ls hM hl he
  unfold f1_reads_b101 at he
  have hx := E.1
  have hb := E.2.1
  have hown := E.2.2.1
  have hts := E.2.2.2.1
  refine lv_iload hx hb dX1_reads_101 (lv_at hl 3 rfl) ?_
  refine lv_if_eq (tgt := 109) hx hb dX1_reads_103 (by decide) (fun h5 => ?_) (fun h5 => ?_)
  · rw [if_pos h5] at he
    refine lv_aload_n hx hb dX1_reads_109 rfl (lv_at hl 0 rfl) ?_
    refine g_getP E hM (o := 33) (Nat.le_of_ble_eq_true rfl) rfl fl_X1_31 (q := 31) rfl dX1_reads_110 ?_
    obtain ⟨r6, hcr6, he⟩ := g_bind he
    refine g_callV [] (rest := []) E hml hl.1 hM cv_X1_65 (c8_step l D aC B hcr6) (o := 31) (Nat.le_of_ble_eq_true rfl) rfl (by decide) rfl rfl (Nat.le_of_ble_eq_true rfl) dX1_reads_113 (fun H locs hM => ?_)
    refine W.eq (g2 := F0 m 116 ls []) rfl ?_
    obtain ⟨x7, hx7, he⟩ := g_let_ex he
    refine lv_iinc (v := x7) (lv' := [(3, .int x7), (0, .ref (B + 33)), (2, .int a2), (4, .int v4)]) hx hb dX1_reads_116 hl (k := 2) rfl (by rw [hx7]; rfl) (by decide) rfl (fun ls hl => ?_)
    refine lv_goto (tgt := 46) hx hb dX1_reads_119 (by decide) ?_
    exact hs46 _ _ _ _ _ hM (lv_sub hl [1, 2, 0] rfl) he
  · rw [if_neg h5] at he
    refine lv_iload hx hb dX1_reads_106 (lv_at hl 3 rfl) ?_
    cases he
    exact g_iret E hM hret hlk dX1_reads_108

set_option maxHeartbeats 4000000 in
set_option maxRecDepth 100000 in
theorem w1_reads_b99 (E : g_C p s m args c cX1_reads RX1 D aC (g_Zs (g_A B 69))) (hml : c.maxLocals = 5) (hret : meth.sig.returnType = (some .int)) (hlk : meth.locks = false) {F : Nat} {q0 : Int32 × g_M} {a1 : Nat} {a2 : Int32} (ha1 : a1 < 69) (hYa1 : yC.1 a1 = (2, 0)) {s46 : Int32 → g_M → Option (Int32 × g_M)} (hs46 : ∀ (v3 : Int32) (mem : g_M) (H : Heap) (locs : List Loc) (ls : Array Slot), g_At D aC B yC 69 mem s.heap H locs → lv_has ls 5 [(0, .ref (B + 33)), (2, .int a2), (3, .int v3)] → s46 v3 mem = some q0 → W p l e (g_rm 4) s m args below meth c H locs 0 0 (g_MQ below D aC B yC 69 args s (some (.int q0.1)) q0.2) (F0 m 46 ls [])) : ∀ (v3 : Int32) (w0 : Int32) (mem : g_M) (H : Heap) (locs : List Loc) (ls : Array Slot), g_At D aC B yC 69 mem s.heap H locs → lv_has ls 5 [(0, .ref (B + 33)), (2, .int a2), (3, .int v3)] → f1_reads_b99 F a1 a2 s46 v3 w0 mem = some q0 → W p l e (g_rm 4) s m args below meth c H locs 0 0 (g_MQ below D aC B yC 69 args s (some (.int q0.1)) q0.2) (F0 m 99 ls [.int w0]) := by
  intro v3 w0 mem H locs ls hM hl he
  unfold f1_reads_b99 at he
  have hx := E.1
  have hb := E.2.1
  have hown := E.2.2.1
  have hts := E.2.2.2.1
  refine lv_istore (lv' := [(4, .int w0), (0, .ref (B + 33)), (2, .int a2), (3, .int v3)]) hx hb dX1_reads_99 hl (by decide) rfl (fun ls hl => ?_)
  exact w1_reads_b101 (F := F) (a1 := a1) (a2 := a2) E hml hret hlk ha1 hYa1 hs46 _ _ _ _ _ _ hM (lv_sub hl [1, 2, 3, 0] rfl) he

set_option maxHeartbeats 4000000 in
set_option maxRecDepth 100000 in
theorem w1_reads_b46_body (E : g_C p s m args c cX1_reads RX1 D aC (g_Zs (g_A B 69))) (hml : c.maxLocals = 5) (hret : meth.sig.returnType = (some .int)) (hlk : meth.locks = false) {F : Nat} {q0 : Int32 × g_M} {a1 : Nat} {a2 : Int32} (ha1 : a1 < 69) (hYa1 : yC.1 a1 = (2, 0)) {s46 : Int32 → g_M → Option (Int32 × g_M)} (hs46 : ∀ (v3 : Int32) (mem : g_M) (H : Heap) (locs : List Loc) (ls : Array Slot), g_At D aC B yC 69 mem s.heap H locs → lv_has ls 5 [(0, .ref (B + 33)), (2, .int a2), (3, .int v3)] → s46 v3 mem = some q0 → W p l e (g_rm 4) s m args below meth c H locs 0 0 (g_MQ below D aC B yC 69 args s (some (.int q0.1)) q0.2) (F0 m 46 ls [])) : ∀ (v3 : Int32) (mem : g_M) (H : Heap) (locs : List Loc) (ls : Array Slot), g_At D aC B yC 69 mem s.heap H locs → lv_has ls 5 [(0, .ref (B + 33)), (2, .int a2), (3, .int v3)] → f1_reads_b46_body F a1 a2 s46 v3 mem = some q0 → W p l e (g_rm 4) s m args below meth c H locs 0 0 (g_MQ below D aC B yC 69 args s (some (.int q0.1)) q0.2) (F0 m 46 ls []) := by
  intro v3 mem H locs ls hM hl he
  unfold f1_reads_b46_body at he
  have hx := E.1
  have hb := E.2.1
  have hown := E.2.2.1
  have hts := E.2.2.2.1
  refine lv_iload_n hx hb dX1_reads_46 rfl (lv_at hl 2 rfl) ?_
  refine lv_sipush (v := (700 : Int32)) hx hb dX1_reads_47 rfl ?_
  refine lv_icmp_ge (tgt := 122) hx hb dX1_reads_50 (by decide) (fun h8 => ?_) (fun h8 => ?_)
  · rw [if_neg (Int32.not_lt.mpr h8)] at he
    exact w1_reads_b122 (F := F) (a1 := a1) (a2 := a2) E hml hret hlk ha1 hYa1 _ _ _ _ hM (lv_sub hl [0, 1] rfl) he
  · rw [if_pos (Int32.not_le.mp h8)] at he
    refine lv_aload_n hx hb dX1_reads_53 rfl (lv_at hl 0 rfl) ?_
    obtain ⟨r9, hcr9, he⟩ := g_bind he
    refine g_callV [] (rest := []) E hml hl.1 hM cv_X1_45 (c1_isAtEnd l D aC B hcr9) (o := 33) (Nat.le_of_ble_eq_true rfl) rfl (by decide) rfl rfl (Nat.le_of_ble_eq_true rfl) dX1_reads_54 (fun H locs hM => ?_)
    refine W.eq (g2 := F0 m 57 ls [.int r9]) rfl ?_
    refine lv_if_ne (tgt := 122) hx hb dX1_reads_57 (by decide) (fun h10 => ?_) (fun h10 => ?_)
    · rw [if_neg h10] at he
      exact w1_reads_b122 (F := F) (a1 := a1) (a2 := a2) E hml hret hlk ha1 hYa1 _ _ _ _ hM (lv_sub hl [0, 1] rfl) he
    · rw [if_pos h10] at he
      refine lv_aload_n hx hb dX1_reads_60 rfl (lv_at hl 0 rfl) ?_
      refine g_getI E hM (o := 33) (Nat.le_of_ble_eq_true rfl) rfl fl_X1_27 dX1_reads_61 ?_
      refine lv_if_eq (tgt := 76) hx hb dX1_reads_64 (by decide) (fun h11 => ?_) (fun h11 => ?_)
      · rw [if_pos h11] at he
        refine lv_aload_n hx hb dX1_reads_76 rfl (lv_at hl 0 rfl) ?_
        refine g_getP E hM (o := 33) (Nat.le_of_ble_eq_true rfl) rfl fl_X1_31 (q := 31) rfl dX1_reads_77 ?_
        refine lv_bipush (v := (14 : Int32)) hx hb dX1_reads_80 rfl ?_
        obtain ⟨r14, hcr14, he⟩ := g_bind he
        refine g_callV [.int (14 : Int32)] (rest := []) E hml hl.1 hM cv_X1_53 (c8_isSign l D aC B hcr14) (o := 31) (Nat.le_of_ble_eq_true rfl) rfl (by decide) rfl rfl (Nat.le_of_ble_eq_true rfl) dX1_reads_82 (fun H locs hM => ?_)
        refine W.eq (g2 := F0 m 85 ls [.int r14]) rfl ?_
        refine lv_if_eq (tgt := 95) hx hb dX1_reads_85 (by decide) (fun h15 => ?_) (fun h15 => ?_)
        · rw [if_pos h15] at he
          refine lv_aload_n hx hb dX1_reads_95 rfl (lv_at hl 0 rfl) ?_
          obtain ⟨r17, hcr17, he⟩ := g_bind he
          refine g_callV [] (rest := []) E hml hl.1 hM cv_X1_62 (c1_takeOperator l D aC B hcr17) (o := 33) (Nat.le_of_ble_eq_true rfl) rfl (by decide) rfl rfl (Nat.le_of_ble_eq_true rfl) dX1_reads_96 (fun H locs hM => ?_)
          refine W.eq (g2 := F0 m 99 ls [.int r17.1]) rfl ?_
          exact w1_reads_b99 (F := F) (a1 := a1) (a2 := a2) E hml hret hlk ha1 hYa1 hs46 _ _ _ _ _ _ hM (lv_sub hl [0, 1, 2] rfl) he
        · rw [if_neg h15] at he
          refine lv_aload_n hx hb dX1_reads_88 rfl (lv_at hl 0 rfl) ?_
          obtain ⟨r16, hcr16, he⟩ := g_bind he
          refine g_callV [] (rest := []) E hml hl.1 hM cv_X1_59 (c1_takeClose l D aC B hcr16) (o := 33) (Nat.le_of_ble_eq_true rfl) rfl (by decide) rfl rfl (Nat.le_of_ble_eq_true rfl) dX1_reads_89 (fun H locs hM => ?_)
          refine W.eq (g2 := F0 m 92 ls [.int r16.1]) rfl ?_
          refine lv_goto (tgt := 99) hx hb dX1_reads_92 (by decide) ?_
          exact w1_reads_b99 (F := F) (a1 := a1) (a2 := a2) E hml hret hlk ha1 hYa1 hs46 _ _ _ _ _ _ hM (lv_sub hl [0, 1, 2] rfl) he
      · rw [if_neg h11] at he
        refine lv_aload_n hx hb dX1_reads_67 rfl (lv_at hl 0 rfl) ?_
        obtain ⟨r12, hcr12, he⟩ := g_bind he
        refine g_callV [] (rest := []) E hml hl.1 hM cv_X1_49 (c1_takeOperand l D aC B hcr12) (o := 33) (Nat.le_of_ble_eq_true rfl) rfl (by decide) rfl rfl (Nat.le_of_ble_eq_true rfl) dX1_reads_68 (fun H locs hM => ?_)
        refine W.eq (g2 := F0 m 71 ls [.int r12.1]) rfl ?_
        obtain ⟨x13, hx13, he⟩ := g_let_ex he
        refine g_topI hx13 ?_
        refine lv_istore (lv' := [(4, .int x13), (0, .ref (B + 33)), (2, .int a2), (3, .int v3)]) hx hb dX1_reads_71 hl (by decide) rfl (fun ls hl => ?_)
        refine lv_goto (tgt := 101) hx hb dX1_reads_73 (by decide) ?_
        exact w1_reads_b101 (F := F) (a1 := a1) (a2 := a2) E hml hret hlk ha1 hYa1 hs46 _ _ _ _ _ _ hM (lv_sub hl [1, 2, 3, 0] rfl) he

set_option maxHeartbeats 4000000 in
set_option maxRecDepth 100000 in
theorem w1_reads_b46 (E : g_C p s m args c cX1_reads RX1 D aC (g_Zs (g_A B 69))) (hml : c.maxLocals = 5) (hret : meth.sig.returnType = (some .int)) (hlk : meth.locks = false) {F : Nat} {q0 : Int32 × g_M} {a1 : Nat} {a2 : Int32} (ha1 : a1 < 69) (hYa1 : yC.1 a1 = (2, 0)) : ∀ (v3 : Int32) (mem : g_M) (H : Heap) (locs : List Loc) (ls : Array Slot), g_At D aC B yC 69 mem s.heap H locs → lv_has ls 5 [(0, .ref (B + 33)), (2, .int a2), (3, .int v3)] → f1_reads_b46 F a1 a2 v3 mem = some q0 → W p l e (g_rm 4) s m args below meth c H locs 0 0 (g_MQ below D aC B yC 69 args s (some (.int q0.1)) q0.2) (F0 m 46 ls []) := by
  have key : ∀ (nn : Nat) (x : Int32 × g_M) (H : Heap) (locs : List Loc) (ls : Array Slot), g_At D aC B yC 69 x.2 s.heap H locs → lv_has ls 5 [(0, .ref (B + 33)), (2, .int a2), (3, .int x.1)] → g_fix (fun sf x => f1_reads_b46_body F a1 a2 (fun v3 mem => sf (v3, mem)) x.1 x.2) nn x = some q0 → W p l e (g_rm 4) s m args below meth c H locs 0 0 (g_MQ below D aC B yC 69 args s (some (.int q0.1)) q0.2) (F0 m 46 ls []) := by
    intro nn
    induction nn with
    | zero => intro x H locs ls hM hl he; simp [g_fix] at he
    | succ nn ih =>
      intro x H locs ls hM hl he
      exact w1_reads_b46_body (F := F) (a1 := a1) (a2 := a2) E hml hret hlk ha1 hYa1 (fun v3 mem H locs ls hM hl he => ih (v3, mem) H locs ls hM hl he) x.1 x.2 H locs ls hM hl he
  intro v3 mem H locs ls hM hl he
  exact key F (v3, mem) H locs ls hM hl he

set_option maxHeartbeats 4000000 in
set_option maxRecDepth 100000 in
theorem c1_reads (l : Launch) (D : va_G) (aC : Nat → ClassId) (B : Nat) {F : Nat} {a1 : Nat} (ha1 : a1 < 69) (hYa1 : yC.1 a1 = (2, 0)) {a2 : Int32} {mem : g_M} {q0 : Int32 × g_M} (he : f1_reads F a1 a2 mem = some q0) : g_Met l yX1_reads cX1_reads 5 (some .int) 4 D aC B yC 69 mem [.ref (B + 33), .ref (B + a1), .int a2] (some (.int q0.1)) q0.2 := by
  refine g_ofW (by decide) (Nat.le_of_ble_eq_true rfl) ?_
  intro p e s m args below meth c ls E hml hret hlk hM hl
  have E : g_C p s m args c cX1_reads RX1 D aC (g_Zs (g_A B 69)) := E
  have hx := E.1
  have hb := E.2.1
  have hown := E.2.2.1
  have hts := E.2.2.2.1
  have hl : lv_has ls 5 [(0, .ref (B + 33)), (1, .ref (B + a1)), (2, .int a2)] := hl
  unfold f1_reads at he
  refine lv_aload_n hx hb dX1_reads_0 rfl (lv_at hl 0 rfl) ?_
  refine lv_aload_n hx hb dX1_reads_1 rfl (lv_at hl 1 rfl) ?_
  refine g_putR E hM (o := 33) (Nat.le_of_ble_eq_true rfl) rfl fp_X1_35 rfl dX1_reads_2 (fun H locs hM => ?_)
  obtain ⟨m18, hm18, he⟩ := g_let_ex he
  rw [← hm18] at hM
  refine lv_aload_n hx hb dX1_reads_5 rfl (lv_at hl 0 rfl) ?_
  refine lv_iconst (v := (0 : Int32)) hx hb dX1_reads_6 rfl ?_
  refine g_putI E hM (o := 33) (Nat.le_of_ble_eq_true rfl) rfl fp_X1_17 dX1_reads_7 (fun H locs hM => ?_)
  obtain ⟨m19, hm19, he⟩ := g_let_ex he
  rw [← hm19] at hM
  refine lv_aload_n hx hb dX1_reads_10 rfl (lv_at hl 0 rfl) ?_
  refine lv_iconst (v := (0 : Int32)) hx hb dX1_reads_11 rfl ?_
  refine g_putI E hM (o := 33) (Nat.le_of_ble_eq_true rfl) rfl fp_X1_21 dX1_reads_12 (fun H locs hM => ?_)
  obtain ⟨m20, hm20, he⟩ := g_let_ex he
  rw [← hm20] at hM
  refine lv_aload_n hx hb dX1_reads_15 rfl (lv_at hl 0 rfl) ?_
  refine lv_aload_n hx hb dX1_reads_16 rfl (lv_at hl 0 rfl) ?_
  obtain ⟨q21, hqq21, hq21, hYq21, he⟩ := g_dr_some he
  refine g_getD E hM (o := 33) (Nat.le_of_ble_eq_true rfl) rfl fl_X1_35 rfl hqq21 dX1_reads_17 ?_
  refine g_getI E hM (o := q21) hq21 hYq21 fl_X1_39 dX1_reads_20 ?_
  refine g_putI E hM (o := 33) (Nat.le_of_ble_eq_true rfl) rfl fp_X1_24 dX1_reads_23 (fun H locs hM => ?_)
  obtain ⟨m22, hm22, he⟩ := g_let_ex he
  rw [← hm22] at hM
  refine lv_aload_n hx hb dX1_reads_26 rfl (lv_at hl 0 rfl) ?_
  refine lv_iconst (v := (1 : Int32)) hx hb dX1_reads_27 rfl ?_
  refine g_putZ E hM (o := 33) (Nat.le_of_ble_eq_true rfl) rfl fp_X1_27 (Or.inr rfl) dX1_reads_28 (fun H locs hM => ?_)
  obtain ⟨m23, hm23, he⟩ := g_let_ex he
  rw [← hm23] at hM
  refine lv_aload_n hx hb dX1_reads_31 rfl (lv_at hl 0 rfl) ?_
  obtain ⟨q24, hqq24, hq24, hYq24, he⟩ := g_dr_some he
  refine g_getD E hM (o := 33) (Nat.le_of_ble_eq_true rfl) rfl fl_X1_35 rfl hqq24 dX1_reads_32 ?_
  refine g_getP E hM (o := q24) hq24 hYq24 fl_X1_42 (q := (q24 + 2)) (pt_2_1 q24 hq24 hYq24).1 dX1_reads_35 ?_
  refine lv_iload_n hx hb dX1_reads_38 rfl (lv_at hl 2 rfl) ?_
  refine lv_aload_n hx hb dX1_reads_39 rfl (lv_at hl 0 rfl) ?_
  refine g_getI E hM (o := 33) (Nat.le_of_ble_eq_true rfl) rfl fl_X1_24 dX1_reads_40 ?_
  obtain ⟨h25, he⟩ := g_ck_some he
  refine g_iast E hM (o := (q24 + 2)) (pt_2_1 q24 hq24 hYq24).2.1 (pt_2_1 q24 hq24 hYq24).2.2 h25 dX1_reads_43 (fun H locs hM => ?_)
  obtain ⟨m26, hm26, he⟩ := g_let_ex he
  rw [← hm26] at hM
  refine lv_iconst (v := (0 : Int32)) hx hb dX1_reads_44 rfl ?_
  refine lv_istore_n (lv' := [(3, .int (0 : Int32)), (0, .ref (B + 33)), (1, .ref (B + a1)), (2, .int a2)]) hx hb dX1_reads_45 rfl hl (by decide) rfl (fun ls hl => ?_)
  exact w1_reads_b46 (F := F) (a1 := a1) (a2 := a2) E hml hret hlk ha1 hYa1 _ _ _ _ _ hM (lv_sub hl [1, 3, 0] rfl) he

set_option maxHeartbeats 4000000 in
set_option maxRecDepth 100000 in
theorem w2_clear_b7_body (E : g_C p s m args c cX2_clear RX2 D aC (g_Zs (g_A B 69))) (hml : c.maxLocals = 2) (hret : meth.sig.returnType = none) (hlk : meth.locks = false) {F : Nat} {q0 : g_M} {t : Nat} (ht : t < 69) (hY : yC.1 t = (2, 0)) {s7 : Int32 → g_M → Option (g_M)} (hs7 : ∀ (v1 : Int32) (mem : g_M) (H : Heap) (locs : List Loc) (ls : Array Slot), g_At D aC B yC 69 mem s.heap H locs → lv_has ls 2 [(0, .ref (B + t)), (1, .int v1)] → s7 v1 mem = some q0 → W p l e (g_rm 1) s m args below meth c H locs 0 0 (g_MQ below D aC B yC 69 args s none q0) (F0 m 7 ls [])) : ∀ (v1 : Int32) (mem : g_M) (H : Heap) (locs : List Loc) (ls : Array Slot), g_At D aC B yC 69 mem s.heap H locs → lv_has ls 2 [(0, .ref (B + t)), (1, .int v1)] → f2_clear_b7_body F t s7 v1 mem = some q0 → W p l e (g_rm 1) s m args below meth c H locs 0 0 (g_MQ below D aC B yC 69 args s none q0) (F0 m 7 ls []) := by
  intro v1 mem H locs ls hM hl he
  unfold f2_clear_b7_body at he
  have hx := E.1
  have hb := E.2.1
  have hown := E.2.2.1
  have hts := E.2.2.2.1
  refine lv_iload_n hx hb dX2_clear_7 rfl (lv_at hl 1 rfl) ?_
  refine lv_iconst (v := (3 : Int32)) hx hb dX2_clear_8 rfl ?_
  refine lv_icmp_ge (tgt := 32) hx hb dX2_clear_9 (by decide) (fun h1 => ?_) (fun h1 => ?_)
  · rw [if_neg (Int32.not_lt.mpr h1)] at he
    cases he
    exact g_vret E hM hret hlk dX2_clear_32
  · rw [if_pos (Int32.not_le.mp h1)] at he
    refine lv_aload_n hx hb dX2_clear_12 rfl (lv_at hl 0 rfl) ?_
    refine g_getP E hM (o := t) ht hY fl_X2_17 (q := (t + 2)) (pt_2_1 t ht hY).1 dX2_clear_13 ?_
    refine lv_iload_n hx hb dX2_clear_16 rfl (lv_at hl 1 rfl) ?_
    refine lv_iconst (v := (0 : Int32)) hx hb dX2_clear_17 rfl ?_
    obtain ⟨h2, he⟩ := g_ck_some he
    refine g_iast E hM (o := (t + 2)) (pt_2_1 t ht hY).2.1 (pt_2_1 t ht hY).2.2 h2 dX2_clear_18 (fun H locs hM => ?_)
    obtain ⟨m3, hm3, he⟩ := g_let_ex he
    rw [← hm3] at hM
    refine lv_aload_n hx hb dX2_clear_19 rfl (lv_at hl 0 rfl) ?_
    refine g_getP E hM (o := t) ht hY fl_X2_20 (q := (t + 3)) (pt_2_2 t ht hY).1 dX2_clear_20 ?_
    refine lv_iload_n hx hb dX2_clear_23 rfl (lv_at hl 1 rfl) ?_
    refine lv_iconst (v := (0 : Int32)) hx hb dX2_clear_24 rfl ?_
    obtain ⟨h4, he⟩ := g_ck_some he
    refine g_iast E hM (o := (t + 3)) (pt_2_2 t ht hY).2.1 (pt_2_2 t ht hY).2.2 h4 dX2_clear_25 (fun H locs hM => ?_)
    obtain ⟨m5, hm5, he⟩ := g_let_ex he
    rw [← hm5] at hM
    obtain ⟨x6, hx6, he⟩ := g_let_ex he
    refine lv_iinc (v := x6) (lv' := [(1, .int x6), (0, .ref (B + t))]) hx hb dX2_clear_26 hl (k := 1) rfl (by rw [hx6]; rfl) (by decide) rfl (fun ls hl => ?_)
    refine lv_goto (tgt := 7) hx hb dX2_clear_29 (by decide) ?_
    exact hs7 _ _ _ _ _ hM (lv_sub hl [1, 0] rfl) he

set_option maxHeartbeats 4000000 in
set_option maxRecDepth 100000 in
theorem w2_clear_b7 (E : g_C p s m args c cX2_clear RX2 D aC (g_Zs (g_A B 69))) (hml : c.maxLocals = 2) (hret : meth.sig.returnType = none) (hlk : meth.locks = false) {F : Nat} {q0 : g_M} {t : Nat} (ht : t < 69) (hY : yC.1 t = (2, 0)) : ∀ (v1 : Int32) (mem : g_M) (H : Heap) (locs : List Loc) (ls : Array Slot), g_At D aC B yC 69 mem s.heap H locs → lv_has ls 2 [(0, .ref (B + t)), (1, .int v1)] → f2_clear_b7 F t v1 mem = some q0 → W p l e (g_rm 1) s m args below meth c H locs 0 0 (g_MQ below D aC B yC 69 args s none q0) (F0 m 7 ls []) := by
  have key : ∀ (nn : Nat) (x : Int32 × g_M) (H : Heap) (locs : List Loc) (ls : Array Slot), g_At D aC B yC 69 x.2 s.heap H locs → lv_has ls 2 [(0, .ref (B + t)), (1, .int x.1)] → g_fix (fun sf x => f2_clear_b7_body F t (fun v1 mem => sf (v1, mem)) x.1 x.2) nn x = some q0 → W p l e (g_rm 1) s m args below meth c H locs 0 0 (g_MQ below D aC B yC 69 args s none q0) (F0 m 7 ls []) := by
    intro nn
    induction nn with
    | zero => intro x H locs ls hM hl he; simp [g_fix] at he
    | succ nn ih =>
      intro x H locs ls hM hl he
      exact w2_clear_b7_body (F := F) (t := t) E hml hret hlk ht hY (fun v1 mem H locs ls hM hl he => ih (v1, mem) H locs ls hM hl he) x.1 x.2 H locs ls hM hl he
  intro v1 mem H locs ls hM hl he
  exact key F (v1, mem) H locs ls hM hl he

set_option maxHeartbeats 4000000 in
set_option maxRecDepth 100000 in
theorem c2_clear (l : Launch) (D : va_G) (aC : Nat → ClassId) (B : Nat) {F : Nat} {t : Nat} (ht : t < 69) (hY : yC.1 t = (2, 0)) {mem : g_M} {q0 : g_M} (he : f2_clear F t mem = some q0) : g_Met l yX2_clear cX2_clear 2 none 1 D aC B yC 69 mem [.ref (B + t)] none q0 := by
  refine g_ofW (by decide) (Nat.le_of_ble_eq_true rfl) ?_
  intro p e s m args below meth c ls E hml hret hlk hM hl
  have E : g_C p s m args c cX2_clear RX2 D aC (g_Zs (g_A B 69)) := E
  have hx := E.1
  have hb := E.2.1
  have hown := E.2.2.1
  have hts := E.2.2.2.1
  have hl : lv_has ls 2 [(0, .ref (B + t))] := hl
  unfold f2_clear at he
  refine lv_aload_n hx hb dX2_clear_0 rfl (lv_at hl 0 rfl) ?_
  refine lv_iconst (v := (0 : Int32)) hx hb dX2_clear_1 rfl ?_
  refine g_putI E hM (o := t) ht hY fp_X2_23 dX2_clear_2 (fun H locs hM => ?_)
  obtain ⟨m7, hm7, he⟩ := g_let_ex he
  rw [← hm7] at hM
  refine lv_iconst (v := (0 : Int32)) hx hb dX2_clear_5 rfl ?_
  refine lv_istore_n (lv' := [(1, .int (0 : Int32)), (0, .ref (B + t))]) hx hb dX2_clear_6 rfl hl (by decide) rfl (fun ls hl => ?_)
  exact w2_clear_b7 (F := F) (t := t) E hml hret hlk ht hY _ _ _ _ _ hM (lv_sub hl [1, 0] rfl) he

set_option maxHeartbeats 4000000 in
set_option maxRecDepth 100000 in
theorem c3_clear (l : Launch) (D : va_G) (aC : Nat → ClassId) (B : Nat) {F : Nat} {mem : g_M} {q0 : g_M} (he : f3_clear F mem = some q0) : g_Met l yX3_clear cX3_clear 1 none 1 D aC B yC 69 mem [.ref (B + 67)] none q0 := by
  refine g_ofW (by decide) (Nat.le_of_ble_eq_true rfl) ?_
  intro p e s m args below meth c ls E hml hret hlk hM hl
  have E : g_C p s m args c cX3_clear RX3 D aC (g_Zs (g_A B 69)) := E
  have hx := E.1
  have hb := E.2.1
  have hown := E.2.2.1
  have hts := E.2.2.2.1
  have hl : lv_has ls 1 [(0, .ref (B + 67))] := hl
  unfold f3_clear at he
  refine lv_aload_n hx hb dX3_clear_0 rfl (lv_at hl 0 rfl) ?_
  refine lv_iconst (v := (0 : Int32)) hx hb dX3_clear_1 rfl ?_
  refine g_putI E hM (o := 67) (Nat.le_of_ble_eq_true rfl) rfl fp_X3_9 dX3_clear_2 (fun H locs hM => ?_)
  obtain ⟨m1, hm1, he⟩ := g_let_ex he
  rw [← hm1] at hM
  cases he
  exact g_vret E hM hret hlk dX3_clear_5

set_option maxHeartbeats 4000000 in
set_option maxRecDepth 100000 in
theorem w3_note_b35 (E : g_C p s m args c cX3_note RX3 D aC (g_Zs (g_A B 69))) (hml : c.maxLocals = 5) (hret : meth.sig.returnType = none) (hlk : meth.locks = false) {F : Nat} {q0 : g_M} {a1 : Int32} {a2 : Int32} {a3 : Int32} {a4 : Int32} : ∀ (mem : g_M) (H : Heap) (locs : List Loc) (ls : Array Slot), g_At D aC B yC 69 mem s.heap H locs → lv_has ls 5 [(0, .ref (B + 67)), (1, .int a1), (2, .int a2), (3, .int a3), (4, .int a4)] → f3_note_b35 F a1 a2 a3 a4 mem = some q0 → W p l e (g_rm 2) s m args below meth c H locs 0 0 (g_MQ below D aC B yC 69 args s none q0) (F0 m 35 ls []) := by
  intro mem H locs ls hM hl he
  unfold f3_note_b35 at he
  have hx := E.1
  have hb := E.2.1
  have hown := E.2.2.1
  have hts := E.2.2.2.1
  refine lv_aload_n hx hb dX3_note_35 rfl (lv_at hl 0 rfl) ?_
  refine g_getP E hM (o := 67) (Nat.le_of_ble_eq_true rfl) rfl fl_X3_15 (q := 68) rfl dX3_note_36 ?_
  refine lv_aload_n hx hb dX3_note_39 rfl (lv_at hl 0 rfl) ?_
  refine g_getI E hM (o := 67) (Nat.le_of_ble_eq_true rfl) rfl fl_X3_9 dX3_note_40 ?_
  refine lv_iconst (v := (4 : Int32)) hx hb dX3_note_43 rfl ?_
  refine lv_imul hx hb dX3_note_44 ?_
  refine lv_iload_n hx hb dX3_note_45 rfl (lv_at hl 1 rfl) ?_
  obtain ⟨h1, he⟩ := g_ck_some he
  refine g_iast E hM (o := 68) (Nat.le_of_ble_eq_true rfl) rfl h1 dX3_note_46 (fun H locs hM => ?_)
  obtain ⟨m2, hm2, he⟩ := g_let_ex he
  rw [← hm2] at hM
  refine lv_aload_n hx hb dX3_note_47 rfl (lv_at hl 0 rfl) ?_
  refine g_getP E hM (o := 67) (Nat.le_of_ble_eq_true rfl) rfl fl_X3_15 (q := 68) rfl dX3_note_48 ?_
  refine lv_aload_n hx hb dX3_note_51 rfl (lv_at hl 0 rfl) ?_
  refine g_getI E hM (o := 67) (Nat.le_of_ble_eq_true rfl) rfl fl_X3_9 dX3_note_52 ?_
  refine lv_iconst (v := (4 : Int32)) hx hb dX3_note_55 rfl ?_
  refine lv_imul hx hb dX3_note_56 ?_
  refine lv_iconst (v := (1 : Int32)) hx hb dX3_note_57 rfl ?_
  refine lv_iadd hx hb dX3_note_58 ?_
  refine lv_iload_n hx hb dX3_note_59 rfl (lv_at hl 2 rfl) ?_
  obtain ⟨h3, he⟩ := g_ck_some he
  refine g_iast E hM (o := 68) (Nat.le_of_ble_eq_true rfl) rfl h3 dX3_note_60 (fun H locs hM => ?_)
  obtain ⟨m4, hm4, he⟩ := g_let_ex he
  rw [← hm4] at hM
  refine lv_aload_n hx hb dX3_note_61 rfl (lv_at hl 0 rfl) ?_
  refine g_getP E hM (o := 67) (Nat.le_of_ble_eq_true rfl) rfl fl_X3_15 (q := 68) rfl dX3_note_62 ?_
  refine lv_aload_n hx hb dX3_note_65 rfl (lv_at hl 0 rfl) ?_
  refine g_getI E hM (o := 67) (Nat.le_of_ble_eq_true rfl) rfl fl_X3_9 dX3_note_66 ?_
  refine lv_iconst (v := (4 : Int32)) hx hb dX3_note_69 rfl ?_
  refine lv_imul hx hb dX3_note_70 ?_
  refine lv_iconst (v := (2 : Int32)) hx hb dX3_note_71 rfl ?_
  refine lv_iadd hx hb dX3_note_72 ?_
  refine lv_iload_n hx hb dX3_note_73 rfl (lv_at hl 3 rfl) ?_
  obtain ⟨h5, he⟩ := g_ck_some he
  refine g_iast E hM (o := 68) (Nat.le_of_ble_eq_true rfl) rfl h5 dX3_note_74 (fun H locs hM => ?_)
  obtain ⟨m6, hm6, he⟩ := g_let_ex he
  rw [← hm6] at hM
  refine lv_aload_n hx hb dX3_note_75 rfl (lv_at hl 0 rfl) ?_
  refine g_getP E hM (o := 67) (Nat.le_of_ble_eq_true rfl) rfl fl_X3_15 (q := 68) rfl dX3_note_76 ?_
  refine lv_aload_n hx hb dX3_note_79 rfl (lv_at hl 0 rfl) ?_
  refine g_getI E hM (o := 67) (Nat.le_of_ble_eq_true rfl) rfl fl_X3_9 dX3_note_80 ?_
  refine lv_iconst (v := (4 : Int32)) hx hb dX3_note_83 rfl ?_
  refine lv_imul hx hb dX3_note_84 ?_
  refine lv_iconst (v := (3 : Int32)) hx hb dX3_note_85 rfl ?_
  refine lv_iadd hx hb dX3_note_86 ?_
  refine lv_iload hx hb dX3_note_87 (lv_at hl 4 rfl) ?_
  obtain ⟨h7, he⟩ := g_ck_some he
  refine g_iast E hM (o := 68) (Nat.le_of_ble_eq_true rfl) rfl h7 dX3_note_89 (fun H locs hM => ?_)
  obtain ⟨m8, hm8, he⟩ := g_let_ex he
  rw [← hm8] at hM
  refine lv_aload_n hx hb dX3_note_90 rfl (lv_at hl 0 rfl) ?_
  refine lv_dup hx hb dX3_note_91 rfl ?_
  refine g_getI E hM (o := 67) (Nat.le_of_ble_eq_true rfl) rfl fl_X3_9 dX3_note_92 ?_
  refine lv_iconst (v := (1 : Int32)) hx hb dX3_note_95 rfl ?_
  refine lv_iadd hx hb dX3_note_96 ?_
  refine g_putI E hM (o := 67) (Nat.le_of_ble_eq_true rfl) rfl fp_X3_9 dX3_note_97 (fun H locs hM => ?_)
  obtain ⟨m9, hm9, he⟩ := g_let_ex he
  rw [← hm9] at hM
  cases he
  exact g_vret E hM hret hlk dX3_note_100

set_option maxHeartbeats 4000000 in
set_option maxRecDepth 100000 in
theorem c3_note (l : Launch) (D : va_G) (aC : Nat → ClassId) (B : Nat) {F : Nat} {a1 : Int32} {a2 : Int32} {a3 : Int32} {a4 : Int32} {mem : g_M} {q0 : g_M} (he : f3_note F a1 a2 a3 a4 mem = some q0) : g_Met l yX3_note cX3_note 5 none 2 D aC B yC 69 mem [.ref (B + 67), .int a1, .int a2, .int a3, .int a4] none q0 := by
  refine g_ofW (by decide) (Nat.le_of_ble_eq_true rfl) ?_
  intro p e s m args below meth c ls E hml hret hlk hM hl
  have E : g_C p s m args c cX3_note RX3 D aC (g_Zs (g_A B 69)) := E
  have hx := E.1
  have hb := E.2.1
  have hown := E.2.2.1
  have hts := E.2.2.2.1
  have hl : lv_has ls 5 [(0, .ref (B + 67)), (1, .int a1), (2, .int a2), (3, .int a3), (4, .int a4)] := hl
  unfold f3_note at he
  refine lv_aload_n hx hb dX3_note_0 rfl (lv_at hl 0 rfl) ?_
  refine g_getI E hM (o := 67) (Nat.le_of_ble_eq_true rfl) rfl fl_X3_9 dX3_note_1 ?_
  refine lv_bipush (v := (20 : Int32)) hx hb dX3_note_4 rfl ?_
  refine lv_icmp_lt (tgt := 35) hx hb dX3_note_6 (by decide) (fun h10 => ?_) (fun h10 => ?_)
  · rw [if_neg (Int32.not_le.mpr h10)] at he
    exact w3_note_b35 (F := F) (a1 := a1) (a2 := a2) (a3 := a3) (a4 := a4) E hml hret hlk _ _ _ _ hM (lv_sub hl [0, 1, 2, 3, 4] rfl) he
  · rw [if_pos (Int32.not_lt.mp h10)] at he
    refine lv_aload_n hx hb dX3_note_9 rfl (lv_at hl 0 rfl) ?_
    refine g_getP E hM (o := 67) (Nat.le_of_ble_eq_true rfl) rfl fl_X3_15 (q := 68) rfl dX3_note_10 ?_
    refine lv_iconst (v := (4 : Int32)) hx hb dX3_note_13 rfl ?_
    refine lv_aload_n hx hb dX3_note_14 rfl (lv_at hl 0 rfl) ?_
    refine g_getP E hM (o := 67) (Nat.le_of_ble_eq_true rfl) rfl fl_X3_15 (q := 68) rfl dX3_note_15 ?_
    refine lv_iconst (v := (0 : Int32)) hx hb dX3_note_18 rfl ?_
    refine lv_aload_n hx hb dX3_note_19 rfl (lv_at hl 0 rfl) ?_
    refine g_getP E hM (o := 67) (Nat.le_of_ble_eq_true rfl) rfl fl_X3_15 (q := 68) rfl dX3_note_20 ?_
    refine g_alenI (v := (80 : Int32)) E hM (o := 68) (Nat.le_of_ble_eq_true rfl) rfl rfl dX3_note_23 ?_
    refine lv_iconst (v := (4 : Int32)) hx hb dX3_note_24 rfl ?_
    refine lv_isub hx hb dX3_note_25 ?_
    refine g_copy E (hml.trans hl.1.symm) hM mm_X3_19 kn_copy ks_copy ki_System (o1 := 68) (o2 := 68) (Nat.le_of_ble_eq_true rfl) rfl (Nat.le_of_ble_eq_true rfl) rfl (by decide) (by decide) (by decide) (by decide) (by decide) (Nat.le_of_ble_eq_true rfl) (Nat.le_of_ble_eq_true rfl) dX3_note_26 (fun H locs hM => ?_)
    obtain ⟨m11, hm11, he⟩ := g_let_ex he
    rw [← hm11] at hM
    refine lv_aload_n hx hb dX3_note_29 rfl (lv_at hl 0 rfl) ?_
    refine lv_bipush (v := (19 : Int32)) hx hb dX3_note_30 rfl ?_
    refine g_putI E hM (o := 67) (Nat.le_of_ble_eq_true rfl) rfl fp_X3_9 dX3_note_32 (fun H locs hM => ?_)
    obtain ⟨m12, hm12, he⟩ := g_let_ex he
    rw [← hm12] at hM
    exact w3_note_b35 (F := F) (a1 := a1) (a2 := a2) (a3 := a3) (a4 := a4) E hml hret hlk _ _ _ _ hM (lv_sub hl [0, 1, 2, 3, 4] rfl) he

set_option maxHeartbeats 4000000 in
set_option maxRecDepth 100000 in
theorem c3_at (l : Launch) (D : va_G) (aC : Nat → ClassId) (B : Nat) {F : Nat} {a1 : Int32} {a2 : Int32} {mem : g_M} {q0 : Int32} (he : f3_at F a1 a2 mem = some q0) : g_Met l yX3_at cX3_at 3 (some .int) 1 D aC B yC 69 mem [.ref (B + 67), .int a1, .int a2] (some (.int q0)) mem := by
  refine g_ofW (by decide) (Nat.le_of_ble_eq_true rfl) ?_
  intro p e s m args below meth c ls E hml hret hlk hM hl
  have E : g_C p s m args c cX3_at RX3 D aC (g_Zs (g_A B 69)) := E
  have hx := E.1
  have hb := E.2.1
  have hown := E.2.2.1
  have hts := E.2.2.2.1
  have hl : lv_has ls 3 [(0, .ref (B + 67)), (1, .int a1), (2, .int a2)] := hl
  unfold f3_at at he
  refine lv_aload_n hx hb dX3_at_0 rfl (lv_at hl 0 rfl) ?_
  refine g_getP E hM (o := 67) (Nat.le_of_ble_eq_true rfl) rfl fl_X3_15 (q := 68) rfl dX3_at_1 ?_
  refine lv_iload_n hx hb dX3_at_4 rfl (lv_at hl 1 rfl) ?_
  refine lv_iconst (v := (4 : Int32)) hx hb dX3_at_5 rfl ?_
  refine lv_imul hx hb dX3_at_6 ?_
  refine lv_iload_n hx hb dX3_at_7 rfl (lv_at hl 2 rfl) ?_
  refine lv_iadd hx hb dX3_at_8 ?_
  obtain ⟨h1, he⟩ := g_ck_some he
  refine g_iald E hM (o := 68) (Nat.le_of_ble_eq_true rfl) rfl h1 dX3_at_9 ?_
  cases he
  exact g_iret E hM hret hlk dX3_at_10

set_option maxHeartbeats 4000000 in
set_option maxRecDepth 100000 in
theorem w4_choose_b57 (E : g_C p s m args c cX4_choose RX4 D aC (g_Zs (g_A B 69))) (hml : c.maxLocals = 3) (hret : meth.sig.returnType = none) (hlk : meth.locks = false) {F : Nat} {q0 : g_M} {a1 : Nat} (ha1 : a1 < 69) (hYa1 : yC.1 a1 = (7, 0)) {s12 : Int32 → g_M → Option (g_M)} (hs12 : ∀ (v2 : Int32) (mem : g_M) (H : Heap) (locs : List Loc) (ls : Array Slot), g_At D aC B yC 69 mem s.heap H locs → lv_has ls 3 [(0, .ref (B + 57)), (1, .ref (B + a1)), (2, .int v2)] → s12 v2 mem = some q0 → W p l e (g_rm 2) s m args below meth c H locs 0 0 (g_MQ below D aC B yC 69 args s none q0) (F0 m 12 ls [])) : ∀ (v2 : Int32) (mem : g_M) (H : Heap) (locs : List Loc) (ls : Array Slot), g_At D aC B yC 69 mem s.heap H locs → lv_has ls 3 [(0, .ref (B + 57)), (1, .ref (B + a1)), (2, .int v2)] → f4_choose_b57 F a1 s12 v2 mem = some q0 → W p l e (g_rm 2) s m args below meth c H locs 0 0 (g_MQ below D aC B yC 69 args s none q0) (F0 m 57 ls []) := by
  intro v2 mem H locs ls hM hl he
  unfold f4_choose_b57 at he
  have hx := E.1
  have hb := E.2.1
  have hown := E.2.2.1
  have hts := E.2.2.2.1
  obtain ⟨x1, hx1, he⟩ := g_let_ex he
  refine lv_iinc (v := x1) (lv' := [(2, .int x1), (0, .ref (B + 57)), (1, .ref (B + a1))]) hx hb dX4_choose_57 hl (k := 2) rfl (by rw [hx1]; rfl) (by decide) rfl (fun ls hl => ?_)
  refine lv_goto (tgt := 12) hx hb dX4_choose_60 (by decide) ?_
  exact hs12 _ _ _ _ _ hM (lv_sub hl [1, 2, 0] rfl) he

set_option maxHeartbeats 4000000 in
set_option maxRecDepth 100000 in
theorem w4_choose_b12_body (E : g_C p s m args c cX4_choose RX4 D aC (g_Zs (g_A B 69))) (hml : c.maxLocals = 3) (hret : meth.sig.returnType = none) (hlk : meth.locks = false) {F : Nat} {q0 : g_M} {a1 : Nat} (ha1 : a1 < 69) (hYa1 : yC.1 a1 = (7, 0)) {s12 : Int32 → g_M → Option (g_M)} (hs12 : ∀ (v2 : Int32) (mem : g_M) (H : Heap) (locs : List Loc) (ls : Array Slot), g_At D aC B yC 69 mem s.heap H locs → lv_has ls 3 [(0, .ref (B + 57)), (1, .ref (B + a1)), (2, .int v2)] → s12 v2 mem = some q0 → W p l e (g_rm 2) s m args below meth c H locs 0 0 (g_MQ below D aC B yC 69 args s none q0) (F0 m 12 ls [])) : ∀ (v2 : Int32) (mem : g_M) (H : Heap) (locs : List Loc) (ls : Array Slot), g_At D aC B yC 69 mem s.heap H locs → lv_has ls 3 [(0, .ref (B + 57)), (1, .ref (B + a1)), (2, .int v2)] → f4_choose_b12_body F a1 s12 v2 mem = some q0 → W p l e (g_rm 2) s m args below meth c H locs 0 0 (g_MQ below D aC B yC 69 args s none q0) (F0 m 12 ls []) := by
  intro v2 mem H locs ls hM hl he
  unfold f4_choose_b12_body at he
  have hx := E.1
  have hb := E.2.1
  have hown := E.2.2.1
  have hts := E.2.2.2.1
  refine lv_iload_n hx hb dX4_choose_12 rfl (lv_at hl 2 rfl) ?_
  refine lv_aload_n hx hb dX4_choose_13 rfl (lv_at hl 1 rfl) ?_
  refine g_getI E hM (o := a1) ha1 hYa1 fl_X4_29 dX4_choose_14 ?_
  refine lv_icmp_ge (tgt := 63) hx hb dX4_choose_17 (by decide) (fun h2 => ?_) (fun h2 => ?_)
  · rw [if_neg (Int32.not_lt.mpr h2)] at he
    cases he
    exact g_vret E hM hret hlk dX4_choose_63
  · rw [if_pos (Int32.not_le.mp h2)] at he
    refine lv_aload_n hx hb dX4_choose_20 rfl (lv_at hl 0 rfl) ?_
    refine g_getI E hM (o := 57) (Nat.le_of_ble_eq_true rfl) rfl fl_X4_9 dX4_choose_21 ?_
    refine lv_iconst (v := (4 : Int32)) hx hb dX4_choose_24 rfl ?_
    refine lv_icmp_ge (tgt := 63) hx hb dX4_choose_25 (by decide) (fun h3 => ?_) (fun h3 => ?_)
    · rw [if_neg (Int32.not_lt.mpr h3)] at he
      cases he
      exact g_vret E hM hret hlk dX4_choose_63
    · rw [if_pos (Int32.not_le.mp h3)] at he
      refine lv_aload_n hx hb dX4_choose_28 rfl (lv_at hl 1 rfl) ?_
      refine lv_iload_n hx hb dX4_choose_29 rfl (lv_at hl 2 rfl) ?_
      refine lv_iconst (v := (3 : Int32)) hx hb dX4_choose_30 rfl ?_
      obtain ⟨r4, hcr4, he⟩ := g_bind he
      refine g_callV [.int v2, .int (3 : Int32)] (rest := []) E hml hl.1 hM cv_X4_34 (c7_sendingAt l D aC B ha1 hYa1 hcr4) (o := a1) ha1 hYa1 (by decide) rfl rfl (Nat.le_of_ble_eq_true rfl) dX4_choose_31 (fun H locs hM => ?_)
      refine W.eq (g2 := F0 m 34 ls [.int r4]) rfl ?_
      refine lv_if_ne (tgt := 57) hx hb dX4_choose_34 (by decide) (fun h5 => ?_) (fun h5 => ?_)
      · rw [if_neg h5] at he
        exact w4_choose_b57 (F := F) (a1 := a1) E hml hret hlk ha1 hYa1 hs12 _ _ _ _ _ hM (lv_sub hl [0, 1, 2] rfl) he
      · rw [if_pos h5] at he
        refine lv_aload_n hx hb dX4_choose_37 rfl (lv_at hl 0 rfl) ?_
        refine g_getP E hM (o := 57) (Nat.le_of_ble_eq_true rfl) rfl fl_X4_26 (q := 59) rfl dX4_choose_38 ?_
        refine lv_aload_n hx hb dX4_choose_41 rfl (lv_at hl 0 rfl) ?_
        refine g_getI E hM (o := 57) (Nat.le_of_ble_eq_true rfl) rfl fl_X4_9 dX4_choose_42 ?_
        refine lv_iload_n hx hb dX4_choose_45 rfl (lv_at hl 2 rfl) ?_
        obtain ⟨h6, he⟩ := g_ck_some he
        refine g_iast E hM (o := 59) (Nat.le_of_ble_eq_true rfl) rfl h6 dX4_choose_46 (fun H locs hM => ?_)
        obtain ⟨m7, hm7, he⟩ := g_let_ex he
        rw [← hm7] at hM
        refine lv_aload_n hx hb dX4_choose_47 rfl (lv_at hl 0 rfl) ?_
        refine lv_dup hx hb dX4_choose_48 rfl ?_
        refine g_getI E hM (o := 57) (Nat.le_of_ble_eq_true rfl) rfl fl_X4_9 dX4_choose_49 ?_
        refine lv_iconst (v := (1 : Int32)) hx hb dX4_choose_52 rfl ?_
        refine lv_iadd hx hb dX4_choose_53 ?_
        refine g_putI E hM (o := 57) (Nat.le_of_ble_eq_true rfl) rfl fp_X4_9 dX4_choose_54 (fun H locs hM => ?_)
        obtain ⟨m8, hm8, he⟩ := g_let_ex he
        rw [← hm8] at hM
        exact w4_choose_b57 (F := F) (a1 := a1) E hml hret hlk ha1 hYa1 hs12 _ _ _ _ _ hM (lv_sub hl [0, 1, 2] rfl) he

set_option maxHeartbeats 4000000 in
set_option maxRecDepth 100000 in
theorem w4_choose_b12 (E : g_C p s m args c cX4_choose RX4 D aC (g_Zs (g_A B 69))) (hml : c.maxLocals = 3) (hret : meth.sig.returnType = none) (hlk : meth.locks = false) {F : Nat} {q0 : g_M} {a1 : Nat} (ha1 : a1 < 69) (hYa1 : yC.1 a1 = (7, 0)) : ∀ (v2 : Int32) (mem : g_M) (H : Heap) (locs : List Loc) (ls : Array Slot), g_At D aC B yC 69 mem s.heap H locs → lv_has ls 3 [(0, .ref (B + 57)), (1, .ref (B + a1)), (2, .int v2)] → f4_choose_b12 F a1 v2 mem = some q0 → W p l e (g_rm 2) s m args below meth c H locs 0 0 (g_MQ below D aC B yC 69 args s none q0) (F0 m 12 ls []) := by
  have key : ∀ (nn : Nat) (x : Int32 × g_M) (H : Heap) (locs : List Loc) (ls : Array Slot), g_At D aC B yC 69 x.2 s.heap H locs → lv_has ls 3 [(0, .ref (B + 57)), (1, .ref (B + a1)), (2, .int x.1)] → g_fix (fun sf x => f4_choose_b12_body F a1 (fun v2 mem => sf (v2, mem)) x.1 x.2) nn x = some q0 → W p l e (g_rm 2) s m args below meth c H locs 0 0 (g_MQ below D aC B yC 69 args s none q0) (F0 m 12 ls []) := by
    intro nn
    induction nn with
    | zero => intro x H locs ls hM hl he; simp [g_fix] at he
    | succ nn ih =>
      intro x H locs ls hM hl he
      exact w4_choose_b12_body (F := F) (a1 := a1) E hml hret hlk ha1 hYa1 (fun v2 mem H locs ls hM hl he => ih (v2, mem) H locs ls hM hl he) x.1 x.2 H locs ls hM hl he
  intro v2 mem H locs ls hM hl he
  exact key F (v2, mem) H locs ls hM hl he

set_option maxHeartbeats 4000000 in
set_option maxRecDepth 100000 in
theorem c4_choose (l : Launch) (D : va_G) (aC : Nat → ClassId) (B : Nat) {F : Nat} {a1 : Nat} (ha1 : a1 < 69) (hYa1 : yC.1 a1 = (7, 0)) {mem : g_M} {q0 : g_M} (he : f4_choose F a1 mem = some q0) : g_Met l yX4_choose cX4_choose 3 none 2 D aC B yC 69 mem [.ref (B + 57), .ref (B + a1)] none q0 := by
  refine g_ofW (by decide) (Nat.le_of_ble_eq_true rfl) ?_
  intro p e s m args below meth c ls E hml hret hlk hM hl
  have E : g_C p s m args c cX4_choose RX4 D aC (g_Zs (g_A B 69)) := E
  have hx := E.1
  have hb := E.2.1
  have hown := E.2.2.1
  have hts := E.2.2.2.1
  have hl : lv_has ls 3 [(0, .ref (B + 57)), (1, .ref (B + a1))] := hl
  unfold f4_choose at he
  refine lv_aload_n hx hb dX4_choose_0 rfl (lv_at hl 0 rfl) ?_
  refine lv_iconst (v := (0 : Int32)) hx hb dX4_choose_1 rfl ?_
  refine g_putZ E hM (o := 57) (Nat.le_of_ble_eq_true rfl) rfl fp_X4_22 (Or.inl rfl) dX4_choose_2 (fun H locs hM => ?_)
  obtain ⟨m9, hm9, he⟩ := g_let_ex he
  rw [← hm9] at hM
  refine lv_aload_n hx hb dX4_choose_5 rfl (lv_at hl 0 rfl) ?_
  refine lv_iconst (v := (0 : Int32)) hx hb dX4_choose_6 rfl ?_
  refine g_putI E hM (o := 57) (Nat.le_of_ble_eq_true rfl) rfl fp_X4_9 dX4_choose_7 (fun H locs hM => ?_)
  obtain ⟨m10, hm10, he⟩ := g_let_ex he
  rw [← hm10] at hM
  refine lv_iconst (v := (0 : Int32)) hx hb dX4_choose_10 rfl ?_
  refine lv_istore_n (lv' := [(2, .int (0 : Int32)), (0, .ref (B + 57)), (1, .ref (B + a1))]) hx hb dX4_choose_11 rfl hl (by decide) rfl (fun ls hl => ?_)
  exact w4_choose_b12 (F := F) (a1 := a1) E hml hret hlk ha1 hYa1 _ _ _ _ _ hM (lv_sub hl [1, 2, 0] rfl) he

set_option maxHeartbeats 4000000 in
set_option maxRecDepth 100000 in
theorem c4_digit (l : Launch) (D : va_G) (aC : Nat → ClassId) (B : Nat) {F : Nat} {a0 : Int32} {a1 : Int32} {mem : g_M} {q0 : Int32} (he : f4_digit F a0 a1 mem = some q0) : g_Met l yX4_digit cX4_digit 2 (some .int) 1 D aC B yC 69 mem [.int a0, .int a1] (some (.int q0)) mem := by
  refine g_ofW (by decide) (Nat.le_of_ble_eq_true rfl) ?_
  intro p e s m args below meth c ls E hml hret hlk hM hl
  have E : g_C p s m args c cX4_digit RX4 D aC (g_Zs (g_A B 69)) := E
  have hx := E.1
  have hb := E.2.1
  have hown := E.2.2.1
  have hts := E.2.2.2.1
  have hl : lv_has ls 2 [(0, .int a0), (1, .int a1)] := hl
  unfold f4_digit at he
  refine lv_iload_n hx hb dX4_digit_0 rfl (lv_at hl 0 rfl) ?_
  refine lv_bipush (v := (6 : Int32)) hx hb dX4_digit_1 rfl ?_
  refine lv_iconst (v := (2 : Int32)) hx hb dX4_digit_3 rfl ?_
  refine lv_iload_n hx hb dX4_digit_4 rfl (lv_at hl 1 rfl) ?_
  refine lv_imul hx hb dX4_digit_5 ?_
  refine lv_isub hx hb dX4_digit_6 ?_
  refine lv_ishr hx hb dX4_digit_7 ?_
  refine lv_iconst (v := (3 : Int32)) hx hb dX4_digit_8 rfl ?_
  refine lv_iand hx hb dX4_digit_9 ?_
  cases he
  exact g_iret E hM hret hlk dX4_digit_10

set_option maxHeartbeats 4000000 in
set_option maxRecDepth 100000 in
theorem w4_isRow_b64 (E : g_C p s m args c cX4_isRow RX4 D aC (g_Zs (g_A B 69))) (hml : c.maxLocals = 6) (hret : meth.sig.returnType = (some .boolean)) (hlk : meth.locks = false) {F : Nat} {q0 : Int32} {a1 : Int32} {mem : g_M} {s4 : Int32 → Int32 → Option (Int32)} (hs4 : ∀ (v2 : Int32) (v3 : Int32) (H : Heap) (locs : List Loc) (ls : Array Slot), g_At D aC B yC 69 mem s.heap H locs → lv_has ls 6 [(0, .ref (B + 57)), (1, .int a1), (2, .int v2), (3, .int v3)] → s4 v2 v3 = some q0 → W p l e (g_rm 2) s m args below meth c H locs 0 0 (g_MQ below D aC B yC 69 args s (some (.int q0)) mem) (F0 m 4 ls [])) : ∀ (v2 : Int32) (v3 : Int32) (v4 : Int32) (H : Heap) (locs : List Loc) (ls : Array Slot), g_At D aC B yC 69 mem s.heap H locs → lv_has ls 6 [(0, .ref (B + 57)), (1, .int a1), (2, .int v2), (3, .int v3), (4, .int v4)] → f4_isRow_b64 F a1 s4 mem v2 v3 v4 = some q0 → W p l e (g_rm 2) s m args below meth c H locs 0 0 (g_MQ below D aC B yC 69 args s (some (.int q0)) mem) (F0 m 64 ls []) := by
  intro v2 v3 v4 H locs ls hM hl he
  unfold f4_isRow_b64 at he
  have hx := E.1
  have hb := E.2.1
  have hown := E.2.2.1
  have hts := E.2.2.2.1
  refine lv_iload_n hx hb dX4_isRow_64 rfl (lv_at hl 2 rfl) ?_
  refine lv_iconst (v := (1 : Int32)) hx hb dX4_isRow_65 rfl ?_
  refine lv_iload hx hb dX4_isRow_66 (lv_at hl 4 rfl) ?_
  refine lv_ishl hx hb dX4_isRow_68 ?_
  refine lv_ior hx hb dX4_isRow_69 ?_
  obtain ⟨x1, hx1, he⟩ := g_let_ex he
  refine g_topI hx1 ?_
  refine lv_istore_n (lv' := [(2, .int x1), (0, .ref (B + 57)), (1, .int a1), (3, .int v3), (4, .int v4)]) hx hb dX4_isRow_70 rfl hl (by decide) rfl (fun ls hl => ?_)
  obtain ⟨x2, hx2, he⟩ := g_let_ex he
  refine lv_iinc (v := x2) (lv' := [(3, .int x2), (2, .int x1), (0, .ref (B + 57)), (1, .int a1), (4, .int v4)]) hx hb dX4_isRow_71 hl (k := 3) rfl (by rw [hx2]; rfl) (by decide) rfl (fun ls hl => ?_)
  refine lv_goto (tgt := 4) hx hb dX4_isRow_74 (by decide) ?_
  exact hs4 _ _ _ _ _ hM (lv_sub hl [2, 3, 1, 0] rfl) he

set_option maxHeartbeats 4000000 in
set_option maxRecDepth 100000 in
theorem w4_isRow_b39 (E : g_C p s m args c cX4_isRow RX4 D aC (g_Zs (g_A B 69))) (hml : c.maxLocals = 6) (hret : meth.sig.returnType = (some .boolean)) (hlk : meth.locks = false) {F : Nat} {q0 : Int32} {a1 : Int32} {mem : g_M} {s4 : Int32 → Int32 → Option (Int32)} (hs4 : ∀ (v2 : Int32) (v3 : Int32) (H : Heap) (locs : List Loc) (ls : Array Slot), g_At D aC B yC 69 mem s.heap H locs → lv_has ls 6 [(0, .ref (B + 57)), (1, .int a1), (2, .int v2), (3, .int v3)] → s4 v2 v3 = some q0 → W p l e (g_rm 2) s m args below meth c H locs 0 0 (g_MQ below D aC B yC 69 args s (some (.int q0)) mem) (F0 m 4 ls [])) : ∀ (v2 : Int32) (v3 : Int32) (v4 : Int32) (w0 : Int32) (H : Heap) (locs : List Loc) (ls : Array Slot), g_At D aC B yC 69 mem s.heap H locs → lv_has ls 6 [(0, .ref (B + 57)), (1, .int a1), (2, .int v2), (3, .int v3), (4, .int v4)] → f4_isRow_b39 F a1 s4 mem v2 v3 v4 w0 = some q0 → W p l e (g_rm 2) s m args below meth c H locs 0 0 (g_MQ below D aC B yC 69 args s (some (.int q0)) mem) (F0 m 39 ls [.int w0]) := by
  intro v2 v3 v4 w0 H locs ls hM hl he
  unfold f4_isRow_b39 at he
  have hx := E.1
  have hb := E.2.1
  have hown := E.2.2.1
  have hts := E.2.2.2.1
  refine lv_istore (lv' := [(5, .int w0), (0, .ref (B + 57)), (1, .int a1), (2, .int v2), (3, .int v3), (4, .int v4)]) hx hb dX4_isRow_39 hl (by decide) rfl (fun ls hl => ?_)
  refine lv_iload_n hx hb dX4_isRow_41 rfl (lv_at hl 4 rfl) ?_
  refine lv_aload_n hx hb dX4_isRow_42 rfl (lv_at hl 1 rfl) ?_
  refine g_getI E hM (o := 57) (Nat.le_of_ble_eq_true rfl) rfl fl_X4_9 dX4_isRow_43 ?_
  refine lv_icmp_ge (tgt := 57) hx hb dX4_isRow_46 (by decide) (fun h3 => ?_) (fun h3 => ?_)
  · rw [if_neg (Int32.not_lt.mpr h3)] at he
    refine lv_iload hx hb dX4_isRow_57 (lv_at hl 5 rfl) ?_
    refine lv_if_eq (tgt := 64) hx hb dX4_isRow_59 (by decide) (fun h5 => ?_) (fun h5 => ?_)
    · rw [if_pos h5] at he
      exact w4_isRow_b64 (F := F) (a1 := a1) E hml hret hlk hs4 _ _ _ _ _ _ hM (lv_sub hl [1, 2, 3, 4, 5] rfl) he
    · rw [if_neg h5] at he
      refine lv_iconst (v := (0 : Int32)) hx hb dX4_isRow_62 rfl ?_
      cases he
      exact g_zret E hM hret hlk (Or.inl rfl) dX4_isRow_63
  · rw [if_pos (Int32.not_le.mp h3)] at he
    refine lv_iload hx hb dX4_isRow_49 (lv_at hl 0 rfl) ?_
    refine lv_if_ne (tgt := 64) hx hb dX4_isRow_51 (by decide) (fun h4 => ?_) (fun h4 => ?_)
    · rw [if_neg h4] at he
      exact w4_isRow_b64 (F := F) (a1 := a1) E hml hret hlk hs4 _ _ _ _ _ _ hM (lv_sub hl [1, 2, 3, 4, 5] rfl) he
    · rw [if_pos h4] at he
      refine lv_goto (tgt := 62) hx hb dX4_isRow_54 (by decide) ?_
      refine lv_iconst (v := (0 : Int32)) hx hb dX4_isRow_62 rfl ?_
      cases he
      exact g_zret E hM hret hlk (Or.inl rfl) dX4_isRow_63

set_option maxHeartbeats 4000000 in
set_option maxRecDepth 100000 in
theorem w4_isRow_b38 (E : g_C p s m args c cX4_isRow RX4 D aC (g_Zs (g_A B 69))) (hml : c.maxLocals = 6) (hret : meth.sig.returnType = (some .boolean)) (hlk : meth.locks = false) {F : Nat} {q0 : Int32} {a1 : Int32} {mem : g_M} {s4 : Int32 → Int32 → Option (Int32)} (hs4 : ∀ (v2 : Int32) (v3 : Int32) (H : Heap) (locs : List Loc) (ls : Array Slot), g_At D aC B yC 69 mem s.heap H locs → lv_has ls 6 [(0, .ref (B + 57)), (1, .int a1), (2, .int v2), (3, .int v3)] → s4 v2 v3 = some q0 → W p l e (g_rm 2) s m args below meth c H locs 0 0 (g_MQ below D aC B yC 69 args s (some (.int q0)) mem) (F0 m 4 ls [])) : ∀ (v2 : Int32) (v3 : Int32) (v4 : Int32) (H : Heap) (locs : List Loc) (ls : Array Slot), g_At D aC B yC 69 mem s.heap H locs → lv_has ls 6 [(0, .ref (B + 57)), (1, .int a1), (2, .int v2), (3, .int v3), (4, .int v4)] → f4_isRow_b38 F a1 s4 mem v2 v3 v4 = some q0 → W p l e (g_rm 2) s m args below meth c H locs 0 0 (g_MQ below D aC B yC 69 args s (some (.int q0)) mem) (F0 m 38 ls []) := by
  intro v2 v3 v4 H locs ls hM hl he
  unfold f4_isRow_b38 at he
  have hx := E.1
  have hb := E.2.1
  have hown := E.2.2.1
  have hts := E.2.2.2.1
  refine lv_iconst (v := (0 : Int32)) hx hb dX4_isRow_38 rfl ?_
  exact w4_isRow_b39 (F := F) (a1 := a1) E hml hret hlk hs4 _ _ _ _ _ _ _ hM (lv_sub hl [0, 1, 2, 3, 4] rfl) he

set_option maxHeartbeats 4000000 in
set_option maxRecDepth 100000 in
theorem w4_isRow_b4_body (E : g_C p s m args c cX4_isRow RX4 D aC (g_Zs (g_A B 69))) (hml : c.maxLocals = 6) (hret : meth.sig.returnType = (some .boolean)) (hlk : meth.locks = false) {F : Nat} {q0 : Int32} {a1 : Int32} {mem : g_M} {s4 : Int32 → Int32 → Option (Int32)} (hs4 : ∀ (v2 : Int32) (v3 : Int32) (H : Heap) (locs : List Loc) (ls : Array Slot), g_At D aC B yC 69 mem s.heap H locs → lv_has ls 6 [(0, .ref (B + 57)), (1, .int a1), (2, .int v2), (3, .int v3)] → s4 v2 v3 = some q0 → W p l e (g_rm 2) s m args below meth c H locs 0 0 (g_MQ below D aC B yC 69 args s (some (.int q0)) mem) (F0 m 4 ls [])) : ∀ (v2 : Int32) (v3 : Int32) (H : Heap) (locs : List Loc) (ls : Array Slot), g_At D aC B yC 69 mem s.heap H locs → lv_has ls 6 [(0, .ref (B + 57)), (1, .int a1), (2, .int v2), (3, .int v3)] → f4_isRow_b4_body F a1 s4 mem v2 v3 = some q0 → W p l e (g_rm 2) s m args below meth c H locs 0 0 (g_MQ below D aC B yC 69 args s (some (.int q0)) mem) (F0 m 4 ls []) := by
  intro v2 v3 H locs ls hM hl he
  unfold f4_isRow_b4_body at he
  have hx := E.1
  have hb := E.2.1
  have hown := E.2.2.1
  have hts := E.2.2.2.1
  refine lv_iload_n hx hb dX4_isRow_4 rfl (lv_at hl 3 rfl) ?_
  refine lv_iconst (v := (4 : Int32)) hx hb dX4_isRow_5 rfl ?_
  refine lv_icmp_ge (tgt := 77) hx hb dX4_isRow_6 (by decide) (fun h6 => ?_) (fun h6 => ?_)
  · rw [if_neg (Int32.not_lt.mpr h6)] at he
    refine lv_iconst (v := (1 : Int32)) hx hb dX4_isRow_77 rfl ?_
    cases he
    exact g_zret E hM hret hlk (Or.inr rfl) dX4_isRow_78
  · rw [if_pos (Int32.not_le.mp h6)] at he
    refine lv_iload_n hx hb dX4_isRow_9 rfl (lv_at hl 1 rfl) ?_
    refine lv_iload_n hx hb dX4_isRow_10 rfl (lv_at hl 3 rfl) ?_
    obtain ⟨r7, hcr7, he⟩ := g_bind he
    refine g_callS [.int a1, .int v3] (rest := []) E hml hl.1 hM cs_X4_38 (c4_digit l D aC B hcr7) (by decide) rfl rfl (Nat.le_of_ble_eq_true rfl) dX4_isRow_11 (fun H locs hM => ?_)
    refine W.eq (g2 := F0 m 14 ls [.int r7]) rfl ?_
    refine lv_istore (lv' := [(4, .int r7), (0, .ref (B + 57)), (1, .int a1), (2, .int v2), (3, .int v3)]) hx hb dX4_isRow_14 hl (by decide) rfl (fun ls hl => ?_)
    refine lv_iload hx hb dX4_isRow_16 (lv_at hl 0 rfl) ?_
    refine lv_aload_n hx hb dX4_isRow_18 rfl (lv_at hl 1 rfl) ?_
    refine g_getI E hM (o := 57) (Nat.le_of_ble_eq_true rfl) rfl fl_X4_9 dX4_isRow_19 ?_
    refine lv_icmp_ge (tgt := 38) hx hb dX4_isRow_22 (by decide) (fun h8 => ?_) (fun h8 => ?_)
    · rw [if_neg (Int32.not_lt.mpr h8)] at he
      exact w4_isRow_b38 (F := F) (a1 := a1) E hml hret hlk hs4 _ _ _ _ _ _ hM (lv_sub hl [1, 2, 3, 4, 0] rfl) he
    · rw [if_pos (Int32.not_le.mp h8)] at he
      refine lv_iload_n hx hb dX4_isRow_25 rfl (lv_at hl 3 rfl) ?_
      refine lv_iload hx hb dX4_isRow_26 (lv_at hl 0 rfl) ?_
      refine lv_ishr hx hb dX4_isRow_28 ?_
      refine lv_iconst (v := (1 : Int32)) hx hb dX4_isRow_29 rfl ?_
      refine lv_iand hx hb dX4_isRow_30 ?_
      refine lv_if_ne (tgt := 38) hx hb dX4_isRow_31 (by decide) (fun h9 => ?_) (fun h9 => ?_)
      · rw [if_neg h9] at he
        exact w4_isRow_b38 (F := F) (a1 := a1) E hml hret hlk hs4 _ _ _ _ _ _ hM (lv_sub hl [1, 2, 3, 4, 0] rfl) he
      · rw [if_pos h9] at he
        refine lv_iconst (v := (1 : Int32)) hx hb dX4_isRow_34 rfl ?_
        refine lv_goto (tgt := 39) hx hb dX4_isRow_35 (by decide) ?_
        exact w4_isRow_b39 (F := F) (a1 := a1) E hml hret hlk hs4 _ _ _ _ _ _ _ hM (lv_sub hl [1, 2, 3, 4, 0] rfl) he

set_option maxHeartbeats 4000000 in
set_option maxRecDepth 100000 in
theorem w4_isRow_b4 (E : g_C p s m args c cX4_isRow RX4 D aC (g_Zs (g_A B 69))) (hml : c.maxLocals = 6) (hret : meth.sig.returnType = (some .boolean)) (hlk : meth.locks = false) {F : Nat} {q0 : Int32} {a1 : Int32} {mem : g_M} : ∀ (v2 : Int32) (v3 : Int32) (H : Heap) (locs : List Loc) (ls : Array Slot), g_At D aC B yC 69 mem s.heap H locs → lv_has ls 6 [(0, .ref (B + 57)), (1, .int a1), (2, .int v2), (3, .int v3)] → f4_isRow_b4 F a1 mem v2 v3 = some q0 → W p l e (g_rm 2) s m args below meth c H locs 0 0 (g_MQ below D aC B yC 69 args s (some (.int q0)) mem) (F0 m 4 ls []) := by
  have key : ∀ (nn : Nat) (x : Int32 × Int32) (H : Heap) (locs : List Loc) (ls : Array Slot), g_At D aC B yC 69 mem s.heap H locs → lv_has ls 6 [(0, .ref (B + 57)), (1, .int a1), (2, .int x.1), (3, .int x.2)] → g_fix (fun sf x => f4_isRow_b4_body F a1 (fun v2 v3 => sf (v2, v3)) mem x.1 x.2) nn x = some q0 → W p l e (g_rm 2) s m args below meth c H locs 0 0 (g_MQ below D aC B yC 69 args s (some (.int q0)) mem) (F0 m 4 ls []) := by
    intro nn
    induction nn with
    | zero => intro x H locs ls hM hl he; simp [g_fix] at he
    | succ nn ih =>
      intro x H locs ls hM hl he
      exact w4_isRow_b4_body (F := F) (a1 := a1) E hml hret hlk (fun v2 v3 H locs ls hM hl he => ih (v2, v3) H locs ls hM hl he) x.1 x.2 H locs ls hM hl he
  intro v2 v3 H locs ls hM hl he
  exact key F (v2, v3) H locs ls hM hl he

set_option maxHeartbeats 4000000 in
set_option maxRecDepth 100000 in
theorem c4_isRow (l : Launch) (D : va_G) (aC : Nat → ClassId) (B : Nat) {F : Nat} {a1 : Int32} {mem : g_M} {q0 : Int32} (he : f4_isRow F a1 mem = some q0) : g_Met l yX4_isRow cX4_isRow 6 (some .boolean) 2 D aC B yC 69 mem [.ref (B + 57), .int a1] (some (.int q0)) mem := by
  refine g_ofW (by decide) (Nat.le_of_ble_eq_true rfl) ?_
  intro p e s m args below meth c ls E hml hret hlk hM hl
  have E : g_C p s m args c cX4_isRow RX4 D aC (g_Zs (g_A B 69)) := E
  have hx := E.1
  have hb := E.2.1
  have hown := E.2.2.1
  have hts := E.2.2.2.1
  have hl : lv_has ls 6 [(0, .ref (B + 57)), (1, .int a1)] := hl
  unfold f4_isRow at he
  refine lv_iconst (v := (0 : Int32)) hx hb dX4_isRow_0 rfl ?_
  refine lv_istore_n (lv' := [(2, .int (0 : Int32)), (0, .ref (B + 57)), (1, .int a1)]) hx hb dX4_isRow_1 rfl hl (by decide) rfl (fun ls hl => ?_)
  refine lv_iconst (v := (0 : Int32)) hx hb dX4_isRow_2 rfl ?_
  refine lv_istore_n (lv' := [(3, .int (0 : Int32)), (2, .int (0 : Int32)), (0, .ref (B + 57)), (1, .int a1)]) hx hb dX4_isRow_3 rfl hl (by decide) rfl (fun ls hl => ?_)
  exact w4_isRow_b4 (F := F) (a1 := a1) E hml hret hlk _ _ _ _ _ hM (lv_sub hl [2, 3, 1, 0] rfl) he

set_option maxHeartbeats 4000000 in
set_option maxRecDepth 100000 in
theorem w4_layOut_b2_body (E : g_C p s m args c cX4_layOut RX4 D aC (g_Zs (g_A B 69))) (hml : c.maxLocals = 4) (hret : meth.sig.returnType = none) (hlk : meth.locks = false) {F : Nat} {q0 : g_M} {a1 : Int32} {a2 : Nat} (ha2 : a2 < 69) (hYa2 : yC.1 a2 = (7, 0)) {s2 : Int32 → g_M → Option (g_M)} (hs2 : ∀ (v3 : Int32) (mem : g_M) (H : Heap) (locs : List Loc) (ls : Array Slot), g_At D aC B yC 69 mem s.heap H locs → lv_has ls 4 [(0, .ref (B + 57)), (1, .int a1), (2, .ref (B + a2)), (3, .int v3)] → s2 v3 mem = some q0 → W p l e (g_rm 2) s m args below meth c H locs 0 0 (g_MQ below D aC B yC 69 args s none q0) (F0 m 2 ls [])) : ∀ (v3 : Int32) (mem : g_M) (H : Heap) (locs : List Loc) (ls : Array Slot), g_At D aC B yC 69 mem s.heap H locs → lv_has ls 4 [(0, .ref (B + 57)), (1, .int a1), (2, .ref (B + a2)), (3, .int v3)] → f4_layOut_b2_body F a1 a2 s2 v3 mem = some q0 → W p l e (g_rm 2) s m args below meth c H locs 0 0 (g_MQ below D aC B yC 69 args s none q0) (F0 m 2 ls []) := by
  intro v3 mem H locs ls hM hl he
  unfold f4_layOut_b2_body at he
  have hx := E.1
  have hb := E.2.1
  have hown := E.2.2.1
  have hts := E.2.2.2.1
  refine lv_iload_n hx hb dX4_layOut_2 rfl (lv_at hl 3 rfl) ?_
  refine lv_aload_n hx hb dX4_layOut_3 rfl (lv_at hl 0 rfl) ?_
  refine g_getI E hM (o := 57) (Nat.le_of_ble_eq_true rfl) rfl fl_X4_9 dX4_layOut_4 ?_
  refine lv_icmp_ge (tgt := 39) hx hb dX4_layOut_7 (by decide) (fun h1 => ?_) (fun h1 => ?_)
  · rw [if_neg (Int32.not_lt.mpr h1)] at he
    cases he
    exact g_vret E hM hret hlk dX4_layOut_39
  · rw [if_pos (Int32.not_le.mp h1)] at he
    refine lv_aload_n hx hb dX4_layOut_10 rfl (lv_at hl 2 rfl) ?_
    refine lv_aload_n hx hb dX4_layOut_11 rfl (lv_at hl 0 rfl) ?_
    refine g_getP E hM (o := 57) (Nat.le_of_ble_eq_true rfl) rfl fl_X4_26 (q := 59) rfl dX4_layOut_12 ?_
    refine lv_iload_n hx hb dX4_layOut_15 rfl (lv_at hl 1 rfl) ?_
    refine lv_iload_n hx hb dX4_layOut_16 rfl (lv_at hl 3 rfl) ?_
    obtain ⟨r2, hcr2, he⟩ := g_bind he
    refine g_callS [.int a1, .int v3] (rest := [.ref (B + 59), .ref (B + a2)]) E hml hl.1 hM cs_X4_38 (c4_digit l D aC B hcr2) (by decide) rfl rfl (Nat.le_of_ble_eq_true rfl) dX4_layOut_17 (fun H locs hM => ?_)
    refine W.eq (g2 := F0 m 20 ls [.int r2, .ref (B + 59), .ref (B + a2)]) rfl ?_
    obtain ⟨h3, he⟩ := g_ck_some he
    refine g_iald E hM (o := 59) (Nat.le_of_ble_eq_true rfl) rfl h3 dX4_layOut_20 ?_
    refine lv_iconst (v := (2 : Int32)) hx hb dX4_layOut_21 rfl ?_
    refine lv_aload_n hx hb dX4_layOut_22 rfl (lv_at hl 2 rfl) ?_
    refine g_getI E hM (o := a2) ha2 hYa2 fl_X4_41 dX4_layOut_23 ?_
    refine lv_iconst (v := (2 : Int32)) hx hb dX4_layOut_26 rfl ?_
    refine lv_iload_n hx hb dX4_layOut_27 rfl (lv_at hl 3 rfl) ?_
    refine lv_imul hx hb dX4_layOut_28 ?_
    refine lv_iadd hx hb dX4_layOut_29 ?_
    obtain ⟨r4, hcr4, he⟩ := g_bind he
    refine g_callV [.int (mem.1 59 r2.toNatClampNeg), .int (2 : Int32), .int ((mem.1 a2 1) + ((2 : Int32) * v3))] (rest := []) E hml hl.1 hM cv_X4_44 (c7_setSending l D aC B ha2 hYa2 hcr4) (o := a2) ha2 hYa2 (by decide) rfl rfl (Nat.le_of_ble_eq_true rfl) dX4_layOut_30 (fun H locs hM => ?_)
    refine W.eq (g2 := F0 m 33 ls []) rfl ?_
    obtain ⟨x5, hx5, he⟩ := g_let_ex he
    refine lv_iinc (v := x5) (lv' := [(3, .int x5), (0, .ref (B + 57)), (1, .int a1), (2, .ref (B + a2))]) hx hb dX4_layOut_33 hl (k := 3) rfl (by rw [hx5]; rfl) (by decide) rfl (fun ls hl => ?_)
    refine lv_goto (tgt := 2) hx hb dX4_layOut_36 (by decide) ?_
    exact hs2 _ _ _ _ _ hM (lv_sub hl [1, 2, 3, 0] rfl) he

set_option maxHeartbeats 4000000 in
set_option maxRecDepth 100000 in
theorem w4_layOut_b2 (E : g_C p s m args c cX4_layOut RX4 D aC (g_Zs (g_A B 69))) (hml : c.maxLocals = 4) (hret : meth.sig.returnType = none) (hlk : meth.locks = false) {F : Nat} {q0 : g_M} {a1 : Int32} {a2 : Nat} (ha2 : a2 < 69) (hYa2 : yC.1 a2 = (7, 0)) : ∀ (v3 : Int32) (mem : g_M) (H : Heap) (locs : List Loc) (ls : Array Slot), g_At D aC B yC 69 mem s.heap H locs → lv_has ls 4 [(0, .ref (B + 57)), (1, .int a1), (2, .ref (B + a2)), (3, .int v3)] → f4_layOut_b2 F a1 a2 v3 mem = some q0 → W p l e (g_rm 2) s m args below meth c H locs 0 0 (g_MQ below D aC B yC 69 args s none q0) (F0 m 2 ls []) := by
  have key : ∀ (nn : Nat) (x : Int32 × g_M) (H : Heap) (locs : List Loc) (ls : Array Slot), g_At D aC B yC 69 x.2 s.heap H locs → lv_has ls 4 [(0, .ref (B + 57)), (1, .int a1), (2, .ref (B + a2)), (3, .int x.1)] → g_fix (fun sf x => f4_layOut_b2_body F a1 a2 (fun v3 mem => sf (v3, mem)) x.1 x.2) nn x = some q0 → W p l e (g_rm 2) s m args below meth c H locs 0 0 (g_MQ below D aC B yC 69 args s none q0) (F0 m 2 ls []) := by
    intro nn
    induction nn with
    | zero => intro x H locs ls hM hl he; simp [g_fix] at he
    | succ nn ih =>
      intro x H locs ls hM hl he
      exact w4_layOut_b2_body (F := F) (a1 := a1) (a2 := a2) E hml hret hlk ha2 hYa2 (fun v3 mem H locs ls hM hl he => ih (v3, mem) H locs ls hM hl he) x.1 x.2 H locs ls hM hl he
  intro v3 mem H locs ls hM hl he
  exact key F (v3, mem) H locs ls hM hl he

set_option maxHeartbeats 4000000 in
set_option maxRecDepth 100000 in
theorem c4_layOut (l : Launch) (D : va_G) (aC : Nat → ClassId) (B : Nat) {F : Nat} {a1 : Int32} {a2 : Nat} (ha2 : a2 < 69) (hYa2 : yC.1 a2 = (7, 0)) {mem : g_M} {q0 : g_M} (he : f4_layOut F a1 a2 mem = some q0) : g_Met l yX4_layOut cX4_layOut 4 none 2 D aC B yC 69 mem [.ref (B + 57), .int a1, .ref (B + a2)] none q0 := by
  refine g_ofW (by decide) (Nat.le_of_ble_eq_true rfl) ?_
  intro p e s m args below meth c ls E hml hret hlk hM hl
  have E : g_C p s m args c cX4_layOut RX4 D aC (g_Zs (g_A B 69)) := E
  have hx := E.1
  have hb := E.2.1
  have hown := E.2.2.1
  have hts := E.2.2.2.1
  have hl : lv_has ls 4 [(0, .ref (B + 57)), (1, .int a1), (2, .ref (B + a2))] := hl
  unfold f4_layOut at he
  refine lv_iconst (v := (0 : Int32)) hx hb dX4_layOut_0 rfl ?_
  refine lv_istore_n (lv' := [(3, .int (0 : Int32)), (0, .ref (B + 57)), (1, .int a1), (2, .ref (B + a2))]) hx hb dX4_layOut_1 rfl hl (by decide) rfl (fun ls hl => ?_)
  exact w4_layOut_b2 (F := F) (a1 := a1) (a2 := a2) E hml hret hlk ha2 hYa2 _ _ _ _ _ hM (lv_sub hl [1, 2, 3, 0] rfl) he

set_option maxHeartbeats 4000000 in
set_option maxRecDepth 100000 in
theorem w4_weigh_b28_body (E : g_C p s m args c cX4_weigh RX4 D aC (g_Zs (g_A B 69))) (hml : c.maxLocals = 4) (hret : meth.sig.returnType = none) (hlk : meth.locks = false) {F : Nat} {q0 : g_M} {a1 : Int32} {a2 : Int32} {s28 : Int32 → g_M → Option (g_M)} (hs28 : ∀ (v3 : Int32) (mem : g_M) (H : Heap) (locs : List Loc) (ls : Array Slot), g_At D aC B yC 69 mem s.heap H locs → lv_has ls 4 [(0, .ref (B + 57)), (1, .int a1), (3, .int v3)] → s28 v3 mem = some q0 → W p l e (g_rm 2) s m args below meth c H locs 0 0 (g_MQ below D aC B yC 69 args s none q0) (F0 m 28 ls [])) : ∀ (v3 : Int32) (mem : g_M) (H : Heap) (locs : List Loc) (ls : Array Slot), g_At D aC B yC 69 mem s.heap H locs → lv_has ls 4 [(0, .ref (B + 57)), (1, .int a1), (3, .int v3)] → f4_weigh_b28_body F a1 a2 s28 v3 mem = some q0 → W p l e (g_rm 2) s m args below meth c H locs 0 0 (g_MQ below D aC B yC 69 args s none q0) (F0 m 28 ls []) := by
  intro v3 mem H locs ls hM hl he
  unfold f4_weigh_b28_body at he
  have hx := E.1
  have hb := E.2.1
  have hown := E.2.2.1
  have hts := E.2.2.2.1
  refine lv_iload_n hx hb dX4_weigh_28 rfl (lv_at hl 2 rfl) ?_
  refine lv_aload_n hx hb dX4_weigh_29 rfl (lv_at hl 0 rfl) ?_
  refine g_getI E hM (o := 57) (Nat.le_of_ble_eq_true rfl) rfl fl_X4_9 dX4_weigh_30 ?_
  refine lv_icmp_ge (tgt := 58) hx hb dX4_weigh_33 (by decide) (fun h1 => ?_) (fun h1 => ?_)
  · rw [if_neg (Int32.not_lt.mpr h1)] at he
    cases he
    exact g_vret E hM hret hlk dX4_weigh_58
  · rw [if_pos (Int32.not_le.mp h1)] at he
    refine lv_aload_n hx hb dX4_weigh_36 rfl (lv_at hl 0 rfl) ?_
    refine g_getP E hM (o := 57) (Nat.le_of_ble_eq_true rfl) rfl fl_X4_18 (q := 58) rfl dX4_weigh_37 ?_
    refine lv_iload_n hx hb dX4_weigh_40 rfl (lv_at hl 2 rfl) ?_
    refine lv_aload_n hx hb dX4_weigh_41 rfl (lv_at hl 0 rfl) ?_
    refine g_getP E hM (o := 57) (Nat.le_of_ble_eq_true rfl) rfl fl_X4_26 (q := 59) rfl dX4_weigh_42 ?_
    refine lv_iload_n hx hb dX4_weigh_45 rfl (lv_at hl 1 rfl) ?_
    refine lv_iload_n hx hb dX4_weigh_46 rfl (lv_at hl 2 rfl) ?_
    obtain ⟨r2, hcr2, he⟩ := g_bind he
    refine g_callS [.int a1, .int v3] (rest := [.ref (B + 59), .int v3, .ref (B + 58)]) E hml hl.1 hM cs_X4_38 (c4_digit l D aC B hcr2) (by decide) rfl rfl (Nat.le_of_ble_eq_true rfl) dX4_weigh_47 (fun H locs hM => ?_)
    refine W.eq (g2 := F0 m 50 ls [.int r2, .ref (B + 59), .int v3, .ref (B + 58)]) rfl ?_
    obtain ⟨h3, he⟩ := g_ck_some he
    refine g_iald E hM (o := 59) (Nat.le_of_ble_eq_true rfl) rfl h3 dX4_weigh_50 ?_
    obtain ⟨h4, he⟩ := g_ck_some he
    refine g_iast E hM (o := 58) (Nat.le_of_ble_eq_true rfl) rfl h4 dX4_weigh_51 (fun H locs hM => ?_)
    obtain ⟨m5, hm5, he⟩ := g_let_ex he
    rw [← hm5] at hM
    obtain ⟨x6, hx6, he⟩ := g_let_ex he
    refine lv_iinc (v := x6) (lv' := [(3, .int x6), (0, .ref (B + 57)), (1, .int a1)]) hx hb dX4_weigh_52 hl (k := 2) rfl (by rw [hx6]; rfl) (by decide) rfl (fun ls hl => ?_)
    refine lv_goto (tgt := 28) hx hb dX4_weigh_55 (by decide) ?_
    exact hs28 _ _ _ _ _ hM (lv_sub hl [1, 2, 0] rfl) he

set_option maxHeartbeats 4000000 in
set_option maxRecDepth 100000 in
theorem w4_weigh_b28 (E : g_C p s m args c cX4_weigh RX4 D aC (g_Zs (g_A B 69))) (hml : c.maxLocals = 4) (hret : meth.sig.returnType = none) (hlk : meth.locks = false) {F : Nat} {q0 : g_M} {a1 : Int32} {a2 : Int32} : ∀ (v3 : Int32) (mem : g_M) (H : Heap) (locs : List Loc) (ls : Array Slot), g_At D aC B yC 69 mem s.heap H locs → lv_has ls 4 [(0, .ref (B + 57)), (1, .int a1), (3, .int v3)] → f4_weigh_b28 F a1 a2 v3 mem = some q0 → W p l e (g_rm 2) s m args below meth c H locs 0 0 (g_MQ below D aC B yC 69 args s none q0) (F0 m 28 ls []) := by
  have key : ∀ (nn : Nat) (x : Int32 × g_M) (H : Heap) (locs : List Loc) (ls : Array Slot), g_At D aC B yC 69 x.2 s.heap H locs → lv_has ls 4 [(0, .ref (B + 57)), (1, .int a1), (3, .int x.1)] → g_fix (fun sf x => f4_weigh_b28_body F a1 a2 (fun v3 mem => sf (v3, mem)) x.1 x.2) nn x = some q0 → W p l e (g_rm 2) s m args below meth c H locs 0 0 (g_MQ below D aC B yC 69 args s none q0) (F0 m 28 ls []) := by
    intro nn
    induction nn with
    | zero => intro x H locs ls hM hl he; simp [g_fix] at he
    | succ nn ih =>
      intro x H locs ls hM hl he
      exact w4_weigh_b28_body (F := F) (a1 := a1) (a2 := a2) E hml hret hlk (fun v3 mem H locs ls hM hl he => ih (v3, mem) H locs ls hM hl he) x.1 x.2 H locs ls hM hl he
  intro v3 mem H locs ls hM hl he
  exact key F (v3, mem) H locs ls hM hl he

set_option maxHeartbeats 4000000 in
set_option maxRecDepth 100000 in
theorem w4_weigh_b16 (E : g_C p s m args c cX4_weigh RX4 D aC (g_Zs (g_A B 69))) (hml : c.maxLocals = 4) (hret : meth.sig.returnType = none) (hlk : meth.locks = false) {F : Nat} {q0 : g_M} {a1 : Int32} {a2 : Int32} : ∀ (mem : g_M) (H : Heap) (locs : List Loc) (ls : Array Slot), g_At D aC B yC 69 mem s.heap H locs → lv_has ls 4 [(0, .ref (B + 57)), (1, .int a1), (2, .int a2)] → f4_weigh_b16 F a1 a2 mem = some q0 → W p l e (g_rm 2) s m args below meth c H locs 0 0 (g_MQ below D aC B yC 69 args s none q0) (F0 m 16 ls []) := by
  intro mem H locs ls hM hl he
  unfold f4_weigh_b16 at he
  have hx := E.1
  have hb := E.2.1
  have hown := E.2.2.1
  have hts := E.2.2.2.1
  refine lv_aload_n hx hb dX4_weigh_16 rfl (lv_at hl 0 rfl) ?_
  refine lv_iconst (v := (1 : Int32)) hx hb dX4_weigh_17 rfl ?_
  refine g_putZ E hM (o := 57) (Nat.le_of_ble_eq_true rfl) rfl fp_X4_22 (Or.inr rfl) dX4_weigh_18 (fun H locs hM => ?_)
  obtain ⟨m7, hm7, he⟩ := g_let_ex he
  rw [← hm7] at hM
  refine lv_aload_n hx hb dX4_weigh_21 rfl (lv_at hl 0 rfl) ?_
  refine lv_iload_n hx hb dX4_weigh_22 rfl (lv_at hl 2 rfl) ?_
  refine g_putI E hM (o := 57) (Nat.le_of_ble_eq_true rfl) rfl fp_X4_15 dX4_weigh_23 (fun H locs hM => ?_)
  obtain ⟨m8, hm8, he⟩ := g_let_ex he
  rw [← hm8] at hM
  refine lv_iconst (v := (0 : Int32)) hx hb dX4_weigh_26 rfl ?_
  refine lv_istore_n (lv' := [(3, .int (0 : Int32)), (0, .ref (B + 57)), (1, .int a1), (2, .int a2)]) hx hb dX4_weigh_27 rfl hl (by decide) rfl (fun ls hl => ?_)
  exact w4_weigh_b28 (F := F) (a1 := a1) (a2 := a2) E hml hret hlk _ _ _ _ _ hM (lv_sub hl [1, 2, 0] rfl) he

set_option maxHeartbeats 4000000 in
set_option maxRecDepth 100000 in
theorem c4_weigh (l : Launch) (D : va_G) (aC : Nat → ClassId) (B : Nat) {F : Nat} {a1 : Int32} {a2 : Int32} {mem : g_M} {q0 : g_M} (he : f4_weigh F a1 a2 mem = some q0) : g_Met l yX4_weigh cX4_weigh 4 none 2 D aC B yC 69 mem [.ref (B + 57), .int a1, .int a2] none q0 := by
  refine g_ofW (by decide) (Nat.le_of_ble_eq_true rfl) ?_
  intro p e s m args below meth c ls E hml hret hlk hM hl
  have E : g_C p s m args c cX4_weigh RX4 D aC (g_Zs (g_A B 69)) := E
  have hx := E.1
  have hb := E.2.1
  have hown := E.2.2.1
  have hts := E.2.2.2.1
  have hl : lv_has ls 4 [(0, .ref (B + 57)), (1, .int a1), (2, .int a2)] := hl
  unfold f4_weigh at he
  refine lv_aload_n hx hb dX4_weigh_0 rfl (lv_at hl 0 rfl) ?_
  refine g_getI E hM (o := 57) (Nat.le_of_ble_eq_true rfl) rfl fl_X4_22 dX4_weigh_1 ?_
  refine lv_if_eq (tgt := 16) hx hb dX4_weigh_4 (by decide) (fun h9 => ?_) (fun h9 => ?_)
  · rw [if_pos h9] at he
    exact w4_weigh_b16 (F := F) (a1 := a1) (a2 := a2) E hml hret hlk _ _ _ _ hM (lv_sub hl [0, 1, 2] rfl) he
  · rw [if_neg h9] at he
    refine lv_iload_n hx hb dX4_weigh_7 rfl (lv_at hl 2 rfl) ?_
    refine lv_aload_n hx hb dX4_weigh_8 rfl (lv_at hl 0 rfl) ?_
    refine g_getI E hM (o := 57) (Nat.le_of_ble_eq_true rfl) rfl fl_X4_15 dX4_weigh_9 ?_
    refine lv_icmp_gt (tgt := 16) hx hb dX4_weigh_12 (by decide) (fun h10 => ?_) (fun h10 => ?_)
    · rw [if_neg (Int32.not_le.mpr h10)] at he
      exact w4_weigh_b16 (F := F) (a1 := a1) (a2 := a2) E hml hret hlk _ _ _ _ hM (lv_sub hl [0, 1, 2] rfl) he
    · rw [if_pos (Int32.not_lt.mp h10)] at he
      cases he
      exact g_vret E hM hret hlk dX4_weigh_15

set_option maxHeartbeats 4000000 in
set_option maxRecDepth 100000 in
theorem c9_clear (l : Launch) (D : va_G) (aC : Nat → ClassId) (B : Nat) {F : Nat} {t : Nat} (ht : t < 69) (hY : yC.1 t = (9, 0)) {mem : g_M} {q0 : g_M} (he : f9_clear F t mem = some q0) : g_Met l yX9_clear cX9_clear 1 none 2 D aC B yC 69 mem [.ref (B + t)] none q0 := by
  refine g_ofW (by decide) (Nat.le_of_ble_eq_true rfl) ?_
  intro p e s m args below meth c ls E hml hret hlk hM hl
  have E : g_C p s m args c cX9_clear RX9 D aC (g_Zs (g_A B 69)) := E
  have hx := E.1
  have hb := E.2.1
  have hown := E.2.2.1
  have hts := E.2.2.2.1
  have hl : lv_has ls 1 [(0, .ref (B + t))] := hl
  unfold f9_clear at he
  refine lv_aload_n hx hb dX9_clear_0 rfl (lv_at hl 0 rfl) ?_
  refine g_getP E hM (o := t) ht hY fl_X9_9 (q := (t + 1)) (pt_9_0 t ht hY).1 dX9_clear_1 ?_
  refine lv_iconst (v := (0 : Int32)) hx hb dX9_clear_4 rfl ?_
  refine lv_iconst (v := (0 : Int32)) hx hb dX9_clear_5 rfl ?_
  obtain ⟨h1, he⟩ := g_ck_some he
  refine g_iast E hM (o := (t + 1)) (pt_9_0 t ht hY).2.1 (pt_9_0 t ht hY).2.2 h1 dX9_clear_6 (fun H locs hM => ?_)
  obtain ⟨m2, hm2, he⟩ := g_let_ex he
  rw [← hm2] at hM
  refine lv_aload_n hx hb dX9_clear_7 rfl (lv_at hl 0 rfl) ?_
  refine g_getP E hM (o := t) ht hY fl_X9_9 (q := (t + 1)) (pt_9_0 t ht hY).1 dX9_clear_8 ?_
  refine lv_iconst (v := (1 : Int32)) hx hb dX9_clear_11 rfl ?_
  refine lv_iconst (v := (0 : Int32)) hx hb dX9_clear_12 rfl ?_
  obtain ⟨h3, he⟩ := g_ck_some he
  refine g_iast E hM (o := (t + 1)) (pt_9_0 t ht hY).2.1 (pt_9_0 t ht hY).2.2 h3 dX9_clear_13 (fun H locs hM => ?_)
  obtain ⟨m4, hm4, he⟩ := g_let_ex he
  rw [← hm4] at hM
  refine lv_aload_n hx hb dX9_clear_14 rfl (lv_at hl 0 rfl) ?_
  refine g_getP E hM (o := t) ht hY fl_X9_9 (q := (t + 1)) (pt_9_0 t ht hY).1 dX9_clear_15 ?_
  refine lv_iconst (v := (2 : Int32)) hx hb dX9_clear_18 rfl ?_
  refine lv_iconst (v := (0 : Int32)) hx hb dX9_clear_19 rfl ?_
  obtain ⟨h5, he⟩ := g_ck_some he
  refine g_iast E hM (o := (t + 1)) (pt_9_0 t ht hY).2.1 (pt_9_0 t ht hY).2.2 h5 dX9_clear_20 (fun H locs hM => ?_)
  obtain ⟨m6, hm6, he⟩ := g_let_ex he
  rw [← hm6] at hM
  refine lv_aload_n hx hb dX9_clear_21 rfl (lv_at hl 0 rfl) ?_
  refine lv_iconst (v := (0 : Int32)) hx hb dX9_clear_22 rfl ?_
  refine g_putI E hM (o := t) ht hY fp_X9_30 dX9_clear_23 (fun H locs hM => ?_)
  obtain ⟨m7, hm7, he⟩ := g_let_ex he
  rw [← hm7] at hM
  refine lv_aload_n hx hb dX9_clear_26 rfl (lv_at hl 0 rfl) ?_
  refine lv_iconst (v := (0 : Int32)) hx hb dX9_clear_27 rfl ?_
  refine g_putI E hM (o := t) ht hY fp_X9_37 dX9_clear_28 (fun H locs hM => ?_)
  obtain ⟨m8, hm8, he⟩ := g_let_ex he
  rw [← hm8] at hM
  refine lv_aload_n hx hb dX9_clear_31 rfl (lv_at hl 0 rfl) ?_
  refine lv_bipush (v := (9 : Int32)) hx hb dX9_clear_32 rfl ?_
  refine g_putI E hM (o := t) ht hY fp_X9_43 dX9_clear_34 (fun H locs hM => ?_)
  obtain ⟨m9, hm9, he⟩ := g_let_ex he
  rw [← hm9] at hM
  refine lv_aload_n hx hb dX9_clear_37 rfl (lv_at hl 0 rfl) ?_
  refine lv_iconst (v := (0 : Int32)) hx hb dX9_clear_38 rfl ?_
  refine g_putI E hM (o := t) ht hY fp_X9_46 dX9_clear_39 (fun H locs hM => ?_)
  obtain ⟨m10, hm10, he⟩ := g_let_ex he
  rw [← hm10] at hM
  refine lv_aload_n hx hb dX9_clear_42 rfl (lv_at hl 0 rfl) ?_
  refine lv_iconst (v := (0 : Int32)) hx hb dX9_clear_43 rfl ?_
  refine g_putI E hM (o := t) ht hY fp_X9_49 dX9_clear_44 (fun H locs hM => ?_)
  obtain ⟨m11, hm11, he⟩ := g_let_ex he
  rw [← hm11] at hM
  refine lv_aload_n hx hb dX9_clear_47 rfl (lv_at hl 0 rfl) ?_
  refine g_getP E hM (o := t) ht hY fl_X9_55 (q := (t + 9)) (pt_9_13 t ht hY).1 dX9_clear_48 ?_
  obtain ⟨r12, hcr12, he⟩ := g_bind he
  refine g_callV [] (rest := []) E hml hl.1 hM cv_X9_59 (c2_clear l D aC B (pt_9_13 t ht hY).2.1 (pt_9_13 t ht hY).2.2 hcr12) (o := (t + 9)) (pt_9_13 t ht hY).2.1 (pt_9_13 t ht hY).2.2 (by decide) rfl rfl (Nat.le_of_ble_eq_true rfl) dX9_clear_51 (fun H locs hM => ?_)
  refine W.eq (g2 := F0 m 54 ls []) rfl ?_
  cases he
  exact g_vret E hM hret hlk dX9_clear_54

set_option maxHeartbeats 4000000 in
set_option maxRecDepth 100000 in
theorem c8_begin (l : Launch) (D : va_G) (aC : Nat → ClassId) (B : Nat) {F : Nat} {a1 : Int32} {mem : g_M} {q0 : g_M} (he : f8_begin F a1 mem = some q0) : g_Met l yX8_begin cX8_begin 2 none 2 D aC B yC 69 mem [.ref (B + 31), .int a1] none q0 := by
  refine g_ofW (by decide) (Nat.le_of_ble_eq_true rfl) ?_
  intro p e s m args below meth c ls E hml hret hlk hM hl
  have E : g_C p s m args c cX8_begin RX8 D aC (g_Zs (g_A B 69)) := E
  have hx := E.1
  have hb := E.2.1
  have hown := E.2.2.1
  have hts := E.2.2.2.1
  have hl : lv_has ls 2 [(0, .ref (B + 31)), (1, .int a1)] := hl
  unfold f8_begin at he
  refine lv_aload_n hx hb dX8_begin_0 rfl (lv_at hl 0 rfl) ?_
  refine lv_iload_n hx hb dX8_begin_1 rfl (lv_at hl 1 rfl) ?_
  refine lv_aload_n hx hb dX8_begin_2 rfl (lv_at hl 0 rfl) ?_
  refine g_getP E hM (o := 31) (Nat.le_of_ble_eq_true rfl) rfl fl_X8_31 (q := 1) rfl dX8_begin_3 ?_
  refine g_alenB (v := (700 : Int32)) E hM (o := 1) (Nat.le_of_ble_eq_true rfl) rfl rfl dX8_begin_6 ?_
  refine va_mmin hx hb (hml.trans hl.1.symm) hown (hts _ mm_X8_46) (hts _ km_min.1) (hts _ ki_Math) (hts _ km_min.2) (Nat.le_of_ble_eq_true rfl) (Nat.le_of_ble_eq_true rfl) (Nat.zero_le _) (Nat.zero_le _) dX8_begin_7 ?_
  refine g_putI E hM (o := 31) (Nat.le_of_ble_eq_true rfl) rfl fp_X8_21 dX8_begin_10 (fun H locs hM => ?_)
  obtain ⟨m1, hm1, he⟩ := g_let_ex he
  rw [← hm1] at hM
  refine lv_aload_n hx hb dX8_begin_13 rfl (lv_at hl 0 rfl) ?_
  refine lv_iconst (v := (0 : Int32)) hx hb dX8_begin_14 rfl ?_
  refine g_putI E hM (o := 31) (Nat.le_of_ble_eq_true rfl) rfl fp_X8_24 dX8_begin_15 (fun H locs hM => ?_)
  obtain ⟨m2, hm2, he⟩ := g_let_ex he
  rw [← hm2] at hM
  cases he
  exact g_vret E hM hret hlk dX8_begin_18

set_option maxHeartbeats 4000000 in
set_option maxRecDepth 100000 in
theorem c5_fail (l : Launch) (D : va_G) (aC : Nat → ClassId) (B : Nat) {F : Nat} {a1 : Int32} {mem : g_M} {q0 : g_M} (he : f5_fail F a1 mem = some q0) : g_Met l yX5_fail cX5_fail 2 none 1 D aC B yC 69 mem [.ref (B + 30), .int a1] none q0 := by
  refine g_ofW (by decide) (Nat.le_of_ble_eq_true rfl) ?_
  intro p e s m args below meth c ls E hml hret hlk hM hl
  have E : g_C p s m args c cX5_fail RX5 D aC (g_Zs (g_A B 69)) := E
  have hx := E.1
  have hb := E.2.1
  have hown := E.2.2.1
  have hts := E.2.2.2.1
  have hl : lv_has ls 2 [(0, .ref (B + 30)), (1, .int a1)] := hl
  unfold f5_fail at he
  refine lv_aload_n hx hb dX5_fail_0 rfl (lv_at hl 0 rfl) ?_
  refine g_getI E hM (o := 30) (Nat.le_of_ble_eq_true rfl) rfl fl_X5_9 dX5_fail_1 ?_
  refine lv_if_ne (tgt := 23) hx hb dX5_fail_4 (by decide) (fun h1 => ?_) (fun h1 => ?_)
  · rw [if_neg h1] at he
    cases he
    exact g_vret E hM hret hlk dX5_fail_23
  · rw [if_pos h1] at he
    refine lv_aload_n hx hb dX5_fail_7 rfl (lv_at hl 0 rfl) ?_
    refine lv_iload_n hx hb dX5_fail_8 rfl (lv_at hl 1 rfl) ?_
    refine g_putI E hM (o := 30) (Nat.le_of_ble_eq_true rfl) rfl fp_X5_9 dX5_fail_9 (fun H locs hM => ?_)
    obtain ⟨m2, hm2, he⟩ := g_let_ex he
    rw [← hm2] at hM
    refine lv_aload_n hx hb dX5_fail_12 rfl (lv_at hl 0 rfl) ?_
    refine lv_aload_n hx hb dX5_fail_13 rfl (lv_at hl 0 rfl) ?_
    refine g_getP E hM (o := 30) (Nat.le_of_ble_eq_true rfl) rfl fl_X5_40 (q := 31) rfl dX5_fail_14 ?_
    refine g_getI E hM (o := 31) (Nat.le_of_ble_eq_true rfl) rfl fl_X5_78 dX5_fail_17 ?_
    refine g_putI E hM (o := 30) (Nat.le_of_ble_eq_true rfl) rfl fp_X5_15 dX5_fail_20 (fun H locs hM => ?_)
    obtain ⟨m3, hm3, he⟩ := g_let_ex he
    rw [← hm3] at hM
    cases he
    exact g_vret E hM hret hlk dX5_fail_23

set_option maxHeartbeats 4000000 in
set_option maxRecDepth 100000 in
theorem c5_failIf (l : Launch) (D : va_G) (aC : Nat → ClassId) (B : Nat) {F : Nat} {a1 : Int32} {a2 : Int32} {mem : g_M} {q0 : g_M} (he : f5_failIf F a1 a2 mem = some q0) : g_Met l yX5_failIf cX5_failIf 3 none 2 D aC B yC 69 mem [.ref (B + 30), .int a1, .int a2] none q0 := by
  refine g_ofW (by decide) (Nat.le_of_ble_eq_true rfl) ?_
  intro p e s m args below meth c ls E hml hret hlk hM hl
  have E : g_C p s m args c cX5_failIf RX5 D aC (g_Zs (g_A B 69)) := E
  have hx := E.1
  have hb := E.2.1
  have hown := E.2.2.1
  have hts := E.2.2.2.1
  have hl : lv_has ls 3 [(0, .ref (B + 30)), (1, .int a1), (2, .int a2)] := hl
  unfold f5_failIf at he
  refine lv_iload_n hx hb dX5_failIf_0 rfl (lv_at hl 1 rfl) ?_
  refine lv_if_eq (tgt := 9) hx hb dX5_failIf_1 (by decide) (fun h1 => ?_) (fun h1 => ?_)
  · rw [if_pos h1] at he
    cases he
    exact g_vret E hM hret hlk dX5_failIf_9
  · rw [if_neg h1] at he
    refine lv_aload_n hx hb dX5_failIf_4 rfl (lv_at hl 0 rfl) ?_
    refine lv_iload_n hx hb dX5_failIf_5 rfl (lv_at hl 2 rfl) ?_
    obtain ⟨r2, hcr2, he⟩ := g_bind he
    refine g_callV [.int a2] (rest := []) E hml hl.1 hM cv_X5_81 (c5_fail l D aC B hcr2) (o := 30) (Nat.le_of_ble_eq_true rfl) rfl (by decide) rfl rfl (Nat.le_of_ble_eq_true rfl) dX5_failIf_6 (fun H locs hM => ?_)
    refine W.eq (g2 := F0 m 9 ls []) rfl ?_
    cases he
    exact g_vret E hM hret hlk dX5_failIf_9

set_option maxHeartbeats 4000000 in
set_option maxRecDepth 100000 in
theorem w9_find_b2_body (E : g_C p s m args c cX9_find RX9 D aC (g_Zs (g_A B 69))) (hml : c.maxLocals = 4) (hret : meth.sig.returnType = (some .int)) (hlk : meth.locks = false) {F : Nat} {q0 : Int32} {t : Nat} {a1 : Int32} {a2 : Int32} (ht : t < 69) (hY : yC.1 t = (9, 0)) {mem : g_M} {s2 : Int32 → Option (Int32)} (hs2 : ∀ (v3 : Int32) (H : Heap) (locs : List Loc) (ls : Array Slot), g_At D aC B yC 69 mem s.heap H locs → lv_has ls 4 [(0, .ref (B + t)), (1, .int a1), (2, .int a2), (3, .int v3)] → s2 v3 = some q0 → W p l e (g_rm 1) s m args below meth c H locs 0 0 (g_MQ below D aC B yC 69 args s (some (.int q0)) mem) (F0 m 2 ls [])) : ∀ (v3 : Int32) (H : Heap) (locs : List Loc) (ls : Array Slot), g_At D aC B yC 69 mem s.heap H locs → lv_has ls 4 [(0, .ref (B + t)), (1, .int a1), (2, .int a2), (3, .int v3)] → f9_find_b2_body F t a1 a2 s2 mem v3 = some q0 → W p l e (g_rm 1) s m args below meth c H locs 0 0 (g_MQ below D aC B yC 69 args s (some (.int q0)) mem) (F0 m 2 ls []) := by
  intro v3 H locs ls hM hl he
  unfold f9_find_b2_body at he
  have hx := E.1
  have hb := E.2.1
  have hown := E.2.2.1
  have hts := E.2.2.2.1
  refine lv_iload_n hx hb dX9_find_2 rfl (lv_at hl 3 rfl) ?_
  refine lv_aload_n hx hb dX9_find_3 rfl (lv_at hl 0 rfl) ?_
  refine g_getP E hM (o := t) ht hY fl_X9_9 (q := (t + 1)) (pt_9_0 t ht hY).1 dX9_find_4 ?_
  refine lv_iload_n hx hb dX9_find_7 rfl (lv_at hl 1 rfl) ?_
  obtain ⟨h1, he⟩ := g_ck_some he
  refine g_iald E hM (o := (t + 1)) (pt_9_0 t ht hY).2.1 (pt_9_0 t ht hY).2.2 h1 dX9_find_8 ?_
  refine lv_icmp_ge (tgt := 34) hx hb dX9_find_9 (by decide) (fun h2 => ?_) (fun h2 => ?_)
  · rw [if_neg (Int32.not_lt.mpr h2)] at he
    refine lv_iconst (v := (-1 : Int32)) hx hb dX9_find_34 rfl ?_
    cases he
    exact g_iret E hM hret hlk dX9_find_35
  · rw [if_pos (Int32.not_le.mp h2)] at he
    refine lv_aload_n hx hb dX9_find_12 rfl (lv_at hl 0 rfl) ?_
    refine g_getP E hM (o := t) ht hY fl_X9_15 (q := (t + 2)) (pt_9_1 t ht hY).1 dX9_find_13 ?_
    refine lv_iload_n hx hb dX9_find_16 rfl (lv_at hl 1 rfl) ?_
    refine lv_iconst (v := (5 : Int32)) hx hb dX9_find_17 rfl ?_
    refine lv_imul hx hb dX9_find_18 ?_
    refine lv_iload_n hx hb dX9_find_19 rfl (lv_at hl 3 rfl) ?_
    refine lv_iadd hx hb dX9_find_20 ?_
    obtain ⟨h3, he⟩ := g_ck_some he
    refine g_iald E hM (o := (t + 2)) (pt_9_1 t ht hY).2.1 (pt_9_1 t ht hY).2.2 h3 dX9_find_21 ?_
    refine lv_iload_n hx hb dX9_find_22 rfl (lv_at hl 2 rfl) ?_
    refine lv_icmp_ne (tgt := 28) hx hb dX9_find_23 (by decide) (fun h4 => ?_) (fun h4 => ?_)
    · rw [if_neg h4] at he
      obtain ⟨x5, hx5, he⟩ := g_let_ex he
      refine lv_iinc (v := x5) (lv' := [(3, .int x5), (0, .ref (B + t)), (1, .int a1), (2, .int a2)]) hx hb dX9_find_28 hl (k := 3) rfl (by rw [hx5]; rfl) (by decide) rfl (fun ls hl => ?_)
      refine lv_goto (tgt := 2) hx hb dX9_find_31 (by decide) ?_
      exact hs2 _ _ _ _ hM (lv_sub hl [1, 2, 3, 0] rfl) he
    · rw [if_pos h4] at he
      refine lv_iload_n hx hb dX9_find_26 rfl (lv_at hl 3 rfl) ?_
      cases he
      exact g_iret E hM hret hlk dX9_find_27

set_option maxHeartbeats 4000000 in
set_option maxRecDepth 100000 in
theorem w9_find_b2 (E : g_C p s m args c cX9_find RX9 D aC (g_Zs (g_A B 69))) (hml : c.maxLocals = 4) (hret : meth.sig.returnType = (some .int)) (hlk : meth.locks = false) {F : Nat} {q0 : Int32} {t : Nat} {a1 : Int32} {a2 : Int32} (ht : t < 69) (hY : yC.1 t = (9, 0)) {mem : g_M} : ∀ (v3 : Int32) (H : Heap) (locs : List Loc) (ls : Array Slot), g_At D aC B yC 69 mem s.heap H locs → lv_has ls 4 [(0, .ref (B + t)), (1, .int a1), (2, .int a2), (3, .int v3)] → f9_find_b2 F t a1 a2 mem v3 = some q0 → W p l e (g_rm 1) s m args below meth c H locs 0 0 (g_MQ below D aC B yC 69 args s (some (.int q0)) mem) (F0 m 2 ls []) := by
  have key : ∀ (nn : Nat) (x : Int32) (H : Heap) (locs : List Loc) (ls : Array Slot), g_At D aC B yC 69 mem s.heap H locs → lv_has ls 4 [(0, .ref (B + t)), (1, .int a1), (2, .int a2), (3, .int x)] → g_fix (fun sf x => f9_find_b2_body F t a1 a2 (fun v3 => sf v3) mem x) nn x = some q0 → W p l e (g_rm 1) s m args below meth c H locs 0 0 (g_MQ below D aC B yC 69 args s (some (.int q0)) mem) (F0 m 2 ls []) := by
    intro nn
    induction nn with
    | zero => intro x H locs ls hM hl he; simp [g_fix] at he
    | succ nn ih =>
      intro x H locs ls hM hl he
      exact w9_find_b2_body (F := F) (t := t) (a1 := a1) (a2 := a2) E hml hret hlk ht hY (fun v3 H locs ls hM hl he => ih v3 H locs ls hM hl he) x H locs ls hM hl he
  intro v3 H locs ls hM hl he
  exact key F v3 H locs ls hM hl he

set_option maxHeartbeats 4000000 in
set_option maxRecDepth 100000 in
theorem c9_find (l : Launch) (D : va_G) (aC : Nat → ClassId) (B : Nat) {F : Nat} {t : Nat} (ht : t < 69) (hY : yC.1 t = (9, 0)) {a1 : Int32} {a2 : Int32} {mem : g_M} {q0 : Int32} (he : f9_find F t a1 a2 mem = some q0) : g_Met l yX9_find cX9_find 4 (some .int) 1 D aC B yC 69 mem [.ref (B + t), .int a1, .int a2] (some (.int q0)) mem := by
  refine g_ofW (by decide) (Nat.le_of_ble_eq_true rfl) ?_
  intro p e s m args below meth c ls E hml hret hlk hM hl
  have E : g_C p s m args c cX9_find RX9 D aC (g_Zs (g_A B 69)) := E
  have hx := E.1
  have hb := E.2.1
  have hown := E.2.2.1
  have hts := E.2.2.2.1
  have hl : lv_has ls 4 [(0, .ref (B + t)), (1, .int a1), (2, .int a2)] := hl
  unfold f9_find at he
  refine lv_iconst (v := (0 : Int32)) hx hb dX9_find_0 rfl ?_
  refine lv_istore_n (lv' := [(3, .int (0 : Int32)), (0, .ref (B + t)), (1, .int a1), (2, .int a2)]) hx hb dX9_find_1 rfl hl (by decide) rfl (fun ls hl => ?_)
  exact w9_find_b2 (F := F) (t := t) (a1 := a1) (a2 := a2) E hml hret hlk ht hY _ _ _ _ hM (lv_sub hl [1, 2, 3, 0] rfl) he

set_option maxHeartbeats 4000000 in
set_option maxRecDepth 100000 in
theorem w5_newOne_b122 (E : g_C p s m args c cX5_newOne RX5 D aC (g_Zs (g_A B 69))) (hml : c.maxLocals = 4) (hret : meth.sig.returnType = (some .int)) (hlk : meth.locks = false) {F : Nat} {q0 : Int32 × g_M} {a1 : Int32} {a2 : Int32} : ∀ (v3 : Int32) (mem : g_M) (H : Heap) (locs : List Loc) (ls : Array Slot), g_At D aC B yC 69 mem s.heap H locs → lv_has ls 4 [(0, .ref (B + 30)), (3, .int v3)] → f5_newOne_b122 F a1 a2 v3 mem = some q0 → W p l e (g_rm 4) s m args below meth c H locs 0 0 (g_MQ below D aC B yC 69 args s (some (.int q0.1)) q0.2) (F0 m 122 ls []) := by
  intro v3 mem H locs ls hM hl he
  unfold f5_newOne_b122 at he
  have hx := E.1
  have hb := E.2.1
  have hown := E.2.2.1
  have hts := E.2.2.2.1
  refine lv_aload_n hx hb dX5_newOne_122 rfl (lv_at hl 0 rfl) ?_
  refine g_getP E hM (o := 30) (Nat.le_of_ble_eq_true rfl) rfl fl_X5_40 (q := 31) rfl dX5_newOne_123 ?_
  obtain ⟨r1, hcr1, he⟩ := g_bind he
  refine g_callV [] (rest := []) E hml hl.1 hM cv_X5_66 (c8_step l D aC B hcr1) (o := 31) (Nat.le_of_ble_eq_true rfl) rfl (by decide) rfl rfl (Nat.le_of_ble_eq_true rfl) dX5_newOne_126 (fun H locs hM => ?_)
  refine W.eq (g2 := F0 m 129 ls []) rfl ?_
  refine lv_iload_n hx hb dX5_newOne_129 rfl (lv_at hl 1 rfl) ?_
  cases he
  exact g_iret E hM hret hlk dX5_newOne_130

set_option maxHeartbeats 4000000 in
set_option maxRecDepth 100000 in
theorem w5_newOne_b78 (E : g_C p s m args c cX5_newOne RX5 D aC (g_Zs (g_A B 69))) (hml : c.maxLocals = 4) (hret : meth.sig.returnType = (some .int)) (hlk : meth.locks = false) {F : Nat} {q0 : Int32 × g_M} {a1 : Int32} {a2 : Int32} : ∀ (v3 : Int32) (w1 : Int32) (mem : g_M) (H : Heap) (locs : List Loc) (ls : Array Slot), g_At D aC B yC 69 mem s.heap H locs → lv_has ls 4 [(0, .ref (B + 30)), (1, .int a1), (3, .int v3)] → f5_newOne_b78 F a1 a2 v3 w1 mem = some q0 → W p l e (g_rm 4) s m args below meth c H locs 0 0 (g_MQ below D aC B yC 69 args s (some (.int q0.1)) q0.2) (F0 m 78 ls [.int w1, .ref (B + 30)]) := by
  intro v3 w1 mem H locs ls hM hl he
  unfold f5_newOne_b78 at he
  have hx := E.1
  have hb := E.2.1
  have hown := E.2.2.1
  have hts := E.2.2.2.1
  refine lv_iconst (v := (3 : Int32)) hx hb dX5_newOne_78 rfl ?_
  obtain ⟨r2, hcr2, he⟩ := g_bind he
  refine g_callV [.int w1, .int (3 : Int32)] (rest := []) E hml hl.1 hM cv_X5_88 (c5_failIf l D aC B hcr2) (o := 30) (Nat.le_of_ble_eq_true rfl) rfl (by decide) rfl rfl (Nat.le_of_ble_eq_true rfl) dX5_newOne_79 (fun H locs hM => ?_)
  refine W.eq (g2 := F0 m 82 ls []) rfl ?_
  refine lv_aload_n hx hb dX5_newOne_82 rfl (lv_at hl 0 rfl) ?_
  refine g_getI E hM (o := 30) (Nat.le_of_ble_eq_true rfl) rfl fl_X5_9 dX5_newOne_83 ?_
  refine lv_if_ne (tgt := 122) hx hb dX5_newOne_86 (by decide) (fun h3 => ?_) (fun h3 => ?_)
  · rw [if_neg h3] at he
    exact w5_newOne_b122 (F := F) (a1 := a1) (a2 := a2) E hml hret hlk _ _ _ _ _ hM (lv_sub hl [0, 2] rfl) he
  · rw [if_pos h3] at he
    refine lv_aload_n hx hb dX5_newOne_89 rfl (lv_at hl 0 rfl) ?_
    obtain ⟨q4, hqq4, hq4, hYq4, he⟩ := g_dr_some he
    refine g_getD E hM (o := 30) (Nat.le_of_ble_eq_true rfl) rfl fl_X5_31 rfl hqq4 dX5_newOne_90 ?_
    refine g_getP E hM (o := q4) hq4 hYq4 fl_X5_183 (q := (q4 + 2)) (pt_9_1 q4 hq4 hYq4).1 dX5_newOne_93 ?_
    refine lv_iload_n hx hb dX5_newOne_96 rfl (lv_at hl 1 rfl) ?_
    refine lv_iconst (v := (5 : Int32)) hx hb dX5_newOne_97 rfl ?_
    refine lv_imul hx hb dX5_newOne_98 ?_
    refine lv_iload_n hx hb dX5_newOne_99 rfl (lv_at hl 2 rfl) ?_
    refine lv_iadd hx hb dX5_newOne_100 ?_
    refine lv_aload_n hx hb dX5_newOne_101 rfl (lv_at hl 0 rfl) ?_
    refine g_getP E hM (o := 30) (Nat.le_of_ble_eq_true rfl) rfl fl_X5_40 (q := 31) rfl dX5_newOne_102 ?_
    refine g_getI E hM (o := 31) (Nat.le_of_ble_eq_true rfl) rfl fl_X5_92 dX5_newOne_105 ?_
    obtain ⟨h5, he⟩ := g_ck_some he
    refine g_iast E hM (o := (q4 + 2)) (pt_9_1 q4 hq4 hYq4).2.1 (pt_9_1 q4 hq4 hYq4).2.2 h5 dX5_newOne_108 (fun H locs hM => ?_)
    obtain ⟨m6, hm6, he⟩ := g_let_ex he
    rw [← hm6] at hM
    refine lv_aload_n hx hb dX5_newOne_109 rfl (lv_at hl 0 rfl) ?_
    obtain ⟨q7, hqq7, hq7, hYq7, he⟩ := g_dr_some he
    refine g_getD E hM (o := 30) (Nat.le_of_ble_eq_true rfl) rfl fl_X5_31 rfl hqq7 dX5_newOne_110 ?_
    refine g_getP E hM (o := q7) hq7 hYq7 fl_X5_177 (q := (q7 + 1)) (pt_9_0 q7 hq7 hYq7).1 dX5_newOne_113 ?_
    refine lv_iload_n hx hb dX5_newOne_116 rfl (lv_at hl 1 rfl) ?_
    refine lv_dup2_11 hx hb dX5_newOne_117 rfl rfl ?_
    obtain ⟨h8, he⟩ := g_ck_some he
    refine g_iald E hM (o := (q7 + 1)) (pt_9_0 q7 hq7 hYq7).2.1 (pt_9_0 q7 hq7 hYq7).2.2 h8 dX5_newOne_118 ?_
    refine lv_iconst (v := (1 : Int32)) hx hb dX5_newOne_119 rfl ?_
    refine lv_iadd hx hb dX5_newOne_120 ?_
    obtain ⟨h9, he⟩ := g_ck_some he
    refine g_iast E hM (o := (q7 + 1)) (pt_9_0 q7 hq7 hYq7).2.1 (pt_9_0 q7 hq7 hYq7).2.2 h9 dX5_newOne_121 (fun H locs hM => ?_)
    obtain ⟨m10, hm10, he⟩ := g_let_ex he
    rw [← hm10] at hM
    exact w5_newOne_b122 (F := F) (a1 := a1) (a2 := a2) E hml hret hlk _ _ _ _ _ hM (lv_sub hl [0, 2] rfl) he

set_option maxHeartbeats 4000000 in
set_option maxRecDepth 100000 in
theorem w5_newOne_b49 (E : g_C p s m args c cX5_newOne RX5 D aC (g_Zs (g_A B 69))) (hml : c.maxLocals = 4) (hret : meth.sig.returnType = (some .int)) (hlk : meth.locks = false) {F : Nat} {q0 : Int32 × g_M} {a1 : Int32} {a2 : Int32} : ∀ (v3 : Int32) (w1 : Int32) (mem : g_M) (H : Heap) (locs : List Loc) (ls : Array Slot), g_At D aC B yC 69 mem s.heap H locs → lv_has ls 4 [(0, .ref (B + 30)), (1, .int a1), (3, .int v3)] → f5_newOne_b49 F a1 a2 v3 w1 mem = some q0 → W p l e (g_rm 4) s m args below meth c H locs 0 0 (g_MQ below D aC B yC 69 args s (some (.int q0.1)) q0.2) (F0 m 49 ls [.int w1, .ref (B + 30)]) := by
  intro v3 w1 mem H locs ls hM hl he
  unfold f5_newOne_b49 at he
  have hx := E.1
  have hb := E.2.1
  have hown := E.2.2.1
  have hts := E.2.2.2.1
  refine lv_iconst (v := (1 : Int32)) hx hb dX5_newOne_49 rfl ?_
  obtain ⟨r11, hcr11, he⟩ := g_bind he
  refine g_callV [.int w1, .int (1 : Int32)] (rest := []) E hml hl.1 hM cv_X5_88 (c5_failIf l D aC B hcr11) (o := 30) (Nat.le_of_ble_eq_true rfl) rfl (by decide) rfl rfl (Nat.le_of_ble_eq_true rfl) dX5_newOne_50 (fun H locs hM => ?_)
  refine W.eq (g2 := F0 m 53 ls []) rfl ?_
  refine lv_aload_n hx hb dX5_newOne_53 rfl (lv_at hl 0 rfl) ?_
  refine lv_aload_n hx hb dX5_newOne_54 rfl (lv_at hl 0 rfl) ?_
  obtain ⟨q12, hqq12, hq12, hYq12, he⟩ := g_dr_some he
  refine g_getD E hM (o := 30) (Nat.le_of_ble_eq_true rfl) rfl fl_X5_31 rfl hqq12 dX5_newOne_55 ?_
  refine lv_iload_n hx hb dX5_newOne_58 rfl (lv_at hl 1 rfl) ?_
  refine lv_aload_n hx hb dX5_newOne_59 rfl (lv_at hl 0 rfl) ?_
  refine g_getP E hM (o := 30) (Nat.le_of_ble_eq_true rfl) rfl fl_X5_40 (q := 31) rfl dX5_newOne_60 ?_
  refine g_getI E hM (o := 31) (Nat.le_of_ble_eq_true rfl) rfl fl_X5_92 dX5_newOne_63 ?_
  obtain ⟨r13, hcr13, he⟩ := g_bind he
  refine g_callV [.int a1, .int (r11.1 31 2)] (rest := [.ref (B + 30)]) E hml hl.1 hM cv_X5_180 (c9_find l D aC B hq12 hYq12 hcr13) (o := q12) hq12 hYq12 (by decide) rfl rfl (Nat.le_of_ble_eq_true rfl) dX5_newOne_66 (fun H locs hM => ?_)
  refine W.eq (g2 := F0 m 69 ls [.int r13, .ref (B + 30)]) rfl ?_
  refine lv_iconst (v := (-1 : Int32)) hx hb dX5_newOne_69 rfl ?_
  refine lv_icmp_eq (tgt := 77) hx hb dX5_newOne_70 (by decide) (fun h14 => ?_) (fun h14 => ?_)
  · rw [if_pos h14] at he
    refine lv_iconst (v := (0 : Int32)) hx hb dX5_newOne_77 rfl ?_
    exact w5_newOne_b78 (F := F) (a1 := a1) (a2 := a2) E hml hret hlk _ _ _ _ _ _ hM (lv_sub hl [0, 1, 2] rfl) he
  · rw [if_neg h14] at he
    refine lv_iconst (v := (1 : Int32)) hx hb dX5_newOne_73 rfl ?_
    refine lv_goto (tgt := 78) hx hb dX5_newOne_74 (by decide) ?_
    exact w5_newOne_b78 (F := F) (a1 := a1) (a2 := a2) E hml hret hlk _ _ _ _ _ _ hM (lv_sub hl [0, 1, 2] rfl) he

set_option maxHeartbeats 4000000 in
set_option maxRecDepth 100000 in
theorem w5_newOne_b21 (E : g_C p s m args c cX5_newOne RX5 D aC (g_Zs (g_A B 69))) (hml : c.maxLocals = 4) (hret : meth.sig.returnType = (some .int)) (hlk : meth.locks = false) {F : Nat} {q0 : Int32 × g_M} {a1 : Int32} {a2 : Int32} : ∀ (v3 : Int32) (w1 : Int32) (mem : g_M) (H : Heap) (locs : List Loc) (ls : Array Slot), g_At D aC B yC 69 mem s.heap H locs → lv_has ls 4 [(0, .ref (B + 30)), (1, .int a1), (3, .int v3)] → f5_newOne_b21 F a1 a2 v3 w1 mem = some q0 → W p l e (g_rm 4) s m args below meth c H locs 0 0 (g_MQ below D aC B yC 69 args s (some (.int q0.1)) q0.2) (F0 m 21 ls [.int w1, .ref (B + 30)]) := by
  intro v3 w1 mem H locs ls hM hl he
  unfold f5_newOne_b21 at he
  have hx := E.1
  have hb := E.2.1
  have hown := E.2.2.1
  have hts := E.2.2.2.1
  refine lv_iconst (v := (2 : Int32)) hx hb dX5_newOne_21 rfl ?_
  obtain ⟨r15, hcr15, he⟩ := g_bind he
  refine g_callV [.int w1, .int (2 : Int32)] (rest := []) E hml hl.1 hM cv_X5_88 (c5_failIf l D aC B hcr15) (o := 30) (Nat.le_of_ble_eq_true rfl) rfl (by decide) rfl rfl (Nat.le_of_ble_eq_true rfl) dX5_newOne_22 (fun H locs hM => ?_)
  refine W.eq (g2 := F0 m 25 ls []) rfl ?_
  refine lv_aload_n hx hb dX5_newOne_25 rfl (lv_at hl 0 rfl) ?_
  refine g_getP E hM (o := 30) (Nat.le_of_ble_eq_true rfl) rfl fl_X5_40 (q := 31) rfl dX5_newOne_26 ?_
  obtain ⟨r16, hcr16, he⟩ := g_bind he
  refine g_callV [] (rest := []) E hml hl.1 hM cv_X5_66 (c8_step l D aC B hcr16) (o := 31) (Nat.le_of_ble_eq_true rfl) rfl (by decide) rfl rfl (Nat.le_of_ble_eq_true rfl) dX5_newOne_29 (fun H locs hM => ?_)
  refine W.eq (g2 := F0 m 32 ls []) rfl ?_
  refine lv_aload_n hx hb dX5_newOne_32 rfl (lv_at hl 0 rfl) ?_
  refine lv_aload_n hx hb dX5_newOne_33 rfl (lv_at hl 0 rfl) ?_
  refine g_getP E hM (o := 30) (Nat.le_of_ble_eq_true rfl) rfl fl_X5_40 (q := 31) rfl dX5_newOne_34 ?_
  refine g_getI E hM (o := 31) (Nat.le_of_ble_eq_true rfl) rfl fl_X5_69 dX5_newOne_37 ?_
  refine lv_iconst (v := (2 : Int32)) hx hb dX5_newOne_40 rfl ?_
  refine lv_icmp_eq (tgt := 48) hx hb dX5_newOne_41 (by decide) (fun h17 => ?_) (fun h17 => ?_)
  · rw [if_pos h17] at he
    refine lv_iconst (v := (0 : Int32)) hx hb dX5_newOne_48 rfl ?_
    exact w5_newOne_b49 (F := F) (a1 := a1) (a2 := a2) E hml hret hlk _ _ _ _ _ _ hM (lv_sub hl [0, 1, 2] rfl) he
  · rw [if_neg h17] at he
    refine lv_iconst (v := (1 : Int32)) hx hb dX5_newOne_44 rfl ?_
    refine lv_goto (tgt := 49) hx hb dX5_newOne_45 (by decide) ?_
    exact w5_newOne_b49 (F := F) (a1 := a1) (a2 := a2) E hml hret hlk _ _ _ _ _ _ hM (lv_sub hl [0, 1, 2] rfl) he

set_option maxHeartbeats 4000000 in
set_option maxRecDepth 100000 in
theorem c5_newOne (l : Launch) (D : va_G) (aC : Nat → ClassId) (B : Nat) {F : Nat} {a1 : Int32} {a2 : Int32} {mem : g_M} {q0 : Int32 × g_M} (he : f5_newOne F a1 a2 mem = some q0) : g_Met l yX5_newOne cX5_newOne 4 (some .int) 4 D aC B yC 69 mem [.ref (B + 30), .int a1, .int a2] (some (.int q0.1)) q0.2 := by
  refine g_ofW (by decide) (Nat.le_of_ble_eq_true rfl) ?_
  intro p e s m args below meth c ls E hml hret hlk hM hl
  have E : g_C p s m args c cX5_newOne RX5 D aC (g_Zs (g_A B 69)) := E
  have hx := E.1
  have hb := E.2.1
  have hown := E.2.2.1
  have hts := E.2.2.2.1
  have hl : lv_has ls 4 [(0, .ref (B + 30)), (1, .int a1), (2, .int a2)] := hl
  unfold f5_newOne at he
  refine lv_aload_n hx hb dX5_newOne_0 rfl (lv_at hl 0 rfl) ?_
  obtain ⟨q18, hqq18, hq18, hYq18, he⟩ := g_dr_some he
  refine g_getD E hM (o := 30) (Nat.le_of_ble_eq_true rfl) rfl fl_X5_31 rfl hqq18 dX5_newOne_1 ?_
  refine g_getP E hM (o := q18) hq18 hYq18 fl_X5_177 (q := (q18 + 1)) (pt_9_0 q18 hq18 hYq18).1 dX5_newOne_4 ?_
  refine lv_iload_n hx hb dX5_newOne_7 rfl (lv_at hl 1 rfl) ?_
  obtain ⟨h19, he⟩ := g_ck_some he
  refine g_iald E hM (o := (q18 + 1)) (pt_9_0 q18 hq18 hYq18).2.1 (pt_9_0 q18 hq18 hYq18).2.2 h19 dX5_newOne_8 ?_
  obtain ⟨x20, hx20, he⟩ := g_let_ex he
  refine g_topI hx20 ?_
  refine lv_istore_n (lv' := [(3, .int x20), (0, .ref (B + 30)), (1, .int a1), (2, .int a2)]) hx hb dX5_newOne_9 rfl hl (by decide) rfl (fun ls hl => ?_)
  refine lv_aload_n hx hb dX5_newOne_10 rfl (lv_at hl 1 rfl) ?_
  refine lv_iload_n hx hb dX5_newOne_11 rfl (lv_at hl 0 rfl) ?_
  refine lv_iload_n hx hb dX5_newOne_12 rfl (lv_at hl 3 rfl) ?_
  refine lv_icmp_lt (tgt := 20) hx hb dX5_newOne_13 (by decide) (fun h21 => ?_) (fun h21 => ?_)
  · rw [if_neg (Int32.not_le.mpr h21)] at he
    refine lv_iconst (v := (0 : Int32)) hx hb dX5_newOne_20 rfl ?_
    exact w5_newOne_b21 (F := F) (a1 := a1) (a2 := a2) E hml hret hlk _ _ _ _ _ _ hM (lv_sub hl [1, 2, 0] rfl) he
  · rw [if_pos (Int32.not_lt.mp h21)] at he
    refine lv_iconst (v := (1 : Int32)) hx hb dX5_newOne_16 rfl ?_
    refine lv_goto (tgt := 21) hx hb dX5_newOne_17 (by decide) ?_
    exact w5_newOne_b21 (F := F) (a1 := a1) (a2 := a2) E hml hret hlk _ _ _ _ _ _ hM (lv_sub hl [1, 2, 0] rfl) he

set_option maxHeartbeats 4000000 in
set_option maxRecDepth 100000 in
theorem w5_number_b45 (E : g_C p s m args c cX5_number RX5 D aC (g_Zs (g_A B 69))) (hml : c.maxLocals = 4) (hret : meth.sig.returnType = (some .int)) (hlk : meth.locks = false) {F : Nat} {q0 : Int32 × g_M} {a1 : Int32} {a2 : Int32} : ∀ (v3 : Int32) (w1 : Int32) (mem : g_M) (H : Heap) (locs : List Loc) (ls : Array Slot), g_At D aC B yC 69 mem s.heap H locs → lv_has ls 4 [(0, .ref (B + 30)), (3, .int v3)] → f5_number_b45 F a1 a2 v3 w1 mem = some q0 → W p l e (g_rm 4) s m args below meth c H locs 0 0 (g_MQ below D aC B yC 69 args s (some (.int q0.1)) q0.2) (F0 m 45 ls [.int w1, .ref (B + 30)]) := by
  intro v3 w1 mem H locs ls hM hl he
  unfold f5_number_b45 at he
  have hx := E.1
  have hb := E.2.1
  have hown := E.2.2.1
  have hts := E.2.2.2.1
  refine lv_iconst (v := (2 : Int32)) hx hb dX5_number_45 rfl ?_
  obtain ⟨r1, hcr1, he⟩ := g_bind he
  refine g_callV [.int w1, .int (2 : Int32)] (rest := []) E hml hl.1 hM cv_X5_88 (c5_failIf l D aC B hcr1) (o := 30) (Nat.le_of_ble_eq_true rfl) rfl (by decide) rfl rfl (Nat.le_of_ble_eq_true rfl) dX5_number_46 (fun H locs hM => ?_)
  refine W.eq (g2 := F0 m 49 ls []) rfl ?_
  refine lv_aload_n hx hb dX5_number_49 rfl (lv_at hl 0 rfl) ?_
  refine g_getP E hM (o := 30) (Nat.le_of_ble_eq_true rfl) rfl fl_X5_40 (q := 31) rfl dX5_number_50 ?_
  obtain ⟨r2, hcr2, he⟩ := g_bind he
  refine g_callV [] (rest := []) E hml hl.1 hM cv_X5_66 (c8_step l D aC B hcr2) (o := 31) (Nat.le_of_ble_eq_true rfl) rfl (by decide) rfl rfl (Nat.le_of_ble_eq_true rfl) dX5_number_53 (fun H locs hM => ?_)
  refine W.eq (g2 := F0 m 56 ls []) rfl ?_
  refine lv_iload_n hx hb dX5_number_56 rfl (lv_at hl 1 rfl) ?_
  cases he
  exact g_iret E hM hret hlk dX5_number_57

set_option maxHeartbeats 4000000 in
set_option maxRecDepth 100000 in
theorem w5_number_b40 (E : g_C p s m args c cX5_number RX5 D aC (g_Zs (g_A B 69))) (hml : c.maxLocals = 4) (hret : meth.sig.returnType = (some .int)) (hlk : meth.locks = false) {F : Nat} {q0 : Int32 × g_M} {a1 : Int32} {a2 : Int32} : ∀ (v3 : Int32) (mem : g_M) (H : Heap) (locs : List Loc) (ls : Array Slot), g_At D aC B yC 69 mem s.heap H locs → lv_has ls 4 [(0, .ref (B + 30)), (3, .int v3)] → f5_number_b40 F a1 a2 v3 mem = some q0 → W p l e (g_rm 4) s m args below meth c H locs 0 0 (g_MQ below D aC B yC 69 args s (some (.int q0.1)) q0.2) (F0 m 40 ls [.ref (B + 30)]) := by
  intro v3 mem H locs ls hM hl he
  unfold f5_number_b40 at he
  have hx := E.1
  have hb := E.2.1
  have hown := E.2.2.1
  have hts := E.2.2.2.1
  refine lv_iconst (v := (1 : Int32)) hx hb dX5_number_40 rfl ?_
  refine lv_goto (tgt := 45) hx hb dX5_number_41 (by decide) ?_
  exact w5_number_b45 (F := F) (a1 := a1) (a2 := a2) E hml hret hlk _ _ _ _ _ _ hM (lv_sub hl [0, 1] rfl) he

set_option maxHeartbeats 4000000 in
set_option maxRecDepth 100000 in
theorem w5_number_b17 (E : g_C p s m args c cX5_number RX5 D aC (g_Zs (g_A B 69))) (hml : c.maxLocals = 4) (hret : meth.sig.returnType = (some .int)) (hlk : meth.locks = false) {F : Nat} {q0 : Int32 × g_M} {a1 : Int32} {a2 : Int32} : ∀ (w1 : Int32) (mem : g_M) (H : Heap) (locs : List Loc) (ls : Array Slot), g_At D aC B yC 69 mem s.heap H locs → lv_has ls 4 [(0, .ref (B + 30)), (1, .int a1), (2, .int a2)] → f5_number_b17 F a1 a2 w1 mem = some q0 → W p l e (g_rm 4) s m args below meth c H locs 0 0 (g_MQ below D aC B yC 69 args s (some (.int q0.1)) q0.2) (F0 m 17 ls [.int w1, .ref (B + 30)]) := by
  intro w1 mem H locs ls hM hl he
  unfold f5_number_b17 at he
  have hx := E.1
  have hb := E.2.1
  have hown := E.2.2.1
  have hts := E.2.2.2.1
  refine lv_iconst (v := (1 : Int32)) hx hb dX5_number_17 rfl ?_
  obtain ⟨r3, hcr3, he⟩ := g_bind he
  refine g_callV [.int w1, .int (1 : Int32)] (rest := []) E hml hl.1 hM cv_X5_88 (c5_failIf l D aC B hcr3) (o := 30) (Nat.le_of_ble_eq_true rfl) rfl (by decide) rfl rfl (Nat.le_of_ble_eq_true rfl) dX5_number_18 (fun H locs hM => ?_)
  refine W.eq (g2 := F0 m 21 ls []) rfl ?_
  refine lv_aload_n hx hb dX5_number_21 rfl (lv_at hl 0 rfl) ?_
  refine g_getP E hM (o := 30) (Nat.le_of_ble_eq_true rfl) rfl fl_X5_40 (q := 31) rfl dX5_number_22 ?_
  refine g_getI E hM (o := 31) (Nat.le_of_ble_eq_true rfl) rfl fl_X5_92 dX5_number_25 ?_
  obtain ⟨x4, hx4, he⟩ := g_let_ex he
  refine g_topI hx4 ?_
  refine lv_istore_n (lv' := [(3, .int x4), (0, .ref (B + 30)), (1, .int a1), (2, .int a2)]) hx hb dX5_number_28 rfl hl (by decide) rfl (fun ls hl => ?_)
  refine lv_aload_n hx hb dX5_number_29 rfl (lv_at hl 1 rfl) ?_
  refine lv_iload_n hx hb dX5_number_30 rfl (lv_at hl 0 rfl) ?_
  refine lv_iload_n hx hb dX5_number_31 rfl (lv_at hl 2 rfl) ?_
  refine lv_icmp_lt (tgt := 40) hx hb dX5_number_32 (by decide) (fun h5 => ?_) (fun h5 => ?_)
  · rw [if_neg (Int32.not_le.mpr h5)] at he
    exact w5_number_b40 (F := F) (a1 := a1) (a2 := a2) E hml hret hlk _ _ _ _ _ hM (lv_sub hl [1, 0] rfl) he
  · rw [if_pos (Int32.not_lt.mp h5)] at he
    refine lv_iload_n hx hb dX5_number_35 rfl (lv_at hl 0 rfl) ?_
    refine lv_iload_n hx hb dX5_number_36 rfl (lv_at hl 3 rfl) ?_
    refine lv_icmp_le (tgt := 44) hx hb dX5_number_37 (by decide) (fun h6 => ?_) (fun h6 => ?_)
    · rw [if_neg (Int32.not_lt.mpr h6)] at he
      refine lv_iconst (v := (0 : Int32)) hx hb dX5_number_44 rfl ?_
      exact w5_number_b45 (F := F) (a1 := a1) (a2 := a2) E hml hret hlk _ _ _ _ _ _ hM (lv_sub hl [1, 0] rfl) he
    · rw [if_pos (Int32.not_le.mp h6)] at he
      exact w5_number_b40 (F := F) (a1 := a1) (a2 := a2) E hml hret hlk _ _ _ _ _ hM (lv_sub hl [1, 0] rfl) he

set_option maxHeartbeats 4000000 in
set_option maxRecDepth 100000 in
theorem c5_number (l : Launch) (D : va_G) (aC : Nat → ClassId) (B : Nat) {F : Nat} {a1 : Int32} {a2 : Int32} {mem : g_M} {q0 : Int32 × g_M} (he : f5_number F a1 a2 mem = some q0) : g_Met l yX5_number cX5_number 4 (some .int) 4 D aC B yC 69 mem [.ref (B + 30), .int a1, .int a2] (some (.int q0.1)) q0.2 := by
  refine g_ofW (by decide) (Nat.le_of_ble_eq_true rfl) ?_
  intro p e s m args below meth c ls E hml hret hlk hM hl
  have E : g_C p s m args c cX5_number RX5 D aC (g_Zs (g_A B 69)) := E
  have hx := E.1
  have hb := E.2.1
  have hown := E.2.2.1
  have hts := E.2.2.2.1
  have hl : lv_has ls 4 [(0, .ref (B + 30)), (1, .int a1), (2, .int a2)] := hl
  unfold f5_number at he
  refine lv_aload_n hx hb dX5_number_0 rfl (lv_at hl 0 rfl) ?_
  refine lv_aload_n hx hb dX5_number_1 rfl (lv_at hl 0 rfl) ?_
  refine g_getP E hM (o := 30) (Nat.le_of_ble_eq_true rfl) rfl fl_X5_40 (q := 31) rfl dX5_number_2 ?_
  refine g_getI E hM (o := 31) (Nat.le_of_ble_eq_true rfl) rfl fl_X5_69 dX5_number_5 ?_
  refine lv_iconst (v := (1 : Int32)) hx hb dX5_number_8 rfl ?_
  refine lv_icmp_eq (tgt := 16) hx hb dX5_number_9 (by decide) (fun h7 => ?_) (fun h7 => ?_)
  · rw [if_pos h7] at he
    refine lv_iconst (v := (0 : Int32)) hx hb dX5_number_16 rfl ?_
    exact w5_number_b17 (F := F) (a1 := a1) (a2 := a2) E hml hret hlk _ _ _ _ _ hM (lv_sub hl [0, 1, 2] rfl) he
  · rw [if_neg h7] at he
    refine lv_iconst (v := (1 : Int32)) hx hb dX5_number_12 rfl ?_
    refine lv_goto (tgt := 17) hx hb dX5_number_13 (by decide) ?_
    exact w5_number_b17 (F := F) (a1 := a1) (a2 := a2) E hml hret hlk _ _ _ _ _ hM (lv_sub hl [0, 1, 2] rfl) he

set_option maxHeartbeats 4000000 in
set_option maxRecDepth 100000 in
theorem c5_readMan (l : Launch) (D : va_G) (aC : Nat → ClassId) (B : Nat) {F : Nat} {mem : g_M} {q0 : g_M} (he : f5_readMan F mem = some q0) : g_Met l yX5_readMan cX5_readMan 3 none 5 D aC B yC 69 mem [.ref (B + 30)] none q0 := by
  refine g_ofW (by decide) (Nat.le_of_ble_eq_true rfl) ?_
  intro p e s m args below meth c ls E hml hret hlk hM hl
  have E : g_C p s m args c cX5_readMan RX5 D aC (g_Zs (g_A B 69)) := E
  have hx := E.1
  have hb := E.2.1
  have hown := E.2.2.1
  have hts := E.2.2.2.1
  have hl : lv_has ls 3 [(0, .ref (B + 30))] := hl
  unfold f5_readMan at he
  refine lv_aload_n hx hb dX5_readMan_0 rfl (lv_at hl 0 rfl) ?_
  refine lv_iconst (v := (0 : Int32)) hx hb dX5_readMan_1 rfl ?_
  refine lv_iconst (v := (5 : Int32)) hx hb dX5_readMan_2 rfl ?_
  obtain ⟨r1, hcr1, he⟩ := g_bind he
  refine g_callV [.int (0 : Int32), .int (5 : Int32)] (rest := []) E hml hl.1 hM cv_X5_122 (c5_newOne l D aC B hcr1) (o := 30) (Nat.le_of_ble_eq_true rfl) rfl (by decide) rfl rfl (Nat.le_of_ble_eq_true rfl) dX5_readMan_3 (fun H locs hM => ?_)
  refine W.eq (g2 := F0 m 6 ls [.int r1.1]) rfl ?_
  obtain ⟨x2, hx2, he⟩ := g_let_ex he
  refine g_topI hx2 ?_
  refine lv_istore_n (lv' := [(1, .int x2), (0, .ref (B + 30))]) hx hb dX5_readMan_6 rfl hl (by decide) rfl (fun ls hl => ?_)
  refine lv_aload_n hx hb dX5_readMan_7 rfl (lv_at hl 1 rfl) ?_
  refine lv_iconst (v := (0 : Int32)) hx hb dX5_readMan_8 rfl ?_
  refine lv_sipush (v := (999 : Int32)) hx hb dX5_readMan_9 rfl ?_
  obtain ⟨r3, hcr3, he⟩ := g_bind he
  refine g_callV [.int (0 : Int32), .int (999 : Int32)] (rest := []) E hml hl.1 hM cv_X5_126 (c5_number l D aC B hcr3) (o := 30) (Nat.le_of_ble_eq_true rfl) rfl (by decide) rfl rfl (Nat.le_of_ble_eq_true rfl) dX5_readMan_12 (fun H locs hM => ?_)
  refine W.eq (g2 := F0 m 15 ls [.int r3.1]) rfl ?_
  obtain ⟨x4, hx4, he⟩ := g_let_ex he
  refine g_topI hx4 ?_
  refine lv_istore_n (lv' := [(2, .int x4), (1, .int x2), (0, .ref (B + 30))]) hx hb dX5_readMan_15 rfl hl (by decide) rfl (fun ls hl => ?_)
  refine lv_aload_n hx hb dX5_readMan_16 rfl (lv_at hl 2 rfl) ?_
  refine g_getI E hM (o := 30) (Nat.le_of_ble_eq_true rfl) rfl fl_X5_9 dX5_readMan_17 ?_
  refine lv_if_ne (tgt := 33) hx hb dX5_readMan_20 (by decide) (fun h5 => ?_) (fun h5 => ?_)
  · rw [if_neg h5] at he
    cases he
    exact g_vret E hM hret hlk dX5_readMan_33
  · rw [if_pos h5] at he
    refine lv_aload_n hx hb dX5_readMan_23 rfl (lv_at hl 2 rfl) ?_
    obtain ⟨q6, hqq6, hq6, hYq6, he⟩ := g_dr_some he
    refine g_getD E hM (o := 30) (Nat.le_of_ble_eq_true rfl) rfl fl_X5_31 rfl hqq6 dX5_readMan_24 ?_
    refine g_getP E hM (o := q6) hq6 hYq6 fl_X5_129 (q := (q6 + 3)) (pt_9_2 q6 hq6 hYq6).1 dX5_readMan_27 ?_
    refine lv_iload_n hx hb dX5_readMan_30 rfl (lv_at hl 1 rfl) ?_
    refine lv_iload_n hx hb dX5_readMan_31 rfl (lv_at hl 0 rfl) ?_
    obtain ⟨h7, he⟩ := g_ck_some he
    refine g_iast E hM (o := (q6 + 3)) (pt_9_2 q6 hq6 hYq6).2.1 (pt_9_2 q6 hq6 hYq6).2.2 h7 dX5_readMan_32 (fun H locs hM => ?_)
    obtain ⟨m8, hm8, he⟩ := g_let_ex he
    rw [← hm8] at hM
    cases he
    exact g_vret E hM hret hlk dX5_readMan_33

set_option maxHeartbeats 4000000 in
set_option maxRecDepth 100000 in
theorem c5_readSort (l : Launch) (D : va_G) (aC : Nat → ClassId) (B : Nat) {F : Nat} {mem : g_M} {q0 : g_M} (he : f5_readSort F mem = some q0) : g_Met l yX5_readSort cX5_readSort 4 none 5 D aC B yC 69 mem [.ref (B + 30)] none q0 := by
  refine g_ofW (by decide) (Nat.le_of_ble_eq_true rfl) ?_
  intro p e s m args below meth c ls E hml hret hlk hM hl
  have E : g_C p s m args c cX5_readSort RX5 D aC (g_Zs (g_A B 69)) := E
  have hx := E.1
  have hb := E.2.1
  have hown := E.2.2.1
  have hts := E.2.2.2.1
  have hl : lv_has ls 4 [(0, .ref (B + 30))] := hl
  unfold f5_readSort at he
  refine lv_aload_n hx hb dX5_readSort_0 rfl (lv_at hl 0 rfl) ?_
  refine lv_iconst (v := (1 : Int32)) hx hb dX5_readSort_1 rfl ?_
  refine lv_iconst (v := (5 : Int32)) hx hb dX5_readSort_2 rfl ?_
  obtain ⟨r1, hcr1, he⟩ := g_bind he
  refine g_callV [.int (1 : Int32), .int (5 : Int32)] (rest := []) E hml hl.1 hM cv_X5_122 (c5_newOne l D aC B hcr1) (o := 30) (Nat.le_of_ble_eq_true rfl) rfl (by decide) rfl rfl (Nat.le_of_ble_eq_true rfl) dX5_readSort_3 (fun H locs hM => ?_)
  refine W.eq (g2 := F0 m 6 ls [.int r1.1]) rfl ?_
  obtain ⟨x2, hx2, he⟩ := g_let_ex he
  refine g_topI hx2 ?_
  refine lv_istore_n (lv' := [(1, .int x2), (0, .ref (B + 30))]) hx hb dX5_readSort_6 rfl hl (by decide) rfl (fun ls hl => ?_)
  refine lv_aload_n hx hb dX5_readSort_7 rfl (lv_at hl 1 rfl) ?_
  refine lv_iconst (v := (1 : Int32)) hx hb dX5_readSort_8 rfl ?_
  refine lv_bipush (v := (9 : Int32)) hx hb dX5_readSort_9 rfl ?_
  obtain ⟨r3, hcr3, he⟩ := g_bind he
  refine g_callV [.int (1 : Int32), .int (9 : Int32)] (rest := []) E hml hl.1 hM cv_X5_126 (c5_number l D aC B hcr3) (o := 30) (Nat.le_of_ble_eq_true rfl) rfl (by decide) rfl rfl (Nat.le_of_ble_eq_true rfl) dX5_readSort_11 (fun H locs hM => ?_)
  refine W.eq (g2 := F0 m 14 ls [.int r3.1]) rfl ?_
  obtain ⟨x4, hx4, he⟩ := g_let_ex he
  refine g_topI hx4 ?_
  refine lv_istore_n (lv' := [(2, .int x4), (1, .int x2), (0, .ref (B + 30))]) hx hb dX5_readSort_14 rfl hl (by decide) rfl (fun ls hl => ?_)
  refine lv_aload_n hx hb dX5_readSort_15 rfl (lv_at hl 2 rfl) ?_
  refine lv_iconst (v := (0 : Int32)) hx hb dX5_readSort_16 rfl ?_
  refine lv_bipush (v := (99 : Int32)) hx hb dX5_readSort_17 rfl ?_
  obtain ⟨r5, hcr5, he⟩ := g_bind he
  refine g_callV [.int (0 : Int32), .int (99 : Int32)] (rest := []) E hml hl.1 hM cv_X5_126 (c5_number l D aC B hcr5) (o := 30) (Nat.le_of_ble_eq_true rfl) rfl (by decide) rfl rfl (Nat.le_of_ble_eq_true rfl) dX5_readSort_19 (fun H locs hM => ?_)
  refine W.eq (g2 := F0 m 22 ls [.int r5.1]) rfl ?_
  obtain ⟨x6, hx6, he⟩ := g_let_ex he
  refine g_topI hx6 ?_
  refine lv_istore_n (lv' := [(3, .int x6), (2, .int x4), (1, .int x2), (0, .ref (B + 30))]) hx hb dX5_readSort_22 rfl hl (by decide) rfl (fun ls hl => ?_)
  refine lv_aload_n hx hb dX5_readSort_23 rfl (lv_at hl 3 rfl) ?_
  refine g_getI E hM (o := 30) (Nat.le_of_ble_eq_true rfl) rfl fl_X5_9 dX5_readSort_24 ?_
  refine lv_if_ne (tgt := 50) hx hb dX5_readSort_27 (by decide) (fun h7 => ?_) (fun h7 => ?_)
  · rw [if_neg h7] at he
    cases he
    exact g_vret E hM hret hlk dX5_readSort_50
  · rw [if_pos h7] at he
    refine lv_aload_n hx hb dX5_readSort_30 rfl (lv_at hl 3 rfl) ?_
    obtain ⟨q8, hqq8, hq8, hYq8, he⟩ := g_dr_some he
    refine g_getD E hM (o := 30) (Nat.le_of_ble_eq_true rfl) rfl fl_X5_31 rfl hqq8 dX5_readSort_31 ?_
    refine g_getP E hM (o := q8) hq8 hYq8 fl_X5_133 (q := (q8 + 4)) (pt_9_3 q8 hq8 hYq8).1 dX5_readSort_34 ?_
    refine lv_iload_n hx hb dX5_readSort_37 rfl (lv_at hl 2 rfl) ?_
    refine lv_iload_n hx hb dX5_readSort_38 rfl (lv_at hl 1 rfl) ?_
    obtain ⟨h9, he⟩ := g_ck_some he
    refine g_iast E hM (o := (q8 + 4)) (pt_9_3 q8 hq8 hYq8).2.1 (pt_9_3 q8 hq8 hYq8).2.2 h9 dX5_readSort_39 (fun H locs hM => ?_)
    obtain ⟨m10, hm10, he⟩ := g_let_ex he
    rw [← hm10] at hM
    refine lv_aload_n hx hb dX5_readSort_40 rfl (lv_at hl 3 rfl) ?_
    obtain ⟨q11, hqq11, hq11, hYq11, he⟩ := g_dr_some he
    refine g_getD E hM (o := 30) (Nat.le_of_ble_eq_true rfl) rfl fl_X5_31 rfl hqq11 dX5_readSort_41 ?_
    refine g_getP E hM (o := q11) hq11 hYq11 fl_X5_136 (q := (q11 + 5)) (pt_9_4 q11 hq11 hYq11).1 dX5_readSort_44 ?_
    refine lv_iload_n hx hb dX5_readSort_47 rfl (lv_at hl 2 rfl) ?_
    refine lv_iload_n hx hb dX5_readSort_48 rfl (lv_at hl 0 rfl) ?_
    obtain ⟨h12, he⟩ := g_ck_some he
    refine g_iast E hM (o := (q11 + 5)) (pt_9_4 q11 hq11 hYq11).2.1 (pt_9_4 q11 hq11 hYq11).2.2 h12 dX5_readSort_49 (fun H locs hM => ?_)
    obtain ⟨m13, hm13, he⟩ := g_let_ex he
    rw [← hm13] at hM
    cases he
    exact g_vret E hM hret hlk dX5_readSort_50

set_option maxHeartbeats 4000000 in
set_option maxRecDepth 100000 in
theorem c5_readDeed (l : Launch) (D : va_G) (aC : Nat → ClassId) (B : Nat) {F : Nat} {mem : g_M} {q0 : g_M} (he : f5_readDeed F mem = some q0) : g_Met l yX5_readDeed cX5_readDeed 3 none 5 D aC B yC 69 mem [.ref (B + 30)] none q0 := by
  refine g_ofW (by decide) (Nat.le_of_ble_eq_true rfl) ?_
  intro p e s m args below meth c ls E hml hret hlk hM hl
  have E : g_C p s m args c cX5_readDeed RX5 D aC (g_Zs (g_A B 69)) := E
  have hx := E.1
  have hb := E.2.1
  have hown := E.2.2.1
  have hts := E.2.2.2.1
  have hl : lv_has ls 3 [(0, .ref (B + 30))] := hl
  unfold f5_readDeed at he
  refine lv_aload_n hx hb dX5_readDeed_0 rfl (lv_at hl 0 rfl) ?_
  refine lv_iconst (v := (2 : Int32)) hx hb dX5_readDeed_1 rfl ?_
  refine lv_iconst (v := (5 : Int32)) hx hb dX5_readDeed_2 rfl ?_
  obtain ⟨r1, hcr1, he⟩ := g_bind he
  refine g_callV [.int (2 : Int32), .int (5 : Int32)] (rest := []) E hml hl.1 hM cv_X5_122 (c5_newOne l D aC B hcr1) (o := 30) (Nat.le_of_ble_eq_true rfl) rfl (by decide) rfl rfl (Nat.le_of_ble_eq_true rfl) dX5_readDeed_3 (fun H locs hM => ?_)
  refine W.eq (g2 := F0 m 6 ls [.int r1.1]) rfl ?_
  obtain ⟨x2, hx2, he⟩ := g_let_ex he
  refine g_topI hx2 ?_
  refine lv_istore_n (lv' := [(1, .int x2), (0, .ref (B + 30))]) hx hb dX5_readDeed_6 rfl hl (by decide) rfl (fun ls hl => ?_)
  refine lv_aload_n hx hb dX5_readDeed_7 rfl (lv_at hl 1 rfl) ?_
  refine lv_iconst (v := (0 : Int32)) hx hb dX5_readDeed_8 rfl ?_
  refine lv_bipush (v := (31 : Int32)) hx hb dX5_readDeed_9 rfl ?_
  obtain ⟨r3, hcr3, he⟩ := g_bind he
  refine g_callV [.int (0 : Int32), .int (31 : Int32)] (rest := []) E hml hl.1 hM cv_X5_126 (c5_number l D aC B hcr3) (o := 30) (Nat.le_of_ble_eq_true rfl) rfl (by decide) rfl rfl (Nat.le_of_ble_eq_true rfl) dX5_readDeed_11 (fun H locs hM => ?_)
  refine W.eq (g2 := F0 m 14 ls [.int r3.1]) rfl ?_
  obtain ⟨x4, hx4, he⟩ := g_let_ex he
  refine g_topI hx4 ?_
  refine lv_istore_n (lv' := [(2, .int x4), (1, .int x2), (0, .ref (B + 30))]) hx hb dX5_readDeed_14 rfl hl (by decide) rfl (fun ls hl => ?_)
  refine lv_aload_n hx hb dX5_readDeed_15 rfl (lv_at hl 2 rfl) ?_
  refine g_getI E hM (o := 30) (Nat.le_of_ble_eq_true rfl) rfl fl_X5_9 dX5_readDeed_16 ?_
  refine lv_if_ne (tgt := 32) hx hb dX5_readDeed_19 (by decide) (fun h5 => ?_) (fun h5 => ?_)
  · rw [if_neg h5] at he
    cases he
    exact g_vret E hM hret hlk dX5_readDeed_32
  · rw [if_pos h5] at he
    refine lv_aload_n hx hb dX5_readDeed_22 rfl (lv_at hl 2 rfl) ?_
    obtain ⟨q6, hqq6, hq6, hYq6, he⟩ := g_dr_some he
    refine g_getD E hM (o := 30) (Nat.le_of_ble_eq_true rfl) rfl fl_X5_31 rfl hqq6 dX5_readDeed_23 ?_
    refine g_getP E hM (o := q6) hq6 hYq6 fl_X5_139 (q := (q6 + 6)) (pt_9_5 q6 hq6 hYq6).1 dX5_readDeed_26 ?_
    refine lv_iload_n hx hb dX5_readDeed_29 rfl (lv_at hl 1 rfl) ?_
    refine lv_iload_n hx hb dX5_readDeed_30 rfl (lv_at hl 0 rfl) ?_
    obtain ⟨h7, he⟩ := g_ck_some he
    refine g_iast E hM (o := (q6 + 6)) (pt_9_5 q6 hq6 hYq6).2.1 (pt_9_5 q6 hq6 hYq6).2.2 h7 dX5_readDeed_31 (fun H locs hM => ?_)
    obtain ⟨m8, hm8, he⟩ := g_let_ex he
    rw [← hm8] at hM
    cases he
    exact g_vret E hM hret hlk dX5_readDeed_32

set_option maxHeartbeats 4000000 in
set_option maxRecDepth 100000 in
theorem w5_oldOne_b48 (E : g_C p s m args c cX5_oldOne RX5 D aC (g_Zs (g_A B 69))) (hml : c.maxLocals = 3) (hret : meth.sig.returnType = (some .int)) (hlk : meth.locks = false) {F : Nat} {q0 : Int32 × g_M} {a1 : Int32} : ∀ (v2 : Int32) (w1 : Int32) (mem : g_M) (H : Heap) (locs : List Loc) (ls : Array Slot), g_At D aC B yC 69 mem s.heap H locs → lv_has ls 3 [(0, .ref (B + 30)), (2, .int v2)] → f5_oldOne_b48 F a1 v2 w1 mem = some q0 → W p l e (g_rm 4) s m args below meth c H locs 0 0 (g_MQ below D aC B yC 69 args s (some (.int q0.1)) q0.2) (F0 m 48 ls [.int w1, .ref (B + 30)]) := by
  intro v2 w1 mem H locs ls hM hl he
  unfold f5_oldOne_b48 at he
  have hx := E.1
  have hb := E.2.1
  have hown := E.2.2.1
  have hts := E.2.2.2.1
  refine lv_iconst (v := (4 : Int32)) hx hb dX5_oldOne_48 rfl ?_
  obtain ⟨r1, hcr1, he⟩ := g_bind he
  refine g_callV [.int w1, .int (4 : Int32)] (rest := []) E hml hl.1 hM cv_X5_88 (c5_failIf l D aC B hcr1) (o := 30) (Nat.le_of_ble_eq_true rfl) rfl (by decide) rfl rfl (Nat.le_of_ble_eq_true rfl) dX5_oldOne_49 (fun H locs hM => ?_)
  refine W.eq (g2 := F0 m 52 ls []) rfl ?_
  refine lv_aload_n hx hb dX5_oldOne_52 rfl (lv_at hl 0 rfl) ?_
  refine g_getP E hM (o := 30) (Nat.le_of_ble_eq_true rfl) rfl fl_X5_40 (q := 31) rfl dX5_oldOne_53 ?_
  obtain ⟨r2, hcr2, he⟩ := g_bind he
  refine g_callV [] (rest := []) E hml hl.1 hM cv_X5_66 (c8_step l D aC B hcr2) (o := 31) (Nat.le_of_ble_eq_true rfl) rfl (by decide) rfl rfl (Nat.le_of_ble_eq_true rfl) dX5_oldOne_56 (fun H locs hM => ?_)
  refine W.eq (g2 := F0 m 59 ls []) rfl ?_
  refine lv_iload_n hx hb dX5_oldOne_59 rfl (lv_at hl 1 rfl) ?_
  cases he
  exact g_iret E hM hret hlk dX5_oldOne_60

set_option maxHeartbeats 4000000 in
set_option maxRecDepth 100000 in
theorem w5_oldOne_b17 (E : g_C p s m args c cX5_oldOne RX5 D aC (g_Zs (g_A B 69))) (hml : c.maxLocals = 3) (hret : meth.sig.returnType = (some .int)) (hlk : meth.locks = false) {F : Nat} {q0 : Int32 × g_M} {a1 : Int32} : ∀ (w1 : Int32) (mem : g_M) (H : Heap) (locs : List Loc) (ls : Array Slot), g_At D aC B yC 69 mem s.heap H locs → lv_has ls 3 [(0, .ref (B + 30)), (1, .int a1)] → f5_oldOne_b17 F a1 w1 mem = some q0 → W p l e (g_rm 4) s m args below meth c H locs 0 0 (g_MQ below D aC B yC 69 args s (some (.int q0.1)) q0.2) (F0 m 17 ls [.int w1, .ref (B + 30)]) := by
  intro w1 mem H locs ls hM hl he
  unfold f5_oldOne_b17 at he
  have hx := E.1
  have hb := E.2.1
  have hown := E.2.2.1
  have hts := E.2.2.2.1
  refine lv_iconst (v := (1 : Int32)) hx hb dX5_oldOne_17 rfl ?_
  obtain ⟨r3, hcr3, he⟩ := g_bind he
  refine g_callV [.int w1, .int (1 : Int32)] (rest := []) E hml hl.1 hM cv_X5_88 (c5_failIf l D aC B hcr3) (o := 30) (Nat.le_of_ble_eq_true rfl) rfl (by decide) rfl rfl (Nat.le_of_ble_eq_true rfl) dX5_oldOne_18 (fun H locs hM => ?_)
  refine W.eq (g2 := F0 m 21 ls []) rfl ?_
  refine lv_aload_n hx hb dX5_oldOne_21 rfl (lv_at hl 0 rfl) ?_
  obtain ⟨q4, hqq4, hq4, hYq4, he⟩ := g_dr_some he
  refine g_getD E hM (o := 30) (Nat.le_of_ble_eq_true rfl) rfl fl_X5_31 rfl hqq4 dX5_oldOne_22 ?_
  refine lv_iload_n hx hb dX5_oldOne_25 rfl (lv_at hl 1 rfl) ?_
  refine lv_aload_n hx hb dX5_oldOne_26 rfl (lv_at hl 0 rfl) ?_
  refine g_getP E hM (o := 30) (Nat.le_of_ble_eq_true rfl) rfl fl_X5_40 (q := 31) rfl dX5_oldOne_27 ?_
  refine g_getI E hM (o := 31) (Nat.le_of_ble_eq_true rfl) rfl fl_X5_92 dX5_oldOne_30 ?_
  obtain ⟨r5, hcr5, he⟩ := g_bind he
  refine g_callV [.int a1, .int (r3.1 31 2)] (rest := []) E hml hl.1 hM cv_X5_180 (c9_find l D aC B hq4 hYq4 hcr5) (o := q4) hq4 hYq4 (by decide) rfl rfl (Nat.le_of_ble_eq_true rfl) dX5_oldOne_33 (fun H locs hM => ?_)
  refine W.eq (g2 := F0 m 36 ls [.int r5]) rfl ?_
  refine lv_istore_n (lv' := [(2, .int r5), (0, .ref (B + 30)), (1, .int a1)]) hx hb dX5_oldOne_36 rfl hl (by decide) rfl (fun ls hl => ?_)
  refine lv_aload_n hx hb dX5_oldOne_37 rfl (lv_at hl 1 rfl) ?_
  refine lv_iload_n hx hb dX5_oldOne_38 rfl (lv_at hl 0 rfl) ?_
  refine lv_iconst (v := (-1 : Int32)) hx hb dX5_oldOne_39 rfl ?_
  refine lv_icmp_ne (tgt := 47) hx hb dX5_oldOne_40 (by decide) (fun h6 => ?_) (fun h6 => ?_)
  · rw [if_neg h6] at he
    refine lv_iconst (v := (0 : Int32)) hx hb dX5_oldOne_47 rfl ?_
    exact w5_oldOne_b48 (F := F) (a1 := a1) E hml hret hlk _ _ _ _ _ _ hM (lv_sub hl [1, 0] rfl) he
  · rw [if_pos h6] at he
    refine lv_iconst (v := (1 : Int32)) hx hb dX5_oldOne_43 rfl ?_
    refine lv_goto (tgt := 48) hx hb dX5_oldOne_44 (by decide) ?_
    exact w5_oldOne_b48 (F := F) (a1 := a1) E hml hret hlk _ _ _ _ _ _ hM (lv_sub hl [1, 0] rfl) he

set_option maxHeartbeats 4000000 in
set_option maxRecDepth 100000 in
theorem c5_oldOne (l : Launch) (D : va_G) (aC : Nat → ClassId) (B : Nat) {F : Nat} {a1 : Int32} {mem : g_M} {q0 : Int32 × g_M} (he : f5_oldOne F a1 mem = some q0) : g_Met l yX5_oldOne cX5_oldOne 3 (some .int) 4 D aC B yC 69 mem [.ref (B + 30), .int a1] (some (.int q0.1)) q0.2 := by
  refine g_ofW (by decide) (Nat.le_of_ble_eq_true rfl) ?_
  intro p e s m args below meth c ls E hml hret hlk hM hl
  have E : g_C p s m args c cX5_oldOne RX5 D aC (g_Zs (g_A B 69)) := E
  have hx := E.1
  have hb := E.2.1
  have hown := E.2.2.1
  have hts := E.2.2.2.1
  have hl : lv_has ls 3 [(0, .ref (B + 30)), (1, .int a1)] := hl
  unfold f5_oldOne at he
  refine lv_aload_n hx hb dX5_oldOne_0 rfl (lv_at hl 0 rfl) ?_
  refine lv_aload_n hx hb dX5_oldOne_1 rfl (lv_at hl 0 rfl) ?_
  refine g_getP E hM (o := 30) (Nat.le_of_ble_eq_true rfl) rfl fl_X5_40 (q := 31) rfl dX5_oldOne_2 ?_
  refine g_getI E hM (o := 31) (Nat.le_of_ble_eq_true rfl) rfl fl_X5_69 dX5_oldOne_5 ?_
  refine lv_iconst (v := (2 : Int32)) hx hb dX5_oldOne_8 rfl ?_
  refine lv_icmp_eq (tgt := 16) hx hb dX5_oldOne_9 (by decide) (fun h7 => ?_) (fun h7 => ?_)
  · rw [if_pos h7] at he
    refine lv_iconst (v := (0 : Int32)) hx hb dX5_oldOne_16 rfl ?_
    exact w5_oldOne_b17 (F := F) (a1 := a1) E hml hret hlk _ _ _ _ _ hM (lv_sub hl [0, 1] rfl) he
  · rw [if_neg h7] at he
    refine lv_iconst (v := (1 : Int32)) hx hb dX5_oldOne_12 rfl ?_
    refine lv_goto (tgt := 17) hx hb dX5_oldOne_13 (by decide) ?_
    exact w5_oldOne_b17 (F := F) (a1 := a1) E hml hret hlk _ _ _ _ _ hM (lv_sub hl [0, 1] rfl) he

set_option maxHeartbeats 4000000 in
set_option maxRecDepth 100000 in
theorem w5_readSend_b18 (E : g_C p s m args c cX5_readSend RX5 D aC (g_Zs (g_A B 69))) (hml : c.maxLocals = 5) (hret : meth.sig.returnType = none) (hlk : meth.locks = false) {F : Nat} {q0 : g_M} : ∀ (w1 : Int32) (mem : g_M) (H : Heap) (locs : List Loc) (ls : Array Slot), g_At D aC B yC 69 mem s.heap H locs → lv_has ls 5 [(0, .ref (B + 30))] → f5_readSend_b18 F w1 mem = some q0 → W p l e (g_rm 5) s m args below meth c H locs 0 0 (g_MQ below D aC B yC 69 args s none q0) (F0 m 18 ls [.int w1, .ref (B + 30)]) := by
  intro w1 mem H locs ls hM hl he
  unfold f5_readSend_b18 at he
  have hx := E.1
  have hb := E.2.1
  have hown := E.2.2.1
  have hts := E.2.2.2.1
  refine lv_iconst (v := (2 : Int32)) hx hb dX5_readSend_18 rfl ?_
  obtain ⟨r1, hcr1, he⟩ := g_bind he
  refine g_callV [.int w1, .int (2 : Int32)] (rest := []) E hml hl.1 hM cv_X5_88 (c5_failIf l D aC B hcr1) (o := 30) (Nat.le_of_ble_eq_true rfl) rfl (by decide) rfl rfl (Nat.le_of_ble_eq_true rfl) dX5_readSend_19 (fun H locs hM => ?_)
  refine W.eq (g2 := F0 m 22 ls []) rfl ?_
  refine lv_aload_n hx hb dX5_readSend_22 rfl (lv_at hl 0 rfl) ?_
  refine g_getP E hM (o := 30) (Nat.le_of_ble_eq_true rfl) rfl fl_X5_40 (q := 31) rfl dX5_readSend_23 ?_
  obtain ⟨r2, hcr2, he⟩ := g_bind he
  refine g_callV [] (rest := []) E hml hl.1 hM cv_X5_66 (c8_step l D aC B hcr2) (o := 31) (Nat.le_of_ble_eq_true rfl) rfl (by decide) rfl rfl (Nat.le_of_ble_eq_true rfl) dX5_readSend_26 (fun H locs hM => ?_)
  refine W.eq (g2 := F0 m 29 ls []) rfl ?_
  refine lv_aload_n hx hb dX5_readSend_29 rfl (lv_at hl 0 rfl) ?_
  obtain ⟨q3, hqq3, hq3, hYq3, he⟩ := g_dr_some he
  refine g_getD E hM (o := 30) (Nat.le_of_ble_eq_true rfl) rfl fl_X5_31 rfl hqq3 dX5_readSend_30 ?_
  refine g_getI E hM (o := q3) hq3 hYq3 fl_X5_142 dX5_readSend_33 ?_
  refine lv_iconst (v := (4 : Int32)) hx hb dX5_readSend_36 rfl ?_
  refine lv_imul hx hb dX5_readSend_37 ?_
  obtain ⟨x4, hx4, he⟩ := g_let_ex he
  refine g_topI hx4 ?_
  refine lv_istore_n (lv' := [(1, .int x4), (0, .ref (B + 30))]) hx hb dX5_readSend_38 rfl hl (by decide) rfl (fun ls hl => ?_)
  refine lv_aload_n hx hb dX5_readSend_39 rfl (lv_at hl 1 rfl) ?_
  refine lv_iconst (v := (0 : Int32)) hx hb dX5_readSend_40 rfl ?_
  obtain ⟨r5, hcr5, he⟩ := g_bind he
  refine g_callV [.int (0 : Int32)] (rest := []) E hml hl.1 hM cv_X5_145 (c5_oldOne l D aC B hcr5) (o := 30) (Nat.le_of_ble_eq_true rfl) rfl (by decide) rfl rfl (Nat.le_of_ble_eq_true rfl) dX5_readSend_41 (fun H locs hM => ?_)
  refine W.eq (g2 := F0 m 44 ls [.int r5.1]) rfl ?_
  obtain ⟨x6, hx6, he⟩ := g_let_ex he
  refine g_topI hx6 ?_
  refine lv_istore_n (lv' := [(2, .int x6), (1, .int x4), (0, .ref (B + 30))]) hx hb dX5_readSend_44 rfl hl (by decide) rfl (fun ls hl => ?_)
  refine lv_aload_n hx hb dX5_readSend_45 rfl (lv_at hl 2 rfl) ?_
  refine lv_iconst (v := (1 : Int32)) hx hb dX5_readSend_46 rfl ?_
  obtain ⟨r7, hcr7, he⟩ := g_bind he
  refine g_callV [.int (1 : Int32)] (rest := []) E hml hl.1 hM cv_X5_145 (c5_oldOne l D aC B hcr7) (o := 30) (Nat.le_of_ble_eq_true rfl) rfl (by decide) rfl rfl (Nat.le_of_ble_eq_true rfl) dX5_readSend_47 (fun H locs hM => ?_)
  refine W.eq (g2 := F0 m 50 ls [.int r7.1]) rfl ?_
  obtain ⟨x8, hx8, he⟩ := g_let_ex he
  refine g_topI hx8 ?_
  refine lv_istore_n (lv' := [(3, .int x8), (2, .int x6), (1, .int x4), (0, .ref (B + 30))]) hx hb dX5_readSend_50 rfl hl (by decide) rfl (fun ls hl => ?_)
  refine lv_aload_n hx hb dX5_readSend_51 rfl (lv_at hl 3 rfl) ?_
  refine lv_iconst (v := (0 : Int32)) hx hb dX5_readSend_52 rfl ?_
  refine lv_bipush (v := (99 : Int32)) hx hb dX5_readSend_53 rfl ?_
  obtain ⟨r9, hcr9, he⟩ := g_bind he
  refine g_callV [.int (0 : Int32), .int (99 : Int32)] (rest := []) E hml hl.1 hM cv_X5_126 (c5_number l D aC B hcr9) (o := 30) (Nat.le_of_ble_eq_true rfl) rfl (by decide) rfl rfl (Nat.le_of_ble_eq_true rfl) dX5_readSend_55 (fun H locs hM => ?_)
  refine W.eq (g2 := F0 m 58 ls [.int r9.1]) rfl ?_
  obtain ⟨x10, hx10, he⟩ := g_let_ex he
  refine g_topI hx10 ?_
  refine lv_istore (lv' := [(4, .int x10), (3, .int x8), (2, .int x6), (1, .int x4), (0, .ref (B + 30))]) hx hb dX5_readSend_58 hl (by decide) rfl (fun ls hl => ?_)
  refine lv_aload_n hx hb dX5_readSend_60 rfl (lv_at hl 4 rfl) ?_
  refine g_getI E hM (o := 30) (Nat.le_of_ble_eq_true rfl) rfl fl_X5_9 dX5_readSend_61 ?_
  refine lv_if_ne (tgt := 129) hx hb dX5_readSend_64 (by decide) (fun h11 => ?_) (fun h11 => ?_)
  · rw [if_neg h11] at he
    cases he
    exact g_vret E hM hret hlk dX5_readSend_129
  · rw [if_pos h11] at he
    refine lv_aload_n hx hb dX5_readSend_67 rfl (lv_at hl 4 rfl) ?_
    obtain ⟨q12, hqq12, hq12, hYq12, he⟩ := g_dr_some he
    refine g_getD E hM (o := 30) (Nat.le_of_ble_eq_true rfl) rfl fl_X5_31 rfl hqq12 dX5_readSend_68 ?_
    refine g_getP E hM (o := q12) hq12 hYq12 fl_X5_149 (q := (q12 + 7)) (pt_9_7 q12 hq12 hYq12).1 dX5_readSend_71 ?_
    refine lv_iload_n hx hb dX5_readSend_74 rfl (lv_at hl 3 rfl) ?_
    refine lv_iconst (v := (0 : Int32)) hx hb dX5_readSend_75 rfl ?_
    refine lv_iadd hx hb dX5_readSend_76 ?_
    refine lv_iload_n hx hb dX5_readSend_77 rfl (lv_at hl 2 rfl) ?_
    obtain ⟨h13, he⟩ := g_ck_some he
    refine g_iast E hM (o := (q12 + 7)) (pt_9_7 q12 hq12 hYq12).2.1 (pt_9_7 q12 hq12 hYq12).2.2 h13 dX5_readSend_78 (fun H locs hM => ?_)
    obtain ⟨m14, hm14, he⟩ := g_let_ex he
    rw [← hm14] at hM
    refine lv_aload_n hx hb dX5_readSend_79 rfl (lv_at hl 4 rfl) ?_
    obtain ⟨q15, hqq15, hq15, hYq15, he⟩ := g_dr_some he
    refine g_getD E hM (o := 30) (Nat.le_of_ble_eq_true rfl) rfl fl_X5_31 rfl hqq15 dX5_readSend_80 ?_
    refine g_getP E hM (o := q15) hq15 hYq15 fl_X5_149 (q := (q15 + 7)) (pt_9_7 q15 hq15 hYq15).1 dX5_readSend_83 ?_
    refine lv_iload_n hx hb dX5_readSend_86 rfl (lv_at hl 3 rfl) ?_
    refine lv_iconst (v := (1 : Int32)) hx hb dX5_readSend_87 rfl ?_
    refine lv_iadd hx hb dX5_readSend_88 ?_
    refine lv_iload_n hx hb dX5_readSend_89 rfl (lv_at hl 1 rfl) ?_
    obtain ⟨h16, he⟩ := g_ck_some he
    refine g_iast E hM (o := (q15 + 7)) (pt_9_7 q15 hq15 hYq15).2.1 (pt_9_7 q15 hq15 hYq15).2.2 h16 dX5_readSend_90 (fun H locs hM => ?_)
    obtain ⟨m17, hm17, he⟩ := g_let_ex he
    rw [← hm17] at hM
    refine lv_aload_n hx hb dX5_readSend_91 rfl (lv_at hl 4 rfl) ?_
    obtain ⟨q18, hqq18, hq18, hYq18, he⟩ := g_dr_some he
    refine g_getD E hM (o := 30) (Nat.le_of_ble_eq_true rfl) rfl fl_X5_31 rfl hqq18 dX5_readSend_92 ?_
    refine g_getP E hM (o := q18) hq18 hYq18 fl_X5_149 (q := (q18 + 7)) (pt_9_7 q18 hq18 hYq18).1 dX5_readSend_95 ?_
    refine lv_iload_n hx hb dX5_readSend_98 rfl (lv_at hl 3 rfl) ?_
    refine lv_iconst (v := (2 : Int32)) hx hb dX5_readSend_99 rfl ?_
    refine lv_iadd hx hb dX5_readSend_100 ?_
    refine lv_iload hx hb dX5_readSend_101 (lv_at hl 0 rfl) ?_
    obtain ⟨h19, he⟩ := g_ck_some he
    refine g_iast E hM (o := (q18 + 7)) (pt_9_7 q18 hq18 hYq18).2.1 (pt_9_7 q18 hq18 hYq18).2.2 h19 dX5_readSend_103 (fun H locs hM => ?_)
    obtain ⟨m20, hm20, he⟩ := g_let_ex he
    rw [← hm20] at hM
    refine lv_aload_n hx hb dX5_readSend_104 rfl (lv_at hl 4 rfl) ?_
    obtain ⟨q21, hqq21, hq21, hYq21, he⟩ := g_dr_some he
    refine g_getD E hM (o := 30) (Nat.le_of_ble_eq_true rfl) rfl fl_X5_31 rfl hqq21 dX5_readSend_105 ?_
    refine g_getP E hM (o := q21) hq21 hYq21 fl_X5_149 (q := (q21 + 7)) (pt_9_7 q21 hq21 hYq21).1 dX5_readSend_108 ?_
    refine lv_iload_n hx hb dX5_readSend_111 rfl (lv_at hl 3 rfl) ?_
    refine lv_iconst (v := (3 : Int32)) hx hb dX5_readSend_112 rfl ?_
    refine lv_iadd hx hb dX5_readSend_113 ?_
    refine lv_iconst (v := (0 : Int32)) hx hb dX5_readSend_114 rfl ?_
    obtain ⟨h22, he⟩ := g_ck_some he
    refine g_iast E hM (o := (q21 + 7)) (pt_9_7 q21 hq21 hYq21).2.1 (pt_9_7 q21 hq21 hYq21).2.2 h22 dX5_readSend_115 (fun H locs hM => ?_)
    obtain ⟨m23, hm23, he⟩ := g_let_ex he
    rw [← hm23] at hM
    refine lv_aload_n hx hb dX5_readSend_116 rfl (lv_at hl 4 rfl) ?_
    obtain ⟨q24, hqq24, hq24, hYq24, he⟩ := g_dr_some he
    refine g_getD E hM (o := 30) (Nat.le_of_ble_eq_true rfl) rfl fl_X5_31 rfl hqq24 dX5_readSend_117 ?_
    refine lv_dup hx hb dX5_readSend_120 rfl ?_
    refine g_getI E hM (o := q24) hq24 hYq24 fl_X5_142 dX5_readSend_121 ?_
    refine lv_iconst (v := (1 : Int32)) hx hb dX5_readSend_124 rfl ?_
    refine lv_iadd hx hb dX5_readSend_125 ?_
    refine g_putI E hM (o := q24) hq24 hYq24 fp_X5_142 dX5_readSend_126 (fun H locs hM => ?_)
    obtain ⟨m25, hm25, he⟩ := g_let_ex he
    rw [← hm25] at hM
    cases he
    exact g_vret E hM hret hlk dX5_readSend_129

set_option maxHeartbeats 4000000 in
set_option maxRecDepth 100000 in
theorem c5_readSend (l : Launch) (D : va_G) (aC : Nat → ClassId) (B : Nat) {F : Nat} {mem : g_M} {q0 : g_M} (he : f5_readSend F mem = some q0) : g_Met l yX5_readSend cX5_readSend 5 none 5 D aC B yC 69 mem [.ref (B + 30)] none q0 := by
  refine g_ofW (by decide) (Nat.le_of_ble_eq_true rfl) ?_
  intro p e s m args below meth c ls E hml hret hlk hM hl
  have E : g_C p s m args c cX5_readSend RX5 D aC (g_Zs (g_A B 69)) := E
  have hx := E.1
  have hb := E.2.1
  have hown := E.2.2.1
  have hts := E.2.2.2.1
  have hl : lv_has ls 5 [(0, .ref (B + 30))] := hl
  unfold f5_readSend at he
  refine lv_aload_n hx hb dX5_readSend_0 rfl (lv_at hl 0 rfl) ?_
  refine lv_aload_n hx hb dX5_readSend_1 rfl (lv_at hl 0 rfl) ?_
  obtain ⟨q26, hqq26, hq26, hYq26, he⟩ := g_dr_some he
  refine g_getD E hM (o := 30) (Nat.le_of_ble_eq_true rfl) rfl fl_X5_31 rfl hqq26 dX5_readSend_2 ?_
  refine g_getI E hM (o := q26) hq26 hYq26 fl_X5_142 dX5_readSend_5 ?_
  refine lv_bipush (v := (12 : Int32)) hx hb dX5_readSend_8 rfl ?_
  refine lv_icmp_lt (tgt := 17) hx hb dX5_readSend_10 (by decide) (fun h27 => ?_) (fun h27 => ?_)
  · rw [if_neg (Int32.not_le.mpr h27)] at he
    refine lv_iconst (v := (0 : Int32)) hx hb dX5_readSend_17 rfl ?_
    exact w5_readSend_b18 (F := F) E hml hret hlk _ _ _ _ _ hM (lv_sub hl [0] rfl) he
  · rw [if_pos (Int32.not_lt.mp h27)] at he
    refine lv_iconst (v := (1 : Int32)) hx hb dX5_readSend_13 rfl ?_
    refine lv_goto (tgt := 18) hx hb dX5_readSend_14 (by decide) ?_
    exact w5_readSend_b18 (F := F) E hml hret hlk _ _ _ _ _ hM (lv_sub hl [0] rfl) he

set_option maxHeartbeats 4000000 in
set_option maxRecDepth 100000 in
theorem w5_readWant_b18 (E : g_C p s m args c cX5_readWant RX5 D aC (g_Zs (g_A B 69))) (hml : c.maxLocals = 7) (hret : meth.sig.returnType = none) (hlk : meth.locks = false) {F : Nat} {q0 : g_M} : ∀ (w1 : Int32) (mem : g_M) (H : Heap) (locs : List Loc) (ls : Array Slot), g_At D aC B yC 69 mem s.heap H locs → lv_has ls 7 [(0, .ref (B + 30))] → f5_readWant_b18 F w1 mem = some q0 → W p l e (g_rm 5) s m args below meth c H locs 0 0 (g_MQ below D aC B yC 69 args s none q0) (F0 m 18 ls [.int w1, .ref (B + 30)]) := by
  intro w1 mem H locs ls hM hl he
  unfold f5_readWant_b18 at he
  have hx := E.1
  have hb := E.2.1
  have hown := E.2.2.1
  have hts := E.2.2.2.1
  refine lv_iconst (v := (2 : Int32)) hx hb dX5_readWant_18 rfl ?_
  obtain ⟨r1, hcr1, he⟩ := g_bind he
  refine g_callV [.int w1, .int (2 : Int32)] (rest := []) E hml hl.1 hM cv_X5_88 (c5_failIf l D aC B hcr1) (o := 30) (Nat.le_of_ble_eq_true rfl) rfl (by decide) rfl rfl (Nat.le_of_ble_eq_true rfl) dX5_readWant_19 (fun H locs hM => ?_)
  refine W.eq (g2 := F0 m 22 ls []) rfl ?_
  refine lv_aload_n hx hb dX5_readWant_22 rfl (lv_at hl 0 rfl) ?_
  refine g_getP E hM (o := 30) (Nat.le_of_ble_eq_true rfl) rfl fl_X5_40 (q := 31) rfl dX5_readWant_23 ?_
  obtain ⟨r2, hcr2, he⟩ := g_bind he
  refine g_callV [] (rest := []) E hml hl.1 hM cv_X5_66 (c8_step l D aC B hcr2) (o := 31) (Nat.le_of_ble_eq_true rfl) rfl (by decide) rfl rfl (Nat.le_of_ble_eq_true rfl) dX5_readWant_26 (fun H locs hM => ?_)
  refine W.eq (g2 := F0 m 29 ls []) rfl ?_
  refine lv_aload_n hx hb dX5_readWant_29 rfl (lv_at hl 0 rfl) ?_
  obtain ⟨q3, hqq3, hq3, hYq3, he⟩ := g_dr_some he
  refine g_getD E hM (o := 30) (Nat.le_of_ble_eq_true rfl) rfl fl_X5_31 rfl hqq3 dX5_readWant_30 ?_
  refine g_getI E hM (o := q3) hq3 hYq3 fl_X5_152 dX5_readWant_33 ?_
  refine lv_iconst (v := (5 : Int32)) hx hb dX5_readWant_36 rfl ?_
  refine lv_imul hx hb dX5_readWant_37 ?_
  obtain ⟨x4, hx4, he⟩ := g_let_ex he
  refine g_topI hx4 ?_
  refine lv_istore_n (lv' := [(1, .int x4), (0, .ref (B + 30))]) hx hb dX5_readWant_38 rfl hl (by decide) rfl (fun ls hl => ?_)
  refine lv_aload_n hx hb dX5_readWant_39 rfl (lv_at hl 1 rfl) ?_
  refine lv_iconst (v := (0 : Int32)) hx hb dX5_readWant_40 rfl ?_
  obtain ⟨r5, hcr5, he⟩ := g_bind he
  refine g_callV [.int (0 : Int32)] (rest := []) E hml hl.1 hM cv_X5_145 (c5_oldOne l D aC B hcr5) (o := 30) (Nat.le_of_ble_eq_true rfl) rfl (by decide) rfl rfl (Nat.le_of_ble_eq_true rfl) dX5_readWant_41 (fun H locs hM => ?_)
  refine W.eq (g2 := F0 m 44 ls [.int r5.1]) rfl ?_
  obtain ⟨x6, hx6, he⟩ := g_let_ex he
  refine g_topI hx6 ?_
  refine lv_istore_n (lv' := [(2, .int x6), (1, .int x4), (0, .ref (B + 30))]) hx hb dX5_readWant_44 rfl hl (by decide) rfl (fun ls hl => ?_)
  refine lv_aload_n hx hb dX5_readWant_45 rfl (lv_at hl 2 rfl) ?_
  refine lv_iconst (v := (2 : Int32)) hx hb dX5_readWant_46 rfl ?_
  obtain ⟨r7, hcr7, he⟩ := g_bind he
  refine g_callV [.int (2 : Int32)] (rest := []) E hml hl.1 hM cv_X5_145 (c5_oldOne l D aC B hcr7) (o := 30) (Nat.le_of_ble_eq_true rfl) rfl (by decide) rfl rfl (Nat.le_of_ble_eq_true rfl) dX5_readWant_47 (fun H locs hM => ?_)
  refine W.eq (g2 := F0 m 50 ls [.int r7.1]) rfl ?_
  obtain ⟨x8, hx8, he⟩ := g_let_ex he
  refine g_topI hx8 ?_
  refine lv_istore_n (lv' := [(3, .int x8), (2, .int x6), (1, .int x4), (0, .ref (B + 30))]) hx hb dX5_readWant_50 rfl hl (by decide) rfl (fun ls hl => ?_)
  refine lv_aload_n hx hb dX5_readWant_51 rfl (lv_at hl 3 rfl) ?_
  refine lv_iconst (v := (0 : Int32)) hx hb dX5_readWant_52 rfl ?_
  refine lv_iconst (v := (1 : Int32)) hx hb dX5_readWant_53 rfl ?_
  obtain ⟨r9, hcr9, he⟩ := g_bind he
  refine g_callV [.int (0 : Int32), .int (1 : Int32)] (rest := []) E hml hl.1 hM cv_X5_126 (c5_number l D aC B hcr9) (o := 30) (Nat.le_of_ble_eq_true rfl) rfl (by decide) rfl rfl (Nat.le_of_ble_eq_true rfl) dX5_readWant_54 (fun H locs hM => ?_)
  refine W.eq (g2 := F0 m 57 ls [.int r9.1]) rfl ?_
  obtain ⟨x10, hx10, he⟩ := g_let_ex he
  refine g_topI hx10 ?_
  refine lv_istore (lv' := [(4, .int x10), (3, .int x8), (2, .int x6), (1, .int x4), (0, .ref (B + 30))]) hx hb dX5_readWant_57 hl (by decide) rfl (fun ls hl => ?_)
  refine lv_aload_n hx hb dX5_readWant_59 rfl (lv_at hl 4 rfl) ?_
  refine lv_iconst (v := (0 : Int32)) hx hb dX5_readWant_60 rfl ?_
  refine lv_bipush (v := (99 : Int32)) hx hb dX5_readWant_61 rfl ?_
  obtain ⟨r11, hcr11, he⟩ := g_bind he
  refine g_callV [.int (0 : Int32), .int (99 : Int32)] (rest := []) E hml hl.1 hM cv_X5_126 (c5_number l D aC B hcr11) (o := 30) (Nat.le_of_ble_eq_true rfl) rfl (by decide) rfl rfl (Nat.le_of_ble_eq_true rfl) dX5_readWant_63 (fun H locs hM => ?_)
  refine W.eq (g2 := F0 m 66 ls [.int r11.1]) rfl ?_
  obtain ⟨x12, hx12, he⟩ := g_let_ex he
  refine g_topI hx12 ?_
  refine lv_istore (lv' := [(5, .int x12), (4, .int x10), (3, .int x8), (2, .int x6), (1, .int x4), (0, .ref (B + 30))]) hx hb dX5_readWant_66 hl (by decide) rfl (fun ls hl => ?_)
  refine lv_aload_n hx hb dX5_readWant_68 rfl (lv_at hl 5 rfl) ?_
  refine lv_iconst (v := (0 : Int32)) hx hb dX5_readWant_69 rfl ?_
  refine lv_bipush (v := (99 : Int32)) hx hb dX5_readWant_70 rfl ?_
  obtain ⟨r13, hcr13, he⟩ := g_bind he
  refine g_callV [.int (0 : Int32), .int (99 : Int32)] (rest := []) E hml hl.1 hM cv_X5_126 (c5_number l D aC B hcr13) (o := 30) (Nat.le_of_ble_eq_true rfl) rfl (by decide) rfl rfl (Nat.le_of_ble_eq_true rfl) dX5_readWant_72 (fun H locs hM => ?_)
  refine W.eq (g2 := F0 m 75 ls [.int r13.1]) rfl ?_
  obtain ⟨x14, hx14, he⟩ := g_let_ex he
  refine g_topI hx14 ?_
  refine lv_istore (lv' := [(6, .int x14), (5, .int x12), (4, .int x10), (3, .int x8), (2, .int x6), (1, .int x4), (0, .ref (B + 30))]) hx hb dX5_readWant_75 hl (by decide) rfl (fun ls hl => ?_)
  refine lv_aload_n hx hb dX5_readWant_77 rfl (lv_at hl 6 rfl) ?_
  refine g_getI E hM (o := 30) (Nat.le_of_ble_eq_true rfl) rfl fl_X5_9 dX5_readWant_78 ?_
  refine lv_if_ne (tgt := 160) hx hb dX5_readWant_81 (by decide) (fun h15 => ?_) (fun h15 => ?_)
  · rw [if_neg h15] at he
    cases he
    exact g_vret E hM hret hlk dX5_readWant_160
  · rw [if_pos h15] at he
    refine lv_aload_n hx hb dX5_readWant_84 rfl (lv_at hl 6 rfl) ?_
    obtain ⟨q16, hqq16, hq16, hYq16, he⟩ := g_dr_some he
    refine g_getD E hM (o := 30) (Nat.le_of_ble_eq_true rfl) rfl fl_X5_31 rfl hqq16 dX5_readWant_85 ?_
    refine g_getP E hM (o := q16) hq16 hYq16 fl_X5_155 (q := (q16 + 8)) (pt_9_9 q16 hq16 hYq16).1 dX5_readWant_88 ?_
    refine lv_iload_n hx hb dX5_readWant_91 rfl (lv_at hl 5 rfl) ?_
    refine lv_iconst (v := (0 : Int32)) hx hb dX5_readWant_92 rfl ?_
    refine lv_iadd hx hb dX5_readWant_93 ?_
    refine lv_iload_n hx hb dX5_readWant_94 rfl (lv_at hl 4 rfl) ?_
    obtain ⟨h17, he⟩ := g_ck_some he
    refine g_iast E hM (o := (q16 + 8)) (pt_9_9 q16 hq16 hYq16).2.1 (pt_9_9 q16 hq16 hYq16).2.2 h17 dX5_readWant_95 (fun H locs hM => ?_)
    obtain ⟨m18, hm18, he⟩ := g_let_ex he
    rw [← hm18] at hM
    refine lv_aload_n hx hb dX5_readWant_96 rfl (lv_at hl 6 rfl) ?_
    obtain ⟨q19, hqq19, hq19, hYq19, he⟩ := g_dr_some he
    refine g_getD E hM (o := 30) (Nat.le_of_ble_eq_true rfl) rfl fl_X5_31 rfl hqq19 dX5_readWant_97 ?_
    refine g_getP E hM (o := q19) hq19 hYq19 fl_X5_155 (q := (q19 + 8)) (pt_9_9 q19 hq19 hYq19).1 dX5_readWant_100 ?_
    refine lv_iload_n hx hb dX5_readWant_103 rfl (lv_at hl 5 rfl) ?_
    refine lv_iconst (v := (1 : Int32)) hx hb dX5_readWant_104 rfl ?_
    refine lv_iadd hx hb dX5_readWant_105 ?_
    refine lv_iload_n hx hb dX5_readWant_106 rfl (lv_at hl 3 rfl) ?_
    obtain ⟨h20, he⟩ := g_ck_some he
    refine g_iast E hM (o := (q19 + 8)) (pt_9_9 q19 hq19 hYq19).2.1 (pt_9_9 q19 hq19 hYq19).2.2 h20 dX5_readWant_107 (fun H locs hM => ?_)
    obtain ⟨m21, hm21, he⟩ := g_let_ex he
    rw [← hm21] at hM
    refine lv_aload_n hx hb dX5_readWant_108 rfl (lv_at hl 6 rfl) ?_
    obtain ⟨q22, hqq22, hq22, hYq22, he⟩ := g_dr_some he
    refine g_getD E hM (o := 30) (Nat.le_of_ble_eq_true rfl) rfl fl_X5_31 rfl hqq22 dX5_readWant_109 ?_
    refine g_getP E hM (o := q22) hq22 hYq22 fl_X5_155 (q := (q22 + 8)) (pt_9_9 q22 hq22 hYq22).1 dX5_readWant_112 ?_
    refine lv_iload_n hx hb dX5_readWant_115 rfl (lv_at hl 5 rfl) ?_
    refine lv_iconst (v := (2 : Int32)) hx hb dX5_readWant_116 rfl ?_
    refine lv_iadd hx hb dX5_readWant_117 ?_
    refine lv_iload hx hb dX5_readWant_118 (lv_at hl 2 rfl) ?_
    obtain ⟨h23, he⟩ := g_ck_some he
    refine g_iast E hM (o := (q22 + 8)) (pt_9_9 q22 hq22 hYq22).2.1 (pt_9_9 q22 hq22 hYq22).2.2 h23 dX5_readWant_120 (fun H locs hM => ?_)
    obtain ⟨m24, hm24, he⟩ := g_let_ex he
    rw [← hm24] at hM
    refine lv_aload_n hx hb dX5_readWant_121 rfl (lv_at hl 6 rfl) ?_
    obtain ⟨q25, hqq25, hq25, hYq25, he⟩ := g_dr_some he
    refine g_getD E hM (o := 30) (Nat.le_of_ble_eq_true rfl) rfl fl_X5_31 rfl hqq25 dX5_readWant_122 ?_
    refine g_getP E hM (o := q25) hq25 hYq25 fl_X5_155 (q := (q25 + 8)) (pt_9_9 q25 hq25 hYq25).1 dX5_readWant_125 ?_
    refine lv_iload_n hx hb dX5_readWant_128 rfl (lv_at hl 5 rfl) ?_
    refine lv_iconst (v := (3 : Int32)) hx hb dX5_readWant_129 rfl ?_
    refine lv_iadd hx hb dX5_readWant_130 ?_
    refine lv_iload hx hb dX5_readWant_131 (lv_at hl 1 rfl) ?_
    obtain ⟨h26, he⟩ := g_ck_some he
    refine g_iast E hM (o := (q25 + 8)) (pt_9_9 q25 hq25 hYq25).2.1 (pt_9_9 q25 hq25 hYq25).2.2 h26 dX5_readWant_133 (fun H locs hM => ?_)
    obtain ⟨m27, hm27, he⟩ := g_let_ex he
    rw [← hm27] at hM
    refine lv_aload_n hx hb dX5_readWant_134 rfl (lv_at hl 6 rfl) ?_
    obtain ⟨q28, hqq28, hq28, hYq28, he⟩ := g_dr_some he
    refine g_getD E hM (o := 30) (Nat.le_of_ble_eq_true rfl) rfl fl_X5_31 rfl hqq28 dX5_readWant_135 ?_
    refine g_getP E hM (o := q28) hq28 hYq28 fl_X5_155 (q := (q28 + 8)) (pt_9_9 q28 hq28 hYq28).1 dX5_readWant_138 ?_
    refine lv_iload_n hx hb dX5_readWant_141 rfl (lv_at hl 5 rfl) ?_
    refine lv_iconst (v := (4 : Int32)) hx hb dX5_readWant_142 rfl ?_
    refine lv_iadd hx hb dX5_readWant_143 ?_
    refine lv_iload hx hb dX5_readWant_144 (lv_at hl 0 rfl) ?_
    obtain ⟨h29, he⟩ := g_ck_some he
    refine g_iast E hM (o := (q28 + 8)) (pt_9_9 q28 hq28 hYq28).2.1 (pt_9_9 q28 hq28 hYq28).2.2 h29 dX5_readWant_146 (fun H locs hM => ?_)
    obtain ⟨m30, hm30, he⟩ := g_let_ex he
    rw [← hm30] at hM
    refine lv_aload_n hx hb dX5_readWant_147 rfl (lv_at hl 6 rfl) ?_
    obtain ⟨q31, hqq31, hq31, hYq31, he⟩ := g_dr_some he
    refine g_getD E hM (o := 30) (Nat.le_of_ble_eq_true rfl) rfl fl_X5_31 rfl hqq31 dX5_readWant_148 ?_
    refine lv_dup hx hb dX5_readWant_151 rfl ?_
    refine g_getI E hM (o := q31) hq31 hYq31 fl_X5_152 dX5_readWant_152 ?_
    refine lv_iconst (v := (1 : Int32)) hx hb dX5_readWant_155 rfl ?_
    refine lv_iadd hx hb dX5_readWant_156 ?_
    refine g_putI E hM (o := q31) hq31 hYq31 fp_X5_152 dX5_readWant_157 (fun H locs hM => ?_)
    obtain ⟨m32, hm32, he⟩ := g_let_ex he
    rw [← hm32] at hM
    cases he
    exact g_vret E hM hret hlk dX5_readWant_160

set_option maxHeartbeats 4000000 in
set_option maxRecDepth 100000 in
theorem c5_readWant (l : Launch) (D : va_G) (aC : Nat → ClassId) (B : Nat) {F : Nat} {mem : g_M} {q0 : g_M} (he : f5_readWant F mem = some q0) : g_Met l yX5_readWant cX5_readWant 7 none 5 D aC B yC 69 mem [.ref (B + 30)] none q0 := by
  refine g_ofW (by decide) (Nat.le_of_ble_eq_true rfl) ?_
  intro p e s m args below meth c ls E hml hret hlk hM hl
  have E : g_C p s m args c cX5_readWant RX5 D aC (g_Zs (g_A B 69)) := E
  have hx := E.1
  have hb := E.2.1
  have hown := E.2.2.1
  have hts := E.2.2.2.1
  have hl : lv_has ls 7 [(0, .ref (B + 30))] := hl
  unfold f5_readWant at he
  refine lv_aload_n hx hb dX5_readWant_0 rfl (lv_at hl 0 rfl) ?_
  refine lv_aload_n hx hb dX5_readWant_1 rfl (lv_at hl 0 rfl) ?_
  obtain ⟨q33, hqq33, hq33, hYq33, he⟩ := g_dr_some he
  refine g_getD E hM (o := 30) (Nat.le_of_ble_eq_true rfl) rfl fl_X5_31 rfl hqq33 dX5_readWant_2 ?_
  refine g_getI E hM (o := q33) hq33 hYq33 fl_X5_152 dX5_readWant_5 ?_
  refine lv_bipush (v := (8 : Int32)) hx hb dX5_readWant_8 rfl ?_
  refine lv_icmp_lt (tgt := 17) hx hb dX5_readWant_10 (by decide) (fun h34 => ?_) (fun h34 => ?_)
  · rw [if_neg (Int32.not_le.mpr h34)] at he
    refine lv_iconst (v := (0 : Int32)) hx hb dX5_readWant_17 rfl ?_
    exact w5_readWant_b18 (F := F) E hml hret hlk _ _ _ _ _ hM (lv_sub hl [0] rfl) he
  · rw [if_pos (Int32.not_lt.mp h34)] at he
    refine lv_iconst (v := (1 : Int32)) hx hb dX5_readWant_13 rfl ?_
    refine lv_goto (tgt := 18) hx hb dX5_readWant_14 (by decide) ?_
    exact w5_readWant_b18 (F := F) E hml hret hlk _ _ _ _ _ hM (lv_sub hl [0] rfl) he

set_option maxHeartbeats 4000000 in
set_option maxRecDepth 100000 in
theorem c5_readRoom (l : Launch) (D : va_G) (aC : Nat → ClassId) (B : Nat) {F : Nat} {mem : g_M} {q0 : g_M} (he : f5_readRoom F mem = some q0) : g_Met l yX5_readRoom cX5_readRoom 1 none 5 D aC B yC 69 mem [.ref (B + 30)] none q0 := by
  refine g_ofW (by decide) (Nat.le_of_ble_eq_true rfl) ?_
  intro p e s m args below meth c ls E hml hret hlk hM hl
  have E : g_C p s m args c cX5_readRoom RX5 D aC (g_Zs (g_A B 69)) := E
  have hx := E.1
  have hb := E.2.1
  have hown := E.2.2.1
  have hts := E.2.2.2.1
  have hl : lv_has ls 1 [(0, .ref (B + 30))] := hl
  unfold f5_readRoom at he
  refine lv_aload_n hx hb dX5_readRoom_0 rfl (lv_at hl 0 rfl) ?_
  refine lv_aload_n hx hb dX5_readRoom_1 rfl (lv_at hl 0 rfl) ?_
  refine g_getI E hM (o := 30) (Nat.le_of_ble_eq_true rfl) rfl fl_X5_21 dX5_readRoom_2 ?_
  refine lv_iconst (v := (3 : Int32)) hx hb dX5_readRoom_5 rfl ?_
  obtain ⟨r1, hcr1, he⟩ := g_bind he
  refine g_callV [.int (mem.1 30 6), .int (3 : Int32)] (rest := []) E hml hl.1 hM cv_X5_88 (c5_failIf l D aC B hcr1) (o := 30) (Nat.le_of_ble_eq_true rfl) rfl (by decide) rfl rfl (Nat.le_of_ble_eq_true rfl) dX5_readRoom_6 (fun H locs hM => ?_)
  refine W.eq (g2 := F0 m 9 ls []) rfl ?_
  refine lv_aload_n hx hb dX5_readRoom_9 rfl (lv_at hl 0 rfl) ?_
  refine g_getP E hM (o := 30) (Nat.le_of_ble_eq_true rfl) rfl fl_X5_40 (q := 31) rfl dX5_readRoom_10 ?_
  obtain ⟨r2, hcr2, he⟩ := g_bind he
  refine g_callV [] (rest := []) E hml hl.1 hM cv_X5_66 (c8_step l D aC B hcr2) (o := 31) (Nat.le_of_ble_eq_true rfl) rfl (by decide) rfl rfl (Nat.le_of_ble_eq_true rfl) dX5_readRoom_13 (fun H locs hM => ?_)
  refine W.eq (g2 := F0 m 16 ls []) rfl ?_
  refine lv_aload_n hx hb dX5_readRoom_16 rfl (lv_at hl 0 rfl) ?_
  refine lv_iconst (v := (1 : Int32)) hx hb dX5_readRoom_17 rfl ?_
  refine g_putZ E hM (o := 30) (Nat.le_of_ble_eq_true rfl) rfl fp_X5_21 (Or.inr rfl) dX5_readRoom_18 (fun H locs hM => ?_)
  obtain ⟨m3, hm3, he⟩ := g_let_ex he
  rw [← hm3] at hM
  refine lv_aload_n hx hb dX5_readRoom_21 rfl (lv_at hl 0 rfl) ?_
  obtain ⟨q4, hqq4, hq4, hYq4, he⟩ := g_dr_some he
  refine g_getD E hM (o := 30) (Nat.le_of_ble_eq_true rfl) rfl fl_X5_31 rfl hqq4 dX5_readRoom_22 ?_
  refine lv_aload_n hx hb dX5_readRoom_25 rfl (lv_at hl 0 rfl) ?_
  refine lv_iconst (v := (1 : Int32)) hx hb dX5_readRoom_26 rfl ?_
  refine lv_bipush (v := (30 : Int32)) hx hb dX5_readRoom_27 rfl ?_
  obtain ⟨r5, hcr5, he⟩ := g_bind he
  refine g_callV [.int (1 : Int32), .int (30 : Int32)] (rest := [.ref (B + q4)]) E hml hl.1 hM cv_X5_126 (c5_number l D aC B hcr5) (o := 30) (Nat.le_of_ble_eq_true rfl) rfl (by decide) rfl rfl (Nat.le_of_ble_eq_true rfl) dX5_readRoom_29 (fun H locs hM => ?_)
  refine W.eq (g2 := F0 m 32 ls [.int r5.1, .ref (B + q4)]) rfl ?_
  refine g_putI E hM (o := q4) hq4 hYq4 fp_X5_158 dX5_readRoom_32 (fun H locs hM => ?_)
  obtain ⟨m6, hm6, he⟩ := g_let_ex he
  rw [← hm6] at hM
  cases he
  exact g_vret E hM hret hlk dX5_readRoom_35

set_option maxHeartbeats 4000000 in
set_option maxRecDepth 100000 in
theorem c5_readStorm (l : Launch) (D : va_G) (aC : Nat → ClassId) (B : Nat) {F : Nat} {mem : g_M} {q0 : g_M} (he : f5_readStorm F mem = some q0) : g_Met l yX5_readStorm cX5_readStorm 1 none 5 D aC B yC 69 mem [.ref (B + 30)] none q0 := by
  refine g_ofW (by decide) (Nat.le_of_ble_eq_true rfl) ?_
  intro p e s m args below meth c ls E hml hret hlk hM hl
  have E : g_C p s m args c cX5_readStorm RX5 D aC (g_Zs (g_A B 69)) := E
  have hx := E.1
  have hb := E.2.1
  have hown := E.2.2.1
  have hts := E.2.2.2.1
  have hl : lv_has ls 1 [(0, .ref (B + 30))] := hl
  unfold f5_readStorm at he
  refine lv_aload_n hx hb dX5_readStorm_0 rfl (lv_at hl 0 rfl) ?_
  refine lv_aload_n hx hb dX5_readStorm_1 rfl (lv_at hl 0 rfl) ?_
  refine g_getI E hM (o := 30) (Nat.le_of_ble_eq_true rfl) rfl fl_X5_25 dX5_readStorm_2 ?_
  refine lv_iconst (v := (3 : Int32)) hx hb dX5_readStorm_5 rfl ?_
  obtain ⟨r1, hcr1, he⟩ := g_bind he
  refine g_callV [.int (mem.1 30 7), .int (3 : Int32)] (rest := []) E hml hl.1 hM cv_X5_88 (c5_failIf l D aC B hcr1) (o := 30) (Nat.le_of_ble_eq_true rfl) rfl (by decide) rfl rfl (Nat.le_of_ble_eq_true rfl) dX5_readStorm_6 (fun H locs hM => ?_)
  refine W.eq (g2 := F0 m 9 ls []) rfl ?_
  refine lv_aload_n hx hb dX5_readStorm_9 rfl (lv_at hl 0 rfl) ?_
  refine g_getP E hM (o := 30) (Nat.le_of_ble_eq_true rfl) rfl fl_X5_40 (q := 31) rfl dX5_readStorm_10 ?_
  obtain ⟨r2, hcr2, he⟩ := g_bind he
  refine g_callV [] (rest := []) E hml hl.1 hM cv_X5_66 (c8_step l D aC B hcr2) (o := 31) (Nat.le_of_ble_eq_true rfl) rfl (by decide) rfl rfl (Nat.le_of_ble_eq_true rfl) dX5_readStorm_13 (fun H locs hM => ?_)
  refine W.eq (g2 := F0 m 16 ls []) rfl ?_
  refine lv_aload_n hx hb dX5_readStorm_16 rfl (lv_at hl 0 rfl) ?_
  refine lv_iconst (v := (1 : Int32)) hx hb dX5_readStorm_17 rfl ?_
  refine g_putZ E hM (o := 30) (Nat.le_of_ble_eq_true rfl) rfl fp_X5_25 (Or.inr rfl) dX5_readStorm_18 (fun H locs hM => ?_)
  obtain ⟨m3, hm3, he⟩ := g_let_ex he
  rw [← hm3] at hM
  refine lv_aload_n hx hb dX5_readStorm_21 rfl (lv_at hl 0 rfl) ?_
  obtain ⟨q4, hqq4, hq4, hYq4, he⟩ := g_dr_some he
  refine g_getD E hM (o := 30) (Nat.le_of_ble_eq_true rfl) rfl fl_X5_31 rfl hqq4 dX5_readStorm_22 ?_
  refine lv_aload_n hx hb dX5_readStorm_25 rfl (lv_at hl 0 rfl) ?_
  refine lv_iconst (v := (0 : Int32)) hx hb dX5_readStorm_26 rfl ?_
  refine lv_bipush (v := (100 : Int32)) hx hb dX5_readStorm_27 rfl ?_
  obtain ⟨r5, hcr5, he⟩ := g_bind he
  refine g_callV [.int (0 : Int32), .int (100 : Int32)] (rest := [.ref (B + q4)]) E hml hl.1 hM cv_X5_126 (c5_number l D aC B hcr5) (o := 30) (Nat.le_of_ble_eq_true rfl) rfl (by decide) rfl rfl (Nat.le_of_ble_eq_true rfl) dX5_readStorm_29 (fun H locs hM => ?_)
  refine W.eq (g2 := F0 m 32 ls [.int r5.1, .ref (B + q4)]) rfl ?_
  refine g_putI E hM (o := q4) hq4 hYq4 fp_X5_161 dX5_readStorm_32 (fun H locs hM => ?_)
  obtain ⟨m6, hm6, he⟩ := g_let_ex he
  rw [← hm6] at hM
  cases he
  exact g_vret E hM hret hlk dX5_readStorm_35

set_option maxHeartbeats 4000000 in
set_option maxRecDepth 100000 in
theorem c5_readSeed (l : Launch) (D : va_G) (aC : Nat → ClassId) (B : Nat) {F : Nat} {mem : g_M} {q0 : g_M} (he : f5_readSeed F mem = some q0) : g_Met l yX5_readSeed cX5_readSeed 1 none 5 D aC B yC 69 mem [.ref (B + 30)] none q0 := by
  refine g_ofW (by decide) (Nat.le_of_ble_eq_true rfl) ?_
  intro p e s m args below meth c ls E hml hret hlk hM hl
  have E : g_C p s m args c cX5_readSeed RX5 D aC (g_Zs (g_A B 69)) := E
  have hx := E.1
  have hb := E.2.1
  have hown := E.2.2.1
  have hts := E.2.2.2.1
  have hl : lv_has ls 1 [(0, .ref (B + 30))] := hl
  unfold f5_readSeed at he
  refine lv_aload_n hx hb dX5_readSeed_0 rfl (lv_at hl 0 rfl) ?_
  refine lv_aload_n hx hb dX5_readSeed_1 rfl (lv_at hl 0 rfl) ?_
  refine g_getI E hM (o := 30) (Nat.le_of_ble_eq_true rfl) rfl fl_X5_28 dX5_readSeed_2 ?_
  refine lv_iconst (v := (3 : Int32)) hx hb dX5_readSeed_5 rfl ?_
  obtain ⟨r1, hcr1, he⟩ := g_bind he
  refine g_callV [.int (mem.1 30 8), .int (3 : Int32)] (rest := []) E hml hl.1 hM cv_X5_88 (c5_failIf l D aC B hcr1) (o := 30) (Nat.le_of_ble_eq_true rfl) rfl (by decide) rfl rfl (Nat.le_of_ble_eq_true rfl) dX5_readSeed_6 (fun H locs hM => ?_)
  refine W.eq (g2 := F0 m 9 ls []) rfl ?_
  refine lv_aload_n hx hb dX5_readSeed_9 rfl (lv_at hl 0 rfl) ?_
  refine g_getP E hM (o := 30) (Nat.le_of_ble_eq_true rfl) rfl fl_X5_40 (q := 31) rfl dX5_readSeed_10 ?_
  obtain ⟨r2, hcr2, he⟩ := g_bind he
  refine g_callV [] (rest := []) E hml hl.1 hM cv_X5_66 (c8_step l D aC B hcr2) (o := 31) (Nat.le_of_ble_eq_true rfl) rfl (by decide) rfl rfl (Nat.le_of_ble_eq_true rfl) dX5_readSeed_13 (fun H locs hM => ?_)
  refine W.eq (g2 := F0 m 16 ls []) rfl ?_
  refine lv_aload_n hx hb dX5_readSeed_16 rfl (lv_at hl 0 rfl) ?_
  refine lv_iconst (v := (1 : Int32)) hx hb dX5_readSeed_17 rfl ?_
  refine g_putZ E hM (o := 30) (Nat.le_of_ble_eq_true rfl) rfl fp_X5_28 (Or.inr rfl) dX5_readSeed_18 (fun H locs hM => ?_)
  obtain ⟨m3, hm3, he⟩ := g_let_ex he
  rw [← hm3] at hM
  refine lv_aload_n hx hb dX5_readSeed_21 rfl (lv_at hl 0 rfl) ?_
  obtain ⟨q4, hqq4, hq4, hYq4, he⟩ := g_dr_some he
  refine g_getD E hM (o := 30) (Nat.le_of_ble_eq_true rfl) rfl fl_X5_31 rfl hqq4 dX5_readSeed_22 ?_
  refine lv_aload_n hx hb dX5_readSeed_25 rfl (lv_at hl 0 rfl) ?_
  refine lv_iconst (v := (0 : Int32)) hx hb dX5_readSeed_26 rfl ?_
  refine lv_ldc (v := (99999 : Int32)) hx hb hown (hts _ kc_X5_164) dX5_readSeed_27 ?_
  obtain ⟨r5, hcr5, he⟩ := g_bind he
  refine g_callV [.int (0 : Int32), .int (99999 : Int32)] (rest := [.ref (B + q4)]) E hml hl.1 hM cv_X5_126 (c5_number l D aC B hcr5) (o := 30) (Nat.le_of_ble_eq_true rfl) rfl (by decide) rfl rfl (Nat.le_of_ble_eq_true rfl) dX5_readSeed_29 (fun H locs hM => ?_)
  refine W.eq (g2 := F0 m 32 ls [.int r5.1, .ref (B + q4)]) rfl ?_
  refine g_putI E hM (o := q4) hq4 hYq4 fp_X5_165 dX5_readSeed_32 (fun H locs hM => ?_)
  obtain ⟨m6, hm6, he⟩ := g_let_ex he
  rw [← hm6] at hM
  cases he
  exact g_vret E hM hret hlk dX5_readSeed_35

set_option maxHeartbeats 4000000 in
set_option maxRecDepth 100000 in
theorem w5_readLaw_b42 (E : g_C p s m args c cX5_readLaw RX5 D aC (g_Zs (g_A B 69))) (hml : c.maxLocals = 3) (hret : meth.sig.returnType = none) (hlk : meth.locks = false) {F : Nat} {q0 : g_M} : ∀ (mem : g_M) (H : Heap) (locs : List Loc) (ls : Array Slot), g_At D aC B yC 69 mem s.heap H locs → lv_has ls 3 [(0, .ref (B + 30))] → f5_readLaw_b42 F mem = some q0 → W p l e (g_rm 5) s m args below meth c H locs 0 0 (g_MQ below D aC B yC 69 args s none q0) (F0 m 42 ls []) := by
  intro mem H locs ls hM hl he
  unfold f5_readLaw_b42 at he
  have hx := E.1
  have hb := E.2.1
  have hown := E.2.2.1
  have hts := E.2.2.2.1
  refine lv_aload_n hx hb dX5_readLaw_42 rfl (lv_at hl 0 rfl) ?_
  refine lv_iconst (v := (1 : Int32)) hx hb dX5_readLaw_43 rfl ?_
  obtain ⟨r1, hcr1, he⟩ := g_bind he
  refine g_callV [.int (1 : Int32)] (rest := []) E hml hl.1 hM cv_X5_81 (c5_fail l D aC B hcr1) (o := 30) (Nat.le_of_ble_eq_true rfl) rfl (by decide) rfl rfl (Nat.le_of_ble_eq_true rfl) dX5_readLaw_44 (fun H locs hM => ?_)
  refine W.eq (g2 := F0 m 47 ls []) rfl ?_
  cases he
  exact g_vret E hM hret hlk dX5_readLaw_47

set_option maxHeartbeats 4000000 in
set_option maxRecDepth 100000 in
theorem w5_readLaw_b104 (E : g_C p s m args c cX5_readLaw RX5 D aC (g_Zs (g_A B 69))) (hml : c.maxLocals = 3) (hret : meth.sig.returnType = none) (hlk : meth.locks = false) {F : Nat} {q0 : g_M} : ∀ (v2 : Int32) (w1 : Int32) (mem : g_M) (H : Heap) (locs : List Loc) (ls : Array Slot), g_At D aC B yC 69 mem s.heap H locs → lv_has ls 3 [(2, .int v2)] → f5_readLaw_b104 F v2 w1 mem = some q0 → W p l e (g_rm 5) s m args below meth c H locs 0 0 (g_MQ below D aC B yC 69 args s none q0) (F0 m 104 ls [.int w1, .ref (B + 30)]) := by
  intro v2 w1 mem H locs ls hM hl he
  unfold f5_readLaw_b104 at he
  have hx := E.1
  have hb := E.2.1
  have hown := E.2.2.1
  have hts := E.2.2.2.1
  refine lv_iload_n hx hb dX5_readLaw_104 rfl (lv_at hl 0 rfl) ?_
  obtain ⟨r2, hcr2, he⟩ := g_bind he
  refine g_callV [.int w1, .int v2] (rest := []) E hml hl.1 hM cv_X5_88 (c5_failIf l D aC B hcr2) (o := 30) (Nat.le_of_ble_eq_true rfl) rfl (by decide) rfl rfl (Nat.le_of_ble_eq_true rfl) dX5_readLaw_105 (fun H locs hM => ?_)
  refine W.eq (g2 := F0 m 108 ls []) rfl ?_
  cases he
  exact g_vret E hM hret hlk dX5_readLaw_108

set_option maxHeartbeats 4000000 in
set_option maxRecDepth 100000 in
theorem w5_readLaw_b32 (E : g_C p s m args c cX5_readLaw RX5 D aC (g_Zs (g_A B 69))) (hml : c.maxLocals = 3) (hret : meth.sig.returnType = none) (hlk : meth.locks = false) {F : Nat} {q0 : g_M} : ∀ (w0 : Int32) (mem : g_M) (H : Heap) (locs : List Loc) (ls : Array Slot), g_At D aC B yC 69 mem s.heap H locs → lv_has ls 3 [(0, .ref (B + 30))] → f5_readLaw_b32 F w0 mem = some q0 → W p l e (g_rm 5) s m args below meth c H locs 0 0 (g_MQ below D aC B yC 69 args s none q0) (F0 m 32 ls [.int w0]) := by
  intro w0 mem H locs ls hM hl he
  unfold f5_readLaw_b32 at he
  have hx := E.1
  have hb := E.2.1
  have hown := E.2.2.1
  have hts := E.2.2.2.1
  refine lv_istore_n (lv' := [(1, .int w0), (0, .ref (B + 30))]) hx hb dX5_readLaw_32 rfl hl (by decide) rfl (fun ls hl => ?_)
  refine lv_iload_n hx hb dX5_readLaw_33 rfl (lv_at hl 0 rfl) ?_
  refine lv_if_lt (tgt := 42) hx hb dX5_readLaw_34 (by decide) (fun h3 => ?_) (fun h3 => ?_)
  · rw [if_neg (Int32.not_le.mpr h3)] at he
    exact w5_readLaw_b42 (F := F) E hml hret hlk _ _ _ _ hM (lv_sub hl [1] rfl) he
  · rw [if_pos (Int32.not_lt.mp h3)] at he
    refine lv_iload_n hx hb dX5_readLaw_37 rfl (lv_at hl 0 rfl) ?_
    refine lv_iconst (v := (2 : Int32)) hx hb dX5_readLaw_38 rfl ?_
    refine lv_icmp_le (tgt := 48) hx hb dX5_readLaw_39 (by decide) (fun h4 => ?_) (fun h4 => ?_)
    · rw [if_neg (Int32.not_lt.mpr h4)] at he
      refine lv_aload_n hx hb dX5_readLaw_48 rfl (lv_at hl 1 rfl) ?_
      refine lv_aload_n hx hb dX5_readLaw_49 rfl (lv_at hl 1 rfl) ?_
      obtain ⟨q5, hqq5, hq5, hYq5, he⟩ := g_dr_some he
      refine g_getD E hM (o := 30) (Nat.le_of_ble_eq_true rfl) rfl fl_X5_31 rfl hqq5 dX5_readLaw_50 ?_
      refine g_getP E hM (o := q5) hq5 hYq5 fl_X5_46 (q := (q5 + 9)) (pt_9_13 q5 hq5 hYq5).1 dX5_readLaw_53 ?_
      refine lv_iload_n hx hb dX5_readLaw_56 rfl (lv_at hl 0 rfl) ?_
      obtain ⟨r6, hcr6, he⟩ := g_bind he
      refine g_callV [.int w0] (rest := [.ref (B + 30)]) E hml hl.1 hM cv_X5_168 (c2_isTold l D aC B (pt_9_13 q5 hq5 hYq5).2.1 (pt_9_13 q5 hq5 hYq5).2.2 hcr6) (o := (q5 + 9)) (pt_9_13 q5 hq5 hYq5).2.1 (pt_9_13 q5 hq5 hYq5).2.2 (by decide) rfl rfl (Nat.le_of_ble_eq_true rfl) dX5_readLaw_57 (fun H locs hM => ?_)
      refine W.eq (g2 := F0 m 60 ls [.int r6, .ref (B + 30)]) rfl ?_
      refine lv_iconst (v := (3 : Int32)) hx hb dX5_readLaw_60 rfl ?_
      obtain ⟨r7, hcr7, he⟩ := g_bind he
      refine g_callV [.int r6, .int (3 : Int32)] (rest := []) E hml hl.1 hM cv_X5_88 (c5_failIf l D aC B hcr7) (o := 30) (Nat.le_of_ble_eq_true rfl) rfl (by decide) rfl rfl (Nat.le_of_ble_eq_true rfl) dX5_readLaw_61 (fun H locs hM => ?_)
      refine W.eq (g2 := F0 m 64 ls []) rfl ?_
      refine lv_aload_n hx hb dX5_readLaw_64 rfl (lv_at hl 1 rfl) ?_
      refine g_getP E hM (o := 30) (Nat.le_of_ble_eq_true rfl) rfl fl_X5_40 (q := 31) rfl dX5_readLaw_65 ?_
      obtain ⟨r8, hcr8, he⟩ := g_bind he
      refine g_callV [] (rest := []) E hml hl.1 hM cv_X5_66 (c8_step l D aC B hcr8) (o := 31) (Nat.le_of_ble_eq_true rfl) rfl (by decide) rfl rfl (Nat.le_of_ble_eq_true rfl) dX5_readLaw_68 (fun H locs hM => ?_)
      refine W.eq (g2 := F0 m 71 ls []) rfl ?_
      refine lv_aload_n hx hb dX5_readLaw_71 rfl (lv_at hl 1 rfl) ?_
      refine g_getI E hM (o := 30) (Nat.le_of_ble_eq_true rfl) rfl fl_X5_9 dX5_readLaw_72 ?_
      refine lv_if_ne (tgt := 108) hx hb dX5_readLaw_75 (by decide) (fun h9 => ?_) (fun h9 => ?_)
      · rw [if_neg h9] at he
        cases he
        exact g_vret E hM hret hlk dX5_readLaw_108
      · rw [if_pos h9] at he
        refine lv_aload_n hx hb dX5_readLaw_78 rfl (lv_at hl 1 rfl) ?_
        refine g_getP E hM (o := 30) (Nat.le_of_ble_eq_true rfl) rfl fl_X5_55 (q := 33) rfl dX5_readLaw_79 ?_
        refine lv_aload_n hx hb dX5_readLaw_82 rfl (lv_at hl 1 rfl) ?_
        obtain ⟨q10, hqq10, hq10, hYq10, he⟩ := g_dr_some he
        refine g_getD E hM (o := 30) (Nat.le_of_ble_eq_true rfl) rfl fl_X5_31 rfl hqq10 dX5_readLaw_83 ?_
        refine g_getP E hM (o := q10) hq10 hYq10 fl_X5_46 (q := (q10 + 9)) (pt_9_13 q10 hq10 hYq10).1 dX5_readLaw_86 ?_
        refine lv_iload_n hx hb dX5_readLaw_89 rfl (lv_at hl 0 rfl) ?_
        obtain ⟨r11, hcr11, he⟩ := g_bind he
        refine g_callV [.ref (B + (q10 + 9)), .int w0] (rest := []) E hml hl.1 hM cv_X5_173 (c1_reads l D aC B (pt_9_13 q10 hq10 hYq10).2.1 (pt_9_13 q10 hq10 hYq10).2.2 hcr11) (o := 33) (Nat.le_of_ble_eq_true rfl) rfl (by decide) rfl rfl (Nat.le_of_ble_eq_true rfl) dX5_readLaw_90 (fun H locs hM => ?_)
        refine W.eq (g2 := F0 m 93 ls [.int r11.1]) rfl ?_
        obtain ⟨x12, hx12, he⟩ := g_let_ex he
        refine g_topI hx12 ?_
        refine lv_istore_n (lv' := [(2, .int x12), (1, .int w0), (0, .ref (B + 30))]) hx hb dX5_readLaw_93 rfl hl (by decide) rfl (fun ls hl => ?_)
        refine lv_aload_n hx hb dX5_readLaw_94 rfl (lv_at hl 2 rfl) ?_
        refine lv_iload_n hx hb dX5_readLaw_95 rfl (lv_at hl 0 rfl) ?_
        refine lv_if_eq (tgt := 103) hx hb dX5_readLaw_96 (by decide) (fun h13 => ?_) (fun h13 => ?_)
        · rw [if_pos h13] at he
          refine lv_iconst (v := (0 : Int32)) hx hb dX5_readLaw_103 rfl ?_
          exact w5_readLaw_b104 (F := F) E hml hret hlk _ _ _ _ _ _ hM (lv_sub hl [0] rfl) he
        · rw [if_neg h13] at he
          refine lv_iconst (v := (1 : Int32)) hx hb dX5_readLaw_99 rfl ?_
          refine lv_goto (tgt := 104) hx hb dX5_readLaw_100 (by decide) ?_
          exact w5_readLaw_b104 (F := F) E hml hret hlk _ _ _ _ _ _ hM (lv_sub hl [0] rfl) he
    · rw [if_pos (Int32.not_le.mp h4)] at he
      exact w5_readLaw_b42 (F := F) E hml hret hlk _ _ _ _ hM (lv_sub hl [1] rfl) he

set_option maxHeartbeats 4000000 in
set_option maxRecDepth 100000 in
theorem c5_readLaw (l : Launch) (D : va_G) (aC : Nat → ClassId) (B : Nat) {F : Nat} {mem : g_M} {q0 : g_M} (he : f5_readLaw F mem = some q0) : g_Met l yX5_readLaw cX5_readLaw 3 none 5 D aC B yC 69 mem [.ref (B + 30)] none q0 := by
  refine g_ofW (by decide) (Nat.le_of_ble_eq_true rfl) ?_
  intro p e s m args below meth c ls E hml hret hlk hM hl
  have E : g_C p s m args c cX5_readLaw RX5 D aC (g_Zs (g_A B 69)) := E
  have hx := E.1
  have hb := E.2.1
  have hown := E.2.2.1
  have hts := E.2.2.2.1
  have hl : lv_has ls 3 [(0, .ref (B + 30))] := hl
  unfold f5_readLaw at he
  refine lv_aload_n hx hb dX5_readLaw_0 rfl (lv_at hl 0 rfl) ?_
  refine g_getP E hM (o := 30) (Nat.le_of_ble_eq_true rfl) rfl fl_X5_40 (q := 31) rfl dX5_readLaw_1 ?_
  obtain ⟨r14, hcr14, he⟩ := g_bind he
  refine g_callV [] (rest := []) E hml hl.1 hM cv_X5_66 (c8_step l D aC B hcr14) (o := 31) (Nat.le_of_ble_eq_true rfl) rfl (by decide) rfl rfl (Nat.le_of_ble_eq_true rfl) dX5_readLaw_4 (fun H locs hM => ?_)
  refine W.eq (g2 := F0 m 7 ls []) rfl ?_
  refine lv_aload_n hx hb dX5_readLaw_7 rfl (lv_at hl 0 rfl) ?_
  refine g_getP E hM (o := 30) (Nat.le_of_ble_eq_true rfl) rfl fl_X5_40 (q := 31) rfl dX5_readLaw_8 ?_
  refine g_getI E hM (o := 31) (Nat.le_of_ble_eq_true rfl) rfl fl_X5_69 dX5_readLaw_11 ?_
  refine lv_iconst (v := (3 : Int32)) hx hb dX5_readLaw_14 rfl ?_
  refine lv_icmp_ne (tgt := 31) hx hb dX5_readLaw_15 (by decide) (fun h15 => ?_) (fun h15 => ?_)
  · rw [if_neg h15] at he
    refine lv_iconst (v := (-1 : Int32)) hx hb dX5_readLaw_31 rfl ?_
    exact w5_readLaw_b32 (F := F) E hml hret hlk _ _ _ _ _ hM (lv_sub hl [0] rfl) he
  · rw [if_pos h15] at he
    refine lv_aload_n hx hb dX5_readLaw_18 rfl (lv_at hl 0 rfl) ?_
    refine g_getP E hM (o := 30) (Nat.le_of_ble_eq_true rfl) rfl fl_X5_40 (q := 31) rfl dX5_readLaw_19 ?_
    refine g_getI E hM (o := 31) (Nat.le_of_ble_eq_true rfl) rfl fl_X5_92 dX5_readLaw_22 ?_
    refine lv_bipush (v := (9 : Int32)) hx hb dX5_readLaw_25 rfl ?_
    refine lv_isub hx hb dX5_readLaw_27 ?_
    refine lv_goto (tgt := 32) hx hb dX5_readLaw_28 (by decide) ?_
    exact w5_readLaw_b32 (F := F) E hml hret hlk _ _ _ _ _ hM (lv_sub hl [0] rfl) he

set_option maxHeartbeats 4000000 in
set_option maxRecDepth 100000 in
theorem w5_readLine_b22 (E : g_C p s m args c cX5_readLine RX5 D aC (g_Zs (g_A B 69))) (hml : c.maxLocals = 2) (hret : meth.sig.returnType = none) (hlk : meth.locks = false) {F : Nat} {q0 : g_M} : ∀ (w0 : Int32) (mem : g_M) (H : Heap) (locs : List Loc) (ls : Array Slot), g_At D aC B yC 69 mem s.heap H locs → lv_has ls 2 [(0, .ref (B + 30))] → f5_readLine_b22 F w0 mem = some q0 → W p l e (g_rm 6) s m args below meth c H locs 0 0 (g_MQ below D aC B yC 69 args s none q0) (F0 m 22 ls [.int w0]) := by
  intro w0 mem H locs ls hM hl he
  unfold f5_readLine_b22 at he
  have hx := E.1
  have hb := E.2.1
  have hown := E.2.2.1
  have hts := E.2.2.2.1
  refine lv_istore_n (lv' := [(1, .int w0), (0, .ref (B + 30))]) hx hb dX5_readLine_22 rfl hl (by decide) rfl (fun ls hl => ?_)
  refine lv_iload_n hx hb dX5_readLine_23 rfl (lv_at hl 0 rfl) ?_
  by_cases h1 : w0 = (0 : Int32)
  · rw [if_pos h1] at he
    refine lv_tableIn (tgt := 76) (off := 52) hx hb dX5_readLine_24 (by rw [h1]; decide) (by rw [h1]; decide) (by rw [h1]; rfl) (by decide) ?_
    refine lv_aload_n hx hb dX5_readLine_76 rfl (lv_at hl 1 rfl) ?_
    obtain ⟨r2, hcr2, he⟩ := g_bind he
    refine g_callV [] (rest := []) E hml hl.1 hM cv_X5_95 (c5_readMan l D aC B hcr2) (o := 30) (Nat.le_of_ble_eq_true rfl) rfl (by decide) rfl rfl (Nat.le_of_ble_eq_true rfl) dX5_readLine_77 (fun H locs hM => ?_)
    refine W.eq (g2 := F0 m 80 ls []) rfl ?_
    refine lv_goto (tgt := 144) hx hb dX5_readLine_80 (by decide) ?_
    cases he
    exact g_vret E hM hret hlk dX5_readLine_144
  rw [if_neg h1] at he
  by_cases h3 : w0 = (1 : Int32)
  · rw [if_pos h3] at he
    refine lv_tableIn (tgt := 83) (off := 59) hx hb dX5_readLine_24 (by rw [h3]; decide) (by rw [h3]; decide) (by rw [h3]; rfl) (by decide) ?_
    refine lv_aload_n hx hb dX5_readLine_83 rfl (lv_at hl 1 rfl) ?_
    obtain ⟨r4, hcr4, he⟩ := g_bind he
    refine g_callV [] (rest := []) E hml hl.1 hM cv_X5_98 (c5_readSort l D aC B hcr4) (o := 30) (Nat.le_of_ble_eq_true rfl) rfl (by decide) rfl rfl (Nat.le_of_ble_eq_true rfl) dX5_readLine_84 (fun H locs hM => ?_)
    refine W.eq (g2 := F0 m 87 ls []) rfl ?_
    refine lv_goto (tgt := 144) hx hb dX5_readLine_87 (by decide) ?_
    cases he
    exact g_vret E hM hret hlk dX5_readLine_144
  rw [if_neg h3] at he
  by_cases h5 : w0 = (2 : Int32)
  · rw [if_pos h5] at he
    refine lv_tableIn (tgt := 90) (off := 66) hx hb dX5_readLine_24 (by rw [h5]; decide) (by rw [h5]; decide) (by rw [h5]; rfl) (by decide) ?_
    refine lv_aload_n hx hb dX5_readLine_90 rfl (lv_at hl 1 rfl) ?_
    obtain ⟨r6, hcr6, he⟩ := g_bind he
    refine g_callV [] (rest := []) E hml hl.1 hM cv_X5_101 (c5_readDeed l D aC B hcr6) (o := 30) (Nat.le_of_ble_eq_true rfl) rfl (by decide) rfl rfl (Nat.le_of_ble_eq_true rfl) dX5_readLine_91 (fun H locs hM => ?_)
    refine W.eq (g2 := F0 m 94 ls []) rfl ?_
    refine lv_goto (tgt := 144) hx hb dX5_readLine_94 (by decide) ?_
    cases he
    exact g_vret E hM hret hlk dX5_readLine_144
  rw [if_neg h5] at he
  by_cases h7 : w0 = (3 : Int32)
  · rw [if_pos h7] at he
    refine lv_tableIn (tgt := 97) (off := 73) hx hb dX5_readLine_24 (by rw [h7]; decide) (by rw [h7]; decide) (by rw [h7]; rfl) (by decide) ?_
    refine lv_aload_n hx hb dX5_readLine_97 rfl (lv_at hl 1 rfl) ?_
    obtain ⟨r8, hcr8, he⟩ := g_bind he
    refine g_callV [] (rest := []) E hml hl.1 hM cv_X5_104 (c5_readSend l D aC B hcr8) (o := 30) (Nat.le_of_ble_eq_true rfl) rfl (by decide) rfl rfl (Nat.le_of_ble_eq_true rfl) dX5_readLine_98 (fun H locs hM => ?_)
    refine W.eq (g2 := F0 m 101 ls []) rfl ?_
    refine lv_goto (tgt := 144) hx hb dX5_readLine_101 (by decide) ?_
    cases he
    exact g_vret E hM hret hlk dX5_readLine_144
  rw [if_neg h7] at he
  by_cases h9 : w0 = (4 : Int32)
  · rw [if_pos h9] at he
    refine lv_tableIn (tgt := 104) (off := 80) hx hb dX5_readLine_24 (by rw [h9]; decide) (by rw [h9]; decide) (by rw [h9]; rfl) (by decide) ?_
    refine lv_aload_n hx hb dX5_readLine_104 rfl (lv_at hl 1 rfl) ?_
    obtain ⟨r10, hcr10, he⟩ := g_bind he
    refine g_callV [] (rest := []) E hml hl.1 hM cv_X5_107 (c5_readWant l D aC B hcr10) (o := 30) (Nat.le_of_ble_eq_true rfl) rfl (by decide) rfl rfl (Nat.le_of_ble_eq_true rfl) dX5_readLine_105 (fun H locs hM => ?_)
    refine W.eq (g2 := F0 m 108 ls []) rfl ?_
    refine lv_goto (tgt := 144) hx hb dX5_readLine_108 (by decide) ?_
    cases he
    exact g_vret E hM hret hlk dX5_readLine_144
  rw [if_neg h9] at he
  by_cases h11 : w0 = (5 : Int32)
  · rw [if_pos h11] at he
    refine lv_tableIn (tgt := 111) (off := 87) hx hb dX5_readLine_24 (by rw [h11]; decide) (by rw [h11]; decide) (by rw [h11]; rfl) (by decide) ?_
    refine lv_aload_n hx hb dX5_readLine_111 rfl (lv_at hl 1 rfl) ?_
    obtain ⟨r12, hcr12, he⟩ := g_bind he
    refine g_callV [] (rest := []) E hml hl.1 hM cv_X5_110 (c5_readRoom l D aC B hcr12) (o := 30) (Nat.le_of_ble_eq_true rfl) rfl (by decide) rfl rfl (Nat.le_of_ble_eq_true rfl) dX5_readLine_112 (fun H locs hM => ?_)
    refine W.eq (g2 := F0 m 115 ls []) rfl ?_
    refine lv_goto (tgt := 144) hx hb dX5_readLine_115 (by decide) ?_
    cases he
    exact g_vret E hM hret hlk dX5_readLine_144
  rw [if_neg h11] at he
  by_cases h13 : w0 = (6 : Int32)
  · rw [if_pos h13] at he
    refine lv_tableIn (tgt := 118) (off := 94) hx hb dX5_readLine_24 (by rw [h13]; decide) (by rw [h13]; decide) (by rw [h13]; rfl) (by decide) ?_
    refine lv_aload_n hx hb dX5_readLine_118 rfl (lv_at hl 1 rfl) ?_
    obtain ⟨r14, hcr14, he⟩ := g_bind he
    refine g_callV [] (rest := []) E hml hl.1 hM cv_X5_113 (c5_readStorm l D aC B hcr14) (o := 30) (Nat.le_of_ble_eq_true rfl) rfl (by decide) rfl rfl (Nat.le_of_ble_eq_true rfl) dX5_readLine_119 (fun H locs hM => ?_)
    refine W.eq (g2 := F0 m 122 ls []) rfl ?_
    refine lv_goto (tgt := 144) hx hb dX5_readLine_122 (by decide) ?_
    cases he
    exact g_vret E hM hret hlk dX5_readLine_144
  rw [if_neg h13] at he
  by_cases h15 : w0 = (7 : Int32)
  · rw [if_pos h15] at he
    refine lv_tableIn (tgt := 125) (off := 101) hx hb dX5_readLine_24 (by rw [h15]; decide) (by rw [h15]; decide) (by rw [h15]; rfl) (by decide) ?_
    refine lv_aload_n hx hb dX5_readLine_125 rfl (lv_at hl 1 rfl) ?_
    obtain ⟨r16, hcr16, he⟩ := g_bind he
    refine g_callV [] (rest := []) E hml hl.1 hM cv_X5_116 (c5_readSeed l D aC B hcr16) (o := 30) (Nat.le_of_ble_eq_true rfl) rfl (by decide) rfl rfl (Nat.le_of_ble_eq_true rfl) dX5_readLine_126 (fun H locs hM => ?_)
    refine W.eq (g2 := F0 m 129 ls []) rfl ?_
    refine lv_goto (tgt := 144) hx hb dX5_readLine_129 (by decide) ?_
    cases he
    exact g_vret E hM hret hlk dX5_readLine_144
  rw [if_neg h15] at he
  by_cases h17 : w0 = (8 : Int32)
  · rw [if_pos h17] at he
    refine lv_tableIn (tgt := 132) (off := 108) hx hb dX5_readLine_24 (by rw [h17]; decide) (by rw [h17]; decide) (by rw [h17]; rfl) (by decide) ?_
    refine lv_aload_n hx hb dX5_readLine_132 rfl (lv_at hl 1 rfl) ?_
    obtain ⟨r18, hcr18, he⟩ := g_bind he
    refine g_callV [] (rest := []) E hml hl.1 hM cv_X5_119 (c5_readLaw l D aC B hcr18) (o := 30) (Nat.le_of_ble_eq_true rfl) rfl (by decide) rfl rfl (Nat.le_of_ble_eq_true rfl) dX5_readLine_133 (fun H locs hM => ?_)
    refine W.eq (g2 := F0 m 136 ls []) rfl ?_
    refine lv_goto (tgt := 144) hx hb dX5_readLine_136 (by decide) ?_
    cases he
    exact g_vret E hM hret hlk dX5_readLine_144
  rw [if_neg h17] at he
  refine lv_tableOut (tgt := 139) hx hb dX5_readLine_24 (by have zh1 := lv_neT (a := 0) h1 rfl; have zh3 := lv_neT (a := 1) h3 rfl; have zh5 := lv_neT (a := 2) h5 rfl; have zh7 := lv_neT (a := 3) h7 rfl; have zh9 := lv_neT (a := 4) h9 rfl; have zh11 := lv_neT (a := 5) h11 rfl; have zh13 := lv_neT (a := 6) h13 rfl; have zh15 := lv_neT (a := 7) h15 rfl; have zh17 := lv_neT (a := 8) h17 rfl; omega) (by decide) ?_
  refine lv_aload_n hx hb dX5_readLine_139 rfl (lv_at hl 1 rfl) ?_
  refine lv_iconst (v := (1 : Int32)) hx hb dX5_readLine_140 rfl ?_
  obtain ⟨r19, hcr19, he⟩ := g_bind he
  refine g_callV [.int (1 : Int32)] (rest := []) E hml hl.1 hM cv_X5_81 (c5_fail l D aC B hcr19) (o := 30) (Nat.le_of_ble_eq_true rfl) rfl (by decide) rfl rfl (Nat.le_of_ble_eq_true rfl) dX5_readLine_141 (fun H locs hM => ?_)
  refine W.eq (g2 := F0 m 144 ls []) rfl ?_
  cases he
  exact g_vret E hM hret hlk dX5_readLine_144

set_option maxHeartbeats 4000000 in
set_option maxRecDepth 100000 in
theorem c5_readLine (l : Launch) (D : va_G) (aC : Nat → ClassId) (B : Nat) {F : Nat} {mem : g_M} {q0 : g_M} (he : f5_readLine F mem = some q0) : g_Met l yX5_readLine cX5_readLine 2 none 6 D aC B yC 69 mem [.ref (B + 30)] none q0 := by
  refine g_ofW (by decide) (Nat.le_of_ble_eq_true rfl) ?_
  intro p e s m args below meth c ls E hml hret hlk hM hl
  have E : g_C p s m args c cX5_readLine RX5 D aC (g_Zs (g_A B 69)) := E
  have hx := E.1
  have hb := E.2.1
  have hown := E.2.2.1
  have hts := E.2.2.2.1
  have hl : lv_has ls 2 [(0, .ref (B + 30))] := hl
  unfold f5_readLine at he
  refine lv_aload_n hx hb dX5_readLine_0 rfl (lv_at hl 0 rfl) ?_
  refine g_getP E hM (o := 30) (Nat.le_of_ble_eq_true rfl) rfl fl_X5_40 (q := 31) rfl dX5_readLine_1 ?_
  refine g_getI E hM (o := 31) (Nat.le_of_ble_eq_true rfl) rfl fl_X5_69 dX5_readLine_4 ?_
  refine lv_iconst (v := (3 : Int32)) hx hb dX5_readLine_7 rfl ?_
  refine lv_icmp_ne (tgt := 21) hx hb dX5_readLine_8 (by decide) (fun h20 => ?_) (fun h20 => ?_)
  · rw [if_neg h20] at he
    refine lv_iconst (v := (-1 : Int32)) hx hb dX5_readLine_21 rfl ?_
    exact w5_readLine_b22 (F := F) E hml hret hlk _ _ _ _ _ hM (lv_sub hl [0] rfl) he
  · rw [if_pos h20] at he
    refine lv_aload_n hx hb dX5_readLine_11 rfl (lv_at hl 0 rfl) ?_
    refine g_getP E hM (o := 30) (Nat.le_of_ble_eq_true rfl) rfl fl_X5_40 (q := 31) rfl dX5_readLine_12 ?_
    refine g_getI E hM (o := 31) (Nat.le_of_ble_eq_true rfl) rfl fl_X5_92 dX5_readLine_15 ?_
    refine lv_goto (tgt := 22) hx hb dX5_readLine_18 (by decide) ?_
    exact w5_readLine_b22 (F := F) E hml hret hlk _ _ _ _ _ hM (lv_sub hl [0] rfl) he

set_option maxHeartbeats 4000000 in
set_option maxRecDepth 100000 in
theorem w5_needSign_b17 (E : g_C p s m args c cX5_needSign RX5 D aC (g_Zs (g_A B 69))) (hml : c.maxLocals = 2) (hret : meth.sig.returnType = none) (hlk : meth.locks = false) {F : Nat} {q0 : g_M} {a1 : Int32} : ∀ (w1 : Int32) (mem : g_M) (H : Heap) (locs : List Loc) (ls : Array Slot), g_At D aC B yC 69 mem s.heap H locs → lv_has ls 2 [(0, .ref (B + 30))] → f5_needSign_b17 F a1 w1 mem = some q0 → W p l e (g_rm 4) s m args below meth c H locs 0 0 (g_MQ below D aC B yC 69 args s none q0) (F0 m 17 ls [.int w1, .ref (B + 30)]) := by
  intro w1 mem H locs ls hM hl he
  unfold f5_needSign_b17 at he
  have hx := E.1
  have hb := E.2.1
  have hown := E.2.2.1
  have hts := E.2.2.2.1
  refine lv_iconst (v := (1 : Int32)) hx hb dX5_needSign_17 rfl ?_
  obtain ⟨r1, hcr1, he⟩ := g_bind he
  refine g_callV [.int w1, .int (1 : Int32)] (rest := []) E hml hl.1 hM cv_X5_88 (c5_failIf l D aC B hcr1) (o := 30) (Nat.le_of_ble_eq_true rfl) rfl (by decide) rfl rfl (Nat.le_of_ble_eq_true rfl) dX5_needSign_18 (fun H locs hM => ?_)
  refine W.eq (g2 := F0 m 21 ls []) rfl ?_
  refine lv_aload_n hx hb dX5_needSign_21 rfl (lv_at hl 0 rfl) ?_
  refine g_getP E hM (o := 30) (Nat.le_of_ble_eq_true rfl) rfl fl_X5_40 (q := 31) rfl dX5_needSign_22 ?_
  obtain ⟨r2, hcr2, he⟩ := g_bind he
  refine g_callV [] (rest := []) E hml hl.1 hM cv_X5_66 (c8_step l D aC B hcr2) (o := 31) (Nat.le_of_ble_eq_true rfl) rfl (by decide) rfl rfl (Nat.le_of_ble_eq_true rfl) dX5_needSign_25 (fun H locs hM => ?_)
  refine W.eq (g2 := F0 m 28 ls []) rfl ?_
  cases he
  exact g_vret E hM hret hlk dX5_needSign_28

set_option maxHeartbeats 4000000 in
set_option maxRecDepth 100000 in
theorem c5_needSign (l : Launch) (D : va_G) (aC : Nat → ClassId) (B : Nat) {F : Nat} {a1 : Int32} {mem : g_M} {q0 : g_M} (he : f5_needSign F a1 mem = some q0) : g_Met l yX5_needSign cX5_needSign 2 none 4 D aC B yC 69 mem [.ref (B + 30), .int a1] none q0 := by
  refine g_ofW (by decide) (Nat.le_of_ble_eq_true rfl) ?_
  intro p e s m args below meth c ls E hml hret hlk hM hl
  have E : g_C p s m args c cX5_needSign RX5 D aC (g_Zs (g_A B 69)) := E
  have hx := E.1
  have hb := E.2.1
  have hown := E.2.2.1
  have hts := E.2.2.2.1
  have hl : lv_has ls 2 [(0, .ref (B + 30)), (1, .int a1)] := hl
  unfold f5_needSign at he
  refine lv_aload_n hx hb dX5_needSign_0 rfl (lv_at hl 0 rfl) ?_
  refine lv_aload_n hx hb dX5_needSign_1 rfl (lv_at hl 0 rfl) ?_
  refine g_getP E hM (o := 30) (Nat.le_of_ble_eq_true rfl) rfl fl_X5_40 (q := 31) rfl dX5_needSign_2 ?_
  refine lv_iload_n hx hb dX5_needSign_5 rfl (lv_at hl 1 rfl) ?_
  obtain ⟨r3, hcr3, he⟩ := g_bind he
  refine g_callV [.int a1] (rest := [.ref (B + 30)]) E hml hl.1 hM cv_X5_84 (c8_isSign l D aC B hcr3) (o := 31) (Nat.le_of_ble_eq_true rfl) rfl (by decide) rfl rfl (Nat.le_of_ble_eq_true rfl) dX5_needSign_6 (fun H locs hM => ?_)
  refine W.eq (g2 := F0 m 9 ls [.int r3, .ref (B + 30)]) rfl ?_
  refine lv_if_ne (tgt := 16) hx hb dX5_needSign_9 (by decide) (fun h4 => ?_) (fun h4 => ?_)
  · rw [if_neg h4] at he
    refine lv_iconst (v := (0 : Int32)) hx hb dX5_needSign_16 rfl ?_
    exact w5_needSign_b17 (F := F) (a1 := a1) E hml hret hlk _ _ _ _ _ hM (lv_sub hl [0] rfl) he
  · rw [if_pos h4] at he
    refine lv_iconst (v := (1 : Int32)) hx hb dX5_needSign_12 rfl ?_
    refine lv_goto (tgt := 17) hx hb dX5_needSign_13 (by decide) ?_
    exact w5_needSign_b17 (F := F) (a1 := a1) E hml hret hlk _ _ _ _ _ hM (lv_sub hl [0] rfl) he

set_option maxHeartbeats 4000000 in
set_option maxRecDepth 100000 in
theorem w5_reads_b107 (E : g_C p s m args c cX5_reads RX5 D aC (g_Zs (g_A B 69))) (hml : c.maxLocals = 4) (hret : meth.sig.returnType = (some .boolean)) (hlk : meth.locks = false) {F : Nat} {q0 : Int32 × g_M} {a1 : Int32} {a2 : Nat} (ha2 : a2 < 69) (hYa2 : yC.1 a2 = (9, 0)) : ∀ (mem : g_M) (H : Heap) (locs : List Loc) (ls : Array Slot), g_At D aC B yC 69 mem s.heap H locs → lv_has ls 4 [(0, .ref (B + 30))] → f5_reads_b107 F a1 a2 mem = some q0 → W p l e (g_rm 7) s m args below meth c H locs 0 0 (g_MQ below D aC B yC 69 args s (some (.int q0.1)) q0.2) (F0 m 107 ls []) := by
  intro mem H locs ls hM hl he
  unfold f5_reads_b107 at he
  have hx := E.1
  have hb := E.2.1
  have hown := E.2.2.1
  have hts := E.2.2.2.1
  refine lv_aload_n hx hb dX5_reads_107 rfl (lv_at hl 0 rfl) ?_
  refine g_getI E hM (o := 30) (Nat.le_of_ble_eq_true rfl) rfl fl_X5_9 dX5_reads_108 ?_
  refine lv_if_ne (tgt := 118) hx hb dX5_reads_111 (by decide) (fun h1 => ?_) (fun h1 => ?_)
  · rw [if_neg h1] at he
    refine lv_iconst (v := (0 : Int32)) hx hb dX5_reads_118 rfl ?_
    cases he
    exact g_zret E hM hret hlk (Or.inl rfl) dX5_reads_119
  · rw [if_pos h1] at he
    refine lv_iconst (v := (1 : Int32)) hx hb dX5_reads_114 rfl ?_
    refine lv_goto (tgt := 119) hx hb dX5_reads_115 (by decide) ?_
    cases he
    exact g_zret E hM hret hlk (Or.inr rfl) dX5_reads_119

set_option maxHeartbeats 4000000 in
set_option maxRecDepth 100000 in
theorem w5_reads_b59_body (E : g_C p s m args c cX5_reads RX5 D aC (g_Zs (g_A B 69))) (hml : c.maxLocals = 4) (hret : meth.sig.returnType = (some .boolean)) (hlk : meth.locks = false) {F : Nat} {q0 : Int32 × g_M} {a1 : Int32} {a2 : Nat} (ha2 : a2 < 69) (hYa2 : yC.1 a2 = (9, 0)) {s59 : Int32 → g_M → Option (Int32 × g_M)} (hs59 : ∀ (v3 : Int32) (mem : g_M) (H : Heap) (locs : List Loc) (ls : Array Slot), g_At D aC B yC 69 mem s.heap H locs → lv_has ls 4 [(0, .ref (B + 30)), (1, .int a1), (3, .int v3)] → s59 v3 mem = some q0 → W p l e (g_rm 7) s m args below meth c H locs 0 0 (g_MQ below D aC B yC 69 args s (some (.int q0.1)) q0.2) (F0 m 59 ls [])) : ∀ (v3 : Int32) (mem : g_M) (H : Heap) (locs : List Loc) (ls : Array Slot), g_At D aC B yC 69 mem s.heap H locs → lv_has ls 4 [(0, .ref (B + 30)), (1, .int a1), (3, .int v3)] → f5_reads_b59_body F a1 a2 s59 v3 mem = some q0 → W p l e (g_rm 7) s m args below meth c H locs 0 0 (g_MQ below D aC B yC 69 args s (some (.int q0.1)) q0.2) (F0 m 59 ls []) := by
  intro v3 mem H locs ls hM hl he
  unfold f5_reads_b59_body at he
  have hx := E.1
  have hb := E.2.1
  have hown := E.2.2.1
  have hts := E.2.2.2.1
  refine lv_iload_n hx hb dX5_reads_59 rfl (lv_at hl 2 rfl) ?_
  refine lv_iload_n hx hb dX5_reads_60 rfl (lv_at hl 1 rfl) ?_
  refine lv_icmp_ge (tgt := 107) hx hb dX5_reads_61 (by decide) (fun h2 => ?_) (fun h2 => ?_)
  · rw [if_neg (Int32.not_lt.mpr h2)] at he
    exact w5_reads_b107 (F := F) (a1 := a1) (a2 := a2) E hml hret hlk ha2 hYa2 _ _ _ _ hM (lv_sub hl [0] rfl) he
  · rw [if_pos (Int32.not_le.mp h2)] at he
    refine lv_aload_n hx hb dX5_reads_64 rfl (lv_at hl 0 rfl) ?_
    refine g_getP E hM (o := 30) (Nat.le_of_ble_eq_true rfl) rfl fl_X5_40 (q := 31) rfl dX5_reads_65 ?_
    refine g_getI E hM (o := 31) (Nat.le_of_ble_eq_true rfl) rfl fl_X5_69 dX5_reads_68 ?_
    refine lv_if_eq (tgt := 107) hx hb dX5_reads_71 (by decide) (fun h3 => ?_) (fun h3 => ?_)
    · rw [if_pos h3] at he
      exact w5_reads_b107 (F := F) (a1 := a1) (a2 := a2) E hml hret hlk ha2 hYa2 _ _ _ _ hM (lv_sub hl [0] rfl) he
    · rw [if_neg h3] at he
      refine lv_aload_n hx hb dX5_reads_74 rfl (lv_at hl 0 rfl) ?_
      refine g_getI E hM (o := 30) (Nat.le_of_ble_eq_true rfl) rfl fl_X5_9 dX5_reads_75 ?_
      refine lv_if_ne (tgt := 107) hx hb dX5_reads_78 (by decide) (fun h4 => ?_) (fun h4 => ?_)
      · rw [if_neg h4] at he
        exact w5_reads_b107 (F := F) (a1 := a1) (a2 := a2) E hml hret hlk ha2 hYa2 _ _ _ _ hM (lv_sub hl [0] rfl) he
      · rw [if_pos h4] at he
        refine lv_aload_n hx hb dX5_reads_81 rfl (lv_at hl 0 rfl) ?_
        obtain ⟨r5, hcr5, he⟩ := g_bind he
        refine g_callV [] (rest := []) E hml hl.1 hM cv_X5_72 (c5_readLine l D aC B hcr5) (o := 30) (Nat.le_of_ble_eq_true rfl) rfl (by decide) rfl rfl (Nat.le_of_ble_eq_true rfl) dX5_reads_82 (fun H locs hM => ?_)
        refine W.eq (g2 := F0 m 85 ls []) rfl ?_
        refine lv_aload_n hx hb dX5_reads_85 rfl (lv_at hl 0 rfl) ?_
        refine lv_bipush (v := (15 : Int32)) hx hb dX5_reads_86 rfl ?_
        obtain ⟨r6, hcr6, he⟩ := g_bind he
        refine g_callV [.int (15 : Int32)] (rest := []) E hml hl.1 hM cv_X5_75 (c5_needSign l D aC B hcr6) (o := 30) (Nat.le_of_ble_eq_true rfl) rfl (by decide) rfl rfl (Nat.le_of_ble_eq_true rfl) dX5_reads_88 (fun H locs hM => ?_)
        refine W.eq (g2 := F0 m 91 ls []) rfl ?_
        refine lv_aload_n hx hb dX5_reads_91 rfl (lv_at hl 0 rfl) ?_
        refine lv_dup hx hb dX5_reads_92 rfl ?_
        refine g_getI E hM (o := 30) (Nat.le_of_ble_eq_true rfl) rfl fl_X5_18 dX5_reads_93 ?_
        refine lv_iconst (v := (1 : Int32)) hx hb dX5_reads_96 rfl ?_
        refine lv_iadd hx hb dX5_reads_97 ?_
        refine g_putI E hM (o := 30) (Nat.le_of_ble_eq_true rfl) rfl fp_X5_18 dX5_reads_98 (fun H locs hM => ?_)
        obtain ⟨m7, hm7, he⟩ := g_let_ex he
        rw [← hm7] at hM
        obtain ⟨x8, hx8, he⟩ := g_let_ex he
        refine lv_iinc (v := x8) (lv' := [(3, .int x8), (0, .ref (B + 30)), (1, .int a1)]) hx hb dX5_reads_101 hl (k := 2) rfl (by rw [hx8]; rfl) (by decide) rfl (fun ls hl => ?_)
        refine lv_goto (tgt := 59) hx hb dX5_reads_104 (by decide) ?_
        exact hs59 _ _ _ _ _ hM (lv_sub hl [1, 2, 0] rfl) he

set_option maxHeartbeats 4000000 in
set_option maxRecDepth 100000 in
theorem w5_reads_b59 (E : g_C p s m args c cX5_reads RX5 D aC (g_Zs (g_A B 69))) (hml : c.maxLocals = 4) (hret : meth.sig.returnType = (some .boolean)) (hlk : meth.locks = false) {F : Nat} {q0 : Int32 × g_M} {a1 : Int32} {a2 : Nat} (ha2 : a2 < 69) (hYa2 : yC.1 a2 = (9, 0)) : ∀ (v3 : Int32) (mem : g_M) (H : Heap) (locs : List Loc) (ls : Array Slot), g_At D aC B yC 69 mem s.heap H locs → lv_has ls 4 [(0, .ref (B + 30)), (1, .int a1), (3, .int v3)] → f5_reads_b59 F a1 a2 v3 mem = some q0 → W p l e (g_rm 7) s m args below meth c H locs 0 0 (g_MQ below D aC B yC 69 args s (some (.int q0.1)) q0.2) (F0 m 59 ls []) := by
  have key : ∀ (nn : Nat) (x : Int32 × g_M) (H : Heap) (locs : List Loc) (ls : Array Slot), g_At D aC B yC 69 x.2 s.heap H locs → lv_has ls 4 [(0, .ref (B + 30)), (1, .int a1), (3, .int x.1)] → g_fix (fun sf x => f5_reads_b59_body F a1 a2 (fun v3 mem => sf (v3, mem)) x.1 x.2) nn x = some q0 → W p l e (g_rm 7) s m args below meth c H locs 0 0 (g_MQ below D aC B yC 69 args s (some (.int q0.1)) q0.2) (F0 m 59 ls []) := by
    intro nn
    induction nn with
    | zero => intro x H locs ls hM hl he; simp [g_fix] at he
    | succ nn ih =>
      intro x H locs ls hM hl he
      exact w5_reads_b59_body (F := F) (a1 := a1) (a2 := a2) E hml hret hlk ha2 hYa2 (fun v3 mem H locs ls hM hl he => ih (v3, mem) H locs ls hM hl he) x.1 x.2 H locs ls hM hl he
  intro v3 mem H locs ls hM hl he
  exact key F (v3, mem) H locs ls hM hl he

set_option maxHeartbeats 4000000 in
set_option maxRecDepth 100000 in
theorem c5_reads (l : Launch) (D : va_G) (aC : Nat → ClassId) (B : Nat) {F : Nat} {a1 : Int32} {a2 : Nat} (ha2 : a2 < 69) (hYa2 : yC.1 a2 = (9, 0)) {mem : g_M} {q0 : Int32 × g_M} (he : f5_reads F a1 a2 mem = some q0) : g_Met l yX5_reads cX5_reads 4 (some .boolean) 7 D aC B yC 69 mem [.ref (B + 30), .int a1, .ref (B + a2)] (some (.int q0.1)) q0.2 := by
  refine g_ofW (by decide) (Nat.le_of_ble_eq_true rfl) ?_
  intro p e s m args below meth c ls E hml hret hlk hM hl
  have E : g_C p s m args c cX5_reads RX5 D aC (g_Zs (g_A B 69)) := E
  have hx := E.1
  have hb := E.2.1
  have hown := E.2.2.1
  have hts := E.2.2.2.1
  have hl : lv_has ls 4 [(0, .ref (B + 30)), (1, .int a1), (2, .ref (B + a2))] := hl
  unfold f5_reads at he
  refine lv_aload_n hx hb dX5_reads_0 rfl (lv_at hl 0 rfl) ?_
  refine lv_aload_n hx hb dX5_reads_1 rfl (lv_at hl 2 rfl) ?_
  refine g_putR E hM (o := 30) (Nat.le_of_ble_eq_true rfl) rfl fp_X5_31 rfl dX5_reads_2 (fun H locs hM => ?_)
  obtain ⟨m9, hm9, he⟩ := g_let_ex he
  rw [← hm9] at hM
  refine lv_aload_n hx hb dX5_reads_5 rfl (lv_at hl 0 rfl) ?_
  obtain ⟨q10, hqq10, hq10, hYq10, he⟩ := g_dr_some he
  refine g_getD E hM (o := 30) (Nat.le_of_ble_eq_true rfl) rfl fl_X5_31 rfl hqq10 dX5_reads_6 ?_
  obtain ⟨r11, hcr11, he⟩ := g_bind he
  refine g_callV [] (rest := []) E hml hl.1 hM cv_X5_59 (c9_clear l D aC B hq10 hYq10 hcr11) (o := q10) hq10 hYq10 (by decide) rfl rfl (Nat.le_of_ble_eq_true rfl) dX5_reads_9 (fun H locs hM => ?_)
  refine W.eq (g2 := F0 m 12 ls []) rfl ?_
  refine lv_aload_n hx hb dX5_reads_12 rfl (lv_at hl 0 rfl) ?_
  refine lv_iconst (v := (0 : Int32)) hx hb dX5_reads_13 rfl ?_
  refine g_putI E hM (o := 30) (Nat.le_of_ble_eq_true rfl) rfl fp_X5_9 dX5_reads_14 (fun H locs hM => ?_)
  obtain ⟨m12, hm12, he⟩ := g_let_ex he
  rw [← hm12] at hM
  refine lv_aload_n hx hb dX5_reads_17 rfl (lv_at hl 0 rfl) ?_
  refine lv_iconst (v := (-1 : Int32)) hx hb dX5_reads_18 rfl ?_
  refine g_putI E hM (o := 30) (Nat.le_of_ble_eq_true rfl) rfl fp_X5_15 dX5_reads_19 (fun H locs hM => ?_)
  obtain ⟨m13, hm13, he⟩ := g_let_ex he
  rw [← hm13] at hM
  refine lv_aload_n hx hb dX5_reads_22 rfl (lv_at hl 0 rfl) ?_
  refine lv_iconst (v := (0 : Int32)) hx hb dX5_reads_23 rfl ?_
  refine g_putI E hM (o := 30) (Nat.le_of_ble_eq_true rfl) rfl fp_X5_18 dX5_reads_24 (fun H locs hM => ?_)
  obtain ⟨m14, hm14, he⟩ := g_let_ex he
  rw [← hm14] at hM
  refine lv_aload_n hx hb dX5_reads_27 rfl (lv_at hl 0 rfl) ?_
  refine lv_iconst (v := (0 : Int32)) hx hb dX5_reads_28 rfl ?_
  refine g_putZ E hM (o := 30) (Nat.le_of_ble_eq_true rfl) rfl fp_X5_21 (Or.inl rfl) dX5_reads_29 (fun H locs hM => ?_)
  obtain ⟨m15, hm15, he⟩ := g_let_ex he
  rw [← hm15] at hM
  refine lv_aload_n hx hb dX5_reads_32 rfl (lv_at hl 0 rfl) ?_
  refine lv_iconst (v := (0 : Int32)) hx hb dX5_reads_33 rfl ?_
  refine g_putZ E hM (o := 30) (Nat.le_of_ble_eq_true rfl) rfl fp_X5_25 (Or.inl rfl) dX5_reads_34 (fun H locs hM => ?_)
  obtain ⟨m16, hm16, he⟩ := g_let_ex he
  rw [← hm16] at hM
  refine lv_aload_n hx hb dX5_reads_37 rfl (lv_at hl 0 rfl) ?_
  refine lv_iconst (v := (0 : Int32)) hx hb dX5_reads_38 rfl ?_
  refine g_putZ E hM (o := 30) (Nat.le_of_ble_eq_true rfl) rfl fp_X5_28 (Or.inl rfl) dX5_reads_39 (fun H locs hM => ?_)
  obtain ⟨m17, hm17, he⟩ := g_let_ex he
  rw [← hm17] at hM
  refine lv_aload_n hx hb dX5_reads_42 rfl (lv_at hl 0 rfl) ?_
  refine g_getP E hM (o := 30) (Nat.le_of_ble_eq_true rfl) rfl fl_X5_40 (q := 31) rfl dX5_reads_43 ?_
  refine lv_iload_n hx hb dX5_reads_46 rfl (lv_at hl 1 rfl) ?_
  obtain ⟨r18, hcr18, he⟩ := g_bind he
  refine g_callV [.int a1] (rest := []) E hml hl.1 hM cv_X5_62 (c8_begin l D aC B hcr18) (o := 31) (Nat.le_of_ble_eq_true rfl) rfl (by decide) rfl rfl (Nat.le_of_ble_eq_true rfl) dX5_reads_47 (fun H locs hM => ?_)
  refine W.eq (g2 := F0 m 50 ls []) rfl ?_
  refine lv_aload_n hx hb dX5_reads_50 rfl (lv_at hl 0 rfl) ?_
  refine g_getP E hM (o := 30) (Nat.le_of_ble_eq_true rfl) rfl fl_X5_40 (q := 31) rfl dX5_reads_51 ?_
  obtain ⟨r19, hcr19, he⟩ := g_bind he
  refine g_callV [] (rest := []) E hml hl.1 hM cv_X5_66 (c8_step l D aC B hcr19) (o := 31) (Nat.le_of_ble_eq_true rfl) rfl (by decide) rfl rfl (Nat.le_of_ble_eq_true rfl) dX5_reads_54 (fun H locs hM => ?_)
  refine W.eq (g2 := F0 m 57 ls []) rfl ?_
  refine lv_iconst (v := (0 : Int32)) hx hb dX5_reads_57 rfl ?_
  refine lv_istore_n (lv' := [(3, .int (0 : Int32)), (0, .ref (B + 30)), (1, .int a1), (2, .ref (B + a2))]) hx hb dX5_reads_58 rfl hl (by decide) rfl (fun ls hl => ?_)
  exact w5_reads_b59 (F := F) (a1 := a1) (a2 := a2) E hml hret hlk ha2 hYa2 _ _ _ _ _ hM (lv_sub hl [1, 2, 0] rfl) he

set_option maxHeartbeats 4000000 in
set_option maxRecDepth 100000 in
theorem c6_clear (l : Launch) (D : va_G) (aC : Nat → ClassId) (B : Nat) {F : Nat} {mem : g_M} {q0 : g_M} (he : f6_clear F mem = some q0) : g_Met l yX6_clear cX6_clear 1 none 1 D aC B yC 69 mem [.ref (B + 60)] none q0 := by
  refine g_ofW (by decide) (Nat.le_of_ble_eq_true rfl) ?_
  intro p e s m args below meth c ls E hml hret hlk hM hl
  have E : g_C p s m args c cX6_clear RX6 D aC (g_Zs (g_A B 69)) := E
  have hx := E.1
  have hb := E.2.1
  have hown := E.2.2.1
  have hts := E.2.2.2.1
  have hl : lv_has ls 1 [(0, .ref (B + 60))] := hl
  unfold f6_clear at he
  refine lv_aload_n hx hb dX6_clear_0 rfl (lv_at hl 0 rfl) ?_
  refine lv_iconst (v := (0 : Int32)) hx hb dX6_clear_1 rfl ?_
  refine g_putI E hM (o := 60) (Nat.le_of_ble_eq_true rfl) rfl fp_X6_9 dX6_clear_2 (fun H locs hM => ?_)
  obtain ⟨m1, hm1, he⟩ := g_let_ex he
  rw [← hm1] at hM
  refine lv_aload_n hx hb dX6_clear_5 rfl (lv_at hl 0 rfl) ?_
  refine lv_iconst (v := (-1 : Int32)) hx hb dX6_clear_6 rfl ?_
  refine g_putI E hM (o := 60) (Nat.le_of_ble_eq_true rfl) rfl fp_X6_15 dX6_clear_7 (fun H locs hM => ?_)
  obtain ⟨m2, hm2, he⟩ := g_let_ex he
  rw [← hm2] at hM
  cases he
  exact g_vret E hM hret hlk dX6_clear_10

set_option maxHeartbeats 4000000 in
set_option maxRecDepth 100000 in
theorem c6_limit (l : Launch) (D : va_G) (aC : Nat → ClassId) (B : Nat) {F : Nat} {mem : g_M} {q0 : Int32} (he : f6_limit F mem = some q0) : g_Met l yX6_limit cX6_limit 1 (some .int) 1 D aC B yC 69 mem [.ref (B + 60)] (some (.int q0)) mem := by
  refine g_ofW (by decide) (Nat.le_of_ble_eq_true rfl) ?_
  intro p e s m args below meth c ls E hml hret hlk hM hl
  have E : g_C p s m args c cX6_limit RX6 D aC (g_Zs (g_A B 69)) := E
  have hx := E.1
  have hb := E.2.1
  have hown := E.2.2.1
  have hts := E.2.2.2.1
  have hl : lv_has ls 1 [(0, .ref (B + 60))] := hl
  unfold f6_limit at he
  refine lv_aload_n hx hb dX6_limit_0 rfl (lv_at hl 0 rfl) ?_
  refine g_getI E hM (o := 60) (Nat.le_of_ble_eq_true rfl) rfl fl_X6_15 dX6_limit_1 ?_
  refine lv_iconst (v := (-1 : Int32)) hx hb dX6_limit_4 rfl ?_
  refine lv_icmp_ne (tgt := 15) hx hb dX6_limit_5 (by decide) (fun h1 => ?_) (fun h1 => ?_)
  · rw [if_neg h1] at he
    refine lv_aload_n hx hb dX6_limit_15 rfl (lv_at hl 0 rfl) ?_
    refine g_getI E hM (o := 60) (Nat.le_of_ble_eq_true rfl) rfl fl_X6_15 dX6_limit_16 ?_
    cases he
    exact g_iret E hM hret hlk dX6_limit_19
  · rw [if_pos h1] at he
    refine lv_aload_n hx hb dX6_limit_8 rfl (lv_at hl 0 rfl) ?_
    refine g_getI E hM (o := 60) (Nat.le_of_ble_eq_true rfl) rfl fl_X6_9 dX6_limit_9 ?_
    refine lv_goto (tgt := 19) hx hb dX6_limit_12 (by decide) ?_
    cases he
    exact g_iret E hM hret hlk dX6_limit_19

set_option maxHeartbeats 4000000 in
set_option maxRecDepth 100000 in
theorem c6_put (l : Launch) (D : va_G) (aC : Nat → ClassId) (B : Nat) {F : Nat} {a1 : Int32} {a2 : Int32} {a3 : Int32} {a4 : Int32} {mem : g_M} {q0 : Int32 × g_M} (he : f6_put F a1 a2 a3 a4 mem = some q0) : g_Met l yX6_put cX6_put 5 (some .int) 1 D aC B yC 69 mem [.ref (B + 60), .int a1, .int a2, .int a3, .int a4] (some (.int q0.1)) q0.2 := by
  refine g_ofW (by decide) (Nat.le_of_ble_eq_true rfl) ?_
  intro p e s m args below meth c ls E hml hret hlk hM hl
  have E : g_C p s m args c cX6_put RX6 D aC (g_Zs (g_A B 69)) := E
  have hx := E.1
  have hb := E.2.1
  have hown := E.2.2.1
  have hts := E.2.2.2.1
  have hl : lv_has ls 5 [(0, .ref (B + 60)), (1, .int a1), (2, .int a2), (3, .int a3), (4, .int a4)] := hl
  unfold f6_put at he
  refine lv_aload_n hx hb dX6_put_0 rfl (lv_at hl 0 rfl) ?_
  refine g_getP E hM (o := 60) (Nat.le_of_ble_eq_true rfl) rfl fl_X6_18 (q := 61) rfl dX6_put_1 ?_
  refine lv_aload_n hx hb dX6_put_4 rfl (lv_at hl 0 rfl) ?_
  refine g_getI E hM (o := 60) (Nat.le_of_ble_eq_true rfl) rfl fl_X6_9 dX6_put_5 ?_
  refine lv_iload_n hx hb dX6_put_8 rfl (lv_at hl 1 rfl) ?_
  obtain ⟨h1, he⟩ := g_ck_some he
  refine g_iast E hM (o := 61) (Nat.le_of_ble_eq_true rfl) rfl h1 dX6_put_9 (fun H locs hM => ?_)
  obtain ⟨m2, hm2, he⟩ := g_let_ex he
  rw [← hm2] at hM
  refine lv_aload_n hx hb dX6_put_10 rfl (lv_at hl 0 rfl) ?_
  refine g_getP E hM (o := 60) (Nat.le_of_ble_eq_true rfl) rfl fl_X6_22 (q := 62) rfl dX6_put_11 ?_
  refine lv_aload_n hx hb dX6_put_14 rfl (lv_at hl 0 rfl) ?_
  refine g_getI E hM (o := 60) (Nat.le_of_ble_eq_true rfl) rfl fl_X6_9 dX6_put_15 ?_
  refine lv_iload_n hx hb dX6_put_18 rfl (lv_at hl 2 rfl) ?_
  obtain ⟨h3, he⟩ := g_ck_some he
  refine g_iast E hM (o := 62) (Nat.le_of_ble_eq_true rfl) rfl h3 dX6_put_19 (fun H locs hM => ?_)
  obtain ⟨m4, hm4, he⟩ := g_let_ex he
  rw [← hm4] at hM
  refine lv_aload_n hx hb dX6_put_20 rfl (lv_at hl 0 rfl) ?_
  refine g_getP E hM (o := 60) (Nat.le_of_ble_eq_true rfl) rfl fl_X6_25 (q := 63) rfl dX6_put_21 ?_
  refine lv_aload_n hx hb dX6_put_24 rfl (lv_at hl 0 rfl) ?_
  refine g_getI E hM (o := 60) (Nat.le_of_ble_eq_true rfl) rfl fl_X6_9 dX6_put_25 ?_
  refine lv_iload_n hx hb dX6_put_28 rfl (lv_at hl 3 rfl) ?_
  obtain ⟨h5, he⟩ := g_ck_some he
  refine g_iast E hM (o := 63) (Nat.le_of_ble_eq_true rfl) rfl h5 dX6_put_29 (fun H locs hM => ?_)
  obtain ⟨m6, hm6, he⟩ := g_let_ex he
  rw [← hm6] at hM
  refine lv_aload_n hx hb dX6_put_30 rfl (lv_at hl 0 rfl) ?_
  refine g_getP E hM (o := 60) (Nat.le_of_ble_eq_true rfl) rfl fl_X6_28 (q := 64) rfl dX6_put_31 ?_
  refine lv_aload_n hx hb dX6_put_34 rfl (lv_at hl 0 rfl) ?_
  refine g_getI E hM (o := 60) (Nat.le_of_ble_eq_true rfl) rfl fl_X6_9 dX6_put_35 ?_
  refine lv_iload hx hb dX6_put_38 (lv_at hl 4 rfl) ?_
  obtain ⟨h7, he⟩ := g_ck_some he
  obtain ⟨h8, he⟩ := g_fl_some he
  refine g_zast E hM (o := 64) (Nat.le_of_ble_eq_true rfl) rfl h7 h8 dX6_put_40 (fun H locs hM => ?_)
  obtain ⟨m9, hm9, he⟩ := g_let_ex he
  rw [← hm9] at hM
  refine lv_aload_n hx hb dX6_put_41 rfl (lv_at hl 0 rfl) ?_
  refine g_getP E hM (o := 60) (Nat.le_of_ble_eq_true rfl) rfl fl_X6_32 (q := 65) rfl dX6_put_42 ?_
  refine lv_aload_n hx hb dX6_put_45 rfl (lv_at hl 0 rfl) ?_
  refine g_getI E hM (o := 60) (Nat.le_of_ble_eq_true rfl) rfl fl_X6_9 dX6_put_46 ?_
  refine lv_iconst (v := (-1 : Int32)) hx hb dX6_put_49 rfl ?_
  obtain ⟨h10, he⟩ := g_ck_some he
  refine g_iast E hM (o := 65) (Nat.le_of_ble_eq_true rfl) rfl h10 dX6_put_50 (fun H locs hM => ?_)
  obtain ⟨m11, hm11, he⟩ := g_let_ex he
  rw [← hm11] at hM
  refine lv_aload_n hx hb dX6_put_51 rfl (lv_at hl 0 rfl) ?_
  refine lv_dup hx hb dX6_put_52 rfl ?_
  refine g_getI E hM (o := 60) (Nat.le_of_ble_eq_true rfl) rfl fl_X6_9 dX6_put_53 ?_
  refine lv_iconst (v := (1 : Int32)) hx hb dX6_put_56 rfl ?_
  refine lv_iadd hx hb dX6_put_57 ?_
  refine g_putI E hM (o := 60) (Nat.le_of_ble_eq_true rfl) rfl fp_X6_9 dX6_put_58 (fun H locs hM => ?_)
  obtain ⟨m12, hm12, he⟩ := g_let_ex he
  rw [← hm12] at hM
  refine lv_aload_n hx hb dX6_put_61 rfl (lv_at hl 0 rfl) ?_
  refine g_getI E hM (o := 60) (Nat.le_of_ble_eq_true rfl) rfl fl_X6_9 dX6_put_62 ?_
  refine lv_iconst (v := (1 : Int32)) hx hb dX6_put_65 rfl ?_
  refine lv_isub hx hb dX6_put_66 ?_
  cases he
  exact g_iret E hM hret hlk dX6_put_67

set_option maxHeartbeats 4000000 in
set_option maxRecDepth 100000 in
theorem c6_putStrike (l : Launch) (D : va_G) (aC : Nat → ClassId) (B : Nat) {F : Nat} {a1 : Int32} {mem : g_M} {q0 : Int32 × g_M} (he : f6_putStrike F a1 mem = some q0) : g_Met l yX6_putStrike cX6_putStrike 3 (some .int) 2 D aC B yC 69 mem [.ref (B + 60), .int a1] (some (.int q0.1)) q0.2 := by
  refine g_ofW (by decide) (Nat.le_of_ble_eq_true rfl) ?_
  intro p e s m args below meth c ls E hml hret hlk hM hl
  have E : g_C p s m args c cX6_putStrike RX6 D aC (g_Zs (g_A B 69)) := E
  have hx := E.1
  have hb := E.2.1
  have hown := E.2.2.1
  have hts := E.2.2.2.1
  have hl : lv_has ls 3 [(0, .ref (B + 60)), (1, .int a1)] := hl
  unfold f6_putStrike at he
  refine lv_aload_n hx hb dX6_putStrike_0 rfl (lv_at hl 0 rfl) ?_
  refine lv_iconst (v := (0 : Int32)) hx hb dX6_putStrike_1 rfl ?_
  refine lv_iconst (v := (0 : Int32)) hx hb dX6_putStrike_2 rfl ?_
  refine lv_iconst (v := (0 : Int32)) hx hb dX6_putStrike_3 rfl ?_
  refine lv_iconst (v := (0 : Int32)) hx hb dX6_putStrike_4 rfl ?_
  obtain ⟨r1, hcr1, he⟩ := g_bind he
  refine g_callV [.int (0 : Int32), .int (0 : Int32), .int (0 : Int32), .int (0 : Int32)] (rest := []) E hml hl.1 hM cv_X6_38 (c6_put l D aC B hcr1) (o := 60) (Nat.le_of_ble_eq_true rfl) rfl (by decide) rfl rfl (Nat.le_of_ble_eq_true rfl) dX6_putStrike_5 (fun H locs hM => ?_)
  refine W.eq (g2 := F0 m 8 ls [.int r1.1]) rfl ?_
  obtain ⟨x2, hx2, he⟩ := g_let_ex he
  refine g_topI hx2 ?_
  refine lv_istore_n (lv' := [(2, .int x2), (0, .ref (B + 60)), (1, .int a1)]) hx hb dX6_putStrike_8 rfl hl (by decide) rfl (fun ls hl => ?_)
  refine lv_aload_n hx hb dX6_putStrike_9 rfl (lv_at hl 1 rfl) ?_
  refine g_getP E hM (o := 60) (Nat.le_of_ble_eq_true rfl) rfl fl_X6_32 (q := 65) rfl dX6_putStrike_10 ?_
  refine lv_iload_n hx hb dX6_putStrike_13 rfl (lv_at hl 0 rfl) ?_
  refine lv_iload_n hx hb dX6_putStrike_14 rfl (lv_at hl 2 rfl) ?_
  obtain ⟨h3, he⟩ := g_ck_some he
  refine g_iast E hM (o := 65) (Nat.le_of_ble_eq_true rfl) rfl h3 dX6_putStrike_15 (fun H locs hM => ?_)
  obtain ⟨m4, hm4, he⟩ := g_let_ex he
  rw [← hm4] at hM
  refine lv_iload_n hx hb dX6_putStrike_16 rfl (lv_at hl 0 rfl) ?_
  cases he
  exact g_iret E hM hret hlk dX6_putStrike_17

set_option maxHeartbeats 4000000 in
set_option maxRecDepth 100000 in
theorem w6_weigh_b90 (E : g_C p s m args c cX6_weigh RX6 D aC (g_Zs (g_A B 69))) (hml : c.maxLocals = 3) (hret : meth.sig.returnType = (some .int)) (hlk : meth.locks = false) {F : Nat} {q0 : Int32 × g_M} {s32 : Int32 → Int32 → g_M → Option (Int32 × g_M)} (hs32 : ∀ (v1 : Int32) (v2 : Int32) (mem : g_M) (H : Heap) (locs : List Loc) (ls : Array Slot), g_At D aC B yC 69 mem s.heap H locs → lv_has ls 3 [(0, .ref (B + 60)), (1, .int v1), (2, .int v2)] → s32 v1 v2 mem = some q0 → W p l e (g_rm 2) s m args below meth c H locs 0 0 (g_MQ below D aC B yC 69 args s (some (.int q0.1)) q0.2) (F0 m 32 ls [])) : ∀ (v1 : Int32) (v2 : Int32) (mem : g_M) (H : Heap) (locs : List Loc) (ls : Array Slot), g_At D aC B yC 69 mem s.heap H locs → lv_has ls 3 [(0, .ref (B + 60)), (1, .int v1), (2, .int v2)] → f6_weigh_b90 F s32 v1 v2 mem = some q0 → W p l e (g_rm 2) s m args below meth c H locs 0 0 (g_MQ below D aC B yC 69 args s (some (.int q0.1)) q0.2) (F0 m 90 ls []) := by
  intro v1 v2 mem H locs ls hM hl he
  unfold f6_weigh_b90 at he
  have hx := E.1
  have hb := E.2.1
  have hown := E.2.2.1
  have hts := E.2.2.2.1
  obtain ⟨x1, hx1, he⟩ := g_let_ex he
  refine lv_iinc (v := x1) (lv' := [(2, .int x1), (0, .ref (B + 60)), (1, .int v1)]) hx hb dX6_weigh_90 hl (k := 2) rfl (by rw [hx1]; rfl) (by decide) rfl (fun ls hl => ?_)
  refine lv_goto (tgt := 32) hx hb dX6_weigh_93 (by decide) ?_
  exact hs32 _ _ _ _ _ _ hM (lv_sub hl [1, 2, 0] rfl) he

set_option maxHeartbeats 4000000 in
set_option maxRecDepth 100000 in
theorem w6_weigh_b70 (E : g_C p s m args c cX6_weigh RX6 D aC (g_Zs (g_A B 69))) (hml : c.maxLocals = 3) (hret : meth.sig.returnType = (some .int)) (hlk : meth.locks = false) {F : Nat} {q0 : Int32 × g_M} {s32 : Int32 → Int32 → g_M → Option (Int32 × g_M)} (hs32 : ∀ (v1 : Int32) (v2 : Int32) (mem : g_M) (H : Heap) (locs : List Loc) (ls : Array Slot), g_At D aC B yC 69 mem s.heap H locs → lv_has ls 3 [(0, .ref (B + 60)), (1, .int v1), (2, .int v2)] → s32 v1 v2 mem = some q0 → W p l e (g_rm 2) s m args below meth c H locs 0 0 (g_MQ below D aC B yC 69 args s (some (.int q0.1)) q0.2) (F0 m 32 ls [])) : ∀ (v1 : Int32) (v2 : Int32) (mem : g_M) (H : Heap) (locs : List Loc) (ls : Array Slot), g_At D aC B yC 69 mem s.heap H locs → lv_has ls 3 [(0, .ref (B + 60)), (1, .int v1), (2, .int v2)] → f6_weigh_b70 F s32 v1 v2 mem = some q0 → W p l e (g_rm 2) s m args below meth c H locs 0 0 (g_MQ below D aC B yC 69 args s (some (.int q0.1)) q0.2) (F0 m 70 ls []) := by
  intro v1 v2 mem H locs ls hM hl he
  unfold f6_weigh_b70 at he
  have hx := E.1
  have hb := E.2.1
  have hown := E.2.2.1
  have hts := E.2.2.2.1
  refine lv_aload_n hx hb dX6_weigh_70 rfl (lv_at hl 0 rfl) ?_
  refine g_getP E hM (o := 60) (Nat.le_of_ble_eq_true rfl) rfl fl_X6_35 (q := 66) rfl dX6_weigh_71 ?_
  refine lv_iload_n hx hb dX6_weigh_74 rfl (lv_at hl 2 rfl) ?_
  obtain ⟨h2, he⟩ := g_ck_some he
  refine g_zald E hM (o := 66) (Nat.le_of_ble_eq_true rfl) rfl h2 dX6_weigh_75 ?_
  refine lv_if_ne (tgt := 90) hx hb dX6_weigh_76 (by decide) (fun h3 => ?_) (fun h3 => ?_)
  · rw [if_neg h3] at he
    exact w6_weigh_b90 (F := F) E hml hret hlk hs32 _ _ _ _ _ _ hM (lv_sub hl [0, 1, 2] rfl) he
  · rw [if_pos h3] at he
    refine lv_iload_n hx hb dX6_weigh_79 rfl (lv_at hl 1 rfl) ?_
    refine lv_aload_n hx hb dX6_weigh_80 rfl (lv_at hl 0 rfl) ?_
    refine g_getP E hM (o := 60) (Nat.le_of_ble_eq_true rfl) rfl fl_X6_18 (q := 61) rfl dX6_weigh_81 ?_
    refine lv_iload_n hx hb dX6_weigh_84 rfl (lv_at hl 2 rfl) ?_
    obtain ⟨h4, he⟩ := g_ck_some he
    refine g_iald E hM (o := 61) (Nat.le_of_ble_eq_true rfl) rfl h4 dX6_weigh_85 ?_
    refine va_mmax hx hb (hml.trans hl.1.symm) hown (hts _ mm_X6_46) (hts _ km_max.1) (hts _ ki_Math) (hts _ km_max.2) (Nat.le_of_ble_eq_true rfl) (Nat.le_of_ble_eq_true rfl) (Nat.zero_le _) (Nat.zero_le _) dX6_weigh_86 ?_
    obtain ⟨x5, hx5, he⟩ := g_let_ex he
    refine g_topI hx5 ?_
    refine lv_istore_n (lv' := [(1, .int x5), (0, .ref (B + 60)), (2, .int v2)]) hx hb dX6_weigh_89 rfl hl (by decide) rfl (fun ls hl => ?_)
    exact w6_weigh_b90 (F := F) E hml hret hlk hs32 _ _ _ _ _ _ hM (lv_sub hl [1, 0, 2] rfl) he

set_option maxHeartbeats 4000000 in
set_option maxRecDepth 100000 in
theorem w6_weigh_b32_body (E : g_C p s m args c cX6_weigh RX6 D aC (g_Zs (g_A B 69))) (hml : c.maxLocals = 3) (hret : meth.sig.returnType = (some .int)) (hlk : meth.locks = false) {F : Nat} {q0 : Int32 × g_M} {s32 : Int32 → Int32 → g_M → Option (Int32 × g_M)} (hs32 : ∀ (v1 : Int32) (v2 : Int32) (mem : g_M) (H : Heap) (locs : List Loc) (ls : Array Slot), g_At D aC B yC 69 mem s.heap H locs → lv_has ls 3 [(0, .ref (B + 60)), (1, .int v1), (2, .int v2)] → s32 v1 v2 mem = some q0 → W p l e (g_rm 2) s m args below meth c H locs 0 0 (g_MQ below D aC B yC 69 args s (some (.int q0.1)) q0.2) (F0 m 32 ls [])) : ∀ (v1 : Int32) (v2 : Int32) (mem : g_M) (H : Heap) (locs : List Loc) (ls : Array Slot), g_At D aC B yC 69 mem s.heap H locs → lv_has ls 3 [(0, .ref (B + 60)), (1, .int v1), (2, .int v2)] → f6_weigh_b32_body F s32 v1 v2 mem = some q0 → W p l e (g_rm 2) s m args below meth c H locs 0 0 (g_MQ below D aC B yC 69 args s (some (.int q0.1)) q0.2) (F0 m 32 ls []) := by
  intro v1 v2 mem H locs ls hM hl he
  unfold f6_weigh_b32_body at he
  have hx := E.1
  have hb := E.2.1
  have hown := E.2.2.1
  have hts := E.2.2.2.1
  refine lv_iload_n hx hb dX6_weigh_32 rfl (lv_at hl 2 rfl) ?_
  refine lv_if_lt (tgt := 96) hx hb dX6_weigh_33 (by decide) (fun h6 => ?_) (fun h6 => ?_)
  · rw [if_neg (Int32.not_le.mpr h6)] at he
    refine lv_iload_n hx hb dX6_weigh_96 rfl (lv_at hl 1 rfl) ?_
    cases he
    exact g_iret E hM hret hlk dX6_weigh_97
  · rw [if_pos (Int32.not_lt.mp h6)] at he
    refine lv_aload_n hx hb dX6_weigh_36 rfl (lv_at hl 0 rfl) ?_
    refine g_getP E hM (o := 60) (Nat.le_of_ble_eq_true rfl) rfl fl_X6_35 (q := 66) rfl dX6_weigh_37 ?_
    refine lv_iload_n hx hb dX6_weigh_40 rfl (lv_at hl 2 rfl) ?_
    obtain ⟨h7, he⟩ := g_ck_some he
    refine g_zald E hM (o := 66) (Nat.le_of_ble_eq_true rfl) rfl h7 dX6_weigh_41 ?_
    refine lv_if_ne (tgt := 70) hx hb dX6_weigh_42 (by decide) (fun h8 => ?_) (fun h8 => ?_)
    · rw [if_neg h8] at he
      exact w6_weigh_b70 (F := F) E hml hret hlk hs32 _ _ _ _ _ _ hM (lv_sub hl [0, 1, 2] rfl) he
    · rw [if_pos h8] at he
      refine lv_aload_n hx hb dX6_weigh_45 rfl (lv_at hl 0 rfl) ?_
      refine g_getP E hM (o := 60) (Nat.le_of_ble_eq_true rfl) rfl fl_X6_32 (q := 65) rfl dX6_weigh_46 ?_
      refine lv_iload_n hx hb dX6_weigh_49 rfl (lv_at hl 2 rfl) ?_
      obtain ⟨h9, he⟩ := g_ck_some he
      refine g_iald E hM (o := 65) (Nat.le_of_ble_eq_true rfl) rfl h9 dX6_weigh_50 ?_
      refine lv_iconst (v := (-1 : Int32)) hx hb dX6_weigh_51 rfl ?_
      refine lv_icmp_eq (tgt := 70) hx hb dX6_weigh_52 (by decide) (fun h10 => ?_) (fun h10 => ?_)
      · rw [if_pos h10] at he
        exact w6_weigh_b70 (F := F) E hml hret hlk hs32 _ _ _ _ _ _ hM (lv_sub hl [0, 1, 2] rfl) he
      · rw [if_neg h10] at he
        refine lv_aload_n hx hb dX6_weigh_55 rfl (lv_at hl 0 rfl) ?_
        refine g_getP E hM (o := 60) (Nat.le_of_ble_eq_true rfl) rfl fl_X6_35 (q := 66) rfl dX6_weigh_56 ?_
        refine lv_aload_n hx hb dX6_weigh_59 rfl (lv_at hl 0 rfl) ?_
        refine g_getP E hM (o := 60) (Nat.le_of_ble_eq_true rfl) rfl fl_X6_32 (q := 65) rfl dX6_weigh_60 ?_
        refine lv_iload_n hx hb dX6_weigh_63 rfl (lv_at hl 2 rfl) ?_
        obtain ⟨h11, he⟩ := g_ck_some he
        refine g_iald E hM (o := 65) (Nat.le_of_ble_eq_true rfl) rfl h11 dX6_weigh_64 ?_
        refine lv_iconst (v := (1 : Int32)) hx hb dX6_weigh_65 rfl ?_
        obtain ⟨h12, he⟩ := g_ck_some he
        refine g_zast E hM (o := 66) (Nat.le_of_ble_eq_true rfl) rfl h12 (Or.inr rfl) dX6_weigh_66 (fun H locs hM => ?_)
        obtain ⟨m13, hm13, he⟩ := g_let_ex he
        rw [← hm13] at hM
        refine lv_goto (tgt := 90) hx hb dX6_weigh_67 (by decide) ?_
        exact w6_weigh_b90 (F := F) E hml hret hlk hs32 _ _ _ _ _ _ hM (lv_sub hl [0, 1, 2] rfl) he

set_option maxHeartbeats 4000000 in
set_option maxRecDepth 100000 in
theorem w6_weigh_b32 (E : g_C p s m args c cX6_weigh RX6 D aC (g_Zs (g_A B 69))) (hml : c.maxLocals = 3) (hret : meth.sig.returnType = (some .int)) (hlk : meth.locks = false) {F : Nat} {q0 : Int32 × g_M} : ∀ (v1 : Int32) (v2 : Int32) (mem : g_M) (H : Heap) (locs : List Loc) (ls : Array Slot), g_At D aC B yC 69 mem s.heap H locs → lv_has ls 3 [(0, .ref (B + 60)), (1, .int v1), (2, .int v2)] → f6_weigh_b32 F v1 v2 mem = some q0 → W p l e (g_rm 2) s m args below meth c H locs 0 0 (g_MQ below D aC B yC 69 args s (some (.int q0.1)) q0.2) (F0 m 32 ls []) := by
  have key : ∀ (nn : Nat) (x : Int32 × Int32 × g_M) (H : Heap) (locs : List Loc) (ls : Array Slot), g_At D aC B yC 69 x.2.2 s.heap H locs → lv_has ls 3 [(0, .ref (B + 60)), (1, .int x.1), (2, .int x.2.1)] → g_fix (fun sf x => f6_weigh_b32_body F (fun v1 v2 mem => sf (v1, v2, mem)) x.1 x.2.1 x.2.2) nn x = some q0 → W p l e (g_rm 2) s m args below meth c H locs 0 0 (g_MQ below D aC B yC 69 args s (some (.int q0.1)) q0.2) (F0 m 32 ls []) := by
    intro nn
    induction nn with
    | zero => intro x H locs ls hM hl he; simp [g_fix] at he
    | succ nn ih =>
      intro x H locs ls hM hl he
      exact w6_weigh_b32_body (F := F) E hml hret hlk (fun v1 v2 mem H locs ls hM hl he => ih (v1, v2, mem) H locs ls hM hl he) x.1 x.2.1 x.2.2 H locs ls hM hl he
  intro v1 v2 mem H locs ls hM hl he
  exact key F (v1, v2, mem) H locs ls hM hl he

set_option maxHeartbeats 4000000 in
set_option maxRecDepth 100000 in
theorem w6_weigh_b4_body (E : g_C p s m args c cX6_weigh RX6 D aC (g_Zs (g_A B 69))) (hml : c.maxLocals = 3) (hret : meth.sig.returnType = (some .int)) (hlk : meth.locks = false) {F : Nat} {q0 : Int32 × g_M} {s4 : Int32 → Int32 → g_M → Option (Int32 × g_M)} (hs4 : ∀ (v1 : Int32) (v2 : Int32) (mem : g_M) (H : Heap) (locs : List Loc) (ls : Array Slot), g_At D aC B yC 69 mem s.heap H locs → lv_has ls 3 [(0, .ref (B + 60)), (1, .int v1), (2, .int v2)] → s4 v1 v2 mem = some q0 → W p l e (g_rm 2) s m args below meth c H locs 0 0 (g_MQ below D aC B yC 69 args s (some (.int q0.1)) q0.2) (F0 m 4 ls [])) : ∀ (v1 : Int32) (v2 : Int32) (mem : g_M) (H : Heap) (locs : List Loc) (ls : Array Slot), g_At D aC B yC 69 mem s.heap H locs → lv_has ls 3 [(0, .ref (B + 60)), (1, .int v1), (2, .int v2)] → f6_weigh_b4_body F s4 v1 v2 mem = some q0 → W p l e (g_rm 2) s m args below meth c H locs 0 0 (g_MQ below D aC B yC 69 args s (some (.int q0.1)) q0.2) (F0 m 4 ls []) := by
  intro v1 v2 mem H locs ls hM hl he
  unfold f6_weigh_b4_body at he
  have hx := E.1
  have hb := E.2.1
  have hown := E.2.2.1
  have hts := E.2.2.2.1
  refine lv_iload_n hx hb dX6_weigh_4 rfl (lv_at hl 2 rfl) ?_
  refine lv_aload_n hx hb dX6_weigh_5 rfl (lv_at hl 0 rfl) ?_
  refine g_getI E hM (o := 60) (Nat.le_of_ble_eq_true rfl) rfl fl_X6_9 dX6_weigh_6 ?_
  refine lv_icmp_ge (tgt := 25) hx hb dX6_weigh_9 (by decide) (fun h14 => ?_) (fun h14 => ?_)
  · rw [if_neg (Int32.not_lt.mpr h14)] at he
    refine lv_aload_n hx hb dX6_weigh_25 rfl (lv_at hl 0 rfl) ?_
    obtain ⟨r18, hcr18, he⟩ := g_bind he
    refine g_callV [] (rest := []) E hml hl.1 hM cv_X6_42 (c6_limit l D aC B hcr18) (o := 60) (Nat.le_of_ble_eq_true rfl) rfl (by decide) rfl rfl (Nat.le_of_ble_eq_true rfl) dX6_weigh_26 (fun H locs hM => ?_)
    refine W.eq (g2 := F0 m 29 ls [.int r18]) rfl ?_
    refine lv_iconst (v := (1 : Int32)) hx hb dX6_weigh_29 rfl ?_
    refine lv_isub hx hb dX6_weigh_30 ?_
    obtain ⟨x19, hx19, he⟩ := g_let_ex he
    refine g_topI hx19 ?_
    refine lv_istore_n (lv' := [(2, .int x19), (0, .ref (B + 60)), (1, .int v1)]) hx hb dX6_weigh_31 rfl hl (by decide) rfl (fun ls hl => ?_)
    exact w6_weigh_b32 (F := F) E hml hret hlk _ _ _ _ _ _ hM (lv_sub hl [1, 2, 0] rfl) he
  · rw [if_pos (Int32.not_le.mp h14)] at he
    refine lv_aload_n hx hb dX6_weigh_12 rfl (lv_at hl 0 rfl) ?_
    refine g_getP E hM (o := 60) (Nat.le_of_ble_eq_true rfl) rfl fl_X6_35 (q := 66) rfl dX6_weigh_13 ?_
    refine lv_iload_n hx hb dX6_weigh_16 rfl (lv_at hl 2 rfl) ?_
    refine lv_iconst (v := (0 : Int32)) hx hb dX6_weigh_17 rfl ?_
    obtain ⟨h15, he⟩ := g_ck_some he
    refine g_zast E hM (o := 66) (Nat.le_of_ble_eq_true rfl) rfl h15 (Or.inl rfl) dX6_weigh_18 (fun H locs hM => ?_)
    obtain ⟨m16, hm16, he⟩ := g_let_ex he
    rw [← hm16] at hM
    obtain ⟨x17, hx17, he⟩ := g_let_ex he
    refine lv_iinc (v := x17) (lv' := [(2, .int x17), (0, .ref (B + 60)), (1, .int v1)]) hx hb dX6_weigh_19 hl (k := 2) rfl (by rw [hx17]; rfl) (by decide) rfl (fun ls hl => ?_)
    refine lv_goto (tgt := 4) hx hb dX6_weigh_22 (by decide) ?_
    exact hs4 _ _ _ _ _ _ hM (lv_sub hl [1, 2, 0] rfl) he

set_option maxHeartbeats 4000000 in
set_option maxRecDepth 100000 in
theorem w6_weigh_b4 (E : g_C p s m args c cX6_weigh RX6 D aC (g_Zs (g_A B 69))) (hml : c.maxLocals = 3) (hret : meth.sig.returnType = (some .int)) (hlk : meth.locks = false) {F : Nat} {q0 : Int32 × g_M} : ∀ (v1 : Int32) (v2 : Int32) (mem : g_M) (H : Heap) (locs : List Loc) (ls : Array Slot), g_At D aC B yC 69 mem s.heap H locs → lv_has ls 3 [(0, .ref (B + 60)), (1, .int v1), (2, .int v2)] → f6_weigh_b4 F v1 v2 mem = some q0 → W p l e (g_rm 2) s m args below meth c H locs 0 0 (g_MQ below D aC B yC 69 args s (some (.int q0.1)) q0.2) (F0 m 4 ls []) := by
  have key : ∀ (nn : Nat) (x : Int32 × Int32 × g_M) (H : Heap) (locs : List Loc) (ls : Array Slot), g_At D aC B yC 69 x.2.2 s.heap H locs → lv_has ls 3 [(0, .ref (B + 60)), (1, .int x.1), (2, .int x.2.1)] → g_fix (fun sf x => f6_weigh_b4_body F (fun v1 v2 mem => sf (v1, v2, mem)) x.1 x.2.1 x.2.2) nn x = some q0 → W p l e (g_rm 2) s m args below meth c H locs 0 0 (g_MQ below D aC B yC 69 args s (some (.int q0.1)) q0.2) (F0 m 4 ls []) := by
    intro nn
    induction nn with
    | zero => intro x H locs ls hM hl he; simp [g_fix] at he
    | succ nn ih =>
      intro x H locs ls hM hl he
      exact w6_weigh_b4_body (F := F) E hml hret hlk (fun v1 v2 mem H locs ls hM hl he => ih (v1, v2, mem) H locs ls hM hl he) x.1 x.2.1 x.2.2 H locs ls hM hl he
  intro v1 v2 mem H locs ls hM hl he
  exact key F (v1, v2, mem) H locs ls hM hl he

set_option maxHeartbeats 4000000 in
set_option maxRecDepth 100000 in
theorem c6_weigh (l : Launch) (D : va_G) (aC : Nat → ClassId) (B : Nat) {F : Nat} {mem : g_M} {q0 : Int32 × g_M} (he : f6_weigh F mem = some q0) : g_Met l yX6_weigh cX6_weigh 3 (some .int) 2 D aC B yC 69 mem [.ref (B + 60)] (some (.int q0.1)) q0.2 := by
  refine g_ofW (by decide) (Nat.le_of_ble_eq_true rfl) ?_
  intro p e s m args below meth c ls E hml hret hlk hM hl
  have E : g_C p s m args c cX6_weigh RX6 D aC (g_Zs (g_A B 69)) := E
  have hx := E.1
  have hb := E.2.1
  have hown := E.2.2.1
  have hts := E.2.2.2.1
  have hl : lv_has ls 3 [(0, .ref (B + 60))] := hl
  unfold f6_weigh at he
  refine lv_iconst (v := (0 : Int32)) hx hb dX6_weigh_0 rfl ?_
  refine lv_istore_n (lv' := [(1, .int (0 : Int32)), (0, .ref (B + 60))]) hx hb dX6_weigh_1 rfl hl (by decide) rfl (fun ls hl => ?_)
  refine lv_iconst (v := (0 : Int32)) hx hb dX6_weigh_2 rfl ?_
  refine lv_istore_n (lv' := [(2, .int (0 : Int32)), (1, .int (0 : Int32)), (0, .ref (B + 60))]) hx hb dX6_weigh_3 rfl hl (by decide) rfl (fun ls hl => ?_)
  exact w6_weigh_b4 (F := F) E hml hret hlk _ _ _ _ _ _ hM (lv_sub hl [2, 1, 0] rfl) he

end
