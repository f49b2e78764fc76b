theorem dX11_thrown_0 : decode cX11_thrown 0 = .ok (.aload_n 0, 1) := by decide +kernel
theorem dX11_thrown_1 : decode cX11_thrown 1 = .ok (.getfield 157, 3) := by decide +kernel
theorem dX11_thrown_4 : decode cX11_thrown 4 = .ok (.ireturn, 1) := by decide +kernel
theorem dX11_feed_0 : decode cX11_feed 0 = .ok (.aload_n 0, 1) := by decide +kernel
theorem dX11_feed_1 : decode cX11_feed 1 = .ok (.iconst 0, 1) := by decide +kernel
theorem dX11_feed_2 : decode cX11_feed 2 = .ok (.putfield 157, 3) := by decide +kernel
theorem dX11_feed_5 : decode cX11_feed 5 = .ok (.aload_n 0, 1) := by decide +kernel
theorem dX11_feed_6 : decode cX11_feed 6 = .ok (.getfield 160, 3) := by decide +kernel
theorem dX11_feed_9 : decode cX11_feed 9 = .ok (.sipush 680, 3) := by decide +kernel
theorem dX11_feed_12 : decode cX11_feed 12 = .ok (.if_icmp .le 5, 3) := by decide +kernel
theorem dX11_feed_15 : decode cX11_feed 15 = .ok (.iconst (-1), 1) := by decide +kernel
theorem dX11_feed_16 : decode cX11_feed 16 = .ok (.ireturn, 1) := by decide +kernel
theorem dX11_feed_17 : decode cX11_feed 17 = .ok (.iconst 0, 1) := by decide +kernel
theorem dX11_feed_18 : decode cX11_feed 18 = .ok (.istore 6, 2) := by decide +kernel
theorem dX11_feed_20 : decode cX11_feed 20 = .ok (.iload 6, 2) := by decide +kernel
theorem dX11_feed_22 : decode cX11_feed 22 = .ok (.bipush 20, 2) := by decide +kernel
theorem dX11_feed_24 : decode cX11_feed 24 = .ok (.if_icmp .ge 86, 3) := by decide +kernel
theorem dX11_feed_27 : decode cX11_feed 27 = .ok (.iload 6, 2) := by decide +kernel
theorem dX11_feed_29 : decode cX11_feed 29 = .ok (.iconst 4, 1) := by decide +kernel
theorem dX11_feed_30 : decode cX11_feed 30 = .ok (.if_icmp .ge 7, 3) := by decide +kernel
theorem dX11_feed_33 : decode cX11_feed 33 = .ok (.iload_n 1, 1) := by decide +kernel
theorem dX11_feed_34 : decode cX11_feed 34 = .ok (.goto 39, 3) := by decide +kernel
theorem dX11_feed_37 : decode cX11_feed 37 = .ok (.iload 6, 2) := by decide +kernel
theorem dX11_feed_39 : decode cX11_feed 39 = .ok (.bipush 8, 2) := by decide +kernel
theorem dX11_feed_41 : decode cX11_feed 41 = .ok (.if_icmp .ge 7, 3) := by decide +kernel
theorem dX11_feed_44 : decode cX11_feed 44 = .ok (.iload_n 2, 1) := by decide +kernel
theorem dX11_feed_45 : decode cX11_feed 45 = .ok (.goto 28, 3) := by decide +kernel
theorem dX11_feed_48 : decode cX11_feed 48 = .ok (.iload 6, 2) := by decide +kernel
theorem dX11_feed_50 : decode cX11_feed 50 = .ok (.bipush 12, 2) := by decide +kernel
theorem dX11_feed_52 : decode cX11_feed 52 = .ok (.if_icmp .ge 7, 3) := by decide +kernel
theorem dX11_feed_55 : decode cX11_feed 55 = .ok (.iload_n 3, 1) := by decide +kernel
theorem dX11_feed_56 : decode cX11_feed 56 = .ok (.goto 17, 3) := by decide +kernel
theorem dX11_feed_59 : decode cX11_feed 59 = .ok (.iload 6, 2) := by decide +kernel
theorem dX11_feed_61 : decode cX11_feed 61 = .ok (.bipush 16, 2) := by decide +kernel
theorem dX11_feed_63 : decode cX11_feed 63 = .ok (.if_icmp .ge 8, 3) := by decide +kernel
theorem dX11_feed_66 : decode cX11_feed 66 = .ok (.iload 4, 2) := by decide +kernel
theorem dX11_feed_68 : decode cX11_feed 68 = .ok (.goto 5, 3) := by decide +kernel
theorem dX11_feed_71 : decode cX11_feed 71 = .ok (.iload 5, 2) := by decide +kernel
theorem dX11_feed_73 : decode cX11_feed 73 = .ok (.istore 7, 2) := by decide +kernel
theorem dX11_feed_75 : decode cX11_feed 75 = .ok (.aload_n 0, 1) := by decide +kernel
theorem dX11_feed_76 : decode cX11_feed 76 = .ok (.getfield 7, 3) := by decide +kernel
theorem dX11_feed_79 : decode cX11_feed 79 = .ok (.aload_n 0, 1) := by decide +kernel
theorem dX11_feed_80 : decode cX11_feed 80 = .ok (.getfield 160, 3) := by decide +kernel
theorem dX11_feed_83 : decode cX11_feed 83 = .ok (.iload 6, 2) := by decide +kernel
theorem dX11_feed_85 : decode cX11_feed 85 = .ok (.iadd, 1) := by decide +kernel
theorem dX11_feed_86 : decode cX11_feed 86 = .ok (.iload 7, 2) := by decide +kernel
theorem dX11_feed_88 : decode cX11_feed 88 = .ok (.bipush 24, 2) := by decide +kernel
theorem dX11_feed_90 : decode cX11_feed 90 = .ok (.bipush 8, 2) := by decide +kernel
theorem dX11_feed_92 : decode cX11_feed 92 = .ok (.iload 6, 2) := by decide +kernel
theorem dX11_feed_94 : decode cX11_feed 94 = .ok (.iconst 4, 1) := by decide +kernel
theorem dX11_feed_95 : decode cX11_feed 95 = .ok (.irem, 1) := by decide +kernel
theorem dX11_feed_96 : decode cX11_feed 96 = .ok (.imul, 1) := by decide +kernel
theorem dX11_feed_97 : decode cX11_feed 97 = .ok (.isub, 1) := by decide +kernel
theorem dX11_feed_98 : decode cX11_feed 98 = .ok (.ishr, 1) := by decide +kernel
theorem dX11_feed_99 : decode cX11_feed 99 = .ok (.sipush 255, 3) := by decide +kernel
theorem dX11_feed_102 : decode cX11_feed 102 = .ok (.iand, 1) := by decide +kernel
theorem dX11_feed_103 : decode cX11_feed 103 = .ok (.iastore, 1) := by decide +kernel
theorem dX11_feed_104 : decode cX11_feed 104 = .ok (.iinc 6 1, 3) := by decide +kernel
theorem dX11_feed_107 : decode cX11_feed 107 = .ok (.goto (-87), 3) := by decide +kernel
theorem dX11_feed_110 : decode cX11_feed 110 = .ok (.aload_n 0, 1) := by decide +kernel
theorem dX11_feed_111 : decode cX11_feed 111 = .ok (.dup, 1) := by decide +kernel
theorem dX11_feed_112 : decode cX11_feed 112 = .ok (.getfield 160, 3) := by decide +kernel
theorem dX11_feed_115 : decode cX11_feed 115 = .ok (.bipush 20, 2) := by decide +kernel
theorem dX11_feed_117 : decode cX11_feed 117 = .ok (.iadd, 1) := by decide +kernel
theorem dX11_feed_118 : decode cX11_feed 118 = .ok (.putfield 160, 3) := by decide +kernel
theorem dX11_feed_121 : decode cX11_feed 121 = .ok (.aload_n 0, 1) := by decide +kernel
theorem dX11_feed_122 : decode cX11_feed 122 = .ok (.getfield 160, 3) := by decide +kernel
theorem dX11_feed_125 : decode cX11_feed 125 = .ok (.ireturn, 1) := by decide +kernel
theorem dX11_here_0 : decode cX11_here 0 = .ok (.aload_n 0, 1) := by decide +kernel
theorem dX11_here_1 : decode cX11_here 1 = .ok (.getfield 163, 3) := by decide +kernel
theorem dX11_here_4 : decode cX11_here 4 = .ok (.aload_n 0, 1) := by decide +kernel
theorem dX11_here_5 : decode cX11_here 5 = .ok (.getfield 166, 3) := by decide +kernel
theorem dX11_here_8 : decode cX11_here 8 = .ok (.if_icmp .ge 15, 3) := by decide +kernel
theorem dX11_here_11 : decode cX11_here 11 = .ok (.aload_n 0, 1) := by decide +kernel
theorem dX11_here_12 : decode cX11_here 12 = .ok (.getfield 7, 3) := by decide +kernel
theorem dX11_here_15 : decode cX11_here 15 = .ok (.aload_n 0, 1) := by decide +kernel
theorem dX11_here_16 : decode cX11_here 16 = .ok (.getfield 163, 3) := by decide +kernel
theorem dX11_here_19 : decode cX11_here 19 = .ok (.iaload, 1) := by decide +kernel
theorem dX11_here_20 : decode cX11_here 20 = .ok (.goto 4, 3) := by decide +kernel
theorem dX11_here_23 : decode cX11_here 23 = .ok (.iconst (-1), 1) := by decide +kernel
theorem dX11_here_24 : decode cX11_here 24 = .ok (.ireturn, 1) := by decide +kernel
theorem dX11_isSmall_0 : decode cX11_isSmall 0 = .ok (.iload_n 0, 1) := by decide +kernel
theorem dX11_isSmall_1 : decode cX11_isSmall 1 = .ok (.bipush 97, 2) := by decide +kernel
theorem dX11_isSmall_3 : decode cX11_isSmall 3 = .ok (.if_icmp .lt 13, 3) := by decide +kernel
theorem dX11_isSmall_6 : decode cX11_isSmall 6 = .ok (.iload_n 0, 1) := by decide +kernel
theorem dX11_isSmall_7 : decode cX11_isSmall 7 = .ok (.bipush 122, 2) := by decide +kernel
theorem dX11_isSmall_9 : decode cX11_isSmall 9 = .ok (.if_icmp .gt 7, 3) := by decide +kernel
theorem dX11_isSmall_12 : decode cX11_isSmall 12 = .ok (.iconst 1, 1) := by decide +kernel
theorem dX11_isSmall_13 : decode cX11_isSmall 13 = .ok (.goto 4, 3) := by decide +kernel
theorem dX11_isSmall_16 : decode cX11_isSmall 16 = .ok (.iconst 0, 1) := by decide +kernel
theorem dX11_isSmall_17 : decode cX11_isSmall 17 = .ok (.ireturn, 1) := by decide +kernel
theorem dX11_isDigit_0 : decode cX11_isDigit 0 = .ok (.iload_n 0, 1) := by decide +kernel
theorem dX11_isDigit_1 : decode cX11_isDigit 1 = .ok (.bipush 48, 2) := by decide +kernel
theorem dX11_isDigit_3 : decode cX11_isDigit 3 = .ok (.if_icmp .lt 13, 3) := by decide +kernel
theorem dX11_isDigit_6 : decode cX11_isDigit 6 = .ok (.iload_n 0, 1) := by decide +kernel
theorem dX11_isDigit_7 : decode cX11_isDigit 7 = .ok (.bipush 57, 2) := by decide +kernel
theorem dX11_isDigit_9 : decode cX11_isDigit 9 = .ok (.if_icmp .gt 7, 3) := by decide +kernel
theorem dX11_isDigit_12 : decode cX11_isDigit 12 = .ok (.iconst 1, 1) := by decide +kernel
theorem dX11_isDigit_13 : decode cX11_isDigit 13 = .ok (.goto 4, 3) := by decide +kernel
theorem dX11_isDigit_16 : decode cX11_isDigit 16 = .ok (.iconst 0, 1) := by decide +kernel
theorem dX11_isDigit_17 : decode cX11_isDigit 17 = .ok (.ireturn, 1) := by decide +kernel
theorem dX11_word_0 : decode cX11_word 0 = .ok (.iconst 0, 1) := by decide +kernel
theorem dX11_word_1 : decode cX11_word 1 = .ok (.istore_n 1, 1) := by decide +kernel
theorem dX11_word_2 : decode cX11_word 2 = .ok (.iconst 0, 1) := by decide +kernel
theorem dX11_word_3 : decode cX11_word 3 = .ok (.istore_n 2, 1) := by decide +kernel
theorem dX11_word_4 : decode cX11_word 4 = .ok (.iload_n 2, 1) := by decide +kernel
theorem dX11_word_5 : decode cX11_word 5 = .ok (.ldc 200, 2) := by decide +kernel
theorem dX11_word_7 : decode cX11_word 7 = .ok (.invokevirtual 202, 3) := by decide +kernel
theorem dX11_word_10 : decode cX11_word 10 = .ok (.if_icmp .ge 113, 3) := by decide +kernel
theorem dX11_word_13 : decode cX11_word 13 = .ok (.iconst 0, 1) := by decide +kernel
theorem dX11_word_14 : decode cX11_word 14 = .ok (.istore_n 3, 1) := by decide +kernel
theorem dX11_word_15 : decode cX11_word 15 = .ok (.ldc 200, 2) := by decide +kernel
theorem dX11_word_17 : decode cX11_word 17 = .ok (.iload_n 2, 1) := by decide +kernel
theorem dX11_word_18 : decode cX11_word 18 = .ok (.iload_n 3, 1) := by decide +kernel
theorem dX11_word_19 : decode cX11_word 19 = .ok (.iadd, 1) := by decide +kernel
theorem dX11_word_20 : decode cX11_word 20 = .ok (.invokevirtual 207, 3) := by decide +kernel
theorem dX11_word_23 : decode cX11_word 23 = .ok (.bipush 32, 2) := by decide +kernel
theorem dX11_word_25 : decode cX11_word 25 = .ok (.if_icmp .eq 44, 3) := by decide +kernel
theorem dX11_word_28 : decode cX11_word 28 = .ok (.aload_n 0, 1) := by decide +kernel
theorem dX11_word_29 : decode cX11_word 29 = .ok (.getfield 173, 3) := by decide +kernel
theorem dX11_word_32 : decode cX11_word 32 = .ok (.iload_n 3, 1) := by decide +kernel
theorem dX11_word_33 : decode cX11_word 33 = .ok (.iadd, 1) := by decide +kernel
theorem dX11_word_34 : decode cX11_word 34 = .ok (.aload_n 0, 1) := by decide +kernel
theorem dX11_word_35 : decode cX11_word 35 = .ok (.getfield 163, 3) := by decide +kernel
theorem dX11_word_38 : decode cX11_word 38 = .ok (.if_icmp .ge 31, 3) := by decide +kernel
theorem dX11_word_41 : decode cX11_word 41 = .ok (.aload_n 0, 1) := by decide +kernel
theorem dX11_word_42 : decode cX11_word 42 = .ok (.getfield 7, 3) := by decide +kernel
theorem dX11_word_45 : decode cX11_word 45 = .ok (.aload_n 0, 1) := by decide +kernel
theorem dX11_word_46 : decode cX11_word 46 = .ok (.getfield 173, 3) := by decide +kernel
theorem dX11_word_49 : decode cX11_word 49 = .ok (.iload_n 3, 1) := by decide +kernel
theorem dX11_word_50 : decode cX11_word 50 = .ok (.iadd, 1) := by decide +kernel
theorem dX11_word_51 : decode cX11_word 51 = .ok (.iaload, 1) := by decide +kernel
theorem dX11_word_52 : decode cX11_word 52 = .ok (.ldc 200, 2) := by decide +kernel
theorem dX11_word_54 : decode cX11_word 54 = .ok (.iload_n 2, 1) := by decide +kernel
theorem dX11_word_55 : decode cX11_word 55 = .ok (.iload_n 3, 1) := by decide +kernel
theorem dX11_word_56 : decode cX11_word 56 = .ok (.iadd, 1) := by decide +kernel
theorem dX11_word_57 : decode cX11_word 57 = .ok (.invokevirtual 207, 3) := by decide +kernel
theorem dX11_word_60 : decode cX11_word 60 = .ok (.if_icmp .ne 9, 3) := by decide +kernel
theorem dX11_word_63 : decode cX11_word 63 = .ok (.iinc 3 1, 3) := by decide +kernel
theorem dX11_word_66 : decode cX11_word 66 = .ok (.goto (-51), 3) := by decide +kernel
theorem dX11_word_69 : decode cX11_word 69 = .ok (.ldc 200, 2) := by decide +kernel
theorem dX11_word_71 : decode cX11_word 71 = .ok (.iload_n 2, 1) := by decide +kernel
theorem dX11_word_72 : decode cX11_word 72 = .ok (.iload_n 3, 1) := by decide +kernel
theorem dX11_word_73 : decode cX11_word 73 = .ok (.iadd, 1) := by decide +kernel
theorem dX11_word_74 : decode cX11_word 74 = .ok (.invokevirtual 207, 3) := by decide +kernel
theorem dX11_word_77 : decode cX11_word 77 = .ok (.bipush 32, 2) := by decide +kernel
theorem dX11_word_79 : decode cX11_word 79 = .ok (.if_icmp .ne 18, 3) := by decide +kernel
theorem dX11_word_82 : decode cX11_word 82 = .ok (.aload_n 0, 1) := by decide +kernel
theorem dX11_word_83 : decode cX11_word 83 = .ok (.getfield 173, 3) := by decide +kernel
theorem dX11_word_86 : decode cX11_word 86 = .ok (.iload_n 3, 1) := by decide +kernel
theorem dX11_word_87 : decode cX11_word 87 = .ok (.iadd, 1) := by decide +kernel
theorem dX11_word_88 : decode cX11_word 88 = .ok (.aload_n 0, 1) := by decide +kernel
theorem dX11_word_89 : decode cX11_word 89 = .ok (.getfield 163, 3) := by decide +kernel
theorem dX11_word_92 : decode cX11_word 92 = .ok (.if_icmp .ne 5, 3) := by decide +kernel
theorem dX11_word_95 : decode cX11_word 95 = .ok (.iload_n 1, 1) := by decide +kernel
theorem dX11_word_96 : decode cX11_word 96 = .ok (.ireturn, 1) := by decide +kernel
theorem dX11_word_97 : decode cX11_word 97 = .ok (.ldc 200, 2) := by decide +kernel
theorem dX11_word_99 : decode cX11_word 99 = .ok (.iload_n 2, 1) := by decide +kernel
theorem dX11_word_100 : decode cX11_word 100 = .ok (.invokevirtual 207, 3) := by decide +kernel
theorem dX11_word_103 : decode cX11_word 103 = .ok (.bipush 32, 2) := by decide +kernel
theorem dX11_word_105 : decode cX11_word 105 = .ok (.if_icmp .eq 9, 3) := by decide +kernel
theorem dX11_word_108 : decode cX11_word 108 = .ok (.iinc 2 1, 3) := by decide +kernel
theorem dX11_word_111 : decode cX11_word 111 = .ok (.goto (-14), 3) := by decide +kernel
theorem dX11_word_114 : decode cX11_word 114 = .ok (.iinc 2 1, 3) := by decide +kernel
theorem dX11_word_117 : decode cX11_word 117 = .ok (.iinc 1 1, 3) := by decide +kernel
theorem dX11_word_120 : decode cX11_word 120 = .ok (.goto (-116), 3) := by decide +kernel
theorem dX11_word_123 : decode cX11_word 123 = .ok (.iconst (-1), 1) := by decide +kernel
theorem dX11_word_124 : decode cX11_word 124 = .ok (.ireturn, 1) := by decide +kernel
theorem dX11_name_0 : decode cX11_name 0 = .ok (.aload_n 0, 1) := by decide +kernel
theorem dX11_name_1 : decode cX11_name 1 = .ok (.iconst 0, 1) := by decide +kernel
theorem dX11_name_2 : decode cX11_name 2 = .ok (.putfield 186, 3) := by decide +kernel
theorem dX11_name_5 : decode cX11_name 5 = .ok (.iconst 0, 1) := by decide +kernel
theorem dX11_name_6 : decode cX11_name 6 = .ok (.istore_n 1, 1) := by decide +kernel
theorem dX11_name_7 : decode cX11_name 7 = .ok (.iload_n 1, 1) := by decide +kernel
theorem dX11_name_8 : decode cX11_name 8 = .ok (.bipush 6, 2) := by decide +kernel
theorem dX11_name_10 : decode cX11_name 10 = .ok (.if_icmp .ge 53, 3) := by decide +kernel
theorem dX11_name_13 : decode cX11_name 13 = .ok (.aload_n 0, 1) := by decide +kernel
theorem dX11_name_14 : decode cX11_name 14 = .ok (.aload_n 0, 1) := by decide +kernel
theorem dX11_name_15 : decode cX11_name 15 = .ok (.getfield 186, 3) := by decide +kernel
theorem dX11_name_18 : decode cX11_name 18 = .ok (.iconst 5, 1) := by decide +kernel
theorem dX11_name_19 : decode cX11_name 19 = .ok (.ishl, 1) := by decide +kernel
theorem dX11_name_20 : decode cX11_name 20 = .ok (.aload_n 0, 1) := by decide +kernel
theorem dX11_name_21 : decode cX11_name 21 = .ok (.getfield 173, 3) := by decide +kernel
theorem dX11_name_24 : decode cX11_name 24 = .ok (.iload_n 1, 1) := by decide +kernel
theorem dX11_name_25 : decode cX11_name 25 = .ok (.iadd, 1) := by decide +kernel
theorem dX11_name_26 : decode cX11_name 26 = .ok (.aload_n 0, 1) := by decide +kernel
theorem dX11_name_27 : decode cX11_name 27 = .ok (.getfield 163, 3) := by decide +kernel
theorem dX11_name_30 : decode cX11_name 30 = .ok (.if_icmp .ge 22, 3) := by decide +kernel
theorem dX11_name_33 : decode cX11_name 33 = .ok (.aload_n 0, 1) := by decide +kernel
theorem dX11_name_34 : decode cX11_name 34 = .ok (.getfield 7, 3) := by decide +kernel
theorem dX11_name_37 : decode cX11_name 37 = .ok (.aload_n 0, 1) := by decide +kernel
theorem dX11_name_38 : decode cX11_name 38 = .ok (.getfield 173, 3) := by decide +kernel
theorem dX11_name_41 : decode cX11_name 41 = .ok (.iload_n 1, 1) := by decide +kernel
theorem dX11_name_42 : decode cX11_name 42 = .ok (.iadd, 1) := by decide +kernel
theorem dX11_name_43 : decode cX11_name 43 = .ok (.iaload, 1) := by decide +kernel
theorem dX11_name_44 : decode cX11_name 44 = .ok (.bipush 97, 2) := by decide +kernel
theorem dX11_name_46 : decode cX11_name 46 = .ok (.isub, 1) := by decide +kernel
theorem dX11_name_47 : decode cX11_name 47 = .ok (.iconst 1, 1) := by decide +kernel
theorem dX11_name_48 : decode cX11_name 48 = .ok (.iadd, 1) := by decide +kernel
theorem dX11_name_49 : decode cX11_name 49 = .ok (.goto 4, 3) := by decide +kernel
theorem dX11_name_52 : decode cX11_name 52 = .ok (.iconst 0, 1) := by decide +kernel
theorem dX11_name_53 : decode cX11_name 53 = .ok (.ior, 1) := by decide +kernel
theorem dX11_name_54 : decode cX11_name 54 = .ok (.putfield 186, 3) := by decide +kernel
theorem dX11_name_57 : decode cX11_name 57 = .ok (.iinc 1 1, 3) := by decide +kernel
theorem dX11_name_60 : decode cX11_name 60 = .ok (.goto (-53), 3) := by decide +kernel
theorem dX11_name_63 : decode cX11_name 63 = .ok (.return_, 1) := by decide +kernel
theorem dX11_sign_0 : decode cX11_sign 0 = .ok (.aload_n 0, 1) := by decide +kernel
theorem dX11_sign_1 : decode cX11_sign 1 = .ok (.dup, 1) := by decide +kernel
theorem dX11_sign_2 : decode cX11_sign 2 = .ok (.getfield 163, 3) := by decide +kernel
theorem dX11_sign_5 : decode cX11_sign 5 = .ok (.iconst 1, 1) := by decide +kernel
theorem dX11_sign_6 : decode cX11_sign 6 = .ok (.iadd, 1) := by decide +kernel
theorem dX11_sign_7 : decode cX11_sign 7 = .ok (.putfield 163, 3) := by decide +kernel
theorem dX11_sign_10 : decode cX11_sign 10 = .ok (.aload_n 0, 1) := by decide +kernel
theorem dX11_sign_11 : decode cX11_sign 11 = .ok (.iload_n 1, 1) := by decide +kernel
theorem dX11_sign_12 : decode cX11_sign 12 = .ok (.bipush 59, 2) := by decide +kernel
theorem dX11_sign_14 : decode cX11_sign 14 = .ok (.if_icmp .eq 57, 3) := by decide +kernel
theorem dX11_sign_17 : decode cX11_sign 17 = .ok (.iload_n 1, 1) := by decide +kernel
theorem dX11_sign_18 : decode cX11_sign 18 = .ok (.bipush 40, 2) := by decide +kernel
theorem dX11_sign_20 : decode cX11_sign 20 = .ok (.if_icmp .eq 51, 3) := by decide +kernel
theorem dX11_sign_23 : decode cX11_sign 23 = .ok (.iload_n 1, 1) := by decide +kernel
theorem dX11_sign_24 : decode cX11_sign 24 = .ok (.bipush 41, 2) := by decide +kernel
theorem dX11_sign_26 : decode cX11_sign 26 = .ok (.if_icmp .eq 45, 3) := by decide +kernel
theorem dX11_sign_29 : decode cX11_sign 29 = .ok (.iload_n 1, 1) := by decide +kernel
theorem dX11_sign_30 : decode cX11_sign 30 = .ok (.bipush 43, 2) := by decide +kernel
theorem dX11_sign_32 : decode cX11_sign 32 = .ok (.if_icmp .eq 39, 3) := by decide +kernel
theorem dX11_sign_35 : decode cX11_sign 35 = .ok (.iload_n 1, 1) := by decide +kernel
theorem dX11_sign_36 : decode cX11_sign 36 = .ok (.bipush 45, 2) := by decide +kernel
theorem dX11_sign_38 : decode cX11_sign 38 = .ok (.if_icmp .eq 33, 3) := by decide +kernel
theorem dX11_sign_41 : decode cX11_sign 41 = .ok (.iload_n 1, 1) := by decide +kernel
theorem dX11_sign_42 : decode cX11_sign 42 = .ok (.bipush 42, 2) := by decide +kernel
theorem dX11_sign_44 : decode cX11_sign 44 = .ok (.if_icmp .eq 27, 3) := by decide +kernel
theorem dX11_sign_47 : decode cX11_sign 47 = .ok (.iload_n 1, 1) := by decide +kernel
theorem dX11_sign_48 : decode cX11_sign 48 = .ok (.bipush 47, 2) := by decide +kernel
theorem dX11_sign_50 : decode cX11_sign 50 = .ok (.if_icmp .eq 21, 3) := by decide +kernel
theorem dX11_sign_53 : decode cX11_sign 53 = .ok (.iload_n 1, 1) := by decide +kernel
theorem dX11_sign_54 : decode cX11_sign 54 = .ok (.bipush 60, 2) := by decide +kernel
theorem dX11_sign_56 : decode cX11_sign 56 = .ok (.if_icmp .eq 15, 3) := by decide +kernel
theorem dX11_sign_59 : decode cX11_sign 59 = .ok (.iload_n 1, 1) := by decide +kernel
theorem dX11_sign_60 : decode cX11_sign 60 = .ok (.bipush 61, 2) := by decide +kernel
theorem dX11_sign_62 : decode cX11_sign 62 = .ok (.if_icmp .eq 9, 3) := by decide +kernel
theorem dX11_sign_65 : decode cX11_sign 65 = .ok (.iload_n 1, 1) := by decide +kernel
theorem dX11_sign_66 : decode cX11_sign 66 = .ok (.bipush 62, 2) := by decide +kernel
theorem dX11_sign_68 : decode cX11_sign 68 = .ok (.if_icmp .ne 7, 3) := by decide +kernel
theorem dX11_sign_71 : decode cX11_sign 71 = .ok (.iconst 3, 1) := by decide +kernel
theorem dX11_sign_72 : decode cX11_sign 72 = .ok (.goto 4, 3) := by decide +kernel
theorem dX11_sign_75 : decode cX11_sign 75 = .ok (.iconst 5, 1) := by decide +kernel
theorem dX11_sign_76 : decode cX11_sign 76 = .ok (.putfield 176, 3) := by decide +kernel
theorem dX11_sign_79 : decode cX11_sign 79 = .ok (.aload_n 0, 1) := by decide +kernel
theorem dX11_sign_80 : decode cX11_sign 80 = .ok (.iload_n 1, 1) := by decide +kernel
theorem dX11_sign_81 : decode cX11_sign 81 = .ok (.putfield 186, 3) := by decide +kernel
theorem dX11_sign_84 : decode cX11_sign 84 = .ok (.iload_n 1, 1) := by decide +kernel
theorem dX11_sign_85 : decode cX11_sign 85 = .ok (.bipush 60, 2) := by decide +kernel
theorem dX11_sign_87 : decode cX11_sign 87 = .ok (.if_icmp .ne 19, 3) := by decide +kernel
theorem dX11_sign_90 : decode cX11_sign 90 = .ok (.aload_n 0, 1) := by decide +kernel
theorem dX11_sign_91 : decode cX11_sign 91 = .ok (.invokevirtual 169, 3) := by decide +kernel
theorem dX11_sign_94 : decode cX11_sign 94 = .ok (.bipush 61, 2) := by decide +kernel
theorem dX11_sign_96 : decode cX11_sign 96 = .ok (.if_icmp .ne 10, 3) := by decide +kernel
theorem dX11_sign_99 : decode cX11_sign 99 = .ok (.aload_n 0, 1) := by decide +kernel
theorem dX11_sign_100 : decode cX11_sign 100 = .ok (.sipush 256, 3) := by decide +kernel
theorem dX11_sign_103 : decode cX11_sign 103 = .ok (.putfield 186, 3) := by decide +kernel
theorem dX11_sign_106 : decode cX11_sign 106 = .ok (.iload_n 1, 1) := by decide +kernel
theorem dX11_sign_107 : decode cX11_sign 107 = .ok (.bipush 60, 2) := by decide +kernel
theorem dX11_sign_109 : decode cX11_sign 109 = .ok (.if_icmp .ne 19, 3) := by decide +kernel
theorem dX11_sign_112 : decode cX11_sign 112 = .ok (.aload_n 0, 1) := by decide +kernel
theorem dX11_sign_113 : decode cX11_sign 113 = .ok (.invokevirtual 169, 3) := by decide +kernel
theorem dX11_sign_116 : decode cX11_sign 116 = .ok (.bipush 62, 2) := by decide +kernel
theorem dX11_sign_118 : decode cX11_sign 118 = .ok (.if_icmp .ne 10, 3) := by decide +kernel
theorem dX11_sign_121 : decode cX11_sign 121 = .ok (.aload_n 0, 1) := by decide +kernel
theorem dX11_sign_122 : decode cX11_sign 122 = .ok (.sipush 257, 3) := by decide +kernel
theorem dX11_sign_125 : decode cX11_sign 125 = .ok (.putfield 186, 3) := by decide +kernel
theorem dX11_sign_128 : decode cX11_sign 128 = .ok (.iload_n 1, 1) := by decide +kernel
theorem dX11_sign_129 : decode cX11_sign 129 = .ok (.bipush 62, 2) := by decide +kernel
theorem dX11_sign_131 : decode cX11_sign 131 = .ok (.if_icmp .ne 19, 3) := by decide +kernel
theorem dX11_sign_134 : decode cX11_sign 134 = .ok (.aload_n 0, 1) := by decide +kernel
theorem dX11_sign_135 : decode cX11_sign 135 = .ok (.invokevirtual 169, 3) := by decide +kernel
theorem dX11_sign_138 : decode cX11_sign 138 = .ok (.bipush 61, 2) := by decide +kernel
theorem dX11_sign_140 : decode cX11_sign 140 = .ok (.if_icmp .ne 10, 3) := by decide +kernel
theorem dX11_sign_143 : decode cX11_sign 143 = .ok (.aload_n 0, 1) := by decide +kernel
theorem dX11_sign_144 : decode cX11_sign 144 = .ok (.sipush 258, 3) := by decide +kernel
theorem dX11_sign_147 : decode cX11_sign 147 = .ok (.putfield 186, 3) := by decide +kernel
theorem dX11_sign_150 : decode cX11_sign 150 = .ok (.aload_n 0, 1) := by decide +kernel
theorem dX11_sign_151 : decode cX11_sign 151 = .ok (.getfield 186, 3) := by decide +kernel
theorem dX11_sign_154 : decode cX11_sign 154 = .ok (.sipush 256, 3) := by decide +kernel
theorem dX11_sign_157 : decode cX11_sign 157 = .ok (.if_icmp .lt 13, 3) := by decide +kernel
theorem dX11_sign_160 : decode cX11_sign 160 = .ok (.aload_n 0, 1) := by decide +kernel
theorem dX11_sign_161 : decode cX11_sign 161 = .ok (.dup, 1) := by decide +kernel
theorem dX11_sign_162 : decode cX11_sign 162 = .ok (.getfield 163, 3) := by decide +kernel
theorem dX11_sign_165 : decode cX11_sign 165 = .ok (.iconst 1, 1) := by decide +kernel
theorem dX11_sign_166 : decode cX11_sign 166 = .ok (.iadd, 1) := by decide +kernel
theorem dX11_sign_167 : decode cX11_sign 167 = .ok (.putfield 163, 3) := by decide +kernel
theorem dX11_sign_170 : decode cX11_sign 170 = .ok (.return_, 1) := by decide +kernel
theorem dX11_token_0 : decode cX11_token 0 = .ok (.aload_n 0, 1) := by decide +kernel
theorem dX11_token_1 : decode cX11_token 1 = .ok (.invokevirtual 169, 3) := by decide +kernel
theorem dX11_token_4 : decode cX11_token 4 = .ok (.bipush 10, 2) := by decide +kernel
theorem dX11_token_6 : decode cX11_token 6 = .ok (.if_icmp .eq 12, 3) := by decide +kernel
theorem dX11_token_9 : decode cX11_token 9 = .ok (.aload_n 0, 1) := by decide +kernel
theorem dX11_token_10 : decode cX11_token 10 = .ok (.invokevirtual 169, 3) := by decide +kernel
theorem dX11_token_13 : decode cX11_token 13 = .ok (.bipush 32, 2) := by decide +kernel
theorem dX11_token_15 : decode cX11_token 15 = .ok (.if_icmp .ne 16, 3) := by decide +kernel
theorem dX11_token_18 : decode cX11_token 18 = .ok (.aload_n 0, 1) := by decide +kernel
theorem dX11_token_19 : decode cX11_token 19 = .ok (.dup, 1) := by decide +kernel
theorem dX11_token_20 : decode cX11_token 20 = .ok (.getfield 163, 3) := by decide +kernel
theorem dX11_token_23 : decode cX11_token 23 = .ok (.iconst 1, 1) := by decide +kernel
theorem dX11_token_24 : decode cX11_token 24 = .ok (.iadd, 1) := by decide +kernel
theorem dX11_token_25 : decode cX11_token 25 = .ok (.putfield 163, 3) := by decide +kernel
theorem dX11_token_28 : decode cX11_token 28 = .ok (.goto (-28), 3) := by decide +kernel
theorem dX11_token_31 : decode cX11_token 31 = .ok (.aload_n 0, 1) := by decide +kernel
theorem dX11_token_32 : decode cX11_token 32 = .ok (.aload_n 0, 1) := by decide +kernel
theorem dX11_token_33 : decode cX11_token 33 = .ok (.getfield 163, 3) := by decide +kernel
theorem dX11_token_36 : decode cX11_token 36 = .ok (.putfield 173, 3) := by decide +kernel
theorem dX11_token_39 : decode cX11_token 39 = .ok (.aload_n 0, 1) := by decide +kernel
theorem dX11_token_40 : decode cX11_token 40 = .ok (.invokevirtual 169, 3) := by decide +kernel
theorem dX11_token_43 : decode cX11_token 43 = .ok (.istore_n 1, 1) := by decide +kernel
theorem dX11_token_44 : decode cX11_token 44 = .ok (.iload_n 1, 1) := by decide +kernel
theorem dX11_token_45 : decode cX11_token 45 = .ok (.iconst (-1), 1) := by decide +kernel
theorem dX11_token_46 : decode cX11_token 46 = .ok (.if_icmp .ne 11, 3) := by decide +kernel
theorem dX11_token_49 : decode cX11_token 49 = .ok (.aload_n 0, 1) := by decide +kernel
theorem dX11_token_50 : decode cX11_token 50 = .ok (.iconst 4, 1) := by decide +kernel
theorem dX11_token_51 : decode cX11_token 51 = .ok (.putfield 176, 3) := by decide +kernel
theorem dX11_token_54 : decode cX11_token 54 = .ok (.goto 171, 3) := by decide +kernel
theorem dX11_token_57 : decode cX11_token 57 = .ok (.iload_n 1, 1) := by decide +kernel
theorem dX11_token_58 : decode cX11_token 58 = .ok (.invokestatic 179, 3) := by decide +kernel
theorem dX11_token_61 : decode cX11_token 61 = .ok (.ifCond .eq 84, 3) := by decide +kernel
theorem dX11_token_64 : decode cX11_token 64 = .ok (.aload_n 0, 1) := by decide +kernel
theorem dX11_token_65 : decode cX11_token 65 = .ok (.invokevirtual 169, 3) := by decide +kernel
theorem dX11_token_68 : decode cX11_token 68 = .ok (.invokestatic 179, 3) := by decide +kernel
theorem dX11_token_71 : decode cX11_token 71 = .ok (.ifCond .eq 16, 3) := by decide +kernel
theorem dX11_token_74 : decode cX11_token 74 = .ok (.aload_n 0, 1) := by decide +kernel
theorem dX11_token_75 : decode cX11_token 75 = .ok (.dup, 1) := by decide +kernel
theorem dX11_token_76 : decode cX11_token 76 = .ok (.getfield 163, 3) := by decide +kernel
theorem dX11_token_79 : decode cX11_token 79 = .ok (.iconst 1, 1) := by decide +kernel
theorem dX11_token_80 : decode cX11_token 80 = .ok (.iadd, 1) := by decide +kernel
theorem dX11_token_81 : decode cX11_token 81 = .ok (.putfield 163, 3) := by decide +kernel
theorem dX11_token_84 : decode cX11_token 84 = .ok (.goto (-20), 3) := by decide +kernel
theorem dX11_token_87 : decode cX11_token 87 = .ok (.aload_n 0, 1) := by decide +kernel
theorem dX11_token_88 : decode cX11_token 88 = .ok (.aload_n 0, 1) := by decide +kernel
theorem dX11_token_89 : decode cX11_token 89 = .ok (.invokevirtual 183, 3) := by decide +kernel
theorem dX11_token_92 : decode cX11_token 92 = .ok (.putfield 186, 3) := by decide +kernel
theorem dX11_token_95 : decode cX11_token 95 = .ok (.aload_n 0, 1) := by decide +kernel
theorem dX11_token_96 : decode cX11_token 96 = .ok (.aload_n 0, 1) := by decide +kernel
theorem dX11_token_97 : decode cX11_token 97 = .ok (.getfield 186, 3) := by decide +kernel
theorem dX11_token_100 : decode cX11_token 100 = .ok (.iconst (-1), 1) := by decide +kernel
theorem dX11_token_101 : decode cX11_token 101 = .ok (.if_icmp .eq 7, 3) := by decide +kernel
theorem dX11_token_104 : decode cX11_token 104 = .ok (.iconst 0, 1) := by decide +kernel
theorem dX11_token_105 : decode cX11_token 105 = .ok (.goto 22, 3) := by decide +kernel
theorem dX11_token_108 : decode cX11_token 108 = .ok (.aload_n 0, 1) := by decide +kernel
theorem dX11_token_109 : decode cX11_token 109 = .ok (.getfield 163, 3) := by decide +kernel
theorem dX11_token_112 : decode cX11_token 112 = .ok (.aload_n 0, 1) := by decide +kernel
theorem dX11_token_113 : decode cX11_token 113 = .ok (.getfield 173, 3) := by decide +kernel
theorem dX11_token_116 : decode cX11_token 116 = .ok (.isub, 1) := by decide +kernel
theorem dX11_token_117 : decode cX11_token 117 = .ok (.bipush 6, 2) := by decide +kernel
theorem dX11_token_119 : decode cX11_token 119 = .ok (.if_icmp .le 7, 3) := by decide +kernel
theorem dX11_token_122 : decode cX11_token 122 = .ok (.iconst 5, 1) := by decide +kernel
theorem dX11_token_123 : decode cX11_token 123 = .ok (.goto 4, 3) := by decide +kernel
theorem dX11_token_126 : decode cX11_token 126 = .ok (.iconst 1, 1) := by decide +kernel
theorem dX11_token_127 : decode cX11_token 127 = .ok (.putfield 176, 3) := by decide +kernel
theorem dX11_token_130 : decode cX11_token 130 = .ok (.aload_n 0, 1) := by decide +kernel
theorem dX11_token_131 : decode cX11_token 131 = .ok (.getfield 176, 3) := by decide +kernel
theorem dX11_token_134 : decode cX11_token 134 = .ok (.iconst 1, 1) := by decide +kernel
theorem dX11_token_135 : decode cX11_token 135 = .ok (.if_icmp .ne 90, 3) := by decide +kernel
theorem dX11_token_138 : decode cX11_token 138 = .ok (.aload_n 0, 1) := by decide +kernel
theorem dX11_token_139 : decode cX11_token 139 = .ok (.invokevirtual 189, 3) := by decide +kernel
theorem dX11_token_142 : decode cX11_token 142 = .ok (.goto 83, 3) := by decide +kernel
theorem dX11_token_145 : decode cX11_token 145 = .ok (.iload_n 1, 1) := by decide +kernel
theorem dX11_token_146 : decode cX11_token 146 = .ok (.invokestatic 192, 3) := by decide +kernel
theorem dX11_token_149 : decode cX11_token 149 = .ok (.ifCond .eq 71, 3) := by decide +kernel
theorem dX11_token_152 : decode cX11_token 152 = .ok (.aload_n 0, 1) := by decide +kernel
theorem dX11_token_153 : decode cX11_token 153 = .ok (.iconst 2, 1) := by decide +kernel
theorem dX11_token_154 : decode cX11_token 154 = .ok (.putfield 176, 3) := by decide +kernel
theorem dX11_token_157 : decode cX11_token 157 = .ok (.aload_n 0, 1) := by decide +kernel
theorem dX11_token_158 : decode cX11_token 158 = .ok (.iconst 0, 1) := by decide +kernel
theorem dX11_token_159 : decode cX11_token 159 = .ok (.putfield 186, 3) := by decide +kernel
theorem dX11_token_162 : decode cX11_token 162 = .ok (.aload_n 0, 1) := by decide +kernel
theorem dX11_token_163 : decode cX11_token 163 = .ok (.invokevirtual 169, 3) := by decide +kernel
theorem dX11_token_166 : decode cX11_token 166 = .ok (.invokestatic 192, 3) := by decide +kernel
theorem dX11_token_169 : decode cX11_token 169 = .ok (.ifCond .eq 56, 3) := by decide +kernel
theorem dX11_token_172 : decode cX11_token 172 = .ok (.aload_n 0, 1) := by decide +kernel
theorem dX11_token_173 : decode cX11_token 173 = .ok (.aload_n 0, 1) := by decide +kernel
theorem dX11_token_174 : decode cX11_token 174 = .ok (.getfield 186, 3) := by decide +kernel
theorem dX11_token_177 : decode cX11_token 177 = .ok (.ldc 195, 2) := by decide +kernel
theorem dX11_token_179 : decode cX11_token 179 = .ok (.if_icmp .le 10, 3) := by decide +kernel
theorem dX11_token_182 : decode cX11_token 182 = .ok (.aload_n 0, 1) := by decide +kernel
theorem dX11_token_183 : decode cX11_token 183 = .ok (.getfield 186, 3) := by decide +kernel
theorem dX11_token_186 : decode cX11_token 186 = .ok (.goto 18, 3) := by decide +kernel
theorem dX11_token_189 : decode cX11_token 189 = .ok (.bipush 10, 2) := by decide +kernel
theorem dX11_token_191 : decode cX11_token 191 = .ok (.aload_n 0, 1) := by decide +kernel
theorem dX11_token_192 : decode cX11_token 192 = .ok (.getfield 186, 3) := by decide +kernel
theorem dX11_token_195 : decode cX11_token 195 = .ok (.imul, 1) := by decide +kernel
theorem dX11_token_196 : decode cX11_token 196 = .ok (.aload_n 0, 1) := by decide +kernel
theorem dX11_token_197 : decode cX11_token 197 = .ok (.invokevirtual 169, 3) := by decide +kernel
theorem dX11_token_200 : decode cX11_token 200 = .ok (.iadd, 1) := by decide +kernel
theorem dX11_token_201 : decode cX11_token 201 = .ok (.bipush 48, 2) := by decide +kernel
theorem dX11_token_203 : decode cX11_token 203 = .ok (.isub, 1) := by decide +kernel
theorem dX11_token_204 : decode cX11_token 204 = .ok (.putfield 186, 3) := by decide +kernel
theorem dX11_token_207 : decode cX11_token 207 = .ok (.aload_n 0, 1) := by decide +kernel
theorem dX11_token_208 : decode cX11_token 208 = .ok (.dup, 1) := by decide +kernel
theorem dX11_token_209 : decode cX11_token 209 = .ok (.getfield 163, 3) := by decide +kernel
theorem dX11_token_212 : decode cX11_token 212 = .ok (.iconst 1, 1) := by decide +kernel
theorem dX11_token_213 : decode cX11_token 213 = .ok (.iadd, 1) := by decide +kernel
theorem dX11_token_214 : decode cX11_token 214 = .ok (.putfield 163, 3) := by decide +kernel
theorem dX11_token_217 : decode cX11_token 217 = .ok (.goto (-55), 3) := by decide +kernel
theorem dX11_token_220 : decode cX11_token 220 = .ok (.aload_n 0, 1) := by decide +kernel
theorem dX11_token_221 : decode cX11_token 221 = .ok (.iload_n 1, 1) := by decide +kernel
theorem dX11_token_222 : decode cX11_token 222 = .ok (.invokevirtual 196, 3) := by decide +kernel
theorem dX11_token_225 : decode cX11_token 225 = .ok (.return_, 1) := by decide +kernel
theorem dX11_wrong_0 : decode cX11_wrong 0 = .ok (.aload_n 0, 1) := by decide +kernel
theorem dX11_wrong_1 : decode cX11_wrong 1 = .ok (.getfield 211, 3) := by decide +kernel
theorem dX11_wrong_4 : decode cX11_wrong 4 = .ok (.ifCond .eq 4, 3) := by decide +kernel
theorem dX11_wrong_7 : decode cX11_wrong 7 = .ok (.return_, 1) := by decide +kernel
theorem dX11_wrong_8 : decode cX11_wrong 8 = .ok (.aload_n 0, 1) := by decide +kernel
theorem dX11_wrong_9 : decode cX11_wrong 9 = .ok (.iload_n 1, 1) := by decide +kernel
theorem dX11_wrong_10 : decode cX11_wrong 10 = .ok (.putfield 211, 3) := by decide +kernel
theorem dX11_wrong_13 : decode cX11_wrong 13 = .ok (.aload_n 0, 1) := by decide +kernel
theorem dX11_wrong_14 : decode cX11_wrong 14 = .ok (.aload_n 0, 1) := by decide +kernel
theorem dX11_wrong_15 : decode cX11_wrong 15 = .ok (.getfield 173, 3) := by decide +kernel
theorem dX11_wrong_18 : decode cX11_wrong 18 = .ok (.putfield 214, 3) := by decide +kernel
theorem dX11_wrong_21 : decode cX11_wrong 21 = .ok (.return_, 1) := by decide +kernel
theorem dX11_isWord_0 : decode cX11_isWord 0 = .ok (.aload_n 0, 1) := by decide +kernel
theorem dX11_isWord_1 : decode cX11_isWord 1 = .ok (.getfield 211, 3) := by decide +kernel
theorem dX11_isWord_4 : decode cX11_isWord 4 = .ok (.ifCond .ne 22, 3) := by decide +kernel
theorem dX11_isWord_7 : decode cX11_isWord 7 = .ok (.aload_n 0, 1) := by decide +kernel
theorem dX11_isWord_8 : decode cX11_isWord 8 = .ok (.getfield 176, 3) := by decide +kernel
theorem dX11_isWord_11 : decode cX11_isWord 11 = .ok (.ifCond .ne 15, 3) := by decide +kernel
theorem dX11_isWord_14 : decode cX11_isWord 14 = .ok (.aload_n 0, 1) := by decide +kernel
theorem dX11_isWord_15 : decode cX11_isWord 15 = .ok (.getfield 186, 3) := by decide +kernel
theorem dX11_isWord_18 : decode cX11_isWord 18 = .ok (.iload_n 1, 1) := by decide +kernel
theorem dX11_isWord_19 : decode cX11_isWord 19 = .ok (.if_icmp .ne 7, 3) := by decide +kernel
theorem dX11_isWord_22 : decode cX11_isWord 22 = .ok (.iconst 1, 1) := by decide +kernel
theorem dX11_isWord_23 : decode cX11_isWord 23 = .ok (.goto 4, 3) := by decide +kernel
theorem dX11_isWord_26 : decode cX11_isWord 26 = .ok (.iconst 0, 1) := by decide +kernel
theorem dX11_isWord_27 : decode cX11_isWord 27 = .ok (.ireturn, 1) := by decide +kernel
theorem dX11_isSign_0 : decode cX11_isSign 0 = .ok (.aload_n 0, 1) := by decide +kernel
theorem dX11_isSign_1 : decode cX11_isSign 1 = .ok (.getfield 211, 3) := by decide +kernel
theorem dX11_isSign_4 : decode cX11_isSign 4 = .ok (.ifCond .ne 23, 3) := by decide +kernel
theorem dX11_isSign_7 : decode cX11_isSign 7 = .ok (.aload_n 0, 1) := by decide +kernel
theorem dX11_isSign_8 : decode cX11_isSign 8 = .ok (.getfield 176, 3) := by decide +kernel
theorem dX11_isSign_11 : decode cX11_isSign 11 = .ok (.iconst 3, 1) := by decide +kernel
theorem dX11_isSign_12 : decode cX11_isSign 12 = .ok (.if_icmp .ne 15, 3) := by decide +kernel
theorem dX11_isSign_15 : decode cX11_isSign 15 = .ok (.aload_n 0, 1) := by decide +kernel
theorem dX11_isSign_16 : decode cX11_isSign 16 = .ok (.getfield 186, 3) := by decide +kernel
theorem dX11_isSign_19 : decode cX11_isSign 19 = .ok (.iload_n 1, 1) := by decide +kernel
theorem dX11_isSign_20 : decode cX11_isSign 20 = .ok (.if_icmp .ne 7, 3) := by decide +kernel
theorem dX11_isSign_23 : decode cX11_isSign 23 = .ok (.iconst 1, 1) := by decide +kernel
theorem dX11_isSign_24 : decode cX11_isSign 24 = .ok (.goto 4, 3) := by decide +kernel
theorem dX11_isSign_27 : decode cX11_isSign 27 = .ok (.iconst 0, 1) := by decide +kernel
theorem dX11_isSign_28 : decode cX11_isSign 28 = .ok (.ireturn, 1) := by decide +kernel
theorem dX11_goOn_0 : decode cX11_goOn 0 = .ok (.aload_n 0, 1) := by decide +kernel
theorem dX11_goOn_1 : decode cX11_goOn 1 = .ok (.getfield 211, 3) := by decide +kernel
theorem dX11_goOn_4 : decode cX11_goOn 4 = .ok (.ifCond .ne 7, 3) := by decide +kernel
theorem dX11_goOn_7 : decode cX11_goOn 7 = .ok (.aload_n 0, 1) := by decide +kernel
theorem dX11_goOn_8 : decode cX11_goOn 8 = .ok (.invokevirtual 217, 3) := by decide +kernel
theorem dX11_goOn_11 : decode cX11_goOn 11 = .ok (.return_, 1) := by decide +kernel
theorem dX11_numeral_0 : decode cX11_numeral 0 = .ok (.aload_n 0, 1) := by decide +kernel
theorem dX11_numeral_1 : decode cX11_numeral 1 = .ok (.getfield 211, 3) := by decide +kernel
theorem dX11_numeral_4 : decode cX11_numeral 4 = .ok (.ifCond .eq 5, 3) := by decide +kernel
theorem dX11_numeral_7 : decode cX11_numeral 7 = .ok (.iload_n 1, 1) := by decide +kernel
theorem dX11_numeral_8 : decode cX11_numeral 8 = .ok (.ireturn, 1) := by decide +kernel
theorem dX11_numeral_9 : decode cX11_numeral 9 = .ok (.aload_n 0, 1) := by decide +kernel
theorem dX11_numeral_10 : decode cX11_numeral 10 = .ok (.getfield 176, 3) := by decide +kernel
theorem dX11_numeral_13 : decode cX11_numeral 13 = .ok (.iconst 2, 1) := by decide +kernel
theorem dX11_numeral_14 : decode cX11_numeral 14 = .ok (.if_icmp .eq 11, 3) := by decide +kernel
theorem dX11_numeral_17 : decode cX11_numeral 17 = .ok (.aload_n 0, 1) := by decide +kernel
theorem dX11_numeral_18 : decode cX11_numeral 18 = .ok (.iconst 1, 1) := by decide +kernel
theorem dX11_numeral_19 : decode cX11_numeral 19 = .ok (.invokevirtual 220, 3) := by decide +kernel
theorem dX11_numeral_22 : decode cX11_numeral 22 = .ok (.goto 24, 3) := by decide +kernel
theorem dX11_numeral_25 : decode cX11_numeral 25 = .ok (.aload_n 0, 1) := by decide +kernel
theorem dX11_numeral_26 : decode cX11_numeral 26 = .ok (.getfield 186, 3) := by decide +kernel
theorem dX11_numeral_29 : decode cX11_numeral 29 = .ok (.iload_n 1, 1) := by decide +kernel
theorem dX11_numeral_30 : decode cX11_numeral 30 = .ok (.if_icmp .lt 11, 3) := by decide +kernel
theorem dX11_numeral_33 : decode cX11_numeral 33 = .ok (.aload_n 0, 1) := by decide +kernel
theorem dX11_numeral_34 : decode cX11_numeral 34 = .ok (.getfield 186, 3) := by decide +kernel
theorem dX11_numeral_37 : decode cX11_numeral 37 = .ok (.iload_n 2, 1) := by decide +kernel
theorem dX11_numeral_38 : decode cX11_numeral 38 = .ok (.if_icmp .le 8, 3) := by decide +kernel
theorem dX11_numeral_41 : decode cX11_numeral 41 = .ok (.aload_n 0, 1) := by decide +kernel
theorem dX11_numeral_42 : decode cX11_numeral 42 = .ok (.iconst 2, 1) := by decide +kernel
theorem dX11_numeral_43 : decode cX11_numeral 43 = .ok (.invokevirtual 220, 3) := by decide +kernel
theorem dX11_numeral_46 : decode cX11_numeral 46 = .ok (.aload_n 0, 1) := by decide +kernel
theorem dX11_numeral_47 : decode cX11_numeral 47 = .ok (.getfield 211, 3) := by decide +kernel
theorem dX11_numeral_50 : decode cX11_numeral 50 = .ok (.ifCond .eq 5, 3) := by decide +kernel
theorem dX11_numeral_53 : decode cX11_numeral 53 = .ok (.iload_n 1, 1) := by decide +kernel
theorem dX11_numeral_54 : decode cX11_numeral 54 = .ok (.ireturn, 1) := by decide +kernel
theorem dX11_numeral_55 : decode cX11_numeral 55 = .ok (.aload_n 0, 1) := by decide +kernel
theorem dX11_numeral_56 : decode cX11_numeral 56 = .ok (.getfield 186, 3) := by decide +kernel
theorem dX11_numeral_59 : decode cX11_numeral 59 = .ok (.istore_n 3, 1) := by decide +kernel
theorem dX11_numeral_60 : decode cX11_numeral 60 = .ok (.aload_n 0, 1) := by decide +kernel
theorem dX11_numeral_61 : decode cX11_numeral 61 = .ok (.invokevirtual 217, 3) := by decide +kernel
theorem dX11_numeral_64 : decode cX11_numeral 64 = .ok (.iload_n 3, 1) := by decide +kernel
theorem dX11_numeral_65 : decode cX11_numeral 65 = .ok (.ireturn, 1) := by decide +kernel
theorem dX11_found_0 : decode cX11_found 0 = .ok (.iconst 0, 1) := by decide +kernel
theorem dX11_found_1 : decode cX11_found 1 = .ok (.istore 4, 2) := by decide +kernel
theorem dX11_found_3 : decode cX11_found 3 = .ok (.iload 4, 2) := by decide +kernel
theorem dX11_found_5 : decode cX11_found 5 = .ok (.iload_n 2, 1) := by decide +kernel
theorem dX11_found_6 : decode cX11_found 6 = .ok (.if_icmp .ge 22, 3) := by decide +kernel
theorem dX11_found_9 : decode cX11_found 9 = .ok (.aload_n 0, 1) := by decide +kernel
theorem dX11_found_10 : decode cX11_found 10 = .ok (.iload_n 1, 1) := by decide +kernel
theorem dX11_found_11 : decode cX11_found 11 = .ok (.iload 4, 2) := by decide +kernel
theorem dX11_found_13 : decode cX11_found 13 = .ok (.iadd, 1) := by decide +kernel
theorem dX11_found_14 : decode cX11_found 14 = .ok (.iaload, 1) := by decide +kernel
theorem dX11_found_15 : decode cX11_found 15 = .ok (.iload_n 3, 1) := by decide +kernel
theorem dX11_found_16 : decode cX11_found 16 = .ok (.if_icmp .ne 6, 3) := by decide +kernel
theorem dX11_found_19 : decode cX11_found 19 = .ok (.iload 4, 2) := by decide +kernel
theorem dX11_found_21 : decode cX11_found 21 = .ok (.ireturn, 1) := by decide +kernel
theorem dX11_found_22 : decode cX11_found 22 = .ok (.iinc 4 1, 3) := by decide +kernel
theorem dX11_found_25 : decode cX11_found 25 = .ok (.goto (-22), 3) := by decide +kernel
theorem dX11_found_28 : decode cX11_found 28 = .ok (.iconst (-1), 1) := by decide +kernel
theorem dX11_found_29 : decode cX11_found 29 = .ok (.ireturn, 1) := by decide +kernel
theorem dX11_fresh_0 : decode cX11_fresh 0 = .ok (.aload_n 0, 1) := by decide +kernel
theorem dX11_fresh_1 : decode cX11_fresh 1 = .ok (.getfield 211, 3) := by decide +kernel
theorem dX11_fresh_4 : decode cX11_fresh 4 = .ok (.ifCond .eq 5, 3) := by decide +kernel
theorem dX11_fresh_7 : decode cX11_fresh 7 = .ok (.iconst 0, 1) := by decide +kernel
theorem dX11_fresh_8 : decode cX11_fresh 8 = .ok (.ireturn, 1) := by decide +kernel
theorem dX11_fresh_9 : decode cX11_fresh 9 = .ok (.aload_n 0, 1) := by decide +kernel
theorem dX11_fresh_10 : decode cX11_fresh 10 = .ok (.getfield 176, 3) := by decide +kernel
theorem dX11_fresh_13 : decode cX11_fresh 13 = .ok (.iconst 1, 1) := by decide +kernel
theorem dX11_fresh_14 : decode cX11_fresh 14 = .ok (.if_icmp .eq 11, 3) := by decide +kernel
theorem dX11_fresh_17 : decode cX11_fresh 17 = .ok (.aload_n 0, 1) := by decide +kernel
theorem dX11_fresh_18 : decode cX11_fresh 18 = .ok (.iconst 1, 1) := by decide +kernel
theorem dX11_fresh_19 : decode cX11_fresh 19 = .ok (.invokevirtual 220, 3) := by decide +kernel
theorem dX11_fresh_22 : decode cX11_fresh 22 = .ok (.goto 22, 3) := by decide +kernel
theorem dX11_fresh_25 : decode cX11_fresh 25 = .ok (.aload_n 1, 1) := by decide +kernel
theorem dX11_fresh_26 : decode cX11_fresh 26 = .ok (.iload_n 2, 1) := by decide +kernel
theorem dX11_fresh_27 : decode cX11_fresh 27 = .ok (.iload_n 3, 1) := by decide +kernel
theorem dX11_fresh_28 : decode cX11_fresh 28 = .ok (.aload_n 0, 1) := by decide +kernel
theorem dX11_fresh_29 : decode cX11_fresh 29 = .ok (.getfield 186, 3) := by decide +kernel
theorem dX11_fresh_32 : decode cX11_fresh 32 = .ok (.invokestatic 223, 3) := by decide +kernel
theorem dX11_fresh_35 : decode cX11_fresh 35 = .ok (.iconst (-1), 1) := by decide +kernel
theorem dX11_fresh_36 : decode cX11_fresh 36 = .ok (.if_icmp .eq 8, 3) := by decide +kernel
theorem dX11_fresh_39 : decode cX11_fresh 39 = .ok (.aload_n 0, 1) := by decide +kernel
theorem dX11_fresh_40 : decode cX11_fresh 40 = .ok (.iconst 3, 1) := by decide +kernel
theorem dX11_fresh_41 : decode cX11_fresh 41 = .ok (.invokevirtual 220, 3) := by decide +kernel
theorem dX11_fresh_44 : decode cX11_fresh 44 = .ok (.aload_n 0, 1) := by decide +kernel
theorem dX11_fresh_45 : decode cX11_fresh 45 = .ok (.getfield 211, 3) := by decide +kernel
theorem dX11_fresh_48 : decode cX11_fresh 48 = .ok (.ifCond .eq 5, 3) := by decide +kernel
theorem dX11_fresh_51 : decode cX11_fresh 51 = .ok (.iconst 0, 1) := by decide +kernel
theorem dX11_fresh_52 : decode cX11_fresh 52 = .ok (.ireturn, 1) := by decide +kernel
theorem dX11_fresh_53 : decode cX11_fresh 53 = .ok (.aload_n 0, 1) := by decide +kernel
theorem dX11_fresh_54 : decode cX11_fresh 54 = .ok (.getfield 186, 3) := by decide +kernel
theorem dX11_fresh_57 : decode cX11_fresh 57 = .ok (.istore 4, 2) := by decide +kernel
theorem dX11_fresh_59 : decode cX11_fresh 59 = .ok (.aload_n 0, 1) := by decide +kernel
theorem dX11_fresh_60 : decode cX11_fresh 60 = .ok (.invokevirtual 217, 3) := by decide +kernel
theorem dX11_fresh_63 : decode cX11_fresh 63 = .ok (.iload 4, 2) := by decide +kernel
theorem dX11_fresh_65 : decode cX11_fresh 65 = .ok (.ireturn, 1) := by decide +kernel
theorem dX11_fresher_0 : decode cX11_fresher 0 = .ok (.aload_n 0, 1) := by decide +kernel
theorem dX11_fresher_1 : decode cX11_fresher 1 = .ok (.getfield 13, 3) := by decide +kernel
theorem dX11_fresher_4 : decode cX11_fresher 4 = .ok (.bipush 9, 2) := by decide +kernel
theorem dX11_fresher_6 : decode cX11_fresher 6 = .ok (.iload_n 1, 1) := by decide +kernel
theorem dX11_fresher_7 : decode cX11_fresher 7 = .ok (.iadd, 1) := by decide +kernel
theorem dX11_fresher_8 : decode cX11_fresher 8 = .ok (.iaload, 1) := by decide +kernel
theorem dX11_fresher_9 : decode cX11_fresher 9 = .ok (.ireturn, 1) := by decide +kernel
theorem dX11_reads_0 : decode cX11_reads 0 = .ok (.aload_n 0, 1) := by decide +kernel
theorem dX11_reads_1 : decode cX11_reads 1 = .ok (.getfield 13, 3) := by decide +kernel
theorem dX11_reads_4 : decode cX11_reads 4 = .ok (.bipush 9, 2) := by decide +kernel
theorem dX11_reads_6 : decode cX11_reads 6 = .ok (.iload_n 1, 1) := by decide +kernel
theorem dX11_reads_7 : decode cX11_reads 7 = .ok (.iadd, 1) := by decide +kernel
theorem dX11_reads_8 : decode cX11_reads 8 = .ok (.iload_n 2, 1) := by decide +kernel
theorem dX11_reads_9 : decode cX11_reads 9 = .ok (.iastore, 1) := by decide +kernel
theorem dX11_reads_10 : decode cX11_reads 10 = .ok (.return_, 1) := by decide +kernel
theorem dX11_toldAhead_0 : decode cX11_toldAhead 0 = .ok (.aload_n 0, 1) := by decide +kernel
theorem dX11_toldAhead_1 : decode cX11_toldAhead 1 = .ok (.getfield 211, 3) := by decide +kernel
theorem dX11_toldAhead_4 : decode cX11_toldAhead 4 = .ok (.ifCond .eq 5, 3) := by decide +kernel
theorem dX11_toldAhead_7 : decode cX11_toldAhead 7 = .ok (.iconst 0, 1) := by decide +kernel
theorem dX11_toldAhead_8 : decode cX11_toldAhead 8 = .ok (.ireturn, 1) := by decide +kernel
theorem dX11_toldAhead_9 : decode cX11_toldAhead 9 = .ok (.aload_n 0, 1) := by decide +kernel
theorem dX11_toldAhead_10 : decode cX11_toldAhead 10 = .ok (.getfield 176, 3) := by decide +kernel
theorem dX11_toldAhead_13 : decode cX11_toldAhead 13 = .ok (.iconst 1, 1) := by decide +kernel
theorem dX11_toldAhead_14 : decode cX11_toldAhead 14 = .ok (.if_icmp .eq 8, 3) := by decide +kernel
theorem dX11_toldAhead_17 : decode cX11_toldAhead 17 = .ok (.aload_n 0, 1) := by decide +kernel
theorem dX11_toldAhead_18 : decode cX11_toldAhead 18 = .ok (.iconst 1, 1) := by decide +kernel
theorem dX11_toldAhead_19 : decode cX11_toldAhead 19 = .ok (.invokevirtual 220, 3) := by decide +kernel
theorem dX11_toldAhead_22 : decode cX11_toldAhead 22 = .ok (.aload_n 0, 1) := by decide +kernel
theorem dX11_toldAhead_23 : decode cX11_toldAhead 23 = .ok (.getfield 211, 3) := by decide +kernel
theorem dX11_toldAhead_26 : decode cX11_toldAhead 26 = .ok (.ifCond .ne 16, 3) := by decide +kernel
theorem dX11_toldAhead_29 : decode cX11_toldAhead 29 = .ok (.aload_n 1, 1) := by decide +kernel
theorem dX11_toldAhead_30 : decode cX11_toldAhead 30 = .ok (.iload_n 2, 1) := by decide +kernel
theorem dX11_toldAhead_31 : decode cX11_toldAhead 31 = .ok (.iload_n 3, 1) := by decide +kernel
theorem dX11_toldAhead_32 : decode cX11_toldAhead 32 = .ok (.aload_n 0, 1) := by decide +kernel
theorem dX11_toldAhead_33 : decode cX11_toldAhead 33 = .ok (.getfield 186, 3) := by decide +kernel
theorem dX11_toldAhead_36 : decode cX11_toldAhead 36 = .ok (.invokestatic 223, 3) := by decide +kernel
theorem dX11_toldAhead_39 : decode cX11_toldAhead 39 = .ok (.goto 4, 3) := by decide +kernel
theorem dX11_toldAhead_42 : decode cX11_toldAhead 42 = .ok (.iconst 0, 1) := by decide +kernel
theorem dX11_toldAhead_43 : decode cX11_toldAhead 43 = .ok (.istore 4, 2) := by decide +kernel
theorem dX11_toldAhead_45 : decode cX11_toldAhead 45 = .ok (.aload_n 0, 1) := by decide +kernel
theorem dX11_toldAhead_46 : decode cX11_toldAhead 46 = .ok (.getfield 211, 3) := by decide +kernel
theorem dX11_toldAhead_49 : decode cX11_toldAhead 49 = .ok (.ifCond .ne 14, 3) := by decide +kernel
theorem dX11_toldAhead_52 : decode cX11_toldAhead 52 = .ok (.iload 4, 2) := by decide +kernel
theorem dX11_toldAhead_54 : decode cX11_toldAhead 54 = .ok (.iconst (-1), 1) := by decide +kernel
theorem dX11_toldAhead_55 : decode cX11_toldAhead 55 = .ok (.if_icmp .ne 8, 3) := by decide +kernel
theorem dX11_toldAhead_58 : decode cX11_toldAhead 58 = .ok (.aload_n 0, 1) := by decide +kernel
theorem dX11_toldAhead_59 : decode cX11_toldAhead 59 = .ok (.iconst 4, 1) := by decide +kernel
theorem dX11_toldAhead_60 : decode cX11_toldAhead 60 = .ok (.invokevirtual 220, 3) := by decide +kernel
theorem dX11_toldAhead_63 : decode cX11_toldAhead 63 = .ok (.aload_n 0, 1) := by decide +kernel
theorem dX11_toldAhead_64 : decode cX11_toldAhead 64 = .ok (.invokevirtual 227, 3) := by decide +kernel
theorem dX11_toldAhead_67 : decode cX11_toldAhead 67 = .ok (.aload_n 0, 1) := by decide +kernel
theorem dX11_toldAhead_68 : decode cX11_toldAhead 68 = .ok (.getfield 211, 3) := by decide +kernel
theorem dX11_toldAhead_71 : decode cX11_toldAhead 71 = .ok (.ifCond .eq 7, 3) := by decide +kernel
theorem dX11_toldAhead_74 : decode cX11_toldAhead 74 = .ok (.iconst 0, 1) := by decide +kernel
theorem dX11_toldAhead_75 : decode cX11_toldAhead 75 = .ok (.goto 5, 3) := by decide +kernel
theorem dX11_toldAhead_78 : decode cX11_toldAhead 78 = .ok (.iload 4, 2) := by decide +kernel
theorem dX11_toldAhead_80 : decode cX11_toldAhead 80 = .ok (.ireturn, 1) := by decide +kernel
theorem dX11_manAhead_0 : decode cX11_manAhead 0 = .ok (.aload_n 0, 1) := by decide +kernel
theorem dX11_manAhead_1 : decode cX11_manAhead 1 = .ok (.aload_n 0, 1) := by decide +kernel
theorem dX11_manAhead_2 : decode cX11_manAhead 2 = .ok (.getfield 16, 3) := by decide +kernel
theorem dX11_manAhead_5 : decode cX11_manAhead 5 = .ok (.iconst 5, 1) := by decide +kernel
theorem dX11_manAhead_6 : decode cX11_manAhead 6 = .ok (.aload_n 0, 1) := by decide +kernel
theorem dX11_manAhead_7 : decode cX11_manAhead 7 = .ok (.iconst 0, 1) := by decide +kernel
theorem dX11_manAhead_8 : decode cX11_manAhead 8 = .ok (.invokevirtual 230, 3) := by decide +kernel
theorem dX11_manAhead_11 : decode cX11_manAhead 11 = .ok (.invokevirtual 234, 3) := by decide +kernel
theorem dX11_manAhead_14 : decode cX11_manAhead 14 = .ok (.ireturn, 1) := by decide +kernel
theorem dX11_isFull_0 : decode cX11_isFull 0 = .ok (.iload_n 1, 1) := by decide +kernel
theorem dX11_isFull_1 : decode cX11_isFull 1 = .ok (.tableswitch 112 0 4 #[35, 50, 65, 80, 96], 35) := by decide +kernel
theorem dX11_isFull_36 : decode cX11_isFull 36 = .ok (.aload_n 0, 1) := by decide +kernel
theorem dX11_isFull_37 : decode cX11_isFull 37 = .ok (.iconst 0, 1) := by decide +kernel
theorem dX11_isFull_38 : decode cX11_isFull 38 = .ok (.invokevirtual 230, 3) := by decide +kernel
theorem dX11_isFull_41 : decode cX11_isFull 41 = .ok (.iconst 5, 1) := by decide +kernel
theorem dX11_isFull_42 : decode cX11_isFull 42 = .ok (.if_icmp .ne 7, 3) := by decide +kernel
theorem dX11_isFull_45 : decode cX11_isFull 45 = .ok (.iconst 1, 1) := by decide +kernel
theorem dX11_isFull_46 : decode cX11_isFull 46 = .ok (.goto 4, 3) := by decide +kernel
theorem dX11_isFull_49 : decode cX11_isFull 49 = .ok (.iconst 0, 1) := by decide +kernel
theorem dX11_isFull_50 : decode cX11_isFull 50 = .ok (.ireturn, 1) := by decide +kernel
theorem dX11_isFull_51 : decode cX11_isFull 51 = .ok (.aload_n 0, 1) := by decide +kernel
theorem dX11_isFull_52 : decode cX11_isFull 52 = .ok (.iconst 1, 1) := by decide +kernel
theorem dX11_isFull_53 : decode cX11_isFull 53 = .ok (.invokevirtual 230, 3) := by decide +kernel
theorem dX11_isFull_56 : decode cX11_isFull 56 = .ok (.iconst 5, 1) := by decide +kernel
theorem dX11_isFull_57 : decode cX11_isFull 57 = .ok (.if_icmp .ne 7, 3) := by decide +kernel
theorem dX11_isFull_60 : decode cX11_isFull 60 = .ok (.iconst 1, 1) := by decide +kernel
theorem dX11_isFull_61 : decode cX11_isFull 61 = .ok (.goto 4, 3) := by decide +kernel
theorem dX11_isFull_64 : decode cX11_isFull 64 = .ok (.iconst 0, 1) := by decide +kernel
theorem dX11_isFull_65 : decode cX11_isFull 65 = .ok (.ireturn, 1) := by decide +kernel
theorem dX11_isFull_66 : decode cX11_isFull 66 = .ok (.aload_n 0, 1) := by decide +kernel
theorem dX11_isFull_67 : decode cX11_isFull 67 = .ok (.iconst 2, 1) := by decide +kernel
theorem dX11_isFull_68 : decode cX11_isFull 68 = .ok (.invokevirtual 230, 3) := by decide +kernel
theorem dX11_isFull_71 : decode cX11_isFull 71 = .ok (.iconst 5, 1) := by decide +kernel
theorem dX11_isFull_72 : decode cX11_isFull 72 = .ok (.if_icmp .ne 7, 3) := by decide +kernel
theorem dX11_isFull_75 : decode cX11_isFull 75 = .ok (.iconst 1, 1) := by decide +kernel
theorem dX11_isFull_76 : decode cX11_isFull 76 = .ok (.goto 4, 3) := by decide +kernel
theorem dX11_isFull_79 : decode cX11_isFull 79 = .ok (.iconst 0, 1) := by decide +kernel
theorem dX11_isFull_80 : decode cX11_isFull 80 = .ok (.ireturn, 1) := by decide +kernel
theorem dX11_isFull_81 : decode cX11_isFull 81 = .ok (.aload_n 0, 1) := by decide +kernel
theorem dX11_isFull_82 : decode cX11_isFull 82 = .ok (.iconst 3, 1) := by decide +kernel
theorem dX11_isFull_83 : decode cX11_isFull 83 = .ok (.invokevirtual 230, 3) := by decide +kernel
theorem dX11_isFull_86 : decode cX11_isFull 86 = .ok (.bipush 12, 2) := by decide +kernel
theorem dX11_isFull_88 : decode cX11_isFull 88 = .ok (.if_icmp .ne 7, 3) := by decide +kernel
theorem dX11_isFull_91 : decode cX11_isFull 91 = .ok (.iconst 1, 1) := by decide +kernel
theorem dX11_isFull_92 : decode cX11_isFull 92 = .ok (.goto 4, 3) := by decide +kernel
theorem dX11_isFull_95 : decode cX11_isFull 95 = .ok (.iconst 0, 1) := by decide +kernel
theorem dX11_isFull_96 : decode cX11_isFull 96 = .ok (.ireturn, 1) := by decide +kernel
theorem dX11_isFull_97 : decode cX11_isFull 97 = .ok (.aload_n 0, 1) := by decide +kernel
theorem dX11_isFull_98 : decode cX11_isFull 98 = .ok (.iconst 4, 1) := by decide +kernel
theorem dX11_isFull_99 : decode cX11_isFull 99 = .ok (.invokevirtual 230, 3) := by decide +kernel
theorem dX11_isFull_102 : decode cX11_isFull 102 = .ok (.bipush 8, 2) := by decide +kernel
theorem dX11_isFull_104 : decode cX11_isFull 104 = .ok (.if_icmp .ne 7, 3) := by decide +kernel
theorem dX11_isFull_107 : decode cX11_isFull 107 = .ok (.iconst 1, 1) := by decide +kernel
theorem dX11_isFull_108 : decode cX11_isFull 108 = .ok (.goto 4, 3) := by decide +kernel
theorem dX11_isFull_111 : decode cX11_isFull 111 = .ok (.iconst 0, 1) := by decide +kernel
theorem dX11_isFull_112 : decode cX11_isFull 112 = .ok (.ireturn, 1) := by decide +kernel
theorem dX11_isFull_113 : decode cX11_isFull 113 = .ok (.iconst 0, 1) := by decide +kernel
theorem dX11_isFull_114 : decode cX11_isFull 114 = .ok (.ireturn, 1) := by decide +kernel
theorem dX11_wantLine_0 : decode cX11_wantLine 0 = .ok (.aload_n 0, 1) := by decide +kernel
theorem dX11_wantLine_1 : decode cX11_wantLine 1 = .ok (.getfield 46, 3) := by decide +kernel
theorem dX11_wantLine_4 : decode cX11_wantLine 4 = .ok (.iload_n 1, 1) := by decide +kernel
theorem dX11_wantLine_5 : decode cX11_wantLine 5 = .ok (.aload_n 0, 1) := by decide +kernel
theorem dX11_wantLine_6 : decode cX11_wantLine 6 = .ok (.invokevirtual 255, 3) := by decide +kernel
theorem dX11_wantLine_9 : decode cX11_wantLine 9 = .ok (.iastore, 1) := by decide +kernel
theorem dX11_wantLine_10 : decode cX11_wantLine 10 = .ok (.aload_n 0, 1) := by decide +kernel
theorem dX11_wantLine_11 : decode cX11_wantLine 11 = .ok (.getfield 49, 3) := by decide +kernel
theorem dX11_wantLine_14 : decode cX11_wantLine 14 = .ok (.iload_n 1, 1) := by decide +kernel
theorem dX11_wantLine_15 : decode cX11_wantLine 15 = .ok (.aload_n 0, 1) := by decide +kernel
theorem dX11_wantLine_16 : decode cX11_wantLine 16 = .ok (.aload_n 0, 1) := by decide +kernel
theorem dX11_wantLine_17 : decode cX11_wantLine 17 = .ok (.getfield 31, 3) := by decide +kernel
theorem dX11_wantLine_20 : decode cX11_wantLine 20 = .ok (.iconst 5, 1) := by decide +kernel
theorem dX11_wantLine_21 : decode cX11_wantLine 21 = .ok (.aload_n 0, 1) := by decide +kernel
theorem dX11_wantLine_22 : decode cX11_wantLine 22 = .ok (.iconst 2, 1) := by decide +kernel
theorem dX11_wantLine_23 : decode cX11_wantLine 23 = .ok (.invokevirtual 230, 3) := by decide +kernel
theorem dX11_wantLine_26 : decode cX11_wantLine 26 = .ok (.invokevirtual 234, 3) := by decide +kernel
theorem dX11_wantLine_29 : decode cX11_wantLine 29 = .ok (.iastore, 1) := by decide +kernel
theorem dX11_wantLine_30 : decode cX11_wantLine 30 = .ok (.aload_n 0, 1) := by decide +kernel
theorem dX11_wantLine_31 : decode cX11_wantLine 31 = .ok (.getfield 52, 3) := by decide +kernel
theorem dX11_wantLine_34 : decode cX11_wantLine 34 = .ok (.iload_n 1, 1) := by decide +kernel
theorem dX11_wantLine_35 : decode cX11_wantLine 35 = .ok (.aload_n 0, 1) := by decide +kernel
theorem dX11_wantLine_36 : decode cX11_wantLine 36 = .ok (.iconst 0, 1) := by decide +kernel
theorem dX11_wantLine_37 : decode cX11_wantLine 37 = .ok (.iconst 1, 1) := by decide +kernel
theorem dX11_wantLine_38 : decode cX11_wantLine 38 = .ok (.invokevirtual 247, 3) := by decide +kernel
theorem dX11_wantLine_41 : decode cX11_wantLine 41 = .ok (.iastore, 1) := by decide +kernel
theorem dX11_wantLine_42 : decode cX11_wantLine 42 = .ok (.aload_n 0, 1) := by decide +kernel
theorem dX11_wantLine_43 : decode cX11_wantLine 43 = .ok (.getfield 55, 3) := by decide +kernel
theorem dX11_wantLine_46 : decode cX11_wantLine 46 = .ok (.iload_n 1, 1) := by decide +kernel
theorem dX11_wantLine_47 : decode cX11_wantLine 47 = .ok (.aload_n 0, 1) := by decide +kernel
theorem dX11_wantLine_48 : decode cX11_wantLine 48 = .ok (.iconst 0, 1) := by decide +kernel
theorem dX11_wantLine_49 : decode cX11_wantLine 49 = .ok (.bipush 99, 2) := by decide +kernel
theorem dX11_wantLine_51 : decode cX11_wantLine 51 = .ok (.invokevirtual 247, 3) := by decide +kernel
theorem dX11_wantLine_54 : decode cX11_wantLine 54 = .ok (.iastore, 1) := by decide +kernel
theorem dX11_wantLine_55 : decode cX11_wantLine 55 = .ok (.aload_n 0, 1) := by decide +kernel
theorem dX11_wantLine_56 : decode cX11_wantLine 56 = .ok (.getfield 58, 3) := by decide +kernel
theorem dX11_wantLine_59 : decode cX11_wantLine 59 = .ok (.iload_n 1, 1) := by decide +kernel
theorem dX11_wantLine_60 : decode cX11_wantLine 60 = .ok (.aload_n 0, 1) := by decide +kernel
theorem dX11_wantLine_61 : decode cX11_wantLine 61 = .ok (.iconst 0, 1) := by decide +kernel
theorem dX11_wantLine_62 : decode cX11_wantLine 62 = .ok (.bipush 99, 2) := by decide +kernel
theorem dX11_wantLine_64 : decode cX11_wantLine 64 = .ok (.invokevirtual 247, 3) := by decide +kernel
theorem dX11_wantLine_67 : decode cX11_wantLine 67 = .ok (.iastore, 1) := by decide +kernel
theorem dX11_wantLine_68 : decode cX11_wantLine 68 = .ok (.aload_n 0, 1) := by decide +kernel
theorem dX11_wantLine_69 : decode cX11_wantLine 69 = .ok (.iconst 4, 1) := by decide +kernel
theorem dX11_wantLine_70 : decode cX11_wantLine 70 = .ok (.aload_n 0, 1) := by decide +kernel
theorem dX11_wantLine_71 : decode cX11_wantLine 71 = .ok (.iconst 4, 1) := by decide +kernel
theorem dX11_wantLine_72 : decode cX11_wantLine 72 = .ok (.invokevirtual 230, 3) := by decide +kernel
theorem dX11_wantLine_75 : decode cX11_wantLine 75 = .ok (.iconst 1, 1) := by decide +kernel
theorem dX11_wantLine_76 : decode cX11_wantLine 76 = .ok (.iadd, 1) := by decide +kernel
theorem dX11_wantLine_77 : decode cX11_wantLine 77 = .ok (.invokevirtual 251, 3) := by decide +kernel
theorem dX11_wantLine_80 : decode cX11_wantLine 80 = .ok (.return_, 1) := by decide +kernel
theorem dX11_knot_0 : decode cX11_knot 0 = .ok (.aload_n 0, 1) := by decide +kernel
theorem dX11_knot_1 : decode cX11_knot 1 = .ok (.getfield 211, 3) := by decide +kernel
theorem dX11_knot_4 : decode cX11_knot 4 = .ok (.ifCond .eq 4, 3) := by decide +kernel
theorem dX11_knot_7 : decode cX11_knot 7 = .ok (.return_, 1) := by decide +kernel
theorem dX11_knot_8 : decode cX11_knot 8 = .ok (.aload_n 0, 1) := by decide +kernel
theorem dX11_knot_9 : decode cX11_knot 9 = .ok (.getfield 273, 3) := by decide +kernel
theorem dX11_knot_12 : decode cX11_knot 12 = .ok (.bipush 64, 2) := by decide +kernel
theorem dX11_knot_14 : decode cX11_knot 14 = .ok (.if_icmp .ne 11, 3) := by decide +kernel
theorem dX11_knot_17 : decode cX11_knot 17 = .ok (.aload_n 0, 1) := by decide +kernel
theorem dX11_knot_18 : decode cX11_knot 18 = .ok (.iconst 2, 1) := by decide +kernel
theorem dX11_knot_19 : decode cX11_knot 19 = .ok (.invokevirtual 220, 3) := by decide +kernel
theorem dX11_knot_22 : decode cX11_knot 22 = .ok (.goto 13, 3) := by decide +kernel
theorem dX11_knot_25 : decode cX11_knot 25 = .ok (.aload_n 0, 1) := by decide +kernel
theorem dX11_knot_26 : decode cX11_knot 26 = .ok (.dup, 1) := by decide +kernel
theorem dX11_knot_27 : decode cX11_knot 27 = .ok (.getfield 273, 3) := by decide +kernel
theorem dX11_knot_30 : decode cX11_knot 30 = .ok (.iconst 1, 1) := by decide +kernel
theorem dX11_knot_31 : decode cX11_knot 31 = .ok (.iadd, 1) := by decide +kernel
theorem dX11_knot_32 : decode cX11_knot 32 = .ok (.putfield 273, 3) := by decide +kernel
theorem dX11_knot_35 : decode cX11_knot 35 = .ok (.return_, 1) := by decide +kernel
theorem dX11_puts_0 : decode cX11_puts 0 = .ok (.aload_n 0, 1) := by decide +kernel
theorem dX11_puts_1 : decode cX11_puts 1 = .ok (.getfield 211, 3) := by decide +kernel
theorem dX11_puts_4 : decode cX11_puts 4 = .ok (.ifCond .eq 4, 3) := by decide +kernel
theorem dX11_puts_7 : decode cX11_puts 7 = .ok (.return_, 1) := by decide +kernel
theorem dX11_puts_8 : decode cX11_puts 8 = .ok (.aload_n 0, 1) := by decide +kernel
theorem dX11_puts_9 : decode cX11_puts 9 = .ok (.getfield 67, 3) := by decide +kernel
theorem dX11_puts_12 : decode cX11_puts 12 = .ok (.bipush 64, 2) := by decide +kernel
theorem dX11_puts_14 : decode cX11_puts 14 = .ok (.aload_n 0, 1) := by decide +kernel
theorem dX11_puts_15 : decode cX11_puts 15 = .ok (.bipush 8, 2) := by decide +kernel
theorem dX11_puts_17 : decode cX11_puts 17 = .ok (.invokevirtual 230, 3) := by decide +kernel
theorem dX11_puts_20 : decode cX11_puts 20 = .ok (.iadd, 1) := by decide +kernel
theorem dX11_puts_21 : decode cX11_puts 21 = .ok (.iload_n 1, 1) := by decide +kernel
theorem dX11_puts_22 : decode cX11_puts 22 = .ok (.iastore, 1) := by decide +kernel
theorem dX11_puts_23 : decode cX11_puts 23 = .ok (.aload_n 0, 1) := by decide +kernel
theorem dX11_puts_24 : decode cX11_puts 24 = .ok (.getfield 70, 3) := by decide +kernel
theorem dX11_puts_27 : decode cX11_puts 27 = .ok (.bipush 64, 2) := by decide +kernel
theorem dX11_puts_29 : decode cX11_puts 29 = .ok (.aload_n 0, 1) := by decide +kernel
theorem dX11_puts_30 : decode cX11_puts 30 = .ok (.bipush 8, 2) := by decide +kernel
theorem dX11_puts_32 : decode cX11_puts 32 = .ok (.invokevirtual 230, 3) := by decide +kernel
theorem dX11_puts_35 : decode cX11_puts 35 = .ok (.iadd, 1) := by decide +kernel
theorem dX11_puts_36 : decode cX11_puts 36 = .ok (.iload_n 2, 1) := by decide +kernel
theorem dX11_puts_37 : decode cX11_puts 37 = .ok (.iastore, 1) := by decide +kernel
theorem dX11_puts_38 : decode cX11_puts 38 = .ok (.aload_n 0, 1) := by decide +kernel
theorem dX11_puts_39 : decode cX11_puts 39 = .ok (.bipush 8, 2) := by decide +kernel
theorem dX11_puts_41 : decode cX11_puts 41 = .ok (.aload_n 0, 1) := by decide +kernel
theorem dX11_puts_42 : decode cX11_puts 42 = .ok (.bipush 8, 2) := by decide +kernel
theorem dX11_puts_44 : decode cX11_puts 44 = .ok (.invokevirtual 230, 3) := by decide +kernel
theorem dX11_puts_47 : decode cX11_puts 47 = .ok (.iconst 1, 1) := by decide +kernel
theorem dX11_puts_48 : decode cX11_puts 48 = .ok (.iadd, 1) := by decide +kernel
theorem dX11_puts_49 : decode cX11_puts 49 = .ok (.invokevirtual 251, 3) := by decide +kernel
theorem dX11_puts_52 : decode cX11_puts 52 = .ok (.return_, 1) := by decide +kernel
theorem dX11_primary_0 : decode cX11_primary 0 = .ok (.aload_n 0, 1) := by decide +kernel
theorem dX11_primary_1 : decode cX11_primary 1 = .ok (.getfield 211, 3) := by decide +kernel
theorem dX11_primary_4 : decode cX11_primary 4 = .ok (.ifCond .eq 4, 3) := by decide +kernel
theorem dX11_primary_7 : decode cX11_primary 7 = .ok (.return_, 1) := by decide +kernel
theorem dX11_primary_8 : decode cX11_primary 8 = .ok (.aload_n 0, 1) := by decide +kernel
theorem dX11_primary_9 : decode cX11_primary 9 = .ok (.bipush 40, 2) := by decide +kernel
theorem dX11_primary_11 : decode cX11_primary 11 = .ok (.invokevirtual 264, 3) := by decide +kernel
theorem dX11_primary_14 : decode cX11_primary 14 = .ok (.ifCond .eq 87, 3) := by decide +kernel
theorem dX11_primary_17 : decode cX11_primary 17 = .ok (.aload_n 0, 1) := by decide +kernel
theorem dX11_primary_18 : decode cX11_primary 18 = .ok (.getfield 300, 3) := by decide +kernel
theorem dX11_primary_21 : decode cX11_primary 21 = .ok (.bipush 8, 2) := by decide +kernel
theorem dX11_primary_23 : decode cX11_primary 23 = .ok (.if_icmp .ne 8, 3) := by decide +kernel
theorem dX11_primary_26 : decode cX11_primary 26 = .ok (.aload_n 0, 1) := by decide +kernel
theorem dX11_primary_27 : decode cX11_primary 27 = .ok (.iconst 2, 1) := by decide +kernel
theorem dX11_primary_28 : decode cX11_primary 28 = .ok (.invokevirtual 220, 3) := by decide +kernel
theorem dX11_primary_31 : decode cX11_primary 31 = .ok (.aload_n 0, 1) := by decide +kernel
theorem dX11_primary_32 : decode cX11_primary 32 = .ok (.getfield 211, 3) := by decide +kernel
theorem dX11_primary_35 : decode cX11_primary 35 = .ok (.ifCond .eq 4, 3) := by decide +kernel
theorem dX11_primary_38 : decode cX11_primary 38 = .ok (.return_, 1) := by decide +kernel
theorem dX11_primary_39 : decode cX11_primary 39 = .ok (.aload_n 0, 1) := by decide +kernel
theorem dX11_primary_40 : decode cX11_primary 40 = .ok (.dup, 1) := by decide +kernel
theorem dX11_primary_41 : decode cX11_primary 41 = .ok (.getfield 300, 3) := by decide +kernel
theorem dX11_primary_44 : decode cX11_primary 44 = .ok (.iconst 1, 1) := by decide +kernel
theorem dX11_primary_45 : decode cX11_primary 45 = .ok (.iadd, 1) := by decide +kernel
theorem dX11_primary_46 : decode cX11_primary 46 = .ok (.putfield 300, 3) := by decide +kernel
theorem dX11_primary_49 : decode cX11_primary 49 = .ok (.aload_n 0, 1) := by decide +kernel
theorem dX11_primary_50 : decode cX11_primary 50 = .ok (.invokevirtual 217, 3) := by decide +kernel
theorem dX11_primary_53 : decode cX11_primary 53 = .ok (.aload_n 0, 1) := by decide +kernel
theorem dX11_primary_54 : decode cX11_primary 54 = .ok (.invokevirtual 270, 3) := by decide +kernel
theorem dX11_primary_57 : decode cX11_primary 57 = .ok (.aload_n 0, 1) := by decide +kernel
theorem dX11_primary_58 : decode cX11_primary 58 = .ok (.getfield 211, 3) := by decide +kernel
theorem dX11_primary_61 : decode cX11_primary 61 = .ok (.ifCond .ne 17, 3) := by decide +kernel
theorem dX11_primary_64 : decode cX11_primary 64 = .ok (.aload_n 0, 1) := by decide +kernel
theorem dX11_primary_65 : decode cX11_primary 65 = .ok (.bipush 41, 2) := by decide +kernel
theorem dX11_primary_67 : decode cX11_primary 67 = .ok (.invokevirtual 264, 3) := by decide +kernel
theorem dX11_primary_70 : decode cX11_primary 70 = .ok (.ifCond .ne 8, 3) := by decide +kernel
theorem dX11_primary_73 : decode cX11_primary 73 = .ok (.aload_n 0, 1) := by decide +kernel
theorem dX11_primary_74 : decode cX11_primary 74 = .ok (.iconst 1, 1) := by decide +kernel
theorem dX11_primary_75 : decode cX11_primary 75 = .ok (.invokevirtual 220, 3) := by decide +kernel
theorem dX11_primary_78 : decode cX11_primary 78 = .ok (.aload_n 0, 1) := by decide +kernel
theorem dX11_primary_79 : decode cX11_primary 79 = .ok (.getfield 211, 3) := by decide +kernel
theorem dX11_primary_82 : decode cX11_primary 82 = .ok (.ifCond .eq 4, 3) := by decide +kernel
theorem dX11_primary_85 : decode cX11_primary 85 = .ok (.return_, 1) := by decide +kernel
theorem dX11_primary_86 : decode cX11_primary 86 = .ok (.aload_n 0, 1) := by decide +kernel
theorem dX11_primary_87 : decode cX11_primary 87 = .ok (.dup, 1) := by decide +kernel
theorem dX11_primary_88 : decode cX11_primary 88 = .ok (.getfield 300, 3) := by decide +kernel
theorem dX11_primary_91 : decode cX11_primary 91 = .ok (.iconst 1, 1) := by decide +kernel
theorem dX11_primary_92 : decode cX11_primary 92 = .ok (.isub, 1) := by decide +kernel
theorem dX11_primary_93 : decode cX11_primary 93 = .ok (.putfield 300, 3) := by decide +kernel
theorem dX11_primary_96 : decode cX11_primary 96 = .ok (.aload_n 0, 1) := by decide +kernel
theorem dX11_primary_97 : decode cX11_primary 97 = .ok (.invokevirtual 217, 3) := by decide +kernel
theorem dX11_primary_100 : decode cX11_primary 100 = .ok (.return_, 1) := by decide +kernel
theorem dX11_primary_101 : decode cX11_primary 101 = .ok (.aload_n 0, 1) := by decide +kernel
theorem dX11_primary_102 : decode cX11_primary 102 = .ok (.getfield 176, 3) := by decide +kernel
theorem dX11_primary_105 : decode cX11_primary 105 = .ok (.iconst 2, 1) := by decide +kernel
theorem dX11_primary_106 : decode cX11_primary 106 = .ok (.if_icmp .ne 7, 3) := by decide +kernel
theorem dX11_primary_109 : decode cX11_primary 109 = .ok (.iconst 1, 1) := by decide +kernel
theorem dX11_primary_110 : decode cX11_primary 110 = .ok (.goto 4, 3) := by decide +kernel
theorem dX11_primary_113 : decode cX11_primary 113 = .ok (.iconst 0, 1) := by decide +kernel
theorem dX11_primary_114 : decode cX11_primary 114 = .ok (.istore_n 1, 1) := by decide +kernel
theorem dX11_primary_115 : decode cX11_primary 115 = .ok (.iload_n 1, 1) := by decide +kernel
theorem dX11_primary_116 : decode cX11_primary 116 = .ok (.ifCond .eq 21, 3) := by decide +kernel
theorem dX11_primary_119 : decode cX11_primary 119 = .ok (.aload_n 0, 1) := by decide +kernel
theorem dX11_primary_120 : decode cX11_primary 120 = .ok (.getfield 186, 3) := by decide +kernel
theorem dX11_primary_123 : decode cX11_primary 123 = .ok (.sipush 9999, 3) := by decide +kernel
theorem dX11_primary_126 : decode cX11_primary 126 = .ok (.if_icmp .le 11, 3) := by decide +kernel
theorem dX11_primary_129 : decode cX11_primary 129 = .ok (.aload_n 0, 1) := by decide +kernel
theorem dX11_primary_130 : decode cX11_primary 130 = .ok (.iconst 2, 1) := by decide +kernel
theorem dX11_primary_131 : decode cX11_primary 131 = .ok (.invokevirtual 220, 3) := by decide +kernel
theorem dX11_primary_134 : decode cX11_primary 134 = .ok (.goto 28, 3) := by decide +kernel
theorem dX11_primary_137 : decode cX11_primary 137 = .ok (.iload_n 1, 1) := by decide +kernel
theorem dX11_primary_138 : decode cX11_primary 138 = .ok (.ifCond .ne 24, 3) := by decide +kernel
theorem dX11_primary_141 : decode cX11_primary 141 = .ok (.aload_n 0, 1) := by decide +kernel
theorem dX11_primary_142 : decode cX11_primary 142 = .ok (.getfield 176, 3) := by decide +kernel
theorem dX11_primary_145 : decode cX11_primary 145 = .ok (.ifCond .ne 12, 3) := by decide +kernel
theorem dX11_primary_148 : decode cX11_primary 148 = .ok (.aload_n 0, 1) := by decide +kernel
theorem dX11_primary_149 : decode cX11_primary 149 = .ok (.getfield 186, 3) := by decide +kernel
theorem dX11_primary_152 : decode cX11_primary 152 = .ok (.bipush 15, 2) := by decide +kernel
theorem dX11_primary_154 : decode cX11_primary 154 = .ok (.if_icmp .ge 8, 3) := by decide +kernel
theorem dX11_primary_157 : decode cX11_primary 157 = .ok (.aload_n 0, 1) := by decide +kernel
theorem dX11_primary_158 : decode cX11_primary 158 = .ok (.iconst 1, 1) := by decide +kernel
theorem dX11_primary_159 : decode cX11_primary 159 = .ok (.invokevirtual 220, 3) := by decide +kernel
theorem dX11_primary_162 : decode cX11_primary 162 = .ok (.aload_n 0, 1) := by decide +kernel
theorem dX11_primary_163 : decode cX11_primary 163 = .ok (.invokevirtual 282, 3) := by decide +kernel
theorem dX11_primary_166 : decode cX11_primary 166 = .ok (.aload_n 0, 1) := by decide +kernel
theorem dX11_primary_167 : decode cX11_primary 167 = .ok (.iload_n 1, 1) := by decide +kernel
theorem dX11_primary_168 : decode cX11_primary 168 = .ok (.ifCond .eq 7, 3) := by decide +kernel
theorem dX11_primary_171 : decode cX11_primary 171 = .ok (.iconst 0, 1) := by decide +kernel
theorem dX11_primary_172 : decode cX11_primary 172 = .ok (.goto 4, 3) := by decide +kernel
theorem dX11_primary_175 : decode cX11_primary 175 = .ok (.iconst 1, 1) := by decide +kernel
theorem dX11_primary_176 : decode cX11_primary 176 = .ok (.iload_n 1, 1) := by decide +kernel
theorem dX11_primary_177 : decode cX11_primary 177 = .ok (.ifCond .eq 10, 3) := by decide +kernel
theorem dX11_primary_180 : decode cX11_primary 180 = .ok (.aload_n 0, 1) := by decide +kernel
theorem dX11_primary_181 : decode cX11_primary 181 = .ok (.getfield 186, 3) := by decide +kernel
theorem dX11_primary_184 : decode cX11_primary 184 = .ok (.goto 10, 3) := by decide +kernel
theorem dX11_primary_187 : decode cX11_primary 187 = .ok (.aload_n 0, 1) := by decide +kernel
theorem dX11_primary_188 : decode cX11_primary 188 = .ok (.getfield 186, 3) := by decide +kernel
theorem dX11_primary_191 : decode cX11_primary 191 = .ok (.bipush 15, 2) := by decide +kernel
theorem dX11_primary_193 : decode cX11_primary 193 = .ok (.isub, 1) := by decide +kernel
theorem dX11_primary_194 : decode cX11_primary 194 = .ok (.invokevirtual 285, 3) := by decide +kernel
theorem dX11_primary_197 : decode cX11_primary 197 = .ok (.aload_n 0, 1) := by decide +kernel
theorem dX11_primary_198 : decode cX11_primary 198 = .ok (.invokevirtual 227, 3) := by decide +kernel
theorem dX11_primary_201 : decode cX11_primary 201 = .ok (.return_, 1) := by decide +kernel
theorem dX11_product_0 : decode cX11_product 0 = .ok (.aload_n 0, 1) := by decide +kernel
theorem dX11_product_1 : decode cX11_product 1 = .ok (.invokevirtual 297, 3) := by decide +kernel
theorem dX11_product_4 : decode cX11_product 4 = .ok (.aload_n 0, 1) := by decide +kernel
theorem dX11_product_5 : decode cX11_product 5 = .ok (.bipush 42, 2) := by decide +kernel
theorem dX11_product_7 : decode cX11_product 7 = .ok (.invokevirtual 264, 3) := by decide +kernel
theorem dX11_product_10 : decode cX11_product 10 = .ok (.ifCond .ne 12, 3) := by decide +kernel
theorem dX11_product_13 : decode cX11_product 13 = .ok (.aload_n 0, 1) := by decide +kernel
theorem dX11_product_14 : decode cX11_product 14 = .ok (.bipush 47, 2) := by decide +kernel
theorem dX11_product_16 : decode cX11_product 16 = .ok (.invokevirtual 264, 3) := by decide +kernel
theorem dX11_product_19 : decode cX11_product 19 = .ok (.ifCond .eq 29, 3) := by decide +kernel
theorem dX11_product_22 : decode cX11_product 22 = .ok (.aload_n 0, 1) := by decide +kernel
theorem dX11_product_23 : decode cX11_product 23 = .ok (.getfield 186, 3) := by decide +kernel
theorem dX11_product_26 : decode cX11_product 26 = .ok (.istore_n 1, 1) := by decide +kernel
theorem dX11_product_27 : decode cX11_product 27 = .ok (.aload_n 0, 1) := by decide +kernel
theorem dX11_product_28 : decode cX11_product 28 = .ok (.invokevirtual 282, 3) := by decide +kernel
theorem dX11_product_31 : decode cX11_product 31 = .ok (.aload_n 0, 1) := by decide +kernel
theorem dX11_product_32 : decode cX11_product 32 = .ok (.invokevirtual 227, 3) := by decide +kernel
theorem dX11_product_35 : decode cX11_product 35 = .ok (.aload_n 0, 1) := by decide +kernel
theorem dX11_product_36 : decode cX11_product 36 = .ok (.invokevirtual 297, 3) := by decide +kernel
theorem dX11_product_39 : decode cX11_product 39 = .ok (.aload_n 0, 1) := by decide +kernel
theorem dX11_product_40 : decode cX11_product 40 = .ok (.iconst 2, 1) := by decide +kernel
theorem dX11_product_41 : decode cX11_product 41 = .ok (.iload_n 1, 1) := by decide +kernel
theorem dX11_product_42 : decode cX11_product 42 = .ok (.invokevirtual 285, 3) := by decide +kernel
theorem dX11_product_45 : decode cX11_product 45 = .ok (.goto (-41), 3) := by decide +kernel
theorem dX11_product_48 : decode cX11_product 48 = .ok (.return_, 1) := by decide +kernel
theorem dX11_sum_0 : decode cX11_sum 0 = .ok (.aload_n 0, 1) := by decide +kernel
theorem dX11_sum_1 : decode cX11_sum 1 = .ok (.invokevirtual 294, 3) := by decide +kernel
theorem dX11_sum_4 : decode cX11_sum 4 = .ok (.aload_n 0, 1) := by decide +kernel
theorem dX11_sum_5 : decode cX11_sum 5 = .ok (.bipush 43, 2) := by decide +kernel
theorem dX11_sum_7 : decode cX11_sum 7 = .ok (.invokevirtual 264, 3) := by decide +kernel
theorem dX11_sum_10 : decode cX11_sum 10 = .ok (.ifCond .ne 12, 3) := by decide +kernel
theorem dX11_sum_13 : decode cX11_sum 13 = .ok (.aload_n 0, 1) := by decide +kernel
theorem dX11_sum_14 : decode cX11_sum 14 = .ok (.bipush 45, 2) := by decide +kernel
theorem dX11_sum_16 : decode cX11_sum 16 = .ok (.invokevirtual 264, 3) := by decide +kernel
theorem dX11_sum_19 : decode cX11_sum 19 = .ok (.ifCond .eq 29, 3) := by decide +kernel
theorem dX11_sum_22 : decode cX11_sum 22 = .ok (.aload_n 0, 1) := by decide +kernel
theorem dX11_sum_23 : decode cX11_sum 23 = .ok (.getfield 186, 3) := by decide +kernel
theorem dX11_sum_26 : decode cX11_sum 26 = .ok (.istore_n 1, 1) := by decide +kernel
theorem dX11_sum_27 : decode cX11_sum 27 = .ok (.aload_n 0, 1) := by decide +kernel
theorem dX11_sum_28 : decode cX11_sum 28 = .ok (.invokevirtual 282, 3) := by decide +kernel
theorem dX11_sum_31 : decode cX11_sum 31 = .ok (.aload_n 0, 1) := by decide +kernel
theorem dX11_sum_32 : decode cX11_sum 32 = .ok (.invokevirtual 227, 3) := by decide +kernel
theorem dX11_sum_35 : decode cX11_sum 35 = .ok (.aload_n 0, 1) := by decide +kernel
theorem dX11_sum_36 : decode cX11_sum 36 = .ok (.invokevirtual 294, 3) := by decide +kernel
theorem dX11_sum_39 : decode cX11_sum 39 = .ok (.aload_n 0, 1) := by decide +kernel
theorem dX11_sum_40 : decode cX11_sum 40 = .ok (.iconst 2, 1) := by decide +kernel
theorem dX11_sum_41 : decode cX11_sum 41 = .ok (.iload_n 1, 1) := by decide +kernel
theorem dX11_sum_42 : decode cX11_sum 42 = .ok (.invokevirtual 285, 3) := by decide +kernel
theorem dX11_sum_45 : decode cX11_sum 45 = .ok (.goto (-41), 3) := by decide +kernel
theorem dX11_sum_48 : decode cX11_sum 48 = .ok (.return_, 1) := by decide +kernel
theorem dX11_negation_0 : decode cX11_negation 0 = .ok (.aload_n 0, 1) := by decide +kernel
theorem dX11_negation_1 : decode cX11_negation 1 = .ok (.bipush 14, 2) := by decide +kernel
theorem dX11_negation_3 : decode cX11_negation 3 = .ok (.invokevirtual 279, 3) := by decide +kernel
theorem dX11_negation_6 : decode cX11_negation 6 = .ok (.ifCond .eq 24, 3) := by decide +kernel
theorem dX11_negation_9 : decode cX11_negation 9 = .ok (.aload_n 0, 1) := by decide +kernel
theorem dX11_negation_10 : decode cX11_negation 10 = .ok (.invokevirtual 282, 3) := by decide +kernel
theorem dX11_negation_13 : decode cX11_negation 13 = .ok (.aload_n 0, 1) := by decide +kernel
theorem dX11_negation_14 : decode cX11_negation 14 = .ok (.invokevirtual 227, 3) := by decide +kernel
theorem dX11_negation_17 : decode cX11_negation 17 = .ok (.aload_n 0, 1) := by decide +kernel
theorem dX11_negation_18 : decode cX11_negation 18 = .ok (.invokevirtual 288, 3) := by decide +kernel
theorem dX11_negation_21 : decode cX11_negation 21 = .ok (.aload_n 0, 1) := by decide +kernel
theorem dX11_negation_22 : decode cX11_negation 22 = .ok (.iconst 2, 1) := by decide +kernel
theorem dX11_negation_23 : decode cX11_negation 23 = .ok (.sipush 260, 3) := by decide +kernel
theorem dX11_negation_26 : decode cX11_negation 26 = .ok (.invokevirtual 285, 3) := by decide +kernel
theorem dX11_negation_29 : decode cX11_negation 29 = .ok (.return_, 1) := by decide +kernel
theorem dX11_negation_30 : decode cX11_negation 30 = .ok (.aload_n 0, 1) := by decide +kernel
theorem dX11_negation_31 : decode cX11_negation 31 = .ok (.invokevirtual 291, 3) := by decide +kernel
theorem dX11_negation_34 : decode cX11_negation 34 = .ok (.aload_n 0, 1) := by decide +kernel
theorem dX11_negation_35 : decode cX11_negation 35 = .ok (.getfield 211, 3) := by decide +kernel
theorem dX11_negation_38 : decode cX11_negation 38 = .ok (.ifCond .ne 48, 3) := by decide +kernel
theorem dX11_negation_41 : decode cX11_negation 41 = .ok (.aload_n 0, 1) := by decide +kernel
theorem dX11_negation_42 : decode cX11_negation 42 = .ok (.getfield 176, 3) := by decide +kernel
theorem dX11_negation_45 : decode cX11_negation 45 = .ok (.iconst 3, 1) := by decide +kernel
theorem dX11_negation_46 : decode cX11_negation 46 = .ok (.if_icmp .ne 40, 3) := by decide +kernel
theorem dX11_negation_49 : decode cX11_negation 49 = .ok (.aload_n 0, 1) := by decide +kernel
theorem dX11_negation_50 : decode cX11_negation 50 = .ok (.getfield 186, 3) := by decide +kernel
theorem dX11_negation_53 : decode cX11_negation 53 = .ok (.bipush 60, 2) := by decide +kernel
theorem dX11_negation_55 : decode cX11_negation 55 = .ok (.if_icmp .eq 32, 3) := by decide +kernel
theorem dX11_negation_58 : decode cX11_negation 58 = .ok (.aload_n 0, 1) := by decide +kernel
theorem dX11_negation_59 : decode cX11_negation 59 = .ok (.getfield 186, 3) := by decide +kernel
theorem dX11_negation_62 : decode cX11_negation 62 = .ok (.bipush 62, 2) := by decide +kernel
theorem dX11_negation_64 : decode cX11_negation 64 = .ok (.if_icmp .eq 23, 3) := by decide +kernel
theorem dX11_negation_67 : decode cX11_negation 67 = .ok (.aload_n 0, 1) := by decide +kernel
theorem dX11_negation_68 : decode cX11_negation 68 = .ok (.getfield 186, 3) := by decide +kernel
theorem dX11_negation_71 : decode cX11_negation 71 = .ok (.bipush 61, 2) := by decide +kernel
theorem dX11_negation_73 : decode cX11_negation 73 = .ok (.if_icmp .eq 14, 3) := by decide +kernel
theorem dX11_negation_76 : decode cX11_negation 76 = .ok (.aload_n 0, 1) := by decide +kernel
theorem dX11_negation_77 : decode cX11_negation 77 = .ok (.getfield 186, 3) := by decide +kernel
theorem dX11_negation_80 : decode cX11_negation 80 = .ok (.sipush 256, 3) := by decide +kernel
theorem dX11_negation_83 : decode cX11_negation 83 = .ok (.if_icmp .ge 4, 3) := by decide +kernel
theorem dX11_negation_86 : decode cX11_negation 86 = .ok (.return_, 1) := by decide +kernel
theorem dX11_negation_87 : decode cX11_negation 87 = .ok (.aload_n 0, 1) := by decide +kernel
theorem dX11_negation_88 : decode cX11_negation 88 = .ok (.getfield 186, 3) := by decide +kernel
theorem dX11_negation_91 : decode cX11_negation 91 = .ok (.istore_n 1, 1) := by decide +kernel
theorem dX11_negation_92 : decode cX11_negation 92 = .ok (.aload_n 0, 1) := by decide +kernel
theorem dX11_negation_93 : decode cX11_negation 93 = .ok (.invokevirtual 282, 3) := by decide +kernel
theorem dX11_negation_96 : decode cX11_negation 96 = .ok (.aload_n 0, 1) := by decide +kernel
theorem dX11_negation_97 : decode cX11_negation 97 = .ok (.invokevirtual 227, 3) := by decide +kernel
theorem dX11_negation_100 : decode cX11_negation 100 = .ok (.aload_n 0, 1) := by decide +kernel
theorem dX11_negation_101 : decode cX11_negation 101 = .ok (.invokevirtual 291, 3) := by decide +kernel
theorem dX11_negation_104 : decode cX11_negation 104 = .ok (.aload_n 0, 1) := by decide +kernel
theorem dX11_negation_105 : decode cX11_negation 105 = .ok (.iconst 2, 1) := by decide +kernel
theorem dX11_negation_106 : decode cX11_negation 106 = .ok (.iload_n 1, 1) := by decide +kernel
theorem dX11_negation_107 : decode cX11_negation 107 = .ok (.invokevirtual 285, 3) := by decide +kernel
theorem dX11_negation_110 : decode cX11_negation 110 = .ok (.return_, 1) := by decide +kernel
theorem dX11_conjunction_0 : decode cX11_conjunction 0 = .ok (.aload_n 0, 1) := by decide +kernel
theorem dX11_conjunction_1 : decode cX11_conjunction 1 = .ok (.invokevirtual 288, 3) := by decide +kernel
theorem dX11_conjunction_4 : decode cX11_conjunction 4 = .ok (.aload_n 0, 1) := by decide +kernel
theorem dX11_conjunction_5 : decode cX11_conjunction 5 = .ok (.bipush 13, 2) := by decide +kernel
theorem dX11_conjunction_7 : decode cX11_conjunction 7 = .ok (.invokevirtual 279, 3) := by decide +kernel
theorem dX11_conjunction_10 : decode cX11_conjunction 10 = .ok (.ifCond .eq 26, 3) := by decide +kernel
theorem dX11_conjunction_13 : decode cX11_conjunction 13 = .ok (.aload_n 0, 1) := by decide +kernel
theorem dX11_conjunction_14 : decode cX11_conjunction 14 = .ok (.invokevirtual 282, 3) := by decide +kernel
theorem dX11_conjunction_17 : decode cX11_conjunction 17 = .ok (.aload_n 0, 1) := by decide +kernel
theorem dX11_conjunction_18 : decode cX11_conjunction 18 = .ok (.invokevirtual 227, 3) := by decide +kernel
theorem dX11_conjunction_21 : decode cX11_conjunction 21 = .ok (.aload_n 0, 1) := by decide +kernel
theorem dX11_conjunction_22 : decode cX11_conjunction 22 = .ok (.invokevirtual 288, 3) := by decide +kernel
theorem dX11_conjunction_25 : decode cX11_conjunction 25 = .ok (.aload_n 0, 1) := by decide +kernel
theorem dX11_conjunction_26 : decode cX11_conjunction 26 = .ok (.iconst 2, 1) := by decide +kernel
theorem dX11_conjunction_27 : decode cX11_conjunction 27 = .ok (.sipush 261, 3) := by decide +kernel
theorem dX11_conjunction_30 : decode cX11_conjunction 30 = .ok (.invokevirtual 285, 3) := by decide +kernel
theorem dX11_conjunction_33 : decode cX11_conjunction 33 = .ok (.goto (-29), 3) := by decide +kernel
theorem dX11_conjunction_36 : decode cX11_conjunction 36 = .ok (.return_, 1) := by decide +kernel
theorem dX11_expression_0 : decode cX11_expression 0 = .ok (.aload_n 0, 1) := by decide +kernel
theorem dX11_expression_1 : decode cX11_expression 1 = .ok (.invokevirtual 276, 3) := by decide +kernel
theorem dX11_expression_4 : decode cX11_expression 4 = .ok (.aload_n 0, 1) := by decide +kernel
theorem dX11_expression_5 : decode cX11_expression 5 = .ok (.bipush 12, 2) := by decide +kernel
theorem dX11_expression_7 : decode cX11_expression 7 = .ok (.invokevirtual 279, 3) := by decide +kernel
theorem dX11_expression_10 : decode cX11_expression 10 = .ok (.ifCond .eq 26, 3) := by decide +kernel
theorem dX11_expression_13 : decode cX11_expression 13 = .ok (.aload_n 0, 1) := by decide +kernel
theorem dX11_expression_14 : decode cX11_expression 14 = .ok (.invokevirtual 282, 3) := by decide +kernel
theorem dX11_expression_17 : decode cX11_expression 17 = .ok (.aload_n 0, 1) := by decide +kernel
theorem dX11_expression_18 : decode cX11_expression 18 = .ok (.invokevirtual 227, 3) := by decide +kernel
theorem dX11_expression_21 : decode cX11_expression 21 = .ok (.aload_n 0, 1) := by decide +kernel
theorem dX11_expression_22 : decode cX11_expression 22 = .ok (.invokevirtual 276, 3) := by decide +kernel
theorem dX11_expression_25 : decode cX11_expression 25 = .ok (.aload_n 0, 1) := by decide +kernel
theorem dX11_expression_26 : decode cX11_expression 26 = .ok (.iconst 2, 1) := by decide +kernel
theorem dX11_expression_27 : decode cX11_expression 27 = .ok (.sipush 262, 3) := by decide +kernel
theorem dX11_expression_30 : decode cX11_expression 30 = .ok (.invokevirtual 285, 3) := by decide +kernel
theorem dX11_expression_33 : decode cX11_expression 33 = .ok (.goto (-29), 3) := by decide +kernel
theorem dX11_expression_36 : decode cX11_expression 36 = .ok (.return_, 1) := by decide +kernel
theorem dX11_lawLine_0 : decode cX11_lawLine 0 = .ok (.aload_n 0, 1) := by decide +kernel
theorem dX11_lawLine_1 : decode cX11_lawLine 1 = .ok (.getfield 176, 3) := by decide +kernel
theorem dX11_lawLine_4 : decode cX11_lawLine 4 = .ok (.ifCond .ne 21, 3) := by decide +kernel
theorem dX11_lawLine_7 : decode cX11_lawLine 7 = .ok (.aload_n 0, 1) := by decide +kernel
theorem dX11_lawLine_8 : decode cX11_lawLine 8 = .ok (.getfield 186, 3) := by decide +kernel
theorem dX11_lawLine_11 : decode cX11_lawLine 11 = .ok (.bipush 9, 2) := by decide +kernel
theorem dX11_lawLine_13 : decode cX11_lawLine 13 = .ok (.if_icmp .lt 12, 3) := by decide +kernel
theorem dX11_lawLine_16 : decode cX11_lawLine 16 = .ok (.aload_n 0, 1) := by decide +kernel
theorem dX11_lawLine_17 : decode cX11_lawLine 17 = .ok (.getfield 186, 3) := by decide +kernel
theorem dX11_lawLine_20 : decode cX11_lawLine 20 = .ok (.bipush 11, 2) := by decide +kernel
theorem dX11_lawLine_22 : decode cX11_lawLine 22 = .ok (.if_icmp .le 8, 3) := by decide +kernel
theorem dX11_lawLine_25 : decode cX11_lawLine 25 = .ok (.aload_n 0, 1) := by decide +kernel
theorem dX11_lawLine_26 : decode cX11_lawLine 26 = .ok (.iconst 1, 1) := by decide +kernel
theorem dX11_lawLine_27 : decode cX11_lawLine 27 = .ok (.invokevirtual 220, 3) := by decide +kernel
theorem dX11_lawLine_30 : decode cX11_lawLine 30 = .ok (.aload_n 0, 1) := by decide +kernel
theorem dX11_lawLine_31 : decode cX11_lawLine 31 = .ok (.getfield 186, 3) := by decide +kernel
theorem dX11_lawLine_34 : decode cX11_lawLine 34 = .ok (.bipush 9, 2) := by decide +kernel
theorem dX11_lawLine_36 : decode cX11_lawLine 36 = .ok (.isub, 1) := by decide +kernel
theorem dX11_lawLine_37 : decode cX11_lawLine 37 = .ok (.istore_n 1, 1) := by decide +kernel
theorem dX11_lawLine_38 : decode cX11_lawLine 38 = .ok (.aload_n 0, 1) := by decide +kernel
theorem dX11_lawLine_39 : decode cX11_lawLine 39 = .ok (.getfield 211, 3) := by decide +kernel
theorem dX11_lawLine_42 : decode cX11_lawLine 42 = .ok (.ifCond .ne 23, 3) := by decide +kernel
theorem dX11_lawLine_45 : decode cX11_lawLine 45 = .ok (.aload_n 0, 1) := by decide +kernel
theorem dX11_lawLine_46 : decode cX11_lawLine 46 = .ok (.getfield 241, 3) := by decide +kernel
theorem dX11_lawLine_49 : decode cX11_lawLine 49 = .ok (.bipush 16, 2) := by decide +kernel
theorem dX11_lawLine_51 : decode cX11_lawLine 51 = .ok (.iload_n 1, 1) := by decide +kernel
theorem dX11_lawLine_52 : decode cX11_lawLine 52 = .ok (.iadd, 1) := by decide +kernel
theorem dX11_lawLine_53 : decode cX11_lawLine 53 = .ok (.ishr, 1) := by decide +kernel
theorem dX11_lawLine_54 : decode cX11_lawLine 54 = .ok (.iconst 1, 1) := by decide +kernel
theorem dX11_lawLine_55 : decode cX11_lawLine 55 = .ok (.iand, 1) := by decide +kernel
theorem dX11_lawLine_56 : decode cX11_lawLine 56 = .ok (.iconst 1, 1) := by decide +kernel
theorem dX11_lawLine_57 : decode cX11_lawLine 57 = .ok (.if_icmp .ne 8, 3) := by decide +kernel
theorem dX11_lawLine_60 : decode cX11_lawLine 60 = .ok (.aload_n 0, 1) := by decide +kernel
theorem dX11_lawLine_61 : decode cX11_lawLine 61 = .ok (.iconst 3, 1) := by decide +kernel
theorem dX11_lawLine_62 : decode cX11_lawLine 62 = .ok (.invokevirtual 220, 3) := by decide +kernel
theorem dX11_lawLine_65 : decode cX11_lawLine 65 = .ok (.aload_n 0, 1) := by decide +kernel
theorem dX11_lawLine_66 : decode cX11_lawLine 66 = .ok (.getfield 211, 3) := by decide +kernel
theorem dX11_lawLine_69 : decode cX11_lawLine 69 = .ok (.ifCond .eq 4, 3) := by decide +kernel
theorem dX11_lawLine_72 : decode cX11_lawLine 72 = .ok (.return_, 1) := by decide +kernel
theorem dX11_lawLine_73 : decode cX11_lawLine 73 = .ok (.aload_n 0, 1) := by decide +kernel
theorem dX11_lawLine_74 : decode cX11_lawLine 74 = .ok (.dup, 1) := by decide +kernel
theorem dX11_lawLine_75 : decode cX11_lawLine 75 = .ok (.getfield 241, 3) := by decide +kernel
theorem dX11_lawLine_78 : decode cX11_lawLine 78 = .ok (.iconst 1, 1) := by decide +kernel
theorem dX11_lawLine_79 : decode cX11_lawLine 79 = .ok (.bipush 16, 2) := by decide +kernel
theorem dX11_lawLine_81 : decode cX11_lawLine 81 = .ok (.iload_n 1, 1) := by decide +kernel
theorem dX11_lawLine_82 : decode cX11_lawLine 82 = .ok (.iadd, 1) := by decide +kernel
theorem dX11_lawLine_83 : decode cX11_lawLine 83 = .ok (.ishl, 1) := by decide +kernel
theorem dX11_lawLine_84 : decode cX11_lawLine 84 = .ok (.ior, 1) := by decide +kernel
theorem dX11_lawLine_85 : decode cX11_lawLine 85 = .ok (.putfield 241, 3) := by decide +kernel
theorem dX11_lawLine_88 : decode cX11_lawLine 88 = .ok (.aload_n 0, 1) := by decide +kernel
theorem dX11_lawLine_89 : decode cX11_lawLine 89 = .ok (.invokevirtual 217, 3) := by decide +kernel
theorem dX11_lawLine_92 : decode cX11_lawLine 92 = .ok (.aload_n 0, 1) := by decide +kernel
theorem dX11_lawLine_93 : decode cX11_lawLine 93 = .ok (.getfield 61, 3) := by decide +kernel
theorem dX11_lawLine_96 : decode cX11_lawLine 96 = .ok (.iconst 3, 1) := by decide +kernel
theorem dX11_lawLine_97 : decode cX11_lawLine 97 = .ok (.iload_n 1, 1) := by decide +kernel
theorem dX11_lawLine_98 : decode cX11_lawLine 98 = .ok (.iadd, 1) := by decide +kernel
theorem dX11_lawLine_99 : decode cX11_lawLine 99 = .ok (.aload_n 0, 1) := by decide +kernel
theorem dX11_lawLine_100 : decode cX11_lawLine 100 = .ok (.bipush 8, 2) := by decide +kernel
theorem dX11_lawLine_102 : decode cX11_lawLine 102 = .ok (.invokevirtual 230, 3) := by decide +kernel
theorem dX11_lawLine_105 : decode cX11_lawLine 105 = .ok (.iastore, 1) := by decide +kernel
theorem dX11_lawLine_106 : decode cX11_lawLine 106 = .ok (.aload_n 0, 1) := by decide +kernel
theorem dX11_lawLine_107 : decode cX11_lawLine 107 = .ok (.invokevirtual 270, 3) := by decide +kernel
theorem dX11_lawLine_110 : decode cX11_lawLine 110 = .ok (.aload_n 0, 1) := by decide +kernel
theorem dX11_lawLine_111 : decode cX11_lawLine 111 = .ok (.getfield 64, 3) := by decide +kernel
theorem dX11_lawLine_114 : decode cX11_lawLine 114 = .ok (.iconst 3, 1) := by decide +kernel
theorem dX11_lawLine_115 : decode cX11_lawLine 115 = .ok (.iload_n 1, 1) := by decide +kernel
theorem dX11_lawLine_116 : decode cX11_lawLine 116 = .ok (.iadd, 1) := by decide +kernel
theorem dX11_lawLine_117 : decode cX11_lawLine 117 = .ok (.aload_n 0, 1) := by decide +kernel
theorem dX11_lawLine_118 : decode cX11_lawLine 118 = .ok (.bipush 8, 2) := by decide +kernel
theorem dX11_lawLine_120 : decode cX11_lawLine 120 = .ok (.invokevirtual 230, 3) := by decide +kernel
theorem dX11_lawLine_123 : decode cX11_lawLine 123 = .ok (.iastore, 1) := by decide +kernel
theorem dX11_lawLine_124 : decode cX11_lawLine 124 = .ok (.return_, 1) := by decide +kernel
theorem dX11_line_0 : decode cX11_line 0 = .ok (.aload_n 0, 1) := by decide +kernel
theorem dX11_line_1 : decode cX11_line 1 = .ok (.getfield 176, 3) := by decide +kernel
theorem dX11_line_4 : decode cX11_line 4 = .ok (.ifCond .ne 12, 3) := by decide +kernel
theorem dX11_line_7 : decode cX11_line 7 = .ok (.aload_n 0, 1) := by decide +kernel
theorem dX11_line_8 : decode cX11_line 8 = .ok (.getfield 186, 3) := by decide +kernel
theorem dX11_line_11 : decode cX11_line 11 = .ok (.bipush 8, 2) := by decide +kernel
theorem dX11_line_13 : decode cX11_line 13 = .ok (.if_icmp .le 9, 3) := by decide +kernel
theorem dX11_line_16 : decode cX11_line 16 = .ok (.aload_n 0, 1) := by decide +kernel
theorem dX11_line_17 : decode cX11_line 17 = .ok (.iconst 1, 1) := by decide +kernel
theorem dX11_line_18 : decode cX11_line 18 = .ok (.invokevirtual 220, 3) := by decide +kernel
theorem dX11_line_21 : decode cX11_line 21 = .ok (.return_, 1) := by decide +kernel
theorem dX11_line_22 : decode cX11_line 22 = .ok (.aload_n 0, 1) := by decide +kernel
theorem dX11_line_23 : decode cX11_line 23 = .ok (.getfield 186, 3) := by decide +kernel
theorem dX11_line_26 : decode cX11_line 26 = .ok (.istore_n 1, 1) := by decide +kernel
theorem dX11_line_27 : decode cX11_line 27 = .ok (.aload_n 0, 1) := by decide +kernel
theorem dX11_line_28 : decode cX11_line 28 = .ok (.iload_n 1, 1) := by decide +kernel
theorem dX11_line_29 : decode cX11_line 29 = .ok (.invokevirtual 238, 3) := by decide +kernel
theorem dX11_line_32 : decode cX11_line 32 = .ok (.ifCond .eq 11, 3) := by decide +kernel
theorem dX11_line_35 : decode cX11_line 35 = .ok (.aload_n 0, 1) := by decide +kernel
theorem dX11_line_36 : decode cX11_line 36 = .ok (.iconst 2, 1) := by decide +kernel
theorem dX11_line_37 : decode cX11_line 37 = .ok (.invokevirtual 220, 3) := by decide +kernel
theorem dX11_line_40 : decode cX11_line 40 = .ok (.goto 31, 3) := by decide +kernel
theorem dX11_line_43 : decode cX11_line 43 = .ok (.iload_n 1, 1) := by decide +kernel
theorem dX11_line_44 : decode cX11_line 44 = .ok (.iconst 5, 1) := by decide +kernel
theorem dX11_line_45 : decode cX11_line 45 = .ok (.if_icmp .lt 26, 3) := by decide +kernel
theorem dX11_line_48 : decode cX11_line 48 = .ok (.iload_n 1, 1) := by decide +kernel
theorem dX11_line_49 : decode cX11_line 49 = .ok (.bipush 7, 2) := by decide +kernel
theorem dX11_line_51 : decode cX11_line 51 = .ok (.if_icmp .gt 20, 3) := by decide +kernel
theorem dX11_line_54 : decode cX11_line 54 = .ok (.aload_n 0, 1) := by decide +kernel
theorem dX11_line_55 : decode cX11_line 55 = .ok (.getfield 241, 3) := by decide +kernel
theorem dX11_line_58 : decode cX11_line 58 = .ok (.iload_n 1, 1) := by decide +kernel
theorem dX11_line_59 : decode cX11_line 59 = .ok (.ishr, 1) := by decide +kernel
theorem dX11_line_60 : decode cX11_line 60 = .ok (.iconst 1, 1) := by decide +kernel
theorem dX11_line_61 : decode cX11_line 61 = .ok (.iand, 1) := by decide +kernel
theorem dX11_line_62 : decode cX11_line 62 = .ok (.iconst 1, 1) := by decide +kernel
theorem dX11_line_63 : decode cX11_line 63 = .ok (.if_icmp .ne 8, 3) := by decide +kernel
theorem dX11_line_66 : decode cX11_line 66 = .ok (.aload_n 0, 1) := by decide +kernel
theorem dX11_line_67 : decode cX11_line 67 = .ok (.iconst 3, 1) := by decide +kernel
theorem dX11_line_68 : decode cX11_line 68 = .ok (.invokevirtual 220, 3) := by decide +kernel
theorem dX11_line_71 : decode cX11_line 71 = .ok (.aload_n 0, 1) := by decide +kernel
theorem dX11_line_72 : decode cX11_line 72 = .ok (.getfield 211, 3) := by decide +kernel
theorem dX11_line_75 : decode cX11_line 75 = .ok (.ifCond .eq 4, 3) := by decide +kernel
theorem dX11_line_78 : decode cX11_line 78 = .ok (.return_, 1) := by decide +kernel
theorem dX11_line_79 : decode cX11_line 79 = .ok (.aload_n 0, 1) := by decide +kernel
theorem dX11_line_80 : decode cX11_line 80 = .ok (.dup, 1) := by decide +kernel
theorem dX11_line_81 : decode cX11_line 81 = .ok (.getfield 241, 3) := by decide +kernel
theorem dX11_line_84 : decode cX11_line 84 = .ok (.iconst 1, 1) := by decide +kernel
theorem dX11_line_85 : decode cX11_line 85 = .ok (.iload_n 1, 1) := by decide +kernel
theorem dX11_line_86 : decode cX11_line 86 = .ok (.ishl, 1) := by decide +kernel
theorem dX11_line_87 : decode cX11_line 87 = .ok (.ior, 1) := by decide +kernel
theorem dX11_line_88 : decode cX11_line 88 = .ok (.putfield 241, 3) := by decide +kernel
theorem dX11_line_91 : decode cX11_line 91 = .ok (.aload_n 0, 1) := by decide +kernel
theorem dX11_line_92 : decode cX11_line 92 = .ok (.invokevirtual 217, 3) := by decide +kernel
theorem dX11_line_95 : decode cX11_line 95 = .ok (.iload_n 1, 1) := by decide +kernel
theorem dX11_line_96 : decode cX11_line 96 = .ok (.tableswitch 366 0 7 #[48, 105, 174, 233, 304, 319, 334, 350], 48) := by decide +kernel
theorem dX11_line_144 : decode cX11_line 144 = .ok (.iconst 5, 1) := by decide +kernel
theorem dX11_line_145 : decode cX11_line 145 = .ok (.aload_n 0, 1) := by decide +kernel
theorem dX11_line_146 : decode cX11_line 146 = .ok (.iconst 0, 1) := by decide +kernel
theorem dX11_line_147 : decode cX11_line 147 = .ok (.invokevirtual 230, 3) := by decide +kernel
theorem dX11_line_150 : decode cX11_line 150 = .ok (.iadd, 1) := by decide +kernel
theorem dX11_line_151 : decode cX11_line 151 = .ok (.istore_n 2, 1) := by decide +kernel
theorem dX11_line_152 : decode cX11_line 152 = .ok (.aload_n 0, 1) := by decide +kernel
theorem dX11_line_153 : decode cX11_line 153 = .ok (.getfield 16, 3) := by decide +kernel
theorem dX11_line_156 : decode cX11_line 156 = .ok (.iload_n 2, 1) := by decide +kernel
theorem dX11_line_157 : decode cX11_line 157 = .ok (.aload_n 0, 1) := by decide +kernel
theorem dX11_line_158 : decode cX11_line 158 = .ok (.aload_n 0, 1) := by decide +kernel
theorem dX11_line_159 : decode cX11_line 159 = .ok (.getfield 16, 3) := by decide +kernel
theorem dX11_line_162 : decode cX11_line 162 = .ok (.iconst 5, 1) := by decide +kernel
theorem dX11_line_163 : decode cX11_line 163 = .ok (.aload_n 0, 1) := by decide +kernel
theorem dX11_line_164 : decode cX11_line 164 = .ok (.iconst 0, 1) := by decide +kernel
theorem dX11_line_165 : decode cX11_line 165 = .ok (.invokevirtual 230, 3) := by decide +kernel
theorem dX11_line_168 : decode cX11_line 168 = .ok (.invokevirtual 244, 3) := by decide +kernel
theorem dX11_line_171 : decode cX11_line 171 = .ok (.iastore, 1) := by decide +kernel
theorem dX11_line_172 : decode cX11_line 172 = .ok (.aload_n 0, 1) := by decide +kernel
theorem dX11_line_173 : decode cX11_line 173 = .ok (.getfield 19, 3) := by decide +kernel
theorem dX11_line_176 : decode cX11_line 176 = .ok (.iload_n 2, 1) := by decide +kernel
theorem dX11_line_177 : decode cX11_line 177 = .ok (.aload_n 0, 1) := by decide +kernel
theorem dX11_line_178 : decode cX11_line 178 = .ok (.iconst 0, 1) := by decide +kernel
theorem dX11_line_179 : decode cX11_line 179 = .ok (.sipush 999, 3) := by decide +kernel
theorem dX11_line_182 : decode cX11_line 182 = .ok (.invokevirtual 247, 3) := by decide +kernel
theorem dX11_line_185 : decode cX11_line 185 = .ok (.iastore, 1) := by decide +kernel
theorem dX11_line_186 : decode cX11_line 186 = .ok (.aload_n 0, 1) := by decide +kernel
theorem dX11_line_187 : decode cX11_line 187 = .ok (.iconst 0, 1) := by decide +kernel
theorem dX11_line_188 : decode cX11_line 188 = .ok (.aload_n 0, 1) := by decide +kernel
theorem dX11_line_189 : decode cX11_line 189 = .ok (.iconst 0, 1) := by decide +kernel
theorem dX11_line_190 : decode cX11_line 190 = .ok (.invokevirtual 230, 3) := by decide +kernel
theorem dX11_line_193 : decode cX11_line 193 = .ok (.iconst 1, 1) := by decide +kernel
theorem dX11_line_194 : decode cX11_line 194 = .ok (.iadd, 1) := by decide +kernel
theorem dX11_line_195 : decode cX11_line 195 = .ok (.invokevirtual 251, 3) := by decide +kernel
theorem dX11_line_198 : decode cX11_line 198 = .ok (.goto 268, 3) := by decide +kernel
theorem dX11_line_201 : decode cX11_line 201 = .ok (.iconst 5, 1) := by decide +kernel
theorem dX11_line_202 : decode cX11_line 202 = .ok (.aload_n 0, 1) := by decide +kernel
theorem dX11_line_203 : decode cX11_line 203 = .ok (.iconst 1, 1) := by decide +kernel
theorem dX11_line_204 : decode cX11_line 204 = .ok (.invokevirtual 230, 3) := by decide +kernel
theorem dX11_line_207 : decode cX11_line 207 = .ok (.iadd, 1) := by decide +kernel
theorem dX11_line_208 : decode cX11_line 208 = .ok (.istore_n 3, 1) := by decide +kernel
theorem dX11_line_209 : decode cX11_line 209 = .ok (.aload_n 0, 1) := by decide +kernel
theorem dX11_line_210 : decode cX11_line 210 = .ok (.getfield 22, 3) := by decide +kernel
theorem dX11_line_213 : decode cX11_line 213 = .ok (.iload_n 3, 1) := by decide +kernel
theorem dX11_line_214 : decode cX11_line 214 = .ok (.aload_n 0, 1) := by decide +kernel
theorem dX11_line_215 : decode cX11_line 215 = .ok (.aload_n 0, 1) := by decide +kernel
theorem dX11_line_216 : decode cX11_line 216 = .ok (.getfield 22, 3) := by decide +kernel
theorem dX11_line_219 : decode cX11_line 219 = .ok (.iconst 5, 1) := by decide +kernel
theorem dX11_line_220 : decode cX11_line 220 = .ok (.aload_n 0, 1) := by decide +kernel
theorem dX11_line_221 : decode cX11_line 221 = .ok (.iconst 1, 1) := by decide +kernel
theorem dX11_line_222 : decode cX11_line 222 = .ok (.invokevirtual 230, 3) := by decide +kernel
theorem dX11_line_225 : decode cX11_line 225 = .ok (.invokevirtual 244, 3) := by decide +kernel
theorem dX11_line_228 : decode cX11_line 228 = .ok (.iastore, 1) := by decide +kernel
theorem dX11_line_229 : decode cX11_line 229 = .ok (.aload_n 0, 1) := by decide +kernel
theorem dX11_line_230 : decode cX11_line 230 = .ok (.getfield 25, 3) := by decide +kernel
theorem dX11_line_233 : decode cX11_line 233 = .ok (.iload_n 3, 1) := by decide +kernel
theorem dX11_line_234 : decode cX11_line 234 = .ok (.aload_n 0, 1) := by decide +kernel
theorem dX11_line_235 : decode cX11_line 235 = .ok (.iconst 1, 1) := by decide +kernel
theorem dX11_line_236 : decode cX11_line 236 = .ok (.bipush 9, 2) := by decide +kernel
theorem dX11_line_238 : decode cX11_line 238 = .ok (.invokevirtual 247, 3) := by decide +kernel
theorem dX11_line_241 : decode cX11_line 241 = .ok (.iastore, 1) := by decide +kernel
theorem dX11_line_242 : decode cX11_line 242 = .ok (.aload_n 0, 1) := by decide +kernel
theorem dX11_line_243 : decode cX11_line 243 = .ok (.getfield 28, 3) := by decide +kernel
theorem dX11_line_246 : decode cX11_line 246 = .ok (.iload_n 3, 1) := by decide +kernel
theorem dX11_line_247 : decode cX11_line 247 = .ok (.aload_n 0, 1) := by decide +kernel
theorem dX11_line_248 : decode cX11_line 248 = .ok (.iconst 0, 1) := by decide +kernel
theorem dX11_line_249 : decode cX11_line 249 = .ok (.bipush 99, 2) := by decide +kernel
theorem dX11_line_251 : decode cX11_line 251 = .ok (.invokevirtual 247, 3) := by decide +kernel
theorem dX11_line_254 : decode cX11_line 254 = .ok (.iastore, 1) := by decide +kernel
theorem dX11_line_255 : decode cX11_line 255 = .ok (.aload_n 0, 1) := by decide +kernel
theorem dX11_line_256 : decode cX11_line 256 = .ok (.iconst 1, 1) := by decide +kernel
theorem dX11_line_257 : decode cX11_line 257 = .ok (.aload_n 0, 1) := by decide +kernel
theorem dX11_line_258 : decode cX11_line 258 = .ok (.iconst 1, 1) := by decide +kernel
theorem dX11_line_259 : decode cX11_line 259 = .ok (.invokevirtual 230, 3) := by decide +kernel
theorem dX11_line_262 : decode cX11_line 262 = .ok (.iconst 1, 1) := by decide +kernel
theorem dX11_line_263 : decode cX11_line 263 = .ok (.iadd, 1) := by decide +kernel
theorem dX11_line_264 : decode cX11_line 264 = .ok (.invokevirtual 251, 3) := by decide +kernel
theorem dX11_line_267 : decode cX11_line 267 = .ok (.goto 199, 3) := by decide +kernel
theorem dX11_line_270 : decode cX11_line 270 = .ok (.iconst 5, 1) := by decide +kernel
theorem dX11_line_271 : decode cX11_line 271 = .ok (.aload_n 0, 1) := by decide +kernel
theorem dX11_line_272 : decode cX11_line 272 = .ok (.iconst 2, 1) := by decide +kernel
theorem dX11_line_273 : decode cX11_line 273 = .ok (.invokevirtual 230, 3) := by decide +kernel
theorem dX11_line_276 : decode cX11_line 276 = .ok (.iadd, 1) := by decide +kernel
theorem dX11_line_277 : decode cX11_line 277 = .ok (.istore 4, 2) := by decide +kernel
theorem dX11_line_279 : decode cX11_line 279 = .ok (.aload_n 0, 1) := by decide +kernel
theorem dX11_line_280 : decode cX11_line 280 = .ok (.getfield 31, 3) := by decide +kernel
theorem dX11_line_283 : decode cX11_line 283 = .ok (.iload 4, 2) := by decide +kernel
theorem dX11_line_285 : decode cX11_line 285 = .ok (.aload_n 0, 1) := by decide +kernel
theorem dX11_line_286 : decode cX11_line 286 = .ok (.aload_n 0, 1) := by decide +kernel
theorem dX11_line_287 : decode cX11_line 287 = .ok (.getfield 31, 3) := by decide +kernel
theorem dX11_line_290 : decode cX11_line 290 = .ok (.iconst 5, 1) := by decide +kernel
theorem dX11_line_291 : decode cX11_line 291 = .ok (.aload_n 0, 1) := by decide +kernel
theorem dX11_line_292 : decode cX11_line 292 = .ok (.iconst 2, 1) := by decide +kernel
theorem dX11_line_293 : decode cX11_line 293 = .ok (.invokevirtual 230, 3) := by decide +kernel
theorem dX11_line_296 : decode cX11_line 296 = .ok (.invokevirtual 244, 3) := by decide +kernel
theorem dX11_line_299 : decode cX11_line 299 = .ok (.iastore, 1) := by decide +kernel
theorem dX11_line_300 : decode cX11_line 300 = .ok (.aload_n 0, 1) := by decide +kernel
theorem dX11_line_301 : decode cX11_line 301 = .ok (.getfield 34, 3) := by decide +kernel
theorem dX11_line_304 : decode cX11_line 304 = .ok (.iload 4, 2) := by decide +kernel
theorem dX11_line_306 : decode cX11_line 306 = .ok (.aload_n 0, 1) := by decide +kernel
theorem dX11_line_307 : decode cX11_line 307 = .ok (.iconst 0, 1) := by decide +kernel
theorem dX11_line_308 : decode cX11_line 308 = .ok (.bipush 31, 2) := by decide +kernel
theorem dX11_line_310 : decode cX11_line 310 = .ok (.invokevirtual 247, 3) := by decide +kernel
theorem dX11_line_313 : decode cX11_line 313 = .ok (.iastore, 1) := by decide +kernel
theorem dX11_line_314 : decode cX11_line 314 = .ok (.aload_n 0, 1) := by decide +kernel
theorem dX11_line_315 : decode cX11_line 315 = .ok (.iconst 2, 1) := by decide +kernel
theorem dX11_line_316 : decode cX11_line 316 = .ok (.aload_n 0, 1) := by decide +kernel
theorem dX11_line_317 : decode cX11_line 317 = .ok (.iconst 2, 1) := by decide +kernel
theorem dX11_line_318 : decode cX11_line 318 = .ok (.invokevirtual 230, 3) := by decide +kernel
theorem dX11_line_321 : decode cX11_line 321 = .ok (.iconst 1, 1) := by decide +kernel
theorem dX11_line_322 : decode cX11_line 322 = .ok (.iadd, 1) := by decide +kernel
theorem dX11_line_323 : decode cX11_line 323 = .ok (.invokevirtual 251, 3) := by decide +kernel
theorem dX11_line_326 : decode cX11_line 326 = .ok (.goto 140, 3) := by decide +kernel
theorem dX11_line_329 : decode cX11_line 329 = .ok (.bipush 12, 2) := by decide +kernel
theorem dX11_line_331 : decode cX11_line 331 = .ok (.aload_n 0, 1) := by decide +kernel
theorem dX11_line_332 : decode cX11_line 332 = .ok (.iconst 3, 1) := by decide +kernel
theorem dX11_line_333 : decode cX11_line 333 = .ok (.invokevirtual 230, 3) := by decide +kernel
theorem dX11_line_336 : decode cX11_line 336 = .ok (.iadd, 1) := by decide +kernel
theorem dX11_line_337 : decode cX11_line 337 = .ok (.istore 5, 2) := by decide +kernel
theorem dX11_line_339 : decode cX11_line 339 = .ok (.aload_n 0, 1) := by decide +kernel
theorem dX11_line_340 : decode cX11_line 340 = .ok (.getfield 37, 3) := by decide +kernel
theorem dX11_line_343 : decode cX11_line 343 = .ok (.iload 5, 2) := by decide +kernel
theorem dX11_line_345 : decode cX11_line 345 = .ok (.aload_n 0, 1) := by decide +kernel
theorem dX11_line_346 : decode cX11_line 346 = .ok (.invokevirtual 255, 3) := by decide +kernel
theorem dX11_line_349 : decode cX11_line 349 = .ok (.iastore, 1) := by decide +kernel
theorem dX11_line_350 : decode cX11_line 350 = .ok (.aload_n 0, 1) := by decide +kernel
theorem dX11_line_351 : decode cX11_line 351 = .ok (.getfield 40, 3) := by decide +kernel
theorem dX11_line_354 : decode cX11_line 354 = .ok (.iload 5, 2) := by decide +kernel
theorem dX11_line_356 : decode cX11_line 356 = .ok (.aload_n 0, 1) := by decide +kernel
theorem dX11_line_357 : decode cX11_line 357 = .ok (.aload_n 0, 1) := by decide +kernel
theorem dX11_line_358 : decode cX11_line 358 = .ok (.getfield 22, 3) := by decide +kernel
theorem dX11_line_361 : decode cX11_line 361 = .ok (.iconst 5, 1) := by decide +kernel
theorem dX11_line_362 : decode cX11_line 362 = .ok (.aload_n 0, 1) := by decide +kernel
theorem dX11_line_363 : decode cX11_line 363 = .ok (.iconst 1, 1) := by decide +kernel
theorem dX11_line_364 : decode cX11_line 364 = .ok (.invokevirtual 230, 3) := by decide +kernel
theorem dX11_line_367 : decode cX11_line 367 = .ok (.invokevirtual 234, 3) := by decide +kernel
theorem dX11_line_370 : decode cX11_line 370 = .ok (.iastore, 1) := by decide +kernel
theorem dX11_line_371 : decode cX11_line 371 = .ok (.aload_n 0, 1) := by decide +kernel
theorem dX11_line_372 : decode cX11_line 372 = .ok (.getfield 43, 3) := by decide +kernel
theorem dX11_line_375 : decode cX11_line 375 = .ok (.iload 5, 2) := by decide +kernel
theorem dX11_line_377 : decode cX11_line 377 = .ok (.aload_n 0, 1) := by decide +kernel
theorem dX11_line_378 : decode cX11_line 378 = .ok (.iconst 0, 1) := by decide +kernel
theorem dX11_line_379 : decode cX11_line 379 = .ok (.bipush 99, 2) := by decide +kernel
theorem dX11_line_381 : decode cX11_line 381 = .ok (.invokevirtual 247, 3) := by decide +kernel
theorem dX11_line_384 : decode cX11_line 384 = .ok (.iastore, 1) := by decide +kernel
theorem dX11_line_385 : decode cX11_line 385 = .ok (.aload_n 0, 1) := by decide +kernel
theorem dX11_line_386 : decode cX11_line 386 = .ok (.iconst 3, 1) := by decide +kernel
theorem dX11_line_387 : decode cX11_line 387 = .ok (.aload_n 0, 1) := by decide +kernel
theorem dX11_line_388 : decode cX11_line 388 = .ok (.iconst 3, 1) := by decide +kernel
theorem dX11_line_389 : decode cX11_line 389 = .ok (.invokevirtual 230, 3) := by decide +kernel
theorem dX11_line_392 : decode cX11_line 392 = .ok (.iconst 1, 1) := by decide +kernel
theorem dX11_line_393 : decode cX11_line 393 = .ok (.iadd, 1) := by decide +kernel
theorem dX11_line_394 : decode cX11_line 394 = .ok (.invokevirtual 251, 3) := by decide +kernel
theorem dX11_line_397 : decode cX11_line 397 = .ok (.goto 69, 3) := by decide +kernel
theorem dX11_line_400 : decode cX11_line 400 = .ok (.aload_n 0, 1) := by decide +kernel
theorem dX11_line_401 : decode cX11_line 401 = .ok (.bipush 8, 2) := by decide +kernel
theorem dX11_line_403 : decode cX11_line 403 = .ok (.aload_n 0, 1) := by decide +kernel
theorem dX11_line_404 : decode cX11_line 404 = .ok (.iconst 4, 1) := by decide +kernel
theorem dX11_line_405 : decode cX11_line 405 = .ok (.invokevirtual 230, 3) := by decide +kernel
theorem dX11_line_408 : decode cX11_line 408 = .ok (.iadd, 1) := by decide +kernel
theorem dX11_line_409 : decode cX11_line 409 = .ok (.invokevirtual 258, 3) := by decide +kernel
theorem dX11_line_412 : decode cX11_line 412 = .ok (.goto 54, 3) := by decide +kernel
theorem dX11_line_415 : decode cX11_line 415 = .ok (.aload_n 0, 1) := by decide +kernel
theorem dX11_line_416 : decode cX11_line 416 = .ok (.iconst 5, 1) := by decide +kernel
theorem dX11_line_417 : decode cX11_line 417 = .ok (.aload_n 0, 1) := by decide +kernel
theorem dX11_line_418 : decode cX11_line 418 = .ok (.iconst 1, 1) := by decide +kernel
theorem dX11_line_419 : decode cX11_line 419 = .ok (.bipush 30, 2) := by decide +kernel
theorem dX11_line_421 : decode cX11_line 421 = .ok (.invokevirtual 247, 3) := by decide +kernel
theorem dX11_line_424 : decode cX11_line 424 = .ok (.invokevirtual 251, 3) := by decide +kernel
theorem dX11_line_427 : decode cX11_line 427 = .ok (.goto 39, 3) := by decide +kernel
theorem dX11_line_430 : decode cX11_line 430 = .ok (.aload_n 0, 1) := by decide +kernel
theorem dX11_line_431 : decode cX11_line 431 = .ok (.bipush 6, 2) := by decide +kernel
theorem dX11_line_433 : decode cX11_line 433 = .ok (.aload_n 0, 1) := by decide +kernel
theorem dX11_line_434 : decode cX11_line 434 = .ok (.iconst 0, 1) := by decide +kernel
theorem dX11_line_435 : decode cX11_line 435 = .ok (.bipush 100, 2) := by decide +kernel
theorem dX11_line_437 : decode cX11_line 437 = .ok (.invokevirtual 247, 3) := by decide +kernel
theorem dX11_line_440 : decode cX11_line 440 = .ok (.invokevirtual 251, 3) := by decide +kernel
theorem dX11_line_443 : decode cX11_line 443 = .ok (.goto 23, 3) := by decide +kernel
theorem dX11_line_446 : decode cX11_line 446 = .ok (.aload_n 0, 1) := by decide +kernel
theorem dX11_line_447 : decode cX11_line 447 = .ok (.bipush 7, 2) := by decide +kernel
theorem dX11_line_449 : decode cX11_line 449 = .ok (.aload_n 0, 1) := by decide +kernel
theorem dX11_line_450 : decode cX11_line 450 = .ok (.iconst 0, 1) := by decide +kernel
theorem dX11_line_451 : decode cX11_line 451 = .ok (.ldc 195, 2) := by decide +kernel
theorem dX11_line_453 : decode cX11_line 453 = .ok (.invokevirtual 247, 3) := by decide +kernel
theorem dX11_line_456 : decode cX11_line 456 = .ok (.invokevirtual 251, 3) := by decide +kernel
theorem dX11_line_459 : decode cX11_line 459 = .ok (.goto 7, 3) := by decide +kernel
theorem dX11_line_462 : decode cX11_line 462 = .ok (.aload_n 0, 1) := by decide +kernel
theorem dX11_line_463 : decode cX11_line 463 = .ok (.invokevirtual 261, 3) := by decide +kernel
theorem dX11_line_466 : decode cX11_line 466 = .ok (.aload_n 0, 1) := by decide +kernel
theorem dX11_line_467 : decode cX11_line 467 = .ok (.getfield 211, 3) := by decide +kernel
theorem dX11_line_470 : decode cX11_line 470 = .ok (.ifCond .eq 4, 3) := by decide +kernel
theorem dX11_line_473 : decode cX11_line 473 = .ok (.return_, 1) := by decide +kernel
theorem dX11_line_474 : decode cX11_line 474 = .ok (.aload_n 0, 1) := by decide +kernel
theorem dX11_line_475 : decode cX11_line 475 = .ok (.bipush 59, 2) := by decide +kernel
theorem dX11_line_477 : decode cX11_line 477 = .ok (.invokevirtual 264, 3) := by decide +kernel
theorem dX11_line_480 : decode cX11_line 480 = .ok (.ifCond .ne 11, 3) := by decide +kernel
theorem dX11_line_483 : decode cX11_line 483 = .ok (.aload_n 0, 1) := by decide +kernel
theorem dX11_line_484 : decode cX11_line 484 = .ok (.iconst 1, 1) := by decide +kernel
theorem dX11_line_485 : decode cX11_line 485 = .ok (.invokevirtual 220, 3) := by decide +kernel
theorem dX11_line_488 : decode cX11_line 488 = .ok (.goto 7, 3) := by decide +kernel
theorem dX11_line_491 : decode cX11_line 491 = .ok (.aload_n 0, 1) := by decide +kernel
theorem dX11_line_492 : decode cX11_line 492 = .ok (.invokevirtual 217, 3) := by decide +kernel
theorem dX11_line_495 : decode cX11_line 495 = .ok (.aload_n 0, 1) := by decide +kernel
theorem dX11_line_496 : decode cX11_line 496 = .ok (.dup, 1) := by decide +kernel
theorem dX11_line_497 : decode cX11_line 497 = .ok (.getfield 267, 3) := by decide +kernel
theorem dX11_line_500 : decode cX11_line 500 = .ok (.iconst 1, 1) := by decide +kernel
theorem dX11_line_501 : decode cX11_line 501 = .ok (.iadd, 1) := by decide +kernel
theorem dX11_line_502 : decode cX11_line 502 = .ok (.putfield 267, 3) := by decide +kernel
theorem dX11_line_505 : decode cX11_line 505 = .ok (.return_, 1) := by decide +kernel
theorem dX11_half_0 : decode cX11_half 0 = .ok (.aload_n 0, 1) := by decide +kernel
theorem dX11_half_1 : decode cX11_half 1 = .ok (.arraylength, 1) := by decide +kernel
theorem dX11_half_2 : decode cX11_half 2 = .ok (.iconst 2, 1) := by decide +kernel
theorem dX11_half_3 : decode cX11_half 3 = .ok (.idiv, 1) := by decide +kernel
theorem dX11_half_4 : decode cX11_half 4 = .ok (.istore_n 1, 1) := by decide +kernel
theorem dX11_half_5 : decode cX11_half 5 = .ok (.iconst 0, 1) := by decide +kernel
theorem dX11_half_6 : decode cX11_half 6 = .ok (.istore_n 2, 1) := by decide +kernel
theorem dX11_half_7 : decode cX11_half 7 = .ok (.iload_n 2, 1) := by decide +kernel
theorem dX11_half_8 : decode cX11_half 8 = .ok (.iload_n 1, 1) := by decide +kernel
theorem dX11_half_9 : decode cX11_half 9 = .ok (.if_icmp .ge 17, 3) := by decide +kernel
theorem dX11_half_12 : decode cX11_half 12 = .ok (.aload_n 0, 1) := by decide +kernel
theorem dX11_half_13 : decode cX11_half 13 = .ok (.iload_n 2, 1) := by decide +kernel
theorem dX11_half_14 : decode cX11_half 14 = .ok (.aload_n 0, 1) := by decide +kernel
theorem dX11_half_15 : decode cX11_half 15 = .ok (.iload_n 1, 1) := by decide +kernel
theorem dX11_half_16 : decode cX11_half 16 = .ok (.iload_n 2, 1) := by decide +kernel
theorem dX11_half_17 : decode cX11_half 17 = .ok (.iadd, 1) := by decide +kernel
theorem dX11_half_18 : decode cX11_half 18 = .ok (.iaload, 1) := by decide +kernel
theorem dX11_half_19 : decode cX11_half 19 = .ok (.iastore, 1) := by decide +kernel
theorem dX11_half_20 : decode cX11_half 20 = .ok (.iinc 2 1, 3) := by decide +kernel
theorem dX11_half_23 : decode cX11_half 23 = .ok (.goto (-16), 3) := by decide +kernel
theorem dX11_half_26 : decode cX11_half 26 = .ok (.return_, 1) := by decide +kernel
section
variable {p : Program} {l : Launch} {e : Env} {s : State} {m : MethodId} {args : Array Value} {below : List Frame} {meth : Method} {c : Code} {D : va_G} {aC : Nat → ClassId} {B : Nat}
set_option maxHeartbeats 4000000 in
set_option maxRecDepth 100000 in
theorem c11_thrown (l : Launch) (D : va_G) (aC : Nat → ClassId) (B : Nat) {F : Nat} {mem : g_M} {q0 : Int32} (he : f11_thrown F mem = some q0) : g_Met l yX11_thrown cX11_thrown 1 (some .int) 1 D aC B yM 44 mem [.ref (B + 0)] (some (.int q0)) mem := by
  refine g_ofW (by decide) (Nat.le_of_ble_eq_true rfl) ?_
  intro p e s m args below meth c ls E hml hret hlk hM hl
  have E : g_C p s m args c cX11_thrown RX11 D aC (g_Zs (g_A B 44)) := E
  have hx := E.1
  have hb := E.2.1
  have hown := E.2.2.1
  have hts := E.2.2.2.1
  have hl : lv_has ls 1 [(0, .ref (B + 0))] := hl
  unfold f11_thrown at he
  refine lv_aload_n hx hb dX11_thrown_0 rfl (lv_at hl 0 rfl) ?_
  refine g_getI E hM (o := 0) (Nat.le_of_ble_eq_true rfl) rfl fl_X11_157 dX11_thrown_1 ?_
  cases he
  exact g_iret E hM hret hlk dX11_thrown_4

set_option maxHeartbeats 4000000 in
set_option maxRecDepth 100000 in
theorem w11_feed_b73 (E : g_C p s m args c cX11_feed RX11 D aC (g_Zs (g_A B 44))) (hml : c.maxLocals = 8) (hret : meth.sig.returnType = (some .int)) (hlk : meth.locks = false) {F : Nat} {q0 : Int32 × g_M} {a1 : Int32} {a2 : Int32} {a3 : Int32} {a4 : Int32} {a5 : Int32} {s20 : Int32 → g_M → Option (Int32 × g_M)} (hs20 : ∀ (v6 : Int32) (mem : g_M) (H : Heap) (locs : List Loc) (ls : Array Slot), g_At D aC B yM 44 mem s.heap H locs → lv_has ls 8 [(0, .ref (B + 0)), (1, .int a1), (2, .int a2), (3, .int a3), (4, .int a4), (5, .int a5), (6, .int v6)] → s20 v6 mem = some q0 → W p l e (g_rm 1) s m args below meth c H locs 0 0 (g_MQ below D aC B yM 44 args s (some (.int q0.1)) q0.2) (F0 m 20 ls [])) : ∀ (v6 : Int32) (w0 : Int32) (mem : g_M) (H : Heap) (locs : List Loc) (ls : Array Slot), g_At D aC B yM 44 mem s.heap H locs → lv_has ls 8 [(0, .ref (B + 0)), (1, .int a1), (2, .int a2), (3, .int a3), (4, .int a4), (5, .int a5), (6, .int v6)] → f11_feed_b73 F a1 a2 a3 a4 a5 s20 v6 w0 mem = some q0 → W p l e (g_rm 1) s m args below meth c H locs 0 0 (g_MQ below D aC B yM 44 args s (some (.int q0.1)) q0.2) (F0 m 73 ls [.int w0]) := by
  intro v6 w0 mem H locs ls hM hl he
  unfold f11_feed_b73 at he
  have hx := E.1
  have hb := E.2.1
  have hown := E.2.2.1
  have hts := E.2.2.2.1
  refine lv_istore (lv' := [(7, .int w0), (0, .ref (B + 0)), (1, .int a1), (2, .int a2), (3, .int a3), (4, .int a4), (5, .int a5), (6, .int v6)]) hx hb dX11_feed_73 hl (by decide) rfl (fun ls hl => ?_)
  refine lv_aload_n hx hb dX11_feed_75 rfl (lv_at hl 1 rfl) ?_
  refine g_getP E hM (o := 0) (Nat.le_of_ble_eq_true rfl) rfl fl_X11_7 (q := 1) rfl dX11_feed_76 ?_
  refine lv_aload_n hx hb dX11_feed_79 rfl (lv_at hl 1 rfl) ?_
  refine g_getI E hM (o := 0) (Nat.le_of_ble_eq_true rfl) rfl fl_X11_160 dX11_feed_80 ?_
  refine lv_iload hx hb dX11_feed_83 (lv_at hl 7 rfl) ?_
  refine lv_iadd hx hb dX11_feed_85 ?_
  refine lv_iload hx hb dX11_feed_86 (lv_at hl 0 rfl) ?_
  refine lv_bipush (v := (24 : Int32)) hx hb dX11_feed_88 rfl ?_
  refine lv_bipush (v := (8 : Int32)) hx hb dX11_feed_90 rfl ?_
  refine lv_iload hx hb dX11_feed_92 (lv_at hl 7 rfl) ?_
  refine lv_iconst (v := (4 : Int32)) hx hb dX11_feed_94 rfl ?_
  refine lv_irem hx hb dX11_feed_95 (by decide) ?_
  refine lv_imul hx hb dX11_feed_96 ?_
  refine lv_isub hx hb dX11_feed_97 ?_
  refine lv_ishr hx hb dX11_feed_98 ?_
  refine lv_sipush (v := (255 : Int32)) hx hb dX11_feed_99 rfl ?_
  refine lv_iand hx hb dX11_feed_102 ?_
  obtain ⟨h1, he⟩ := g_ck_some he
  refine g_iast E hM (o := 1) (Nat.le_of_ble_eq_true rfl) rfl h1 dX11_feed_103 (fun H locs hM => ?_)
  obtain ⟨m2, hm2, he⟩ := g_let_ex he
  rw [← hm2] at hM
  obtain ⟨x3, hx3, he⟩ := g_let_ex he
  refine lv_iinc (v := x3) (lv' := [(6, .int x3), (7, .int w0), (0, .ref (B + 0)), (1, .int a1), (2, .int a2), (3, .int a3), (4, .int a4), (5, .int a5)]) hx hb dX11_feed_104 hl (k := 7) rfl (by rw [hx3]; rfl) (by decide) rfl (fun ls hl => ?_)
  refine lv_goto (tgt := 20) hx hb dX11_feed_107 (by decide) ?_
  exact hs20 _ _ _ _ _ hM (lv_sub hl [2, 3, 4, 5, 6, 7, 0] rfl) he

set_option maxHeartbeats 4000000 in
set_option maxRecDepth 100000 in
theorem w11_feed_b20_body (E : g_C p s m args c cX11_feed RX11 D aC (g_Zs (g_A B 44))) (hml : c.maxLocals = 8) (hret : meth.sig.returnType = (some .int)) (hlk : meth.locks = false) {F : Nat} {q0 : Int32 × g_M} {a1 : Int32} {a2 : Int32} {a3 : Int32} {a4 : Int32} {a5 : Int32} {s20 : Int32 → g_M → Option (Int32 × g_M)} (hs20 : ∀ (v6 : Int32) (mem : g_M) (H : Heap) (locs : List Loc) (ls : Array Slot), g_At D aC B yM 44 mem s.heap H locs → lv_has ls 8 [(0, .ref (B + 0)), (1, .int a1), (2, .int a2), (3, .int a3), (4, .int a4), (5, .int a5), (6, .int v6)] → s20 v6 mem = some q0 → W p l e (g_rm 1) s m args below meth c H locs 0 0 (g_MQ below D aC B yM 44 args s (some (.int q0.1)) q0.2) (F0 m 20 ls [])) : ∀ (v6 : Int32) (mem : g_M) (H : Heap) (locs : List Loc) (ls : Array Slot), g_At D aC B yM 44 mem s.heap H locs → lv_has ls 8 [(0, .ref (B + 0)), (1, .int a1), (2, .int a2), (3, .int a3), (4, .int a4), (5, .int a5), (6, .int v6)] → f11_feed_b20_body F a1 a2 a3 a4 a5 s20 v6 mem = some q0 → W p l e (g_rm 1) s m args below meth c H locs 0 0 (g_MQ below D aC B yM 44 args s (some (.int q0.1)) q0.2) (F0 m 20 ls []) := by
  intro v6 mem H locs ls hM hl he
  unfold f11_feed_b20_body at he
  have hx := E.1
  have hb := E.2.1
  have hown := E.2.2.1
  have hts := E.2.2.2.1
  refine lv_iload hx hb dX11_feed_20 (lv_at hl 6 rfl) ?_
  refine lv_bipush (v := (20 : Int32)) hx hb dX11_feed_22 rfl ?_
  refine lv_icmp_ge (tgt := 110) hx hb dX11_feed_24 (by decide) (fun h4 => ?_) (fun h4 => ?_)
  · rw [if_neg (Int32.not_lt.mpr h4)] at he
    refine lv_aload_n hx hb dX11_feed_110 rfl (lv_at hl 0 rfl) ?_
    refine lv_dup hx hb dX11_feed_111 rfl ?_
    refine g_getI E hM (o := 0) (Nat.le_of_ble_eq_true rfl) rfl fl_X11_160 dX11_feed_112 ?_
    refine lv_bipush (v := (20 : Int32)) hx hb dX11_feed_115 rfl ?_
    refine lv_iadd hx hb dX11_feed_117 ?_
    refine g_putI E hM (o := 0) (Nat.le_of_ble_eq_true rfl) rfl fp_X11_160 dX11_feed_118 (fun H locs hM => ?_)
    obtain ⟨m9, hm9, he⟩ := g_let_ex he
    rw [← hm9] at hM
    refine lv_aload_n hx hb dX11_feed_121 rfl (lv_at hl 0 rfl) ?_
    refine g_getI E hM (o := 0) (Nat.le_of_ble_eq_true rfl) rfl fl_X11_160 dX11_feed_122 ?_
    cases he
    exact g_iret E hM hret hlk dX11_feed_125
  · rw [if_pos (Int32.not_le.mp h4)] at he
    refine lv_iload hx hb dX11_feed_27 (lv_at hl 6 rfl) ?_
    refine lv_iconst (v := (4 : Int32)) hx hb dX11_feed_29 rfl ?_
    refine lv_icmp_ge (tgt := 37) hx hb dX11_feed_30 (by decide) (fun h5 => ?_) (fun h5 => ?_)
    · rw [if_neg (Int32.not_lt.mpr h5)] at he
      refine lv_iload hx hb dX11_feed_37 (lv_at hl 6 rfl) ?_
      refine lv_bipush (v := (8 : Int32)) hx hb dX11_feed_39 rfl ?_
      refine lv_icmp_ge (tgt := 48) hx hb dX11_feed_41 (by decide) (fun h6 => ?_) (fun h6 => ?_)
      · rw [if_neg (Int32.not_lt.mpr h6)] at he
        refine lv_iload hx hb dX11_feed_48 (lv_at hl 6 rfl) ?_
        refine lv_bipush (v := (12 : Int32)) hx hb dX11_feed_50 rfl ?_
        refine lv_icmp_ge (tgt := 59) hx hb dX11_feed_52 (by decide) (fun h7 => ?_) (fun h7 => ?_)
        · rw [if_neg (Int32.not_lt.mpr h7)] at he
          refine lv_iload hx hb dX11_feed_59 (lv_at hl 6 rfl) ?_
          refine lv_bipush (v := (16 : Int32)) hx hb dX11_feed_61 rfl ?_
          refine lv_icmp_ge (tgt := 71) hx hb dX11_feed_63 (by decide) (fun h8 => ?_) (fun h8 => ?_)
          · rw [if_neg (Int32.not_lt.mpr h8)] at he
            refine lv_iload hx hb dX11_feed_71 (lv_at hl 5 rfl) ?_
            exact w11_feed_b73 (F := F) (a1 := a1) (a2 := a2) (a3 := a3) (a4 := a4) (a5 := a5) E hml hret hlk hs20 _ _ _ _ _ _ hM (lv_sub hl [0, 1, 2, 3, 4, 5, 6] rfl) he
          · rw [if_pos (Int32.not_le.mp h8)] at he
            refine lv_iload hx hb dX11_feed_66 (lv_at hl 4 rfl) ?_
            refine lv_goto (tgt := 73) hx hb dX11_feed_68 (by decide) ?_
            exact w11_feed_b73 (F := F) (a1 := a1) (a2 := a2) (a3 := a3) (a4 := a4) (a5 := a5) E hml hret hlk hs20 _ _ _ _ _ _ hM (lv_sub hl [0, 1, 2, 3, 4, 5, 6] rfl) he
        · rw [if_pos (Int32.not_le.mp h7)] at he
          refine lv_iload_n hx hb dX11_feed_55 rfl (lv_at hl 3 rfl) ?_
          refine lv_goto (tgt := 73) hx hb dX11_feed_56 (by decide) ?_
          exact w11_feed_b73 (F := F) (a1 := a1) (a2 := a2) (a3 := a3) (a4 := a4) (a5 := a5) E hml hret hlk hs20 _ _ _ _ _ _ hM (lv_sub hl [0, 1, 2, 3, 4, 5, 6] rfl) he
      · rw [if_pos (Int32.not_le.mp h6)] at he
        refine lv_iload_n hx hb dX11_feed_44 rfl (lv_at hl 2 rfl) ?_
        refine lv_goto (tgt := 73) hx hb dX11_feed_45 (by decide) ?_
        exact w11_feed_b73 (F := F) (a1 := a1) (a2 := a2) (a3 := a3) (a4 := a4) (a5 := a5) E hml hret hlk hs20 _ _ _ _ _ _ hM (lv_sub hl [0, 1, 2, 3, 4, 5, 6] rfl) he
    · rw [if_pos (Int32.not_le.mp h5)] at he
      refine lv_iload_n hx hb dX11_feed_33 rfl (lv_at hl 1 rfl) ?_
      refine lv_goto (tgt := 73) hx hb dX11_feed_34 (by decide) ?_
      exact w11_feed_b73 (F := F) (a1 := a1) (a2 := a2) (a3 := a3) (a4 := a4) (a5 := a5) E hml hret hlk hs20 _ _ _ _ _ _ hM (lv_sub hl [0, 1, 2, 3, 4, 5, 6] rfl) he

set_option maxHeartbeats 4000000 in
set_option maxRecDepth 100000 in
theorem w11_feed_b20 (E : g_C p s m args c cX11_feed RX11 D aC (g_Zs (g_A B 44))) (hml : c.maxLocals = 8) (hret : meth.sig.returnType = (some .int)) (hlk : meth.locks = false) {F : Nat} {q0 : Int32 × g_M} {a1 : Int32} {a2 : Int32} {a3 : Int32} {a4 : Int32} {a5 : Int32} : ∀ (v6 : Int32) (mem : g_M) (H : Heap) (locs : List Loc) (ls : Array Slot), g_At D aC B yM 44 mem s.heap H locs → lv_has ls 8 [(0, .ref (B + 0)), (1, .int a1), (2, .int a2), (3, .int a3), (4, .int a4), (5, .int a5), (6, .int v6)] → f11_feed_b20 F a1 a2 a3 a4 a5 v6 mem = some q0 → W p l e (g_rm 1) s m args below meth c H locs 0 0 (g_MQ below D aC B yM 44 args s (some (.int q0.1)) q0.2) (F0 m 20 ls []) := by
  have key : ∀ (nn : Nat) (x : Int32 × g_M) (H : Heap) (locs : List Loc) (ls : Array Slot), g_At D aC B yM 44 x.2 s.heap H locs → lv_has ls 8 [(0, .ref (B + 0)), (1, .int a1), (2, .int a2), (3, .int a3), (4, .int a4), (5, .int a5), (6, .int x.1)] → g_fix (fun sf x => f11_feed_b20_body F a1 a2 a3 a4 a5 (fun v6 mem => sf (v6, mem)) x.1 x.2) nn x = some q0 → W p l e (g_rm 1) s m args below meth c H locs 0 0 (g_MQ below D aC B yM 44 args s (some (.int q0.1)) q0.2) (F0 m 20 ls []) := by
    intro nn
    induction nn with
    | zero => intro x H locs ls hM hl he; simp [g_fix] at he
    | succ nn ih =>
      intro x H locs ls hM hl he
      exact w11_feed_b20_body (F := F) (a1 := a1) (a2 := a2) (a3 := a3) (a4 := a4) (a5 := a5) E hml hret hlk (fun v6 mem H locs ls hM hl he => ih (v6, mem) H locs ls hM hl he) x.1 x.2 H locs ls hM hl he
  intro v6 mem H locs ls hM hl he
  exact key F (v6, mem) H locs ls hM hl he

set_option maxHeartbeats 4000000 in
set_option maxRecDepth 100000 in
theorem c11_feed (l : Launch) (D : va_G) (aC : Nat → ClassId) (B : Nat) {F : Nat} {a1 : Int32} {a2 : Int32} {a3 : Int32} {a4 : Int32} {a5 : Int32} {mem : g_M} {q0 : Int32 × g_M} (he : f11_feed F a1 a2 a3 a4 a5 mem = some q0) : g_Met l yX11_feed cX11_feed 8 (some .int) 1 D aC B yM 44 mem [.ref (B + 0), .int a1, .int a2, .int a3, .int a4, .int a5] (some (.int q0.1)) q0.2 := by
  refine g_ofW (by decide) (Nat.le_of_ble_eq_true rfl) ?_
  intro p e s m args below meth c ls E hml hret hlk hM hl
  have E : g_C p s m args c cX11_feed RX11 D aC (g_Zs (g_A B 44)) := E
  have hx := E.1
  have hb := E.2.1
  have hown := E.2.2.1
  have hts := E.2.2.2.1
  have hl : lv_has ls 8 [(0, .ref (B + 0)), (1, .int a1), (2, .int a2), (3, .int a3), (4, .int a4), (5, .int a5)] := hl
  unfold f11_feed at he
  refine lv_aload_n hx hb dX11_feed_0 rfl (lv_at hl 0 rfl) ?_
  refine lv_iconst (v := (0 : Int32)) hx hb dX11_feed_1 rfl ?_
  refine g_putI E hM (o := 0) (Nat.le_of_ble_eq_true rfl) rfl fp_X11_157 dX11_feed_2 (fun H locs hM => ?_)
  obtain ⟨m10, hm10, he⟩ := g_let_ex he
  rw [← hm10] at hM
  refine lv_aload_n hx hb dX11_feed_5 rfl (lv_at hl 0 rfl) ?_
  refine g_getI E hM (o := 0) (Nat.le_of_ble_eq_true rfl) rfl fl_X11_160 dX11_feed_6 ?_
  refine lv_sipush (v := (680 : Int32)) hx hb dX11_feed_9 rfl ?_
  refine lv_icmp_le (tgt := 17) hx hb dX11_feed_12 (by decide) (fun h11 => ?_) (fun h11 => ?_)
  · rw [if_neg (Int32.not_lt.mpr h11)] at he
    refine lv_iconst (v := (0 : Int32)) hx hb dX11_feed_17 rfl ?_
    refine lv_istore (lv' := [(6, .int (0 : Int32)), (0, .ref (B + 0)), (1, .int a1), (2, .int a2), (3, .int a3), (4, .int a4), (5, .int a5)]) hx hb dX11_feed_18 hl (by decide) rfl (fun ls hl => ?_)
    exact w11_feed_b20 (F := F) (a1 := a1) (a2 := a2) (a3 := a3) (a4 := a4) (a5 := a5) E hml hret hlk _ _ _ _ _ hM (lv_sub hl [1, 2, 3, 4, 5, 6, 0] rfl) he
  · rw [if_pos (Int32.not_le.mp h11)] at he
    refine lv_iconst (v := (-1 : Int32)) hx hb dX11_feed_15 rfl ?_
    cases he
    exact g_iret E hM hret hlk dX11_feed_16

set_option maxHeartbeats 4000000 in
set_option maxRecDepth 100000 in
theorem c11_here (l : Launch) (D : va_G) (aC : Nat → ClassId) (B : Nat) {F : Nat} {mem : g_M} {q0 : Int32} (he : f11_here F mem = some q0) : g_Met l yX11_here cX11_here 1 (some .int) 1 D aC B yM 44 mem [.ref (B + 0)] (some (.int q0)) mem := by
  refine g_ofW (by decide) (Nat.le_of_ble_eq_true rfl) ?_
  intro p e s m args below meth c ls E hml hret hlk hM hl
  have E : g_C p s m args c cX11_here RX11 D aC (g_Zs (g_A B 44)) := E
  have hx := E.1
  have hb := E.2.1
  have hown := E.2.2.1
  have hts := E.2.2.2.1
  have hl : lv_has ls 1 [(0, .ref (B + 0))] := hl
  unfold f11_here at he
  refine lv_aload_n hx hb dX11_here_0 rfl (lv_at hl 0 rfl) ?_
  refine g_getI E hM (o := 0) (Nat.le_of_ble_eq_true rfl) rfl fl_X11_163 dX11_here_1 ?_
  refine lv_aload_n hx hb dX11_here_4 rfl (lv_at hl 0 rfl) ?_
  refine g_getI E hM (o := 0) (Nat.le_of_ble_eq_true rfl) rfl fl_X11_166 dX11_here_5 ?_
  refine lv_icmp_ge (tgt := 23) hx hb dX11_here_8 (by decide) (fun h1 => ?_) (fun h1 => ?_)
  · rw [if_neg (Int32.not_lt.mpr h1)] at he
    refine lv_iconst (v := (-1 : Int32)) hx hb dX11_here_23 rfl ?_
    cases he
    exact g_iret E hM hret hlk dX11_here_24
  · rw [if_pos (Int32.not_le.mp h1)] at he
    refine lv_aload_n hx hb dX11_here_11 rfl (lv_at hl 0 rfl) ?_
    refine g_getP E hM (o := 0) (Nat.le_of_ble_eq_true rfl) rfl fl_X11_7 (q := 1) rfl dX11_here_12 ?_
    refine lv_aload_n hx hb dX11_here_15 rfl (lv_at hl 0 rfl) ?_
    refine g_getI E hM (o := 0) (Nat.le_of_ble_eq_true rfl) rfl fl_X11_163 dX11_here_16 ?_
    obtain ⟨h2, he⟩ := g_ck_some he
    refine g_iald E hM (o := 1) (Nat.le_of_ble_eq_true rfl) rfl h2 dX11_here_19 ?_
    refine lv_goto (tgt := 24) hx hb dX11_here_20 (by decide) ?_
    cases he
    exact g_iret E hM hret hlk dX11_here_24

set_option maxHeartbeats 4000000 in
set_option maxRecDepth 100000 in
theorem c11_isSmall (l : Launch) (D : va_G) (aC : Nat → ClassId) (B : Nat) {F : Nat} {a0 : Int32} {mem : g_M} {q0 : Int32} (he : f11_isSmall F a0 mem = some q0) : g_Met l yX11_isSmall cX11_isSmall 1 (some .boolean) 1 D aC B yM 44 mem [.int a0] (some (.int q0)) mem := by
  refine g_ofW (by decide) (Nat.le_of_ble_eq_true rfl) ?_
  intro p e s m args below meth c ls E hml hret hlk hM hl
  have E : g_C p s m args c cX11_isSmall RX11 D aC (g_Zs (g_A B 44)) := E
  have hx := E.1
  have hb := E.2.1
  have hown := E.2.2.1
  have hts := E.2.2.2.1
  have hl : lv_has ls 1 [(0, .int a0)] := hl
  unfold f11_isSmall at he
  refine lv_iload_n hx hb dX11_isSmall_0 rfl (lv_at hl 0 rfl) ?_
  refine lv_bipush (v := (97 : Int32)) hx hb dX11_isSmall_1 rfl ?_
  refine lv_icmp_lt (tgt := 16) hx hb dX11_isSmall_3 (by decide) (fun h1 => ?_) (fun h1 => ?_)
  · rw [if_neg (Int32.not_le.mpr h1)] at he
    refine lv_iconst (v := (0 : Int32)) hx hb dX11_isSmall_16 rfl ?_
    cases he
    exact g_zret E hM hret hlk (Or.inl rfl) dX11_isSmall_17
  · rw [if_pos (Int32.not_lt.mp h1)] at he
    refine lv_iload_n hx hb dX11_isSmall_6 rfl (lv_at hl 0 rfl) ?_
    refine lv_bipush (v := (122 : Int32)) hx hb dX11_isSmall_7 rfl ?_
    refine lv_icmp_gt (tgt := 16) hx hb dX11_isSmall_9 (by decide) (fun h2 => ?_) (fun h2 => ?_)
    · rw [if_neg (Int32.not_le.mpr h2)] at he
      refine lv_iconst (v := (0 : Int32)) hx hb dX11_isSmall_16 rfl ?_
      cases he
      exact g_zret E hM hret hlk (Or.inl rfl) dX11_isSmall_17
    · rw [if_pos (Int32.not_lt.mp h2)] at he
      refine lv_iconst (v := (1 : Int32)) hx hb dX11_isSmall_12 rfl ?_
      refine lv_goto (tgt := 17) hx hb dX11_isSmall_13 (by decide) ?_
      cases he
      exact g_zret E hM hret hlk (Or.inr rfl) dX11_isSmall_17

set_option maxHeartbeats 4000000 in
set_option maxRecDepth 100000 in
theorem c11_isDigit (l : Launch) (D : va_G) (aC : Nat → ClassId) (B : Nat) {F : Nat} {a0 : Int32} {mem : g_M} {q0 : Int32} (he : f11_isDigit F a0 mem = some q0) : g_Met l yX11_isDigit cX11_isDigit 1 (some .boolean) 1 D aC B yM 44 mem [.int a0] (some (.int q0)) mem := by
  refine g_ofW (by decide) (Nat.le_of_ble_eq_true rfl) ?_
  intro p e s m args below meth c ls E hml hret hlk hM hl
  have E : g_C p s m args c cX11_isDigit RX11 D aC (g_Zs (g_A B 44)) := E
  have hx := E.1
  have hb := E.2.1
  have hown := E.2.2.1
  have hts := E.2.2.2.1
  have hl : lv_has ls 1 [(0, .int a0)] := hl
  unfold f11_isDigit at he
  refine lv_iload_n hx hb dX11_isDigit_0 rfl (lv_at hl 0 rfl) ?_
  refine lv_bipush (v := (48 : Int32)) hx hb dX11_isDigit_1 rfl ?_
  refine lv_icmp_lt (tgt := 16) hx hb dX11_isDigit_3 (by decide) (fun h1 => ?_) (fun h1 => ?_)
  · rw [if_neg (Int32.not_le.mpr h1)] at he
    refine lv_iconst (v := (0 : Int32)) hx hb dX11_isDigit_16 rfl ?_
    cases he
    exact g_zret E hM hret hlk (Or.inl rfl) dX11_isDigit_17
  · rw [if_pos (Int32.not_lt.mp h1)] at he
    refine lv_iload_n hx hb dX11_isDigit_6 rfl (lv_at hl 0 rfl) ?_
    refine lv_bipush (v := (57 : Int32)) hx hb dX11_isDigit_7 rfl ?_
    refine lv_icmp_gt (tgt := 16) hx hb dX11_isDigit_9 (by decide) (fun h2 => ?_) (fun h2 => ?_)
    · rw [if_neg (Int32.not_le.mpr h2)] at he
      refine lv_iconst (v := (0 : Int32)) hx hb dX11_isDigit_16 rfl ?_
      cases he
      exact g_zret E hM hret hlk (Or.inl rfl) dX11_isDigit_17
    · rw [if_pos (Int32.not_lt.mp h2)] at he
      refine lv_iconst (v := (1 : Int32)) hx hb dX11_isDigit_12 rfl ?_
      refine lv_goto (tgt := 17) hx hb dX11_isDigit_13 (by decide) ?_
      cases he
      exact g_zret E hM hret hlk (Or.inr rfl) dX11_isDigit_17

set_option maxHeartbeats 4000000 in
set_option maxRecDepth 100000 in
theorem w11_word_b97_body (E : g_C p s m args c cX11_word RX11 D aC (g_Zs (g_A B 44))) (hml : c.maxLocals = 4) (hret : meth.sig.returnType = (some .int)) (hlk : meth.locks = false) {F : Nat} {q0 : Int32} {mem : g_M} {s4 : Int32 → Int32 → Option (Int32)} (hs4 : ∀ (v1 : Int32) (v2 : Int32) (H : Heap) (locs : List Loc) (ls : Array Slot), g_At D aC B yM 44 mem s.heap H locs → lv_has ls 4 [(0, .ref (B + 0)), (1, .int v1), (2, .int v2)] → s4 v1 v2 = some q0 → W p l e (g_rm 5) s m args below meth c H locs 0 0 (g_MQ below D aC B yM 44 args s (some (.int q0)) mem) (F0 m 4 ls [])) {s97 : Int32 → Int32 → Option (Int32)} (hs97 : ∀ (v1 : Int32) (v2 : Int32) (H : Heap) (locs : List Loc) (ls : Array Slot), g_At D aC B yM 44 mem s.heap H locs → lv_has ls 4 [(0, .ref (B + 0)), (1, .int v1), (2, .int v2)] → s97 v1 v2 = some q0 → W p l e (g_rm 5) s m args below meth c H locs 0 0 (g_MQ below D aC B yM 44 args s (some (.int q0)) mem) (F0 m 97 ls [])) : ∀ (v1 : Int32) (v2 : Int32) (H : Heap) (locs : List Loc) (ls : Array Slot), g_At D aC B yM 44 mem s.heap H locs → lv_has ls 4 [(0, .ref (B + 0)), (1, .int v1), (2, .int v2)] → f11_word_b97_body F s4 s97 mem v1 v2 = some q0 → W p l e (g_rm 5) s m args below meth c H locs 0 0 (g_MQ below D aC B yM 44 args s (some (.int q0)) mem) (F0 m 97 ls []) := by
  intro v1 v2 H locs ls hM hl he
  unfold f11_word_b97_body at he
  have hx := E.1
  have hb := E.2.1
  have hown := E.2.2.1
  have hts := E.2.2.2.1
  obtain ⟨sa1, svsa1, hrsa1, hzsa1⟩ := E.2.2.2.2.2.1
  refine va_ldcS hx hb hown hrsa1 dX11_word_97 ?_
  refine lv_iload_n hx hb dX11_word_99 rfl (lv_at hl 2 rfl) ?_
  obtain ⟨h2, he⟩ := g_ck_some he
  refine g_callVX [.int v2] (rest := []) E hml hl.1 hM sc_chrM (cs_charAt l D aC B yM 44 v2 h2 sa1 svsa1 mem) (g_SAcell hzsa1 hM) (fun _ h => h.calling) (g_SAat hzsa1 hM) (by decide) rfl rfl (Nat.le_of_ble_eq_true rfl) dX11_word_100 (fun H locs hM => ?_)
  refine W.eq (g2 := F0 m 103 ls [.int (g_wch v2.toNatClampNeg)]) rfl ?_
  refine lv_bipush (v := (32 : Int32)) hx hb dX11_word_103 rfl ?_
  refine lv_icmp_eq (tgt := 114) hx hb dX11_word_105 (by decide) (fun h3 => ?_) (fun h3 => ?_)
  · rw [if_pos h3] at he
    obtain ⟨x5, hx5, he⟩ := g_let_ex he
    refine lv_iinc (v := x5) (lv' := [(2, .int x5), (0, .ref (B + 0)), (1, .int v1)]) hx hb dX11_word_114 hl (k := 2) rfl (by rw [hx5]; rfl) (by decide) rfl (fun ls hl => ?_)
    obtain ⟨x6, hx6, he⟩ := g_let_ex he
    refine lv_iinc (v := x6) (lv' := [(1, .int x6), (2, .int x5), (0, .ref (B + 0))]) hx hb dX11_word_117 hl (k := 2) rfl (by rw [hx6]; rfl) (by decide) rfl (fun ls hl => ?_)
    refine lv_goto (tgt := 4) hx hb dX11_word_120 (by decide) ?_
    exact hs4 _ _ _ _ _ hM (lv_sub hl [2, 0, 1] rfl) he
  · rw [if_neg h3] at he
    obtain ⟨x4, hx4, he⟩ := g_let_ex he
    refine lv_iinc (v := x4) (lv' := [(2, .int x4), (0, .ref (B + 0)), (1, .int v1)]) hx hb dX11_word_108 hl (k := 2) rfl (by rw [hx4]; rfl) (by decide) rfl (fun ls hl => ?_)
    refine lv_goto (tgt := 97) hx hb dX11_word_111 (by decide) ?_
    exact hs97 _ _ _ _ _ hM (lv_sub hl [1, 2, 0] rfl) he

set_option maxHeartbeats 4000000 in
set_option maxRecDepth 100000 in
theorem w11_word_b97 (E : g_C p s m args c cX11_word RX11 D aC (g_Zs (g_A B 44))) (hml : c.maxLocals = 4) (hret : meth.sig.returnType = (some .int)) (hlk : meth.locks = false) {F : Nat} {q0 : Int32} {mem : g_M} {s4 : Int32 → Int32 → Option (Int32)} (hs4 : ∀ (v1 : Int32) (v2 : Int32) (H : Heap) (locs : List Loc) (ls : Array Slot), g_At D aC B yM 44 mem s.heap H locs → lv_has ls 4 [(0, .ref (B + 0)), (1, .int v1), (2, .int v2)] → s4 v1 v2 = some q0 → W p l e (g_rm 5) s m args below meth c H locs 0 0 (g_MQ below D aC B yM 44 args s (some (.int q0)) mem) (F0 m 4 ls [])) : ∀ (v1 : Int32) (v2 : Int32) (H : Heap) (locs : List Loc) (ls : Array Slot), g_At D aC B yM 44 mem s.heap H locs → lv_has ls 4 [(0, .ref (B + 0)), (1, .int v1), (2, .int v2)] → f11_word_b97 F s4 mem v1 v2 = some q0 → W p l e (g_rm 5) s m args below meth c H locs 0 0 (g_MQ below D aC B yM 44 args s (some (.int q0)) mem) (F0 m 97 ls []) := by
  have key : ∀ (nn : Nat) (x : Int32 × Int32) (H : Heap) (locs : List Loc) (ls : Array Slot), g_At D aC B yM 44 mem s.heap H locs → lv_has ls 4 [(0, .ref (B + 0)), (1, .int x.1), (2, .int x.2)] → g_fix (fun sf x => f11_word_b97_body F s4 (fun v1 v2 => sf (v1, v2)) mem x.1 x.2) nn x = some q0 → W p l e (g_rm 5) s m args below meth c H locs 0 0 (g_MQ below D aC B yM 44 args s (some (.int q0)) mem) (F0 m 97 ls []) := by
    intro nn
    induction nn with
    | zero => intro x H locs ls hM hl he; simp [g_fix] at he
    | succ nn ih =>
      intro x H locs ls hM hl he
      exact w11_word_b97_body (F := F) E hml hret hlk hs4 (fun v1 v2 H locs ls hM hl he => ih (v1, v2) H locs ls hM hl he) x.1 x.2 H locs ls hM hl he
  intro v1 v2 H locs ls hM hl he
  exact key F (v1, v2) H locs ls hM hl he

set_option maxHeartbeats 4000000 in
set_option maxRecDepth 100000 in
theorem w11_word_b69 (E : g_C p s m args c cX11_word RX11 D aC (g_Zs (g_A B 44))) (hml : c.maxLocals = 4) (hret : meth.sig.returnType = (some .int)) (hlk : meth.locks = false) {F : Nat} {q0 : Int32} {mem : g_M} {s4 : Int32 → Int32 → Option (Int32)} (hs4 : ∀ (v1 : Int32) (v2 : Int32) (H : Heap) (locs : List Loc) (ls : Array Slot), g_At D aC B yM 44 mem s.heap H locs → lv_has ls 4 [(0, .ref (B + 0)), (1, .int v1), (2, .int v2)] → s4 v1 v2 = some q0 → W p l e (g_rm 5) s m args below meth c H locs 0 0 (g_MQ below D aC B yM 44 args s (some (.int q0)) mem) (F0 m 4 ls [])) : ∀ (v1 : Int32) (v2 : Int32) (v3 : Int32) (H : Heap) (locs : List Loc) (ls : Array Slot), g_At D aC B yM 44 mem s.heap H locs → lv_has ls 4 [(0, .ref (B + 0)), (1, .int v1), (2, .int v2), (3, .int v3)] → f11_word_b69 F s4 mem v1 v2 v3 = some q0 → W p l e (g_rm 5) s m args below meth c H locs 0 0 (g_MQ below D aC B yM 44 args s (some (.int q0)) mem) (F0 m 69 ls []) := by
  intro v1 v2 v3 H locs ls hM hl he
  unfold f11_word_b69 at he
  have hx := E.1
  have hb := E.2.1
  have hown := E.2.2.1
  have hts := E.2.2.2.1
  obtain ⟨sa7, svsa7, hrsa7, hzsa7⟩ := E.2.2.2.2.2.1
  refine va_ldcS hx hb hown hrsa7 dX11_word_69 ?_
  refine lv_iload_n hx hb dX11_word_71 rfl (lv_at hl 2 rfl) ?_
  refine lv_iload_n hx hb dX11_word_72 rfl (lv_at hl 3 rfl) ?_
  refine lv_iadd hx hb dX11_word_73 ?_
  obtain ⟨h8, he⟩ := g_ck_some he
  refine g_callVX [.int (v2 + v3)] (rest := []) E hml hl.1 hM sc_chrM (cs_charAt l D aC B yM 44 (v2 + v3) h8 sa7 svsa7 mem) (g_SAcell hzsa7 hM) (fun _ h => h.calling) (g_SAat hzsa7 hM) (by decide) rfl rfl (Nat.le_of_ble_eq_true rfl) dX11_word_74 (fun H locs hM => ?_)
  refine W.eq (g2 := F0 m 77 ls [.int (g_wch (v2 + v3).toNatClampNeg)]) rfl ?_
  refine lv_bipush (v := (32 : Int32)) hx hb dX11_word_77 rfl ?_
  refine lv_icmp_ne (tgt := 97) hx hb dX11_word_79 (by decide) (fun h9 => ?_) (fun h9 => ?_)
  · rw [if_neg h9] at he
    exact w11_word_b97 (F := F) E hml hret hlk hs4 _ _ _ _ _ hM (lv_sub hl [0, 1, 2] rfl) he
  · rw [if_pos h9] at he
    refine lv_aload_n hx hb dX11_word_82 rfl (lv_at hl 0 rfl) ?_
    refine g_getI E hM (o := 0) (Nat.le_of_ble_eq_true rfl) rfl fl_X11_173 dX11_word_83 ?_
    refine lv_iload_n hx hb dX11_word_86 rfl (lv_at hl 3 rfl) ?_
    refine lv_iadd hx hb dX11_word_87 ?_
    refine lv_aload_n hx hb dX11_word_88 rfl (lv_at hl 0 rfl) ?_
    refine g_getI E hM (o := 0) (Nat.le_of_ble_eq_true rfl) rfl fl_X11_163 dX11_word_89 ?_
    refine lv_icmp_ne (tgt := 97) hx hb dX11_word_92 (by decide) (fun h10 => ?_) (fun h10 => ?_)
    · rw [if_neg h10] at he
      exact w11_word_b97 (F := F) E hml hret hlk hs4 _ _ _ _ _ hM (lv_sub hl [0, 1, 2] rfl) he
    · rw [if_pos h10] at he
      refine lv_iload_n hx hb dX11_word_95 rfl (lv_at hl 1 rfl) ?_
      cases he
      exact g_iret E hM hret hlk dX11_word_96

set_option maxHeartbeats 4000000 in
set_option maxRecDepth 100000 in
theorem w11_word_b15_body (E : g_C p s m args c cX11_word RX11 D aC (g_Zs (g_A B 44))) (hml : c.maxLocals = 4) (hret : meth.sig.returnType = (some .int)) (hlk : meth.locks = false) {F : Nat} {q0 : Int32} {mem : g_M} {s4 : Int32 → Int32 → Option (Int32)} (hs4 : ∀ (v1 : Int32) (v2 : Int32) (H : Heap) (locs : List Loc) (ls : Array Slot), g_At D aC B yM 44 mem s.heap H locs → lv_has ls 4 [(0, .ref (B + 0)), (1, .int v1), (2, .int v2)] → s4 v1 v2 = some q0 → W p l e (g_rm 5) s m args below meth c H locs 0 0 (g_MQ below D aC B yM 44 args s (some (.int q0)) mem) (F0 m 4 ls [])) {s15 : Int32 → Int32 → Int32 → Option (Int32)} (hs15 : ∀ (v1 : Int32) (v2 : Int32) (v3 : Int32) (H : Heap) (locs : List Loc) (ls : Array Slot), g_At D aC B yM 44 mem s.heap H locs → lv_has ls 4 [(0, .ref (B + 0)), (1, .int v1), (2, .int v2), (3, .int v3)] → s15 v1 v2 v3 = some q0 → W p l e (g_rm 5) s m args below meth c H locs 0 0 (g_MQ below D aC B yM 44 args s (some (.int q0)) mem) (F0 m 15 ls [])) : ∀ (v1 : Int32) (v2 : Int32) (v3 : Int32) (H : Heap) (locs : List Loc) (ls : Array Slot), g_At D aC B yM 44 mem s.heap H locs → lv_has ls 4 [(0, .ref (B + 0)), (1, .int v1), (2, .int v2), (3, .int v3)] → f11_word_b15_body F s4 s15 mem v1 v2 v3 = some q0 → W p l e (g_rm 5) s m args below meth c H locs 0 0 (g_MQ below D aC B yM 44 args s (some (.int q0)) mem) (F0 m 15 ls []) := by
  intro v1 v2 v3 H locs ls hM hl he
  unfold f11_word_b15_body at he
  have hx := E.1
  have hb := E.2.1
  have hown := E.2.2.1
  have hts := E.2.2.2.1
  obtain ⟨sa11, svsa11, hrsa11, hzsa11⟩ := E.2.2.2.2.2.1
  refine va_ldcS hx hb hown hrsa11 dX11_word_15 ?_
  refine lv_iload_n hx hb dX11_word_17 rfl (lv_at hl 2 rfl) ?_
  refine lv_iload_n hx hb dX11_word_18 rfl (lv_at hl 3 rfl) ?_
  refine lv_iadd hx hb dX11_word_19 ?_
  obtain ⟨h12, he⟩ := g_ck_some he
  refine g_callVX [.int (v2 + v3)] (rest := []) E hml hl.1 hM sc_chrM (cs_charAt l D aC B yM 44 (v2 + v3) h12 sa11 svsa11 mem) (g_SAcell hzsa11 hM) (fun _ h => h.calling) (g_SAat hzsa11 hM) (by decide) rfl rfl (Nat.le_of_ble_eq_true rfl) dX11_word_20 (fun H locs hM => ?_)
  refine W.eq (g2 := F0 m 23 ls [.int (g_wch (v2 + v3).toNatClampNeg)]) rfl ?_
  refine lv_bipush (v := (32 : Int32)) hx hb dX11_word_23 rfl ?_
  refine lv_icmp_eq (tgt := 69) hx hb dX11_word_25 (by decide) (fun h13 => ?_) (fun h13 => ?_)
  · rw [if_pos h13] at he
    exact w11_word_b69 (F := F) E hml hret hlk hs4 _ _ _ _ _ _ hM (lv_sub hl [0, 1, 2, 3] rfl) he
  · rw [if_neg h13] at he
    refine lv_aload_n hx hb dX11_word_28 rfl (lv_at hl 0 rfl) ?_
    refine g_getI E hM (o := 0) (Nat.le_of_ble_eq_true rfl) rfl fl_X11_173 dX11_word_29 ?_
    refine lv_iload_n hx hb dX11_word_32 rfl (lv_at hl 3 rfl) ?_
    refine lv_iadd hx hb dX11_word_33 ?_
    refine lv_aload_n hx hb dX11_word_34 rfl (lv_at hl 0 rfl) ?_
    refine g_getI E hM (o := 0) (Nat.le_of_ble_eq_true rfl) rfl fl_X11_163 dX11_word_35 ?_
    refine lv_icmp_ge (tgt := 69) hx hb dX11_word_38 (by decide) (fun h14 => ?_) (fun h14 => ?_)
    · rw [if_neg (Int32.not_lt.mpr h14)] at he
      exact w11_word_b69 (F := F) E hml hret hlk hs4 _ _ _ _ _ _ hM (lv_sub hl [0, 1, 2, 3] rfl) he
    · rw [if_pos (Int32.not_le.mp h14)] at he
      refine lv_aload_n hx hb dX11_word_41 rfl (lv_at hl 0 rfl) ?_
      refine g_getP E hM (o := 0) (Nat.le_of_ble_eq_true rfl) rfl fl_X11_7 (q := 1) rfl dX11_word_42 ?_
      refine lv_aload_n hx hb dX11_word_45 rfl (lv_at hl 0 rfl) ?_
      refine g_getI E hM (o := 0) (Nat.le_of_ble_eq_true rfl) rfl fl_X11_173 dX11_word_46 ?_
      refine lv_iload_n hx hb dX11_word_49 rfl (lv_at hl 3 rfl) ?_
      refine lv_iadd hx hb dX11_word_50 ?_
      obtain ⟨h15, he⟩ := g_ck_some he
      refine g_iald E hM (o := 1) (Nat.le_of_ble_eq_true rfl) rfl h15 dX11_word_51 ?_
      obtain ⟨sa16, svsa16, hrsa16, hzsa16⟩ := E.2.2.2.2.2.1
      refine va_ldcS hx hb hown hrsa16 dX11_word_52 ?_
      refine lv_iload_n hx hb dX11_word_54 rfl (lv_at hl 2 rfl) ?_
      refine lv_iload_n hx hb dX11_word_55 rfl (lv_at hl 3 rfl) ?_
      refine lv_iadd hx hb dX11_word_56 ?_
      obtain ⟨h17, he⟩ := g_ck_some he
      refine g_callVX [.int (v2 + v3)] (rest := [.int (mem.1 1 ((mem.1 0 27) + v3).toNatClampNeg)]) E hml hl.1 hM sc_chrM (cs_charAt l D aC B yM 44 (v2 + v3) h17 sa16 svsa16 mem) (g_SAcell hzsa16 hM) (fun _ h => h.calling) (g_SAat hzsa16 hM) (by decide) rfl rfl (Nat.le_of_ble_eq_true rfl) dX11_word_57 (fun H locs hM => ?_)
      refine W.eq (g2 := F0 m 60 ls [.int (g_wch (v2 + v3).toNatClampNeg), .int (mem.1 1 ((mem.1 0 27) + v3).toNatClampNeg)]) rfl ?_
      refine lv_icmp_ne (tgt := 69) hx hb dX11_word_60 (by decide) (fun h18 => ?_) (fun h18 => ?_)
      · rw [if_neg h18] at he
        exact w11_word_b69 (F := F) E hml hret hlk hs4 _ _ _ _ _ _ hM (lv_sub hl [0, 1, 2, 3] rfl) he
      · rw [if_pos h18] at he
        obtain ⟨x19, hx19, he⟩ := g_let_ex he
        refine lv_iinc (v := x19) (lv' := [(3, .int x19), (0, .ref (B + 0)), (1, .int v1), (2, .int v2)]) hx hb dX11_word_63 hl (k := 3) rfl (by rw [hx19]; rfl) (by decide) rfl (fun ls hl => ?_)
        refine lv_goto (tgt := 15) hx hb dX11_word_66 (by decide) ?_
        exact hs15 _ _ _ _ _ _ hM (lv_sub hl [1, 2, 3, 0] rfl) he

set_option maxHeartbeats 4000000 in
set_option maxRecDepth 100000 in
theorem w11_word_b15 (E : g_C p s m args c cX11_word RX11 D aC (g_Zs (g_A B 44))) (hml : c.maxLocals = 4) (hret : meth.sig.returnType = (some .int)) (hlk : meth.locks = false) {F : Nat} {q0 : Int32} {mem : g_M} {s4 : Int32 → Int32 → Option (Int32)} (hs4 : ∀ (v1 : Int32) (v2 : Int32) (H : Heap) (locs : List Loc) (ls : Array Slot), g_At D aC B yM 44 mem s.heap H locs → lv_has ls 4 [(0, .ref (B + 0)), (1, .int v1), (2, .int v2)] → s4 v1 v2 = some q0 → W p l e (g_rm 5) s m args below meth c H locs 0 0 (g_MQ below D aC B yM 44 args s (some (.int q0)) mem) (F0 m 4 ls [])) : ∀ (v1 : Int32) (v2 : Int32) (v3 : Int32) (H : Heap) (locs : List Loc) (ls : Array Slot), g_At D aC B yM 44 mem s.heap H locs → lv_has ls 4 [(0, .ref (B + 0)), (1, .int v1), (2, .int v2), (3, .int v3)] → f11_word_b15 F s4 mem v1 v2 v3 = some q0 → W p l e (g_rm 5) s m args below meth c H locs 0 0 (g_MQ below D aC B yM 44 args s (some (.int q0)) mem) (F0 m 15 ls []) := by
  have key : ∀ (nn : Nat) (x : Int32 × Int32 × Int32) (H : Heap) (locs : List Loc) (ls : Array Slot), g_At D aC B yM 44 mem s.heap H locs → lv_has ls 4 [(0, .ref (B + 0)), (1, .int x.1), (2, .int x.2.1), (3, .int x.2.2)] → g_fix (fun sf x => f11_word_b15_body F s4 (fun v1 v2 v3 => sf (v1, v2, v3)) mem x.1 x.2.1 x.2.2) nn x = some q0 → W p l e (g_rm 5) s m args below meth c H locs 0 0 (g_MQ below D aC B yM 44 args s (some (.int q0)) mem) (F0 m 15 ls []) := by
    intro nn
    induction nn with
    | zero => intro x H locs ls hM hl he; simp [g_fix] at he
    | succ nn ih =>
      intro x H locs ls hM hl he
      exact w11_word_b15_body (F := F) E hml hret hlk hs4 (fun v1 v2 v3 H locs ls hM hl he => ih (v1, v2, v3) H locs ls hM hl he) x.1 x.2.1 x.2.2 H locs ls hM hl he
  intro v1 v2 v3 H locs ls hM hl he
  exact key F (v1, v2, v3) H locs ls hM hl he

set_option maxHeartbeats 4000000 in
set_option maxRecDepth 100000 in
theorem w11_word_b4_body (E : g_C p s m args c cX11_word RX11 D aC (g_Zs (g_A B 44))) (hml : c.maxLocals = 4) (hret : meth.sig.returnType = (some .int)) (hlk : meth.locks = false) {F : Nat} {q0 : Int32} {mem : g_M} {s4 : Int32 → Int32 → Option (Int32)} (hs4 : ∀ (v1 : Int32) (v2 : Int32) (H : Heap) (locs : List Loc) (ls : Array Slot), g_At D aC B yM 44 mem s.heap H locs → lv_has ls 4 [(0, .ref (B + 0)), (1, .int v1), (2, .int v2)] → s4 v1 v2 = some q0 → W p l e (g_rm 5) s m args below meth c H locs 0 0 (g_MQ below D aC B yM 44 args s (some (.int q0)) mem) (F0 m 4 ls [])) : ∀ (v1 : Int32) (v2 : Int32) (H : Heap) (locs : List Loc) (ls : Array Slot), g_At D aC B yM 44 mem s.heap H locs → lv_has ls 4 [(0, .ref (B + 0)), (1, .int v1), (2, .int v2)] → f11_word_b4_body F s4 mem v1 v2 = some q0 → W p l e (g_rm 5) s m args below meth c H locs 0 0 (g_MQ below D aC B yM 44 args s (some (.int q0)) mem) (F0 m 4 ls []) := by
  intro v1 v2 H locs ls hM hl he
  unfold f11_word_b4_body at he
  have hx := E.1
  have hb := E.2.1
  have hown := E.2.2.1
  have hts := E.2.2.2.1
  refine lv_iload_n hx hb dX11_word_4 rfl (lv_at hl 2 rfl) ?_
  obtain ⟨sa20, svsa20, hrsa20, hzsa20⟩ := E.2.2.2.2.2.1
  refine va_ldcS hx hb hown hrsa20 dX11_word_5 ?_
  refine g_callVX [] (rest := [.int v2]) E hml hl.1 hM sc_lenM (cs_length l D aC B yM 44 sa20 svsa20 mem) (g_SAcell hzsa20 hM) (fun _ h => h.calling) (g_SAat hzsa20 hM) (by decide) rfl rfl (Nat.le_of_ble_eq_true rfl) dX11_word_7 (fun H locs hM => ?_)
  refine W.eq (g2 := F0 m 10 ls [.int (107 : Int32), .int v2]) rfl ?_
  refine lv_icmp_ge (tgt := 123) hx hb dX11_word_10 (by decide) (fun h21 => ?_) (fun h21 => ?_)
  · rw [if_neg (Int32.not_lt.mpr h21)] at he
    refine lv_iconst (v := (-1 : Int32)) hx hb dX11_word_123 rfl ?_
    cases he
    exact g_iret E hM hret hlk dX11_word_124
  · rw [if_pos (Int32.not_le.mp h21)] at he
    refine lv_iconst (v := (0 : Int32)) hx hb dX11_word_13 rfl ?_
    refine lv_istore_n (lv' := [(3, .int (0 : Int32)), (0, .ref (B + 0)), (1, .int v1), (2, .int v2)]) hx hb dX11_word_14 rfl hl (by decide) rfl (fun ls hl => ?_)
    exact w11_word_b15 (F := F) E hml hret hlk hs4 _ _ _ _ _ _ hM (lv_sub hl [1, 2, 3, 0] rfl) he

set_option maxHeartbeats 4000000 in
set_option maxRecDepth 100000 in
theorem w11_word_b4 (E : g_C p s m args c cX11_word RX11 D aC (g_Zs (g_A B 44))) (hml : c.maxLocals = 4) (hret : meth.sig.returnType = (some .int)) (hlk : meth.locks = false) {F : Nat} {q0 : Int32} {mem : g_M} : ∀ (v1 : Int32) (v2 : Int32) (H : Heap) (locs : List Loc) (ls : Array Slot), g_At D aC B yM 44 mem s.heap H locs → lv_has ls 4 [(0, .ref (B + 0)), (1, .int v1), (2, .int v2)] → f11_word_b4 F mem v1 v2 = some q0 → W p l e (g_rm 5) s m args below meth c H locs 0 0 (g_MQ below D aC B yM 44 args s (some (.int q0)) mem) (F0 m 4 ls []) := by
  have key : ∀ (nn : Nat) (x : Int32 × Int32) (H : Heap) (locs : List Loc) (ls : Array Slot), g_At D aC B yM 44 mem s.heap H locs → lv_has ls 4 [(0, .ref (B + 0)), (1, .int x.1), (2, .int x.2)] → g_fix (fun sf x => f11_word_b4_body F (fun v1 v2 => sf (v1, v2)) mem x.1 x.2) nn x = some q0 → W p l e (g_rm 5) s m args below meth c H locs 0 0 (g_MQ below D aC B yM 44 args s (some (.int q0)) mem) (F0 m 4 ls []) := by
    intro nn
    induction nn with
    | zero => intro x H locs ls hM hl he; simp [g_fix] at he
    | succ nn ih =>
      intro x H locs ls hM hl he
      exact w11_word_b4_body (F := F) E hml hret hlk (fun v1 v2 H locs ls hM hl he => ih (v1, v2) H locs ls hM hl he) x.1 x.2 H locs ls hM hl he
  intro v1 v2 H locs ls hM hl he
  exact key F (v1, v2) H locs ls hM hl he

set_option maxHeartbeats 4000000 in
set_option maxRecDepth 100000 in
theorem c11_word (l : Launch) (D : va_G) (aC : Nat → ClassId) (B : Nat) {F : Nat} {mem : g_M} {q0 : Int32} (he : f11_word F mem = some q0) : g_Met l yX11_word cX11_word 4 (some .int) 5 D aC B yM 44 mem [.ref (B + 0)] (some (.int q0)) mem := by
  refine g_ofW (by decide) (Nat.le_of_ble_eq_true rfl) ?_
  intro p e s m args below meth c ls E hml hret hlk hM hl
  have E : g_C p s m args c cX11_word RX11 D aC (g_Zs (g_A B 44)) := E
  have hx := E.1
  have hb := E.2.1
  have hown := E.2.2.1
  have hts := E.2.2.2.1
  have hl : lv_has ls 4 [(0, .ref (B + 0))] := hl
  unfold f11_word at he
  refine lv_iconst (v := (0 : Int32)) hx hb dX11_word_0 rfl ?_
  refine lv_istore_n (lv' := [(1, .int (0 : Int32)), (0, .ref (B + 0))]) hx hb dX11_word_1 rfl hl (by decide) rfl (fun ls hl => ?_)
  refine lv_iconst (v := (0 : Int32)) hx hb dX11_word_2 rfl ?_
  refine lv_istore_n (lv' := [(2, .int (0 : Int32)), (1, .int (0 : Int32)), (0, .ref (B + 0))]) hx hb dX11_word_3 rfl hl (by decide) rfl (fun ls hl => ?_)
  exact w11_word_b4 (F := F) E hml hret hlk _ _ _ _ _ hM (lv_sub hl [2, 1, 0] rfl) he

set_option maxHeartbeats 4000000 in
set_option maxRecDepth 100000 in
theorem w11_name_b53 (E : g_C p s m args c cX11_name RX11 D aC (g_Zs (g_A B 44))) (hml : c.maxLocals = 2) (hret : meth.sig.returnType = none) (hlk : meth.locks = false) {F : Nat} {q0 : g_M} {s7 : Int32 → g_M → Option (g_M)} (hs7 : ∀ (v1 : Int32) (mem : g_M) (H : Heap) (locs : List Loc) (ls : Array Slot), g_At D aC B yM 44 mem s.heap H locs → lv_has ls 2 [(0, .ref (B + 0)), (1, .int v1)] → s7 v1 mem = some q0 → W p l e (g_rm 1) s m args below meth c H locs 0 0 (g_MQ below D aC B yM 44 args s none q0) (F0 m 7 ls [])) : ∀ (v1 : Int32) (w1 : Int32) (w2 : Int32) (mem : g_M) (H : Heap) (locs : List Loc) (ls : Array Slot), g_At D aC B yM 44 mem s.heap H locs → lv_has ls 2 [(0, .ref (B + 0)), (1, .int v1)] → f11_name_b53 F s7 v1 w1 w2 mem = some q0 → W p l e (g_rm 1) s m args below meth c H locs 0 0 (g_MQ below D aC B yM 44 args s none q0) (F0 m 53 ls [.int w2, .int w1, .ref (B + 0)]) := by
  intro v1 w1 w2 mem H locs ls hM hl he
  unfold f11_name_b53 at he
  have hx := E.1
  have hb := E.2.1
  have hown := E.2.2.1
  have hts := E.2.2.2.1
  refine lv_ior hx hb dX11_name_53 ?_
  refine g_putI E hM (o := 0) (Nat.le_of_ble_eq_true rfl) rfl fp_X11_186 dX11_name_54 (fun H locs hM => ?_)
  obtain ⟨m1, hm1, he⟩ := g_let_ex he
  rw [← hm1] at hM
  obtain ⟨x2, hx2, he⟩ := g_let_ex he
  refine lv_iinc (v := x2) (lv' := [(1, .int x2), (0, .ref (B + 0))]) hx hb dX11_name_57 hl (k := 1) rfl (by rw [hx2]; rfl) (by decide) rfl (fun ls hl => ?_)
  refine lv_goto (tgt := 7) hx hb dX11_name_60 (by decide) ?_
  exact hs7 _ _ _ _ _ hM (lv_sub hl [1, 0] rfl) he

set_option maxHeartbeats 4000000 in
set_option maxRecDepth 100000 in
theorem w11_name_b7_body (E : g_C p s m args c cX11_name RX11 D aC (g_Zs (g_A B 44))) (hml : c.maxLocals = 2) (hret : meth.sig.returnType = none) (hlk : meth.locks = false) {F : Nat} {q0 : g_M} {s7 : Int32 → g_M → Option (g_M)} (hs7 : ∀ (v1 : Int32) (mem : g_M) (H : Heap) (locs : List Loc) (ls : Array Slot), g_At D aC B yM 44 mem s.heap H locs → lv_has ls 2 [(0, .ref (B + 0)), (1, .int v1)] → s7 v1 mem = some q0 → W p l e (g_rm 1) s m args below meth c H locs 0 0 (g_MQ below D aC B yM 44 args s none q0) (F0 m 7 ls [])) : ∀ (v1 : Int32) (mem : g_M) (H : Heap) (locs : List Loc) (ls : Array Slot), g_At D aC B yM 44 mem s.heap H locs → lv_has ls 2 [(0, .ref (B + 0)), (1, .int v1)] → f11_name_b7_body F s7 v1 mem = some q0 → W p l e (g_rm 1) s m args below meth c H locs 0 0 (g_MQ below D aC B yM 44 args s none q0) (F0 m 7 ls []) := by
  intro v1 mem H locs ls hM hl he
  unfold f11_name_b7_body at he
  have hx := E.1
  have hb := E.2.1
  have hown := E.2.2.1
  have hts := E.2.2.2.1
  refine lv_iload_n hx hb dX11_name_7 rfl (lv_at hl 1 rfl) ?_
  refine lv_bipush (v := (6 : Int32)) hx hb dX11_name_8 rfl ?_
  refine lv_icmp_ge (tgt := 63) hx hb dX11_name_10 (by decide) (fun h3 => ?_) (fun h3 => ?_)
  · rw [if_neg (Int32.not_lt.mpr h3)] at he
    cases he
    exact g_vret E hM hret hlk dX11_name_63
  · rw [if_pos (Int32.not_le.mp h3)] at he
    refine lv_aload_n hx hb dX11_name_13 rfl (lv_at hl 0 rfl) ?_
    refine lv_aload_n hx hb dX11_name_14 rfl (lv_at hl 0 rfl) ?_
    refine g_getI E hM (o := 0) (Nat.le_of_ble_eq_true rfl) rfl fl_X11_186 dX11_name_15 ?_
    refine lv_iconst (v := (5 : Int32)) hx hb dX11_name_18 rfl ?_
    refine lv_ishl hx hb dX11_name_19 ?_
    refine lv_aload_n hx hb dX11_name_20 rfl (lv_at hl 0 rfl) ?_
    refine g_getI E hM (o := 0) (Nat.le_of_ble_eq_true rfl) rfl fl_X11_173 dX11_name_21 ?_
    refine lv_iload_n hx hb dX11_name_24 rfl (lv_at hl 1 rfl) ?_
    refine lv_iadd hx hb dX11_name_25 ?_
    refine lv_aload_n hx hb dX11_name_26 rfl (lv_at hl 0 rfl) ?_
    refine g_getI E hM (o := 0) (Nat.le_of_ble_eq_true rfl) rfl fl_X11_163 dX11_name_27 ?_
    refine lv_icmp_ge (tgt := 52) hx hb dX11_name_30 (by decide) (fun h4 => ?_) (fun h4 => ?_)
    · rw [if_neg (Int32.not_lt.mpr h4)] at he
      refine lv_iconst (v := (0 : Int32)) hx hb dX11_name_52 rfl ?_
      exact w11_name_b53 (F := F) E hml hret hlk hs7 _ _ _ _ _ _ _ hM (lv_sub hl [0, 1] rfl) he
    · rw [if_pos (Int32.not_le.mp h4)] at he
      refine lv_aload_n hx hb dX11_name_33 rfl (lv_at hl 0 rfl) ?_
      refine g_getP E hM (o := 0) (Nat.le_of_ble_eq_true rfl) rfl fl_X11_7 (q := 1) rfl dX11_name_34 ?_
      refine lv_aload_n hx hb dX11_name_37 rfl (lv_at hl 0 rfl) ?_
      refine g_getI E hM (o := 0) (Nat.le_of_ble_eq_true rfl) rfl fl_X11_173 dX11_name_38 ?_
      refine lv_iload_n hx hb dX11_name_41 rfl (lv_at hl 1 rfl) ?_
      refine lv_iadd hx hb dX11_name_42 ?_
      obtain ⟨h5, he⟩ := g_ck_some he
      refine g_iald E hM (o := 1) (Nat.le_of_ble_eq_true rfl) rfl h5 dX11_name_43 ?_
      refine lv_bipush (v := (97 : Int32)) hx hb dX11_name_44 rfl ?_
      refine lv_isub hx hb dX11_name_46 ?_
      refine lv_iconst (v := (1 : Int32)) hx hb dX11_name_47 rfl ?_
      refine lv_iadd hx hb dX11_name_48 ?_
      refine lv_goto (tgt := 53) hx hb dX11_name_49 (by decide) ?_
      exact w11_name_b53 (F := F) E hml hret hlk hs7 _ _ _ _ _ _ _ hM (lv_sub hl [0, 1] rfl) he

set_option maxHeartbeats 4000000 in
set_option maxRecDepth 100000 in
theorem w11_name_b7 (E : g_C p s m args c cX11_name RX11 D aC (g_Zs (g_A B 44))) (hml : c.maxLocals = 2) (hret : meth.sig.returnType = none) (hlk : meth.locks = false) {F : Nat} {q0 : g_M} : ∀ (v1 : Int32) (mem : g_M) (H : Heap) (locs : List Loc) (ls : Array Slot), g_At D aC B yM 44 mem s.heap H locs → lv_has ls 2 [(0, .ref (B + 0)), (1, .int v1)] → f11_name_b7 F v1 mem = some q0 → W p l e (g_rm 1) s m args below meth c H locs 0 0 (g_MQ below D aC B yM 44 args s none q0) (F0 m 7 ls []) := by
  have key : ∀ (nn : Nat) (x : Int32 × g_M) (H : Heap) (locs : List Loc) (ls : Array Slot), g_At D aC B yM 44 x.2 s.heap H locs → lv_has ls 2 [(0, .ref (B + 0)), (1, .int x.1)] → g_fix (fun sf x => f11_name_b7_body F (fun v1 mem => sf (v1, mem)) x.1 x.2) nn x = some q0 → W p l e (g_rm 1) s m args below meth c H locs 0 0 (g_MQ below D aC B yM 44 args s none q0) (F0 m 7 ls []) := by
    intro nn
    induction nn with
    | zero => intro x H locs ls hM hl he; simp [g_fix] at he
    | succ nn ih =>
      intro x H locs ls hM hl he
      exact w11_name_b7_body (F := F) E hml hret hlk (fun v1 mem H locs ls hM hl he => ih (v1, mem) H locs ls hM hl he) x.1 x.2 H locs ls hM hl he
  intro v1 mem H locs ls hM hl he
  exact key F (v1, mem) H locs ls hM hl he

set_option maxHeartbeats 4000000 in
set_option maxRecDepth 100000 in
theorem c11_name (l : Launch) (D : va_G) (aC : Nat → ClassId) (B : Nat) {F : Nat} {mem : g_M} {q0 : g_M} (he : f11_name F mem = some q0) : g_Met l yX11_name cX11_name 2 none 1 D aC B yM 44 mem [.ref (B + 0)] none q0 := by
  refine g_ofW (by decide) (Nat.le_of_ble_eq_true rfl) ?_
  intro p e s m args below meth c ls E hml hret hlk hM hl
  have E : g_C p s m args c cX11_name RX11 D aC (g_Zs (g_A B 44)) := E
  have hx := E.1
  have hb := E.2.1
  have hown := E.2.2.1
  have hts := E.2.2.2.1
  have hl : lv_has ls 2 [(0, .ref (B + 0))] := hl
  unfold f11_name at he
  refine lv_aload_n hx hb dX11_name_0 rfl (lv_at hl 0 rfl) ?_
  refine lv_iconst (v := (0 : Int32)) hx hb dX11_name_1 rfl ?_
  refine g_putI E hM (o := 0) (Nat.le_of_ble_eq_true rfl) rfl fp_X11_186 dX11_name_2 (fun H locs hM => ?_)
  obtain ⟨m6, hm6, he⟩ := g_let_ex he
  rw [← hm6] at hM
  refine lv_iconst (v := (0 : Int32)) hx hb dX11_name_5 rfl ?_
  refine lv_istore_n (lv' := [(1, .int (0 : Int32)), (0, .ref (B + 0))]) hx hb dX11_name_6 rfl hl (by decide) rfl (fun ls hl => ?_)
  exact w11_name_b7 (F := F) E hml hret hlk _ _ _ _ _ hM (lv_sub hl [1, 0] rfl) he

set_option maxHeartbeats 4000000 in
set_option maxRecDepth 100000 in
theorem w11_sign_b150 (E : g_C p s m args c cX11_sign RX11 D aC (g_Zs (g_A B 44))) (hml : c.maxLocals = 2) (hret : meth.sig.returnType = none) (hlk : meth.locks = false) {F : Nat} {q0 : g_M} {a1 : Int32} : ∀ (mem : g_M) (H : Heap) (locs : List Loc) (ls : Array Slot), g_At D aC B yM 44 mem s.heap H locs → lv_has ls 2 [(0, .ref (B + 0))] → f11_sign_b150 F a1 mem = some q0 → W p l e (g_rm 2) s m args below meth c H locs 0 0 (g_MQ below D aC B yM 44 args s none q0) (F0 m 150 ls []) := by
  intro mem H locs ls hM hl he
  unfold f11_sign_b150 at he
  have hx := E.1
  have hb := E.2.1
  have hown := E.2.2.1
  have hts := E.2.2.2.1
  refine lv_aload_n hx hb dX11_sign_150 rfl (lv_at hl 0 rfl) ?_
  refine g_getI E hM (o := 0) (Nat.le_of_ble_eq_true rfl) rfl fl_X11_186 dX11_sign_151 ?_
  refine lv_sipush (v := (256 : Int32)) hx hb dX11_sign_154 rfl ?_
  refine lv_icmp_lt (tgt := 170) hx hb dX11_sign_157 (by decide) (fun h1 => ?_) (fun h1 => ?_)
  · rw [if_neg (Int32.not_le.mpr h1)] at he
    cases he
    exact g_vret E hM hret hlk dX11_sign_170
  · rw [if_pos (Int32.not_lt.mp h1)] at he
    refine lv_aload_n hx hb dX11_sign_160 rfl (lv_at hl 0 rfl) ?_
    refine lv_dup hx hb dX11_sign_161 rfl ?_
    refine g_getI E hM (o := 0) (Nat.le_of_ble_eq_true rfl) rfl fl_X11_163 dX11_sign_162 ?_
    refine lv_iconst (v := (1 : Int32)) hx hb dX11_sign_165 rfl ?_
    refine lv_iadd hx hb dX11_sign_166 ?_
    refine g_putI E hM (o := 0) (Nat.le_of_ble_eq_true rfl) rfl fp_X11_163 dX11_sign_167 (fun H locs hM => ?_)
    obtain ⟨m2, hm2, he⟩ := g_let_ex he
    rw [← hm2] at hM
    cases he
    exact g_vret E hM hret hlk dX11_sign_170

set_option maxHeartbeats 4000000 in
set_option maxRecDepth 100000 in
theorem w11_sign_b128 (E : g_C p s m args c cX11_sign RX11 D aC (g_Zs (g_A B 44))) (hml : c.maxLocals = 2) (hret : meth.sig.returnType = none) (hlk : meth.locks = false) {F : Nat} {q0 : g_M} {a1 : Int32} : ∀ (mem : g_M) (H : Heap) (locs : List Loc) (ls : Array Slot), g_At D aC B yM 44 mem s.heap H locs → lv_has ls 2 [(0, .ref (B + 0)), (1, .int a1)] → f11_sign_b128 F a1 mem = some q0 → W p l e (g_rm 2) s m args below meth c H locs 0 0 (g_MQ below D aC B yM 44 args s none q0) (F0 m 128 ls []) := by
  intro mem H locs ls hM hl he
  unfold f11_sign_b128 at he
  have hx := E.1
  have hb := E.2.1
  have hown := E.2.2.1
  have hts := E.2.2.2.1
  refine lv_iload_n hx hb dX11_sign_128 rfl (lv_at hl 1 rfl) ?_
  refine lv_bipush (v := (62 : Int32)) hx hb dX11_sign_129 rfl ?_
  refine lv_icmp_ne (tgt := 150) hx hb dX11_sign_131 (by decide) (fun h3 => ?_) (fun h3 => ?_)
  · rw [if_neg h3] at he
    exact w11_sign_b150 (F := F) (a1 := a1) E hml hret hlk _ _ _ _ hM (lv_sub hl [0] rfl) he
  · rw [if_pos h3] at he
    refine lv_aload_n hx hb dX11_sign_134 rfl (lv_at hl 0 rfl) ?_
    obtain ⟨r4, hcr4, he⟩ := g_bind he
    refine g_callV [] (rest := []) E hml hl.1 hM cv_X11_169 (c11_here l D aC B hcr4) (o := 0) (Nat.le_of_ble_eq_true rfl) rfl (by decide) rfl rfl (Nat.le_of_ble_eq_true rfl) dX11_sign_135 (fun H locs hM => ?_)
    refine W.eq (g2 := F0 m 138 ls [.int r4]) rfl ?_
    refine lv_bipush (v := (61 : Int32)) hx hb dX11_sign_138 rfl ?_
    refine lv_icmp_ne (tgt := 150) hx hb dX11_sign_140 (by decide) (fun h5 => ?_) (fun h5 => ?_)
    · rw [if_neg h5] at he
      exact w11_sign_b150 (F := F) (a1 := a1) E hml hret hlk _ _ _ _ hM (lv_sub hl [0] rfl) he
    · rw [if_pos h5] at he
      refine lv_aload_n hx hb dX11_sign_143 rfl (lv_at hl 0 rfl) ?_
      refine lv_sipush (v := (258 : Int32)) hx hb dX11_sign_144 rfl ?_
      refine g_putI E hM (o := 0) (Nat.le_of_ble_eq_true rfl) rfl fp_X11_186 dX11_sign_147 (fun H locs hM => ?_)
      obtain ⟨m6, hm6, he⟩ := g_let_ex he
      rw [← hm6] at hM
      exact w11_sign_b150 (F := F) (a1 := a1) E hml hret hlk _ _ _ _ hM (lv_sub hl [0] rfl) he

set_option maxHeartbeats 4000000 in
set_option maxRecDepth 100000 in
theorem w11_sign_b106 (E : g_C p s m args c cX11_sign RX11 D aC (g_Zs (g_A B 44))) (hml : c.maxLocals = 2) (hret : meth.sig.returnType = none) (hlk : meth.locks = false) {F : Nat} {q0 : g_M} {a1 : Int32} : ∀ (mem : g_M) (H : Heap) (locs : List Loc) (ls : Array Slot), g_At D aC B yM 44 mem s.heap H locs → lv_has ls 2 [(0, .ref (B + 0)), (1, .int a1)] → f11_sign_b106 F a1 mem = some q0 → W p l e (g_rm 2) s m args below meth c H locs 0 0 (g_MQ below D aC B yM 44 args s none q0) (F0 m 106 ls []) := by
  intro mem H locs ls hM hl he
  unfold f11_sign_b106 at he
  have hx := E.1
  have hb := E.2.1
  have hown := E.2.2.1
  have hts := E.2.2.2.1
  refine lv_iload_n hx hb dX11_sign_106 rfl (lv_at hl 1 rfl) ?_
  refine lv_bipush (v := (60 : Int32)) hx hb dX11_sign_107 rfl ?_
  refine lv_icmp_ne (tgt := 128) hx hb dX11_sign_109 (by decide) (fun h7 => ?_) (fun h7 => ?_)
  · rw [if_neg h7] at he
    exact w11_sign_b128 (F := F) (a1 := a1) E hml hret hlk _ _ _ _ hM (lv_sub hl [0, 1] rfl) he
  · rw [if_pos h7] at he
    refine lv_aload_n hx hb dX11_sign_112 rfl (lv_at hl 0 rfl) ?_
    obtain ⟨r8, hcr8, he⟩ := g_bind he
    refine g_callV [] (rest := []) E hml hl.1 hM cv_X11_169 (c11_here l D aC B hcr8) (o := 0) (Nat.le_of_ble_eq_true rfl) rfl (by decide) rfl rfl (Nat.le_of_ble_eq_true rfl) dX11_sign_113 (fun H locs hM => ?_)
    refine W.eq (g2 := F0 m 116 ls [.int r8]) rfl ?_
    refine lv_bipush (v := (62 : Int32)) hx hb dX11_sign_116 rfl ?_
    refine lv_icmp_ne (tgt := 128) hx hb dX11_sign_118 (by decide) (fun h9 => ?_) (fun h9 => ?_)
    · rw [if_neg h9] at he
      exact w11_sign_b128 (F := F) (a1 := a1) E hml hret hlk _ _ _ _ hM (lv_sub hl [0, 1] rfl) he
    · rw [if_pos h9] at he
      refine lv_aload_n hx hb dX11_sign_121 rfl (lv_at hl 0 rfl) ?_
      refine lv_sipush (v := (257 : Int32)) hx hb dX11_sign_122 rfl ?_
      refine g_putI E hM (o := 0) (Nat.le_of_ble_eq_true rfl) rfl fp_X11_186 dX11_sign_125 (fun H locs hM => ?_)
      obtain ⟨m10, hm10, he⟩ := g_let_ex he
      rw [← hm10] at hM
      exact w11_sign_b128 (F := F) (a1 := a1) E hml hret hlk _ _ _ _ hM (lv_sub hl [0, 1] rfl) he

set_option maxHeartbeats 4000000 in
set_option maxRecDepth 100000 in
theorem w11_sign_b76 (E : g_C p s m args c cX11_sign RX11 D aC (g_Zs (g_A B 44))) (hml : c.maxLocals = 2) (hret : meth.sig.returnType = none) (hlk : meth.locks = false) {F : Nat} {q0 : g_M} {a1 : Int32} : ∀ (w1 : Int32) (mem : g_M) (H : Heap) (locs : List Loc) (ls : Array Slot), g_At D aC B yM 44 mem s.heap H locs → lv_has ls 2 [(0, .ref (B + 0)), (1, .int a1)] → f11_sign_b76 F a1 w1 mem = some q0 → W p l e (g_rm 2) s m args below meth c H locs 0 0 (g_MQ below D aC B yM 44 args s none q0) (F0 m 76 ls [.int w1, .ref (B + 0)]) := by
  intro w1 mem H locs ls hM hl he
  unfold f11_sign_b76 at he
  have hx := E.1
  have hb := E.2.1
  have hown := E.2.2.1
  have hts := E.2.2.2.1
  refine g_putI E hM (o := 0) (Nat.le_of_ble_eq_true rfl) rfl fp_X11_176 dX11_sign_76 (fun H locs hM => ?_)
  obtain ⟨m11, hm11, he⟩ := g_let_ex he
  rw [← hm11] at hM
  refine lv_aload_n hx hb dX11_sign_79 rfl (lv_at hl 0 rfl) ?_
  refine lv_iload_n hx hb dX11_sign_80 rfl (lv_at hl 1 rfl) ?_
  refine g_putI E hM (o := 0) (Nat.le_of_ble_eq_true rfl) rfl fp_X11_186 dX11_sign_81 (fun H locs hM => ?_)
  obtain ⟨m12, hm12, he⟩ := g_let_ex he
  rw [← hm12] at hM
  refine lv_iload_n hx hb dX11_sign_84 rfl (lv_at hl 1 rfl) ?_
  refine lv_bipush (v := (60 : Int32)) hx hb dX11_sign_85 rfl ?_
  refine lv_icmp_ne (tgt := 106) hx hb dX11_sign_87 (by decide) (fun h13 => ?_) (fun h13 => ?_)
  · rw [if_neg h13] at he
    exact w11_sign_b106 (F := F) (a1 := a1) E hml hret hlk _ _ _ _ hM (lv_sub hl [0, 1] rfl) he
  · rw [if_pos h13] at he
    refine lv_aload_n hx hb dX11_sign_90 rfl (lv_at hl 0 rfl) ?_
    obtain ⟨r14, hcr14, he⟩ := g_bind he
    refine g_callV [] (rest := []) E hml hl.1 hM cv_X11_169 (c11_here l D aC B hcr14) (o := 0) (Nat.le_of_ble_eq_true rfl) rfl (by decide) rfl rfl (Nat.le_of_ble_eq_true rfl) dX11_sign_91 (fun H locs hM => ?_)
    refine W.eq (g2 := F0 m 94 ls [.int r14]) rfl ?_
    refine lv_bipush (v := (61 : Int32)) hx hb dX11_sign_94 rfl ?_
    refine lv_icmp_ne (tgt := 106) hx hb dX11_sign_96 (by decide) (fun h15 => ?_) (fun h15 => ?_)
    · rw [if_neg h15] at he
      exact w11_sign_b106 (F := F) (a1 := a1) E hml hret hlk _ _ _ _ hM (lv_sub hl [0, 1] rfl) he
    · rw [if_pos h15] at he
      refine lv_aload_n hx hb dX11_sign_99 rfl (lv_at hl 0 rfl) ?_
      refine lv_sipush (v := (256 : Int32)) hx hb dX11_sign_100 rfl ?_
      refine g_putI E hM (o := 0) (Nat.le_of_ble_eq_true rfl) rfl fp_X11_186 dX11_sign_103 (fun H locs hM => ?_)
      obtain ⟨m16, hm16, he⟩ := g_let_ex he
      rw [← hm16] at hM
      exact w11_sign_b106 (F := F) (a1 := a1) E hml hret hlk _ _ _ _ hM (lv_sub hl [0, 1] rfl) he

set_option maxHeartbeats 4000000 in
set_option maxRecDepth 100000 in
theorem w11_sign_b71 (E : g_C p s m args c cX11_sign RX11 D aC (g_Zs (g_A B 44))) (hml : c.maxLocals = 2) (hret : meth.sig.returnType = none) (hlk : meth.locks = false) {F : Nat} {q0 : g_M} {a1 : Int32} : ∀ (mem : g_M) (H : Heap) (locs : List Loc) (ls : Array Slot), g_At D aC B yM 44 mem s.heap H locs → lv_has ls 2 [(0, .ref (B + 0)), (1, .int a1)] → f11_sign_b71 F a1 mem = some q0 → W p l e (g_rm 2) s m args below meth c H locs 0 0 (g_MQ below D aC B yM 44 args s none q0) (F0 m 71 ls [.ref (B + 0)]) := by
  intro mem H locs ls hM hl he
  unfold f11_sign_b71 at he
  have hx := E.1
  have hb := E.2.1
  have hown := E.2.2.1
  have hts := E.2.2.2.1
  refine lv_iconst (v := (3 : Int32)) hx hb dX11_sign_71 rfl ?_
  refine lv_goto (tgt := 76) hx hb dX11_sign_72 (by decide) ?_
  exact w11_sign_b76 (F := F) (a1 := a1) E hml hret hlk _ _ _ _ _ hM (lv_sub hl [0, 1] rfl) he

set_option maxHeartbeats 4000000 in
set_option maxRecDepth 100000 in
theorem c11_sign (l : Launch) (D : va_G) (aC : Nat → ClassId) (B : Nat) {F : Nat} {a1 : Int32} {mem : g_M} {q0 : g_M} (he : f11_sign F a1 mem = some q0) : g_Met l yX11_sign cX11_sign 2 none 2 D aC B yM 44 mem [.ref (B + 0), .int a1] none q0 := by
  refine g_ofW (by decide) (Nat.le_of_ble_eq_true rfl) ?_
  intro p e s m args below meth c ls E hml hret hlk hM hl
  have E : g_C p s m args c cX11_sign RX11 D aC (g_Zs (g_A B 44)) := E
  have hx := E.1
  have hb := E.2.1
  have hown := E.2.2.1
  have hts := E.2.2.2.1
  have hl : lv_has ls 2 [(0, .ref (B + 0)), (1, .int a1)] := hl
  unfold f11_sign at he
  refine lv_aload_n hx hb dX11_sign_0 rfl (lv_at hl 0 rfl) ?_
  refine lv_dup hx hb dX11_sign_1 rfl ?_
  refine g_getI E hM (o := 0) (Nat.le_of_ble_eq_true rfl) rfl fl_X11_163 dX11_sign_2 ?_
  refine lv_iconst (v := (1 : Int32)) hx hb dX11_sign_5 rfl ?_
  refine lv_iadd hx hb dX11_sign_6 ?_
  refine g_putI E hM (o := 0) (Nat.le_of_ble_eq_true rfl) rfl fp_X11_163 dX11_sign_7 (fun H locs hM => ?_)
  obtain ⟨m17, hm17, he⟩ := g_let_ex he
  rw [← hm17] at hM
  refine lv_aload_n hx hb dX11_sign_10 rfl (lv_at hl 0 rfl) ?_
  refine lv_iload_n hx hb dX11_sign_11 rfl (lv_at hl 1 rfl) ?_
  refine lv_bipush (v := (59 : Int32)) hx hb dX11_sign_12 rfl ?_
  refine lv_icmp_eq (tgt := 71) hx hb dX11_sign_14 (by decide) (fun h18 => ?_) (fun h18 => ?_)
  · rw [if_pos h18] at he
    exact w11_sign_b71 (F := F) (a1 := a1) E hml hret hlk _ _ _ _ hM (lv_sub hl [0, 1] rfl) he
  · rw [if_neg h18] at he
    refine lv_iload_n hx hb dX11_sign_17 rfl (lv_at hl 1 rfl) ?_
    refine lv_bipush (v := (40 : Int32)) hx hb dX11_sign_18 rfl ?_
    refine lv_icmp_eq (tgt := 71) hx hb dX11_sign_20 (by decide) (fun h19 => ?_) (fun h19 => ?_)
    · rw [if_pos h19] at he
      exact w11_sign_b71 (F := F) (a1 := a1) E hml hret hlk _ _ _ _ hM (lv_sub hl [0, 1] rfl) he
    · rw [if_neg h19] at he
      refine lv_iload_n hx hb dX11_sign_23 rfl (lv_at hl 1 rfl) ?_
      refine lv_bipush (v := (41 : Int32)) hx hb dX11_sign_24 rfl ?_
      refine lv_icmp_eq (tgt := 71) hx hb dX11_sign_26 (by decide) (fun h20 => ?_) (fun h20 => ?_)
      · rw [if_pos h20] at he
        exact w11_sign_b71 (F := F) (a1 := a1) E hml hret hlk _ _ _ _ hM (lv_sub hl [0, 1] rfl) he
      · rw [if_neg h20] at he
        refine lv_iload_n hx hb dX11_sign_29 rfl (lv_at hl 1 rfl) ?_
        refine lv_bipush (v := (43 : Int32)) hx hb dX11_sign_30 rfl ?_
        refine lv_icmp_eq (tgt := 71) hx hb dX11_sign_32 (by decide) (fun h21 => ?_) (fun h21 => ?_)
        · rw [if_pos h21] at he
          exact w11_sign_b71 (F := F) (a1 := a1) E hml hret hlk _ _ _ _ hM (lv_sub hl [0, 1] rfl) he
        · rw [if_neg h21] at he
          refine lv_iload_n hx hb dX11_sign_35 rfl (lv_at hl 1 rfl) ?_
          refine lv_bipush (v := (45 : Int32)) hx hb dX11_sign_36 rfl ?_
          refine lv_icmp_eq (tgt := 71) hx hb dX11_sign_38 (by decide) (fun h22 => ?_) (fun h22 => ?_)
          · rw [if_pos h22] at he
            exact w11_sign_b71 (F := F) (a1 := a1) E hml hret hlk _ _ _ _ hM (lv_sub hl [0, 1] rfl) he
          · rw [if_neg h22] at he
            refine lv_iload_n hx hb dX11_sign_41 rfl (lv_at hl 1 rfl) ?_
            refine lv_bipush (v := (42 : Int32)) hx hb dX11_sign_42 rfl ?_
            refine lv_icmp_eq (tgt := 71) hx hb dX11_sign_44 (by decide) (fun h23 => ?_) (fun h23 => ?_)
            · rw [if_pos h23] at he
              exact w11_sign_b71 (F := F) (a1 := a1) E hml hret hlk _ _ _ _ hM (lv_sub hl [0, 1] rfl) he
            · rw [if_neg h23] at he
              refine lv_iload_n hx hb dX11_sign_47 rfl (lv_at hl 1 rfl) ?_
              refine lv_bipush (v := (47 : Int32)) hx hb dX11_sign_48 rfl ?_
              refine lv_icmp_eq (tgt := 71) hx hb dX11_sign_50 (by decide) (fun h24 => ?_) (fun h24 => ?_)
              · rw [if_pos h24] at he
                exact w11_sign_b71 (F := F) (a1 := a1) E hml hret hlk _ _ _ _ hM (lv_sub hl [0, 1] rfl) he
              · rw [if_neg h24] at he
                refine lv_iload_n hx hb dX11_sign_53 rfl (lv_at hl 1 rfl) ?_
                refine lv_bipush (v := (60 : Int32)) hx hb dX11_sign_54 rfl ?_
                refine lv_icmp_eq (tgt := 71) hx hb dX11_sign_56 (by decide) (fun h25 => ?_) (fun h25 => ?_)
                · rw [if_pos h25] at he
                  exact w11_sign_b71 (F := F) (a1 := a1) E hml hret hlk _ _ _ _ hM (lv_sub hl [0, 1] rfl) he
                · rw [if_neg h25] at he
                  refine lv_iload_n hx hb dX11_sign_59 rfl (lv_at hl 1 rfl) ?_
                  refine lv_bipush (v := (61 : Int32)) hx hb dX11_sign_60 rfl ?_
                  refine lv_icmp_eq (tgt := 71) hx hb dX11_sign_62 (by decide) (fun h26 => ?_) (fun h26 => ?_)
                  · rw [if_pos h26] at he
                    exact w11_sign_b71 (F := F) (a1 := a1) E hml hret hlk _ _ _ _ hM (lv_sub hl [0, 1] rfl) he
                  · rw [if_neg h26] at he
                    refine lv_iload_n hx hb dX11_sign_65 rfl (lv_at hl 1 rfl) ?_
                    refine lv_bipush (v := (62 : Int32)) hx hb dX11_sign_66 rfl ?_
                    refine lv_icmp_ne (tgt := 75) hx hb dX11_sign_68 (by decide) (fun h27 => ?_) (fun h27 => ?_)
                    · rw [if_neg h27] at he
                      refine lv_iconst (v := (5 : Int32)) hx hb dX11_sign_75 rfl ?_
                      exact w11_sign_b76 (F := F) (a1 := a1) E hml hret hlk _ _ _ _ _ hM (lv_sub hl [0, 1] rfl) he
                    · rw [if_pos h27] at he
                      exact w11_sign_b71 (F := F) (a1 := a1) E hml hret hlk _ _ _ _ hM (lv_sub hl [0, 1] rfl) he

set_option maxHeartbeats 4000000 in
set_option maxRecDepth 100000 in
theorem w11_token_b18 (E : g_C p s m args c cX11_token RX11 D aC (g_Zs (g_A B 44))) (hml : c.maxLocals = 2) (hret : meth.sig.returnType = none) (hlk : meth.locks = false) {F : Nat} {q0 : g_M} {s0 : g_M → Option (g_M)} (hs0 : ∀ (mem : g_M) (H : Heap) (locs : List Loc) (ls : Array Slot), g_At D aC B yM 44 mem s.heap H locs → lv_has ls 2 [(0, .ref (B + 0))] → s0 mem = some q0 → W p l e (g_rm 6) s m args below meth c H locs 0 0 (g_MQ below D aC B yM 44 args s none q0) (F0 m 0 ls [])) : ∀ (mem : g_M) (H : Heap) (locs : List Loc) (ls : Array Slot), g_At D aC B yM 44 mem s.heap H locs → lv_has ls 2 [(0, .ref (B + 0))] → f11_token_b18 F s0 mem = some q0 → W p l e (g_rm 6) s m args below meth c H locs 0 0 (g_MQ below D aC B yM 44 args s none q0) (F0 m 18 ls []) := by
  intro mem H locs ls hM hl he
  unfold f11_token_b18 at he
  have hx := E.1
  have hb := E.2.1
  have hown := E.2.2.1
  have hts := E.2.2.2.1
  refine lv_aload_n hx hb dX11_token_18 rfl (lv_at hl 0 rfl) ?_
  refine lv_dup hx hb dX11_token_19 rfl ?_
  refine g_getI E hM (o := 0) (Nat.le_of_ble_eq_true rfl) rfl fl_X11_163 dX11_token_20 ?_
  refine lv_iconst (v := (1 : Int32)) hx hb dX11_token_23 rfl ?_
  refine lv_iadd hx hb dX11_token_24 ?_
  refine g_putI E hM (o := 0) (Nat.le_of_ble_eq_true rfl) rfl fp_X11_163 dX11_token_25 (fun H locs hM => ?_)
  obtain ⟨m1, hm1, he⟩ := g_let_ex he
  rw [← hm1] at hM
  refine lv_goto (tgt := 0) hx hb dX11_token_28 (by decide) ?_
  exact hs0 _ _ _ _ hM (lv_sub hl [0] rfl) he

set_option maxHeartbeats 4000000 in
set_option maxRecDepth 100000 in
theorem w11_token_b127 (E : g_C p s m args c cX11_token RX11 D aC (g_Zs (g_A B 44))) (hml : c.maxLocals = 2) (hret : meth.sig.returnType = none) (hlk : meth.locks = false) {F : Nat} {q0 : g_M} : ∀ (w1 : Int32) (mem : g_M) (H : Heap) (locs : List Loc) (ls : Array Slot), g_At D aC B yM 44 mem s.heap H locs → lv_has ls 2 [(0, .ref (B + 0))] → f11_token_b127 F w1 mem = some q0 → W p l e (g_rm 6) s m args below meth c H locs 0 0 (g_MQ below D aC B yM 44 args s none q0) (F0 m 127 ls [.int w1, .ref (B + 0)]) := by
  intro w1 mem H locs ls hM hl he
  unfold f11_token_b127 at he
  have hx := E.1
  have hb := E.2.1
  have hown := E.2.2.1
  have hts := E.2.2.2.1
  refine g_putI E hM (o := 0) (Nat.le_of_ble_eq_true rfl) rfl fp_X11_176 dX11_token_127 (fun H locs hM => ?_)
  obtain ⟨m2, hm2, he⟩ := g_let_ex he
  rw [← hm2] at hM
  refine lv_aload_n hx hb dX11_token_130 rfl (lv_at hl 0 rfl) ?_
  refine g_getI E hM (o := 0) (Nat.le_of_ble_eq_true rfl) rfl fl_X11_176 dX11_token_131 ?_
  refine lv_iconst (v := (1 : Int32)) hx hb dX11_token_134 rfl ?_
  refine lv_icmp_ne (tgt := 225) hx hb dX11_token_135 (by decide) (fun h3 => ?_) (fun h3 => ?_)
  · rw [if_neg h3] at he
    cases he
    exact g_vret E hM hret hlk dX11_token_225
  · rw [if_pos h3] at he
    refine lv_aload_n hx hb dX11_token_138 rfl (lv_at hl 0 rfl) ?_
    obtain ⟨r4, hcr4, he⟩ := g_bind he
    refine g_callV [] (rest := []) E hml hl.1 hM cv_X11_189 (c11_name l D aC B hcr4) (o := 0) (Nat.le_of_ble_eq_true rfl) rfl (by decide) rfl rfl (Nat.le_of_ble_eq_true rfl) dX11_token_139 (fun H locs hM => ?_)
    refine W.eq (g2 := F0 m 142 ls []) rfl ?_
    refine lv_goto (tgt := 225) hx hb dX11_token_142 (by decide) ?_
    cases he
    exact g_vret E hM hret hlk dX11_token_225

set_option maxHeartbeats 4000000 in
set_option maxRecDepth 100000 in
theorem w11_token_b64_body (E : g_C p s m args c cX11_token RX11 D aC (g_Zs (g_A B 44))) (hml : c.maxLocals = 2) (hret : meth.sig.returnType = none) (hlk : meth.locks = false) {F : Nat} {q0 : g_M} {s64 : g_M → Option (g_M)} (hs64 : ∀ (mem : g_M) (H : Heap) (locs : List Loc) (ls : Array Slot), g_At D aC B yM 44 mem s.heap H locs → lv_has ls 2 [(0, .ref (B + 0))] → s64 mem = some q0 → W p l e (g_rm 6) s m args below meth c H locs 0 0 (g_MQ below D aC B yM 44 args s none q0) (F0 m 64 ls [])) : ∀ (mem : g_M) (H : Heap) (locs : List Loc) (ls : Array Slot), g_At D aC B yM 44 mem s.heap H locs → lv_has ls 2 [(0, .ref (B + 0))] → f11_token_b64_body F s64 mem = some q0 → W p l e (g_rm 6) s m args below meth c H locs 0 0 (g_MQ below D aC B yM 44 args s none q0) (F0 m 64 ls []) := by
  intro mem H locs ls hM hl he
  unfold f11_token_b64_body at he
  have hx := E.1
  have hb := E.2.1
  have hown := E.2.2.1
  have hts := E.2.2.2.1
  refine lv_aload_n hx hb dX11_token_64 rfl (lv_at hl 0 rfl) ?_
  obtain ⟨r5, hcr5, he⟩ := g_bind he
  refine g_callV [] (rest := []) E hml hl.1 hM cv_X11_169 (c11_here l D aC B hcr5) (o := 0) (Nat.le_of_ble_eq_true rfl) rfl (by decide) rfl rfl (Nat.le_of_ble_eq_true rfl) dX11_token_65 (fun H locs hM => ?_)
  refine W.eq (g2 := F0 m 68 ls [.int r5]) rfl ?_
  obtain ⟨r6, hcr6, he⟩ := g_bind he
  refine g_callS [.int r5] (rest := []) E hml hl.1 hM cs_X11_179 (c11_isSmall l D aC B hcr6) (by decide) rfl rfl (Nat.le_of_ble_eq_true rfl) dX11_token_68 (fun H locs hM => ?_)
  refine W.eq (g2 := F0 m 71 ls [.int r6]) rfl ?_
  refine lv_if_eq (tgt := 87) hx hb dX11_token_71 (by decide) (fun h7 => ?_) (fun h7 => ?_)
  · rw [if_pos h7] at he
    refine lv_aload_n hx hb dX11_token_87 rfl (lv_at hl 0 rfl) ?_
    refine lv_aload_n hx hb dX11_token_88 rfl (lv_at hl 0 rfl) ?_
    obtain ⟨r9, hcr9, he⟩ := g_bind he
    refine g_callV [] (rest := [.ref (B + 0)]) E hml hl.1 hM cv_X11_183 (c11_word l D aC B hcr9) (o := 0) (Nat.le_of_ble_eq_true rfl) rfl (by decide) rfl rfl (Nat.le_of_ble_eq_true rfl) dX11_token_89 (fun H locs hM => ?_)
    refine W.eq (g2 := F0 m 92 ls [.int r9, .ref (B + 0)]) rfl ?_
    refine g_putI E hM (o := 0) (Nat.le_of_ble_eq_true rfl) rfl fp_X11_186 dX11_token_92 (fun H locs hM => ?_)
    obtain ⟨m10, hm10, he⟩ := g_let_ex he
    rw [← hm10] at hM
    refine lv_aload_n hx hb dX11_token_95 rfl (lv_at hl 0 rfl) ?_
    refine lv_aload_n hx hb dX11_token_96 rfl (lv_at hl 0 rfl) ?_
    refine g_getI E hM (o := 0) (Nat.le_of_ble_eq_true rfl) rfl fl_X11_186 dX11_token_97 ?_
    refine lv_iconst (v := (-1 : Int32)) hx hb dX11_token_100 rfl ?_
    refine lv_icmp_eq (tgt := 108) hx hb dX11_token_101 (by decide) (fun h11 => ?_) (fun h11 => ?_)
    · rw [if_pos h11] at he
      refine lv_aload_n hx hb dX11_token_108 rfl (lv_at hl 0 rfl) ?_
      refine g_getI E hM (o := 0) (Nat.le_of_ble_eq_true rfl) rfl fl_X11_163 dX11_token_109 ?_
      refine lv_aload_n hx hb dX11_token_112 rfl (lv_at hl 0 rfl) ?_
      refine g_getI E hM (o := 0) (Nat.le_of_ble_eq_true rfl) rfl fl_X11_173 dX11_token_113 ?_
      refine lv_isub hx hb dX11_token_116 ?_
      refine lv_bipush (v := (6 : Int32)) hx hb dX11_token_117 rfl ?_
      refine lv_icmp_le (tgt := 126) hx hb dX11_token_119 (by decide) (fun h12 => ?_) (fun h12 => ?_)
      · rw [if_neg (Int32.not_lt.mpr h12)] at he
        refine lv_iconst (v := (1 : Int32)) hx hb dX11_token_126 rfl ?_
        exact w11_token_b127 (F := F) E hml hret hlk _ _ _ _ _ hM (lv_sub hl [0] rfl) he
      · rw [if_pos (Int32.not_le.mp h12)] at he
        refine lv_iconst (v := (5 : Int32)) hx hb dX11_token_122 rfl ?_
        refine lv_goto (tgt := 127) hx hb dX11_token_123 (by decide) ?_
        exact w11_token_b127 (F := F) E hml hret hlk _ _ _ _ _ hM (lv_sub hl [0] rfl) he
    · rw [if_neg h11] at he
      refine lv_iconst (v := (0 : Int32)) hx hb dX11_token_104 rfl ?_
      refine lv_goto (tgt := 127) hx hb dX11_token_105 (by decide) ?_
      exact w11_token_b127 (F := F) E hml hret hlk _ _ _ _ _ hM (lv_sub hl [0] rfl) he
  · rw [if_neg h7] at he
    refine lv_aload_n hx hb dX11_token_74 rfl (lv_at hl 0 rfl) ?_
    refine lv_dup hx hb dX11_token_75 rfl ?_
    refine g_getI E hM (o := 0) (Nat.le_of_ble_eq_true rfl) rfl fl_X11_163 dX11_token_76 ?_
    refine lv_iconst (v := (1 : Int32)) hx hb dX11_token_79 rfl ?_
    refine lv_iadd hx hb dX11_token_80 ?_
    refine g_putI E hM (o := 0) (Nat.le_of_ble_eq_true rfl) rfl fp_X11_163 dX11_token_81 (fun H locs hM => ?_)
    obtain ⟨m8, hm8, he⟩ := g_let_ex he
    rw [← hm8] at hM
    refine lv_goto (tgt := 64) hx hb dX11_token_84 (by decide) ?_
    exact hs64 _ _ _ _ hM (lv_sub hl [0] rfl) he

set_option maxHeartbeats 4000000 in
set_option maxRecDepth 100000 in
theorem w11_token_b64 (E : g_C p s m args c cX11_token RX11 D aC (g_Zs (g_A B 44))) (hml : c.maxLocals = 2) (hret : meth.sig.returnType = none) (hlk : meth.locks = false) {F : Nat} {q0 : g_M} : ∀ (mem : g_M) (H : Heap) (locs : List Loc) (ls : Array Slot), g_At D aC B yM 44 mem s.heap H locs → lv_has ls 2 [(0, .ref (B + 0))] → f11_token_b64 F mem = some q0 → W p l e (g_rm 6) s m args below meth c H locs 0 0 (g_MQ below D aC B yM 44 args s none q0) (F0 m 64 ls []) := by
  have key : ∀ (nn : Nat) (x : g_M) (H : Heap) (locs : List Loc) (ls : Array Slot), g_At D aC B yM 44 x s.heap H locs → lv_has ls 2 [(0, .ref (B + 0))] → g_fix (fun sf x => f11_token_b64_body F (fun mem => sf mem) x) nn x = some q0 → W p l e (g_rm 6) s m args below meth c H locs 0 0 (g_MQ below D aC B yM 44 args s none q0) (F0 m 64 ls []) := by
    intro nn
    induction nn with
    | zero => intro x H locs ls hM hl he; simp [g_fix] at he
    | succ nn ih =>
      intro x H locs ls hM hl he
      exact w11_token_b64_body (F := F) E hml hret hlk (fun mem H locs ls hM hl he => ih mem H locs ls hM hl he) x H locs ls hM hl he
  intro mem H locs ls hM hl he
  exact key F mem H locs ls hM hl he

set_option maxHeartbeats 4000000 in
set_option maxRecDepth 100000 in
theorem w11_token_b204 (E : g_C p s m args c cX11_token RX11 D aC (g_Zs (g_A B 44))) (hml : c.maxLocals = 2) (hret : meth.sig.returnType = none) (hlk : meth.locks = false) {F : Nat} {q0 : g_M} {s162 : g_M → Option (g_M)} (hs162 : ∀ (mem : g_M) (H : Heap) (locs : List Loc) (ls : Array Slot), g_At D aC B yM 44 mem s.heap H locs → lv_has ls 2 [(0, .ref (B + 0))] → s162 mem = some q0 → W p l e (g_rm 6) s m args below meth c H locs 0 0 (g_MQ below D aC B yM 44 args s none q0) (F0 m 162 ls [])) : ∀ (w1 : Int32) (mem : g_M) (H : Heap) (locs : List Loc) (ls : Array Slot), g_At D aC B yM 44 mem s.heap H locs → lv_has ls 2 [(0, .ref (B + 0))] → f11_token_b204 F s162 w1 mem = some q0 → W p l e (g_rm 6) s m args below meth c H locs 0 0 (g_MQ below D aC B yM 44 args s none q0) (F0 m 204 ls [.int w1, .ref (B + 0)]) := by
  intro w1 mem H locs ls hM hl he
  unfold f11_token_b204 at he
  have hx := E.1
  have hb := E.2.1
  have hown := E.2.2.1
  have hts := E.2.2.2.1
  refine g_putI E hM (o := 0) (Nat.le_of_ble_eq_true rfl) rfl fp_X11_186 dX11_token_204 (fun H locs hM => ?_)
  obtain ⟨m13, hm13, he⟩ := g_let_ex he
  rw [← hm13] at hM
  refine lv_aload_n hx hb dX11_token_207 rfl (lv_at hl 0 rfl) ?_
  refine lv_dup hx hb dX11_token_208 rfl ?_
  refine g_getI E hM (o := 0) (Nat.le_of_ble_eq_true rfl) rfl fl_X11_163 dX11_token_209 ?_
  refine lv_iconst (v := (1 : Int32)) hx hb dX11_token_212 rfl ?_
  refine lv_iadd hx hb dX11_token_213 ?_
  refine g_putI E hM (o := 0) (Nat.le_of_ble_eq_true rfl) rfl fp_X11_163 dX11_token_214 (fun H locs hM => ?_)
  obtain ⟨m14, hm14, he⟩ := g_let_ex he
  rw [← hm14] at hM
  refine lv_goto (tgt := 162) hx hb dX11_token_217 (by decide) ?_
  exact hs162 _ _ _ _ hM (lv_sub hl [0] rfl) he

set_option maxHeartbeats 4000000 in
set_option maxRecDepth 100000 in
theorem w11_token_b162_body (E : g_C p s m args c cX11_token RX11 D aC (g_Zs (g_A B 44))) (hml : c.maxLocals = 2) (hret : meth.sig.returnType = none) (hlk : meth.locks = false) {F : Nat} {q0 : g_M} {s162 : g_M → Option (g_M)} (hs162 : ∀ (mem : g_M) (H : Heap) (locs : List Loc) (ls : Array Slot), g_At D aC B yM 44 mem s.heap H locs → lv_has ls 2 [(0, .ref (B + 0))] → s162 mem = some q0 → W p l e (g_rm 6) s m args below meth c H locs 0 0 (g_MQ below D aC B yM 44 args s none q0) (F0 m 162 ls [])) : ∀ (mem : g_M) (H : Heap) (locs : List Loc) (ls : Array Slot), g_At D aC B yM 44 mem s.heap H locs → lv_has ls 2 [(0, .ref (B + 0))] → f11_token_b162_body F s162 mem = some q0 → W p l e (g_rm 6) s m args below meth c H locs 0 0 (g_MQ below D aC B yM 44 args s none q0) (F0 m 162 ls []) := by
  intro mem H locs ls hM hl he
  unfold f11_token_b162_body at he
  have hx := E.1
  have hb := E.2.1
  have hown := E.2.2.1
  have hts := E.2.2.2.1
  refine lv_aload_n hx hb dX11_token_162 rfl (lv_at hl 0 rfl) ?_
  obtain ⟨r15, hcr15, he⟩ := g_bind he
  refine g_callV [] (rest := []) E hml hl.1 hM cv_X11_169 (c11_here l D aC B hcr15) (o := 0) (Nat.le_of_ble_eq_true rfl) rfl (by decide) rfl rfl (Nat.le_of_ble_eq_true rfl) dX11_token_163 (fun H locs hM => ?_)
  refine W.eq (g2 := F0 m 166 ls [.int r15]) rfl ?_
  obtain ⟨r16, hcr16, he⟩ := g_bind he
  refine g_callS [.int r15] (rest := []) E hml hl.1 hM cs_X11_192 (c11_isDigit l D aC B hcr16) (by decide) rfl rfl (Nat.le_of_ble_eq_true rfl) dX11_token_166 (fun H locs hM => ?_)
  refine W.eq (g2 := F0 m 169 ls [.int r16]) rfl ?_
  refine lv_if_eq (tgt := 225) hx hb dX11_token_169 (by decide) (fun h17 => ?_) (fun h17 => ?_)
  · rw [if_pos h17] at he
    cases he
    exact g_vret E hM hret hlk dX11_token_225
  · rw [if_neg h17] at he
    refine lv_aload_n hx hb dX11_token_172 rfl (lv_at hl 0 rfl) ?_
    refine lv_aload_n hx hb dX11_token_173 rfl (lv_at hl 0 rfl) ?_
    refine g_getI E hM (o := 0) (Nat.le_of_ble_eq_true rfl) rfl fl_X11_186 dX11_token_174 ?_
    refine lv_ldc (v := (99999 : Int32)) hx hb hown (hts _ kc_X11_195) dX11_token_177 ?_
    refine lv_icmp_le (tgt := 189) hx hb dX11_token_179 (by decide) (fun h18 => ?_) (fun h18 => ?_)
    · rw [if_neg (Int32.not_lt.mpr h18)] at he
      refine lv_bipush (v := (10 : Int32)) hx hb dX11_token_189 rfl ?_
      refine lv_aload_n hx hb dX11_token_191 rfl (lv_at hl 0 rfl) ?_
      refine g_getI E hM (o := 0) (Nat.le_of_ble_eq_true rfl) rfl fl_X11_186 dX11_token_192 ?_
      refine lv_imul hx hb dX11_token_195 ?_
      refine lv_aload_n hx hb dX11_token_196 rfl (lv_at hl 0 rfl) ?_
      obtain ⟨r19, hcr19, he⟩ := g_bind he
      refine g_callV [] (rest := [.int ((10 : Int32) * (mem.1 0 29)), .ref (B + 0)]) E hml hl.1 hM cv_X11_169 (c11_here l D aC B hcr19) (o := 0) (Nat.le_of_ble_eq_true rfl) rfl (by decide) rfl rfl (Nat.le_of_ble_eq_true rfl) dX11_token_197 (fun H locs hM => ?_)
      refine W.eq (g2 := F0 m 200 ls [.int r19, .int ((10 : Int32) * (mem.1 0 29)), .ref (B + 0)]) rfl ?_
      refine lv_iadd hx hb dX11_token_200 ?_
      refine lv_bipush (v := (48 : Int32)) hx hb dX11_token_201 rfl ?_
      refine lv_isub hx hb dX11_token_203 ?_
      exact w11_token_b204 (F := F) E hml hret hlk hs162 _ _ _ _ _ hM (lv_sub hl [0] rfl) he
    · rw [if_pos (Int32.not_le.mp h18)] at he
      refine lv_aload_n hx hb dX11_token_182 rfl (lv_at hl 0 rfl) ?_
      refine g_getI E hM (o := 0) (Nat.le_of_ble_eq_true rfl) rfl fl_X11_186 dX11_token_183 ?_
      refine lv_goto (tgt := 204) hx hb dX11_token_186 (by decide) ?_
      exact w11_token_b204 (F := F) E hml hret hlk hs162 _ _ _ _ _ hM (lv_sub hl [0] rfl) he

set_option maxHeartbeats 4000000 in
set_option maxRecDepth 100000 in
theorem w11_token_b162 (E : g_C p s m args c cX11_token RX11 D aC (g_Zs (g_A B 44))) (hml : c.maxLocals = 2) (hret : meth.sig.returnType = none) (hlk : meth.locks = false) {F : Nat} {q0 : g_M} : ∀ (mem : g_M) (H : Heap) (locs : List Loc) (ls : Array Slot), g_At D aC B yM 44 mem s.heap H locs → lv_has ls 2 [(0, .ref (B + 0))] → f11_token_b162 F mem = some q0 → W p l e (g_rm 6) s m args below meth c H locs 0 0 (g_MQ below D aC B yM 44 args s none q0) (F0 m 162 ls []) := by
  have key : ∀ (nn : Nat) (x : g_M) (H : Heap) (locs : List Loc) (ls : Array Slot), g_At D aC B yM 44 x s.heap H locs → lv_has ls 2 [(0, .ref (B + 0))] → g_fix (fun sf x => f11_token_b162_body F (fun mem => sf mem) x) nn x = some q0 → W p l e (g_rm 6) s m args below meth c H locs 0 0 (g_MQ below D aC B yM 44 args s none q0) (F0 m 162 ls []) := by
    intro nn
    induction nn with
    | zero => intro x H locs ls hM hl he; simp [g_fix] at he
    | succ nn ih =>
      intro x H locs ls hM hl he
      exact w11_token_b162_body (F := F) E hml hret hlk (fun mem H locs ls hM hl he => ih mem H locs ls hM hl he) x H locs ls hM hl he
  intro mem H locs ls hM hl he
  exact key F mem H locs ls hM hl he

set_option maxHeartbeats 4000000 in
set_option maxRecDepth 100000 in
theorem w11_token_b0_body (E : g_C p s m args c cX11_token RX11 D aC (g_Zs (g_A B 44))) (hml : c.maxLocals = 2) (hret : meth.sig.returnType = none) (hlk : meth.locks = false) {F : Nat} {q0 : g_M} {s0 : g_M → Option (g_M)} (hs0 : ∀ (mem : g_M) (H : Heap) (locs : List Loc) (ls : Array Slot), g_At D aC B yM 44 mem s.heap H locs → lv_has ls 2 [(0, .ref (B + 0))] → s0 mem = some q0 → W p l e (g_rm 6) s m args below meth c H locs 0 0 (g_MQ below D aC B yM 44 args s none q0) (F0 m 0 ls [])) : ∀ (mem : g_M) (H : Heap) (locs : List Loc) (ls : Array Slot), g_At D aC B yM 44 mem s.heap H locs → lv_has ls 2 [(0, .ref (B + 0))] → f11_token_b0_body F s0 mem = some q0 → W p l e (g_rm 6) s m args below meth c H locs 0 0 (g_MQ below D aC B yM 44 args s none q0) (F0 m 0 ls []) := by
  intro mem H locs ls hM hl he
  unfold f11_token_b0_body at he
  have hx := E.1
  have hb := E.2.1
  have hown := E.2.2.1
  have hts := E.2.2.2.1
  refine lv_aload_n hx hb dX11_token_0 rfl (lv_at hl 0 rfl) ?_
  obtain ⟨r20, hcr20, he⟩ := g_bind he
  refine g_callV [] (rest := []) E hml hl.1 hM cv_X11_169 (c11_here l D aC B hcr20) (o := 0) (Nat.le_of_ble_eq_true rfl) rfl (by decide) rfl rfl (Nat.le_of_ble_eq_true rfl) dX11_token_1 (fun H locs hM => ?_)
  refine W.eq (g2 := F0 m 4 ls [.int r20]) rfl ?_
  refine lv_bipush (v := (10 : Int32)) hx hb dX11_token_4 rfl ?_
  refine lv_icmp_eq (tgt := 18) hx hb dX11_token_6 (by decide) (fun h21 => ?_) (fun h21 => ?_)
  · rw [if_pos h21] at he
    exact w11_token_b18 (F := F) E hml hret hlk hs0 _ _ _ _ hM (lv_sub hl [0] rfl) he
  · rw [if_neg h21] at he
    refine lv_aload_n hx hb dX11_token_9 rfl (lv_at hl 0 rfl) ?_
    obtain ⟨r22, hcr22, he⟩ := g_bind he
    refine g_callV [] (rest := []) E hml hl.1 hM cv_X11_169 (c11_here l D aC B hcr22) (o := 0) (Nat.le_of_ble_eq_true rfl) rfl (by decide) rfl rfl (Nat.le_of_ble_eq_true rfl) dX11_token_10 (fun H locs hM => ?_)
    refine W.eq (g2 := F0 m 13 ls [.int r22]) rfl ?_
    refine lv_bipush (v := (32 : Int32)) hx hb dX11_token_13 rfl ?_
    refine lv_icmp_ne (tgt := 31) hx hb dX11_token_15 (by decide) (fun h23 => ?_) (fun h23 => ?_)
    · rw [if_neg h23] at he
      refine lv_aload_n hx hb dX11_token_31 rfl (lv_at hl 0 rfl) ?_
      refine lv_aload_n hx hb dX11_token_32 rfl (lv_at hl 0 rfl) ?_
      refine g_getI E hM (o := 0) (Nat.le_of_ble_eq_true rfl) rfl fl_X11_163 dX11_token_33 ?_
      refine g_putI E hM (o := 0) (Nat.le_of_ble_eq_true rfl) rfl fp_X11_173 dX11_token_36 (fun H locs hM => ?_)
      obtain ⟨m24, hm24, he⟩ := g_let_ex he
      rw [← hm24] at hM
      refine lv_aload_n hx hb dX11_token_39 rfl (lv_at hl 0 rfl) ?_
      obtain ⟨r25, hcr25, he⟩ := g_bind he
      refine g_callV [] (rest := []) E hml hl.1 hM cv_X11_169 (c11_here l D aC B hcr25) (o := 0) (Nat.le_of_ble_eq_true rfl) rfl (by decide) rfl rfl (Nat.le_of_ble_eq_true rfl) dX11_token_40 (fun H locs hM => ?_)
      refine W.eq (g2 := F0 m 43 ls [.int r25]) rfl ?_
      refine lv_istore_n (lv' := [(1, .int r25), (0, .ref (B + 0))]) hx hb dX11_token_43 rfl hl (by decide) rfl (fun ls hl => ?_)
      refine lv_iload_n hx hb dX11_token_44 rfl (lv_at hl 0 rfl) ?_
      refine lv_iconst (v := (-1 : Int32)) hx hb dX11_token_45 rfl ?_
      refine lv_icmp_ne (tgt := 57) hx hb dX11_token_46 (by decide) (fun h26 => ?_) (fun h26 => ?_)
      · rw [if_neg h26] at he
        refine lv_iload_n hx hb dX11_token_57 rfl (lv_at hl 0 rfl) ?_
        obtain ⟨r28, hcr28, he⟩ := g_bind he
        refine g_callS [.int r25] (rest := []) E hml hl.1 hM cs_X11_179 (c11_isSmall l D aC B hcr28) (by decide) rfl rfl (Nat.le_of_ble_eq_true rfl) dX11_token_58 (fun H locs hM => ?_)
        refine W.eq (g2 := F0 m 61 ls [.int r28]) rfl ?_
        refine lv_if_eq (tgt := 145) hx hb dX11_token_61 (by decide) (fun h29 => ?_) (fun h29 => ?_)
        · rw [if_pos h29] at he
          refine lv_iload_n hx hb dX11_token_145 rfl (lv_at hl 0 rfl) ?_
          obtain ⟨r30, hcr30, he⟩ := g_bind he
          refine g_callS [.int r25] (rest := []) E hml hl.1 hM cs_X11_192 (c11_isDigit l D aC B hcr30) (by decide) rfl rfl (Nat.le_of_ble_eq_true rfl) dX11_token_146 (fun H locs hM => ?_)
          refine W.eq (g2 := F0 m 149 ls [.int r30]) rfl ?_
          refine lv_if_eq (tgt := 220) hx hb dX11_token_149 (by decide) (fun h31 => ?_) (fun h31 => ?_)
          · rw [if_pos h31] at he
            refine lv_aload_n hx hb dX11_token_220 rfl (lv_at hl 1 rfl) ?_
            refine lv_iload_n hx hb dX11_token_221 rfl (lv_at hl 0 rfl) ?_
            obtain ⟨r34, hcr34, he⟩ := g_bind he
            refine g_callV [.int r25] (rest := []) E hml hl.1 hM cv_X11_196 (c11_sign l D aC B hcr34) (o := 0) (Nat.le_of_ble_eq_true rfl) rfl (by decide) rfl rfl (Nat.le_of_ble_eq_true rfl) dX11_token_222 (fun H locs hM => ?_)
            refine W.eq (g2 := F0 m 225 ls []) rfl ?_
            cases he
            exact g_vret E hM hret hlk dX11_token_225
          · rw [if_neg h31] at he
            refine lv_aload_n hx hb dX11_token_152 rfl (lv_at hl 1 rfl) ?_
            refine lv_iconst (v := (2 : Int32)) hx hb dX11_token_153 rfl ?_
            refine g_putI E hM (o := 0) (Nat.le_of_ble_eq_true rfl) rfl fp_X11_176 dX11_token_154 (fun H locs hM => ?_)
            obtain ⟨m32, hm32, he⟩ := g_let_ex he
            rw [← hm32] at hM
            refine lv_aload_n hx hb dX11_token_157 rfl (lv_at hl 1 rfl) ?_
            refine lv_iconst (v := (0 : Int32)) hx hb dX11_token_158 rfl ?_
            refine g_putI E hM (o := 0) (Nat.le_of_ble_eq_true rfl) rfl fp_X11_186 dX11_token_159 (fun H locs hM => ?_)
            obtain ⟨m33, hm33, he⟩ := g_let_ex he
            rw [← hm33] at hM
            exact w11_token_b162 (F := F) E hml hret hlk _ _ _ _ hM (lv_sub hl [1] rfl) he
        · rw [if_neg h29] at he
          exact w11_token_b64 (F := F) E hml hret hlk _ _ _ _ hM (lv_sub hl [1] rfl) he
      · rw [if_pos h26] at he
        refine lv_aload_n hx hb dX11_token_49 rfl (lv_at hl 1 rfl) ?_
        refine lv_iconst (v := (4 : Int32)) hx hb dX11_token_50 rfl ?_
        refine g_putI E hM (o := 0) (Nat.le_of_ble_eq_true rfl) rfl fp_X11_176 dX11_token_51 (fun H locs hM => ?_)
        obtain ⟨m27, hm27, he⟩ := g_let_ex he
        rw [← hm27] at hM
        refine lv_goto (tgt := 225) hx hb dX11_token_54 (by decide) ?_
        cases he
        exact g_vret E hM hret hlk dX11_token_225
    · rw [if_pos h23] at he
      exact w11_token_b18 (F := F) E hml hret hlk hs0 _ _ _ _ hM (lv_sub hl [0] rfl) he

set_option maxHeartbeats 4000000 in
set_option maxRecDepth 100000 in
theorem w11_token_b0 (E : g_C p s m args c cX11_token RX11 D aC (g_Zs (g_A B 44))) (hml : c.maxLocals = 2) (hret : meth.sig.returnType = none) (hlk : meth.locks = false) {F : Nat} {q0 : g_M} : ∀ (mem : g_M) (H : Heap) (locs : List Loc) (ls : Array Slot), g_At D aC B yM 44 mem s.heap H locs → lv_has ls 2 [(0, .ref (B + 0))] → f11_token_b0 F mem = some q0 → W p l e (g_rm 6) s m args below meth c H locs 0 0 (g_MQ below D aC B yM 44 args s none q0) (F0 m 0 ls []) := by
  have key : ∀ (nn : Nat) (x : g_M) (H : Heap) (locs : List Loc) (ls : Array Slot), g_At D aC B yM 44 x s.heap H locs → lv_has ls 2 [(0, .ref (B + 0))] → g_fix (fun sf x => f11_token_b0_body F (fun mem => sf mem) x) nn x = some q0 → W p l e (g_rm 6) s m args below meth c H locs 0 0 (g_MQ below D aC B yM 44 args s none q0) (F0 m 0 ls []) := by
    intro nn
    induction nn with
    | zero => intro x H locs ls hM hl he; simp [g_fix] at he
    | succ nn ih =>
      intro x H locs ls hM hl he
      exact w11_token_b0_body (F := F) E hml hret hlk (fun mem H locs ls hM hl he => ih mem H locs ls hM hl he) x H locs ls hM hl he
  intro mem H locs ls hM hl he
  exact key F mem H locs ls hM hl he

set_option maxHeartbeats 4000000 in
set_option maxRecDepth 100000 in
theorem c11_token (l : Launch) (D : va_G) (aC : Nat → ClassId) (B : Nat) {F : Nat} {mem : g_M} {q0 : g_M} (he : f11_token F mem = some q0) : g_Met l yX11_token cX11_token 2 none 6 D aC B yM 44 mem [.ref (B + 0)] none q0 := by
  refine g_ofW (by decide) (Nat.le_of_ble_eq_true rfl) ?_
  intro p e s m args below meth c ls E hml hret hlk hM hl
  have E : g_C p s m args c cX11_token RX11 D aC (g_Zs (g_A B 44)) := E
  have hx := E.1
  have hb := E.2.1
  have hown := E.2.2.1
  have hts := E.2.2.2.1
  have hl : lv_has ls 2 [(0, .ref (B + 0))] := hl
  unfold f11_token at he
  exact w11_token_b0 (F := F) E hml hret hlk _ _ _ _ hM (lv_sub hl [0] rfl) he

set_option maxHeartbeats 4000000 in
set_option maxRecDepth 100000 in
theorem c11_wrong (l : Launch) (D : va_G) (aC : Nat → ClassId) (B : Nat) {F : Nat} {a1 : Int32} {mem : g_M} {q0 : g_M} (he : f11_wrong F a1 mem = some q0) : g_Met l yX11_wrong cX11_wrong 2 none 1 D aC B yM 44 mem [.ref (B + 0), .int a1] none q0 := by
  refine g_ofW (by decide) (Nat.le_of_ble_eq_true rfl) ?_
  intro p e s m args below meth c ls E hml hret hlk hM hl
  have E : g_C p s m args c cX11_wrong RX11 D aC (g_Zs (g_A B 44)) := E
  have hx := E.1
  have hb := E.2.1
  have hown := E.2.2.1
  have hts := E.2.2.2.1
  have hl : lv_has ls 2 [(0, .ref (B + 0)), (1, .int a1)] := hl
  unfold f11_wrong at he
  refine lv_aload_n hx hb dX11_wrong_0 rfl (lv_at hl 0 rfl) ?_
  refine g_getI E hM (o := 0) (Nat.le_of_ble_eq_true rfl) rfl fl_X11_211 dX11_wrong_1 ?_
  refine lv_if_eq (tgt := 8) hx hb dX11_wrong_4 (by decide) (fun h1 => ?_) (fun h1 => ?_)
  · rw [if_pos h1] at he
    refine lv_aload_n hx hb dX11_wrong_8 rfl (lv_at hl 0 rfl) ?_
    refine lv_iload_n hx hb dX11_wrong_9 rfl (lv_at hl 1 rfl) ?_
    refine g_putI E hM (o := 0) (Nat.le_of_ble_eq_true rfl) rfl fp_X11_211 dX11_wrong_10 (fun H locs hM => ?_)
    obtain ⟨m2, hm2, he⟩ := g_let_ex he
    rw [← hm2] at hM
    refine lv_aload_n hx hb dX11_wrong_13 rfl (lv_at hl 0 rfl) ?_
    refine lv_aload_n hx hb dX11_wrong_14 rfl (lv_at hl 0 rfl) ?_
    refine g_getI E hM (o := 0) (Nat.le_of_ble_eq_true rfl) rfl fl_X11_173 dX11_wrong_15 ?_
    refine g_putI E hM (o := 0) (Nat.le_of_ble_eq_true rfl) rfl fp_X11_214 dX11_wrong_18 (fun H locs hM => ?_)
    obtain ⟨m3, hm3, he⟩ := g_let_ex he
    rw [← hm3] at hM
    cases he
    exact g_vret E hM hret hlk dX11_wrong_21
  · rw [if_neg h1] at he
    cases he
    exact g_vret E hM hret hlk dX11_wrong_7

set_option maxHeartbeats 4000000 in
set_option maxRecDepth 100000 in
theorem c11_isWord (l : Launch) (D : va_G) (aC : Nat → ClassId) (B : Nat) {F : Nat} {a1 : Int32} {mem : g_M} {q0 : Int32} (he : f11_isWord F a1 mem = some q0) : g_Met l yX11_isWord cX11_isWord 2 (some .boolean) 1 D aC B yM 44 mem [.ref (B + 0), .int a1] (some (.int q0)) mem := by
  refine g_ofW (by decide) (Nat.le_of_ble_eq_true rfl) ?_
  intro p e s m args below meth c ls E hml hret hlk hM hl
  have E : g_C p s m args c cX11_isWord RX11 D aC (g_Zs (g_A B 44)) := E
  have hx := E.1
  have hb := E.2.1
  have hown := E.2.2.1
  have hts := E.2.2.2.1
  have hl : lv_has ls 2 [(0, .ref (B + 0)), (1, .int a1)] := hl
  unfold f11_isWord at he
  refine lv_aload_n hx hb dX11_isWord_0 rfl (lv_at hl 0 rfl) ?_
  refine g_getI E hM (o := 0) (Nat.le_of_ble_eq_true rfl) rfl fl_X11_211 dX11_isWord_1 ?_
  refine lv_if_ne (tgt := 26) hx hb dX11_isWord_4 (by decide) (fun h1 => ?_) (fun h1 => ?_)
  · rw [if_neg h1] at he
    refine lv_iconst (v := (0 : Int32)) hx hb dX11_isWord_26 rfl ?_
    cases he
    exact g_zret E hM hret hlk (Or.inl rfl) dX11_isWord_27
  · rw [if_pos h1] at he
    refine lv_aload_n hx hb dX11_isWord_7 rfl (lv_at hl 0 rfl) ?_
    refine g_getI E hM (o := 0) (Nat.le_of_ble_eq_true rfl) rfl fl_X11_176 dX11_isWord_8 ?_
    refine lv_if_ne (tgt := 26) hx hb dX11_isWord_11 (by decide) (fun h2 => ?_) (fun h2 => ?_)
    · rw [if_neg h2] at he
      refine lv_iconst (v := (0 : Int32)) hx hb dX11_isWord_26 rfl ?_
      cases he
      exact g_zret E hM hret hlk (Or.inl rfl) dX11_isWord_27
    · rw [if_pos h2] at he
      refine lv_aload_n hx hb dX11_isWord_14 rfl (lv_at hl 0 rfl) ?_
      refine g_getI E hM (o := 0) (Nat.le_of_ble_eq_true rfl) rfl fl_X11_186 dX11_isWord_15 ?_
      refine lv_iload_n hx hb dX11_isWord_18 rfl (lv_at hl 1 rfl) ?_
      refine lv_icmp_ne (tgt := 26) hx hb dX11_isWord_19 (by decide) (fun h3 => ?_) (fun h3 => ?_)
      · rw [if_neg h3] at he
        refine lv_iconst (v := (0 : Int32)) hx hb dX11_isWord_26 rfl ?_
        cases he
        exact g_zret E hM hret hlk (Or.inl rfl) dX11_isWord_27
      · rw [if_pos h3] at he
        refine lv_iconst (v := (1 : Int32)) hx hb dX11_isWord_22 rfl ?_
        refine lv_goto (tgt := 27) hx hb dX11_isWord_23 (by decide) ?_
        cases he
        exact g_zret E hM hret hlk (Or.inr rfl) dX11_isWord_27

set_option maxHeartbeats 4000000 in
set_option maxRecDepth 100000 in
theorem c11_isSign (l : Launch) (D : va_G) (aC : Nat → ClassId) (B : Nat) {F : Nat} {a1 : Int32} {mem : g_M} {q0 : Int32} (he : f11_isSign F a1 mem = some q0) : g_Met l yX11_isSign cX11_isSign 2 (some .boolean) 1 D aC B yM 44 mem [.ref (B + 0), .int a1] (some (.int q0)) mem := by
  refine g_ofW (by decide) (Nat.le_of_ble_eq_true rfl) ?_
  intro p e s m args below meth c ls E hml hret hlk hM hl
  have E : g_C p s m args c cX11_isSign RX11 D aC (g_Zs (g_A B 44)) := E
  have hx := E.1
  have hb := E.2.1
  have hown := E.2.2.1
  have hts := E.2.2.2.1
  have hl : lv_has ls 2 [(0, .ref (B + 0)), (1, .int a1)] := hl
  unfold f11_isSign at he
  refine lv_aload_n hx hb dX11_isSign_0 rfl (lv_at hl 0 rfl) ?_
  refine g_getI E hM (o := 0) (Nat.le_of_ble_eq_true rfl) rfl fl_X11_211 dX11_isSign_1 ?_
  refine lv_if_ne (tgt := 27) hx hb dX11_isSign_4 (by decide) (fun h1 => ?_) (fun h1 => ?_)
  · rw [if_neg h1] at he
    refine lv_iconst (v := (0 : Int32)) hx hb dX11_isSign_27 rfl ?_
    cases he
    exact g_zret E hM hret hlk (Or.inl rfl) dX11_isSign_28
  · rw [if_pos h1] at he
    refine lv_aload_n hx hb dX11_isSign_7 rfl (lv_at hl 0 rfl) ?_
    refine g_getI E hM (o := 0) (Nat.le_of_ble_eq_true rfl) rfl fl_X11_176 dX11_isSign_8 ?_
    refine lv_iconst (v := (3 : Int32)) hx hb dX11_isSign_11 rfl ?_
    refine lv_icmp_ne (tgt := 27) hx hb dX11_isSign_12 (by decide) (fun h2 => ?_) (fun h2 => ?_)
    · rw [if_neg h2] at he
      refine lv_iconst (v := (0 : Int32)) hx hb dX11_isSign_27 rfl ?_
      cases he
      exact g_zret E hM hret hlk (Or.inl rfl) dX11_isSign_28
    · rw [if_pos h2] at he
      refine lv_aload_n hx hb dX11_isSign_15 rfl (lv_at hl 0 rfl) ?_
      refine g_getI E hM (o := 0) (Nat.le_of_ble_eq_true rfl) rfl fl_X11_186 dX11_isSign_16 ?_
      refine lv_iload_n hx hb dX11_isSign_19 rfl (lv_at hl 1 rfl) ?_
      refine lv_icmp_ne (tgt := 27) hx hb dX11_isSign_20 (by decide) (fun h3 => ?_) (fun h3 => ?_)
      · rw [if_neg h3] at he
        refine lv_iconst (v := (0 : Int32)) hx hb dX11_isSign_27 rfl ?_
        cases he
        exact g_zret E hM hret hlk (Or.inl rfl) dX11_isSign_28
      · rw [if_pos h3] at he
        refine lv_iconst (v := (1 : Int32)) hx hb dX11_isSign_23 rfl ?_
        refine lv_goto (tgt := 28) hx hb dX11_isSign_24 (by decide) ?_
        cases he
        exact g_zret E hM hret hlk (Or.inr rfl) dX11_isSign_28

set_option maxHeartbeats 4000000 in
set_option maxRecDepth 100000 in
theorem c11_goOn (l : Launch) (D : va_G) (aC : Nat → ClassId) (B : Nat) {F : Nat} {mem : g_M} {q0 : g_M} (he : f11_goOn F mem = some q0) : g_Met l yX11_goOn cX11_goOn 1 none 7 D aC B yM 44 mem [.ref (B + 0)] none q0 := by
  refine g_ofW (by decide) (Nat.le_of_ble_eq_true rfl) ?_
  intro p e s m args below meth c ls E hml hret hlk hM hl
  have E : g_C p s m args c cX11_goOn RX11 D aC (g_Zs (g_A B 44)) := E
  have hx := E.1
  have hb := E.2.1
  have hown := E.2.2.1
  have hts := E.2.2.2.1
  have hl : lv_has ls 1 [(0, .ref (B + 0))] := hl
  unfold f11_goOn at he
  refine lv_aload_n hx hb dX11_goOn_0 rfl (lv_at hl 0 rfl) ?_
  refine g_getI E hM (o := 0) (Nat.le_of_ble_eq_true rfl) rfl fl_X11_211 dX11_goOn_1 ?_
  refine lv_if_ne (tgt := 11) hx hb dX11_goOn_4 (by decide) (fun h1 => ?_) (fun h1 => ?_)
  · rw [if_neg h1] at he
    cases he
    exact g_vret E hM hret hlk dX11_goOn_11
  · rw [if_pos h1] at he
    refine lv_aload_n hx hb dX11_goOn_7 rfl (lv_at hl 0 rfl) ?_
    obtain ⟨r2, hcr2, he⟩ := g_bind he
    refine g_callV [] (rest := []) E hml hl.1 hM cv_X11_217 (c11_token l D aC B hcr2) (o := 0) (Nat.le_of_ble_eq_true rfl) rfl (by decide) rfl rfl (Nat.le_of_ble_eq_true rfl) dX11_goOn_8 (fun H locs hM => ?_)
    refine W.eq (g2 := F0 m 11 ls []) rfl ?_
    cases he
    exact g_vret E hM hret hlk dX11_goOn_11

set_option maxHeartbeats 4000000 in
set_option maxRecDepth 100000 in
theorem w11_numeral_b46 (E : g_C p s m args c cX11_numeral RX11 D aC (g_Zs (g_A B 44))) (hml : c.maxLocals = 4) (hret : meth.sig.returnType = (some .int)) (hlk : meth.locks = false) {F : Nat} {q0 : Int32 × g_M} {a1 : Int32} {a2 : Int32} : ∀ (mem : g_M) (H : Heap) (locs : List Loc) (ls : Array Slot), g_At D aC B yM 44 mem s.heap H locs → lv_has ls 4 [(0, .ref (B + 0)), (1, .int a1)] → f11_numeral_b46 F a1 a2 mem = some q0 → W p l e (g_rm 7) s m args below meth c H locs 0 0 (g_MQ below D aC B yM 44 args s (some (.int q0.1)) q0.2) (F0 m 46 ls []) := by
  intro mem H locs ls hM hl he
  unfold f11_numeral_b46 at he
  have hx := E.1
  have hb := E.2.1
  have hown := E.2.2.1
  have hts := E.2.2.2.1
  refine lv_aload_n hx hb dX11_numeral_46 rfl (lv_at hl 0 rfl) ?_
  refine g_getI E hM (o := 0) (Nat.le_of_ble_eq_true rfl) rfl fl_X11_211 dX11_numeral_47 ?_
  refine lv_if_eq (tgt := 55) hx hb dX11_numeral_50 (by decide) (fun h1 => ?_) (fun h1 => ?_)
  · rw [if_pos h1] at he
    refine lv_aload_n hx hb dX11_numeral_55 rfl (lv_at hl 0 rfl) ?_
    refine g_getI E hM (o := 0) (Nat.le_of_ble_eq_true rfl) rfl fl_X11_186 dX11_numeral_56 ?_
    obtain ⟨x2, hx2, he⟩ := g_let_ex he
    refine g_topI hx2 ?_
    refine lv_istore_n (lv' := [(3, .int x2), (0, .ref (B + 0)), (1, .int a1)]) hx hb dX11_numeral_59 rfl hl (by decide) rfl (fun ls hl => ?_)
    refine lv_aload_n hx hb dX11_numeral_60 rfl (lv_at hl 1 rfl) ?_
    obtain ⟨r3, hcr3, he⟩ := g_bind he
    refine g_callV [] (rest := []) E hml hl.1 hM cv_X11_217 (c11_token l D aC B hcr3) (o := 0) (Nat.le_of_ble_eq_true rfl) rfl (by decide) rfl rfl (Nat.le_of_ble_eq_true rfl) dX11_numeral_61 (fun H locs hM => ?_)
    refine W.eq (g2 := F0 m 64 ls []) rfl ?_
    refine lv_iload_n hx hb dX11_numeral_64 rfl (lv_at hl 0 rfl) ?_
    cases he
    exact g_iret E hM hret hlk dX11_numeral_65
  · rw [if_neg h1] at he
    refine lv_iload_n hx hb dX11_numeral_53 rfl (lv_at hl 1 rfl) ?_
    cases he
    exact g_iret E hM hret hlk dX11_numeral_54

set_option maxHeartbeats 4000000 in
set_option maxRecDepth 100000 in
theorem w11_numeral_b41 (E : g_C p s m args c cX11_numeral RX11 D aC (g_Zs (g_A B 44))) (hml : c.maxLocals = 4) (hret : meth.sig.returnType = (some .int)) (hlk : meth.locks = false) {F : Nat} {q0 : Int32 × g_M} {a1 : Int32} {a2 : Int32} : ∀ (mem : g_M) (H : Heap) (locs : List Loc) (ls : Array Slot), g_At D aC B yM 44 mem s.heap H locs → lv_has ls 4 [(0, .ref (B + 0)), (1, .int a1)] → f11_numeral_b41 F a1 a2 mem = some q0 → W p l e (g_rm 7) s m args below meth c H locs 0 0 (g_MQ below D aC B yM 44 args s (some (.int q0.1)) q0.2) (F0 m 41 ls []) := by
  intro mem H locs ls hM hl he
  unfold f11_numeral_b41 at he
  have hx := E.1
  have hb := E.2.1
  have hown := E.2.2.1
  have hts := E.2.2.2.1
  refine lv_aload_n hx hb dX11_numeral_41 rfl (lv_at hl 0 rfl) ?_
  refine lv_iconst (v := (2 : Int32)) hx hb dX11_numeral_42 rfl ?_
  obtain ⟨r4, hcr4, he⟩ := g_bind he
  refine g_callV [.int (2 : Int32)] (rest := []) E hml hl.1 hM cv_X11_220 (c11_wrong l D aC B hcr4) (o := 0) (Nat.le_of_ble_eq_true rfl) rfl (by decide) rfl rfl (Nat.le_of_ble_eq_true rfl) dX11_numeral_43 (fun H locs hM => ?_)
  refine W.eq (g2 := F0 m 46 ls []) rfl ?_
  exact w11_numeral_b46 (F := F) (a1 := a1) (a2 := a2) E hml hret hlk _ _ _ _ hM (lv_sub hl [0, 1] rfl) he

set_option maxHeartbeats 4000000 in
set_option maxRecDepth 100000 in
theorem c11_numeral (l : Launch) (D : va_G) (aC : Nat → ClassId) (B : Nat) {F : Nat} {a1 : Int32} {a2 : Int32} {mem : g_M} {q0 : Int32 × g_M} (he : f11_numeral F a1 a2 mem = some q0) : g_Met l yX11_numeral cX11_numeral 4 (some .int) 7 D aC B yM 44 mem [.ref (B + 0), .int a1, .int a2] (some (.int q0.1)) q0.2 := by
  refine g_ofW (by decide) (Nat.le_of_ble_eq_true rfl) ?_
  intro p e s m args below meth c ls E hml hret hlk hM hl
  have E : g_C p s m args c cX11_numeral RX11 D aC (g_Zs (g_A B 44)) := E
  have hx := E.1
  have hb := E.2.1
  have hown := E.2.2.1
  have hts := E.2.2.2.1
  have hl : lv_has ls 4 [(0, .ref (B + 0)), (1, .int a1), (2, .int a2)] := hl
  unfold f11_numeral at he
  refine lv_aload_n hx hb dX11_numeral_0 rfl (lv_at hl 0 rfl) ?_
  refine g_getI E hM (o := 0) (Nat.le_of_ble_eq_true rfl) rfl fl_X11_211 dX11_numeral_1 ?_
  refine lv_if_eq (tgt := 9) hx hb dX11_numeral_4 (by decide) (fun h5 => ?_) (fun h5 => ?_)
  · rw [if_pos h5] at he
    refine lv_aload_n hx hb dX11_numeral_9 rfl (lv_at hl 0 rfl) ?_
    refine g_getI E hM (o := 0) (Nat.le_of_ble_eq_true rfl) rfl fl_X11_176 dX11_numeral_10 ?_
    refine lv_iconst (v := (2 : Int32)) hx hb dX11_numeral_13 rfl ?_
    refine lv_icmp_eq (tgt := 25) hx hb dX11_numeral_14 (by decide) (fun h6 => ?_) (fun h6 => ?_)
    · rw [if_pos h6] at he
      refine lv_aload_n hx hb dX11_numeral_25 rfl (lv_at hl 0 rfl) ?_
      refine g_getI E hM (o := 0) (Nat.le_of_ble_eq_true rfl) rfl fl_X11_186 dX11_numeral_26 ?_
      refine lv_iload_n hx hb dX11_numeral_29 rfl (lv_at hl 1 rfl) ?_
      refine lv_icmp_lt (tgt := 41) hx hb dX11_numeral_30 (by decide) (fun h8 => ?_) (fun h8 => ?_)
      · rw [if_neg (Int32.not_le.mpr h8)] at he
        exact w11_numeral_b41 (F := F) (a1 := a1) (a2 := a2) E hml hret hlk _ _ _ _ hM (lv_sub hl [0, 1] rfl) he
      · rw [if_pos (Int32.not_lt.mp h8)] at he
        refine lv_aload_n hx hb dX11_numeral_33 rfl (lv_at hl 0 rfl) ?_
        refine g_getI E hM (o := 0) (Nat.le_of_ble_eq_true rfl) rfl fl_X11_186 dX11_numeral_34 ?_
        refine lv_iload_n hx hb dX11_numeral_37 rfl (lv_at hl 2 rfl) ?_
        refine lv_icmp_le (tgt := 46) hx hb dX11_numeral_38 (by decide) (fun h9 => ?_) (fun h9 => ?_)
        · rw [if_neg (Int32.not_lt.mpr h9)] at he
          exact w11_numeral_b46 (F := F) (a1 := a1) (a2 := a2) E hml hret hlk _ _ _ _ hM (lv_sub hl [0, 1] rfl) he
        · rw [if_pos (Int32.not_le.mp h9)] at he
          exact w11_numeral_b41 (F := F) (a1 := a1) (a2 := a2) E hml hret hlk _ _ _ _ hM (lv_sub hl [0, 1] rfl) he
    · rw [if_neg h6] at he
      refine lv_aload_n hx hb dX11_numeral_17 rfl (lv_at hl 0 rfl) ?_
      refine lv_iconst (v := (1 : Int32)) hx hb dX11_numeral_18 rfl ?_
      obtain ⟨r7, hcr7, he⟩ := g_bind he
      refine g_callV [.int (1 : Int32)] (rest := []) E hml hl.1 hM cv_X11_220 (c11_wrong l D aC B hcr7) (o := 0) (Nat.le_of_ble_eq_true rfl) rfl (by decide) rfl rfl (Nat.le_of_ble_eq_true rfl) dX11_numeral_19 (fun H locs hM => ?_)
      refine W.eq (g2 := F0 m 22 ls []) rfl ?_
      refine lv_goto (tgt := 46) hx hb dX11_numeral_22 (by decide) ?_
      exact w11_numeral_b46 (F := F) (a1 := a1) (a2 := a2) E hml hret hlk _ _ _ _ hM (lv_sub hl [0, 1] rfl) he
  · rw [if_neg h5] at he
    refine lv_iload_n hx hb dX11_numeral_7 rfl (lv_at hl 1 rfl) ?_
    cases he
    exact g_iret E hM hret hlk dX11_numeral_8

set_option maxHeartbeats 4000000 in
set_option maxRecDepth 100000 in
theorem w11_found_b3_body (E : g_C p s m args c cX11_found RX11 D aC (g_Zs (g_A B 44))) (hml : c.maxLocals = 5) (hret : meth.sig.returnType = (some .int)) (hlk : meth.locks = false) {F : Nat} {q0 : Int32} {a0 : Nat} {a1 : Int32} {a2 : Int32} {a3 : Int32} (ha0 : a0 < 44) (hYa0 : (yM.1 a0).1 = 50) {mem : g_M} {s3 : Int32 → Option (Int32)} (hs3 : ∀ (v4 : Int32) (H : Heap) (locs : List Loc) (ls : Array Slot), g_At D aC B yM 44 mem s.heap H locs → lv_has ls 5 [(0, .ref (B + a0)), (1, .int a1), (2, .int a2), (3, .int a3), (4, .int v4)] → s3 v4 = some q0 → W p l e (g_rm 1) s m args below meth c H locs 0 0 (g_MQ below D aC B yM 44 args s (some (.int q0)) mem) (F0 m 3 ls [])) : ∀ (v4 : Int32) (H : Heap) (locs : List Loc) (ls : Array Slot), g_At D aC B yM 44 mem s.heap H locs → lv_has ls 5 [(0, .ref (B + a0)), (1, .int a1), (2, .int a2), (3, .int a3), (4, .int v4)] → f11_found_b3_body F a0 a1 a2 a3 s3 mem v4 = some q0 → W p l e (g_rm 1) s m args below meth c H locs 0 0 (g_MQ below D aC B yM 44 args s (some (.int q0)) mem) (F0 m 3 ls []) := by
  intro v4 H locs ls hM hl he
  unfold f11_found_b3_body at he
  have hx := E.1
  have hb := E.2.1
  have hown := E.2.2.1
  have hts := E.2.2.2.1
  refine lv_iload hx hb dX11_found_3 (lv_at hl 4 rfl) ?_
  refine lv_iload_n hx hb dX11_found_5 rfl (lv_at hl 2 rfl) ?_
  refine lv_icmp_ge (tgt := 28) hx hb dX11_found_6 (by decide) (fun h1 => ?_) (fun h1 => ?_)
  · rw [if_neg (Int32.not_lt.mpr h1)] at he
    refine lv_iconst (v := (-1 : Int32)) hx hb dX11_found_28 rfl ?_
    cases he
    exact g_iret E hM hret hlk dX11_found_29
  · rw [if_pos (Int32.not_le.mp h1)] at he
    refine lv_aload_n hx hb dX11_found_9 rfl (lv_at hl 0 rfl) ?_
    refine lv_iload_n hx hb dX11_found_10 rfl (lv_at hl 1 rfl) ?_
    refine lv_iload hx hb dX11_found_11 (lv_at hl 4 rfl) ?_
    refine lv_iadd hx hb dX11_found_13 ?_
    obtain ⟨h2, he⟩ := g_ck_some he
    refine g_iald E hM (o := a0) ha0 (g_yp hYa0) h2 dX11_found_14 ?_
    refine lv_iload_n hx hb dX11_found_15 rfl (lv_at hl 3 rfl) ?_
    refine lv_icmp_ne (tgt := 22) hx hb dX11_found_16 (by decide) (fun h3 => ?_) (fun h3 => ?_)
    · rw [if_neg h3] at he
      obtain ⟨x4, hx4, he⟩ := g_let_ex he
      refine lv_iinc (v := x4) (lv' := [(4, .int x4), (0, .ref (B + a0)), (1, .int a1), (2, .int a2), (3, .int a3)]) hx hb dX11_found_22 hl (k := 4) rfl (by rw [hx4]; rfl) (by decide) rfl (fun ls hl => ?_)
      refine lv_goto (tgt := 3) hx hb dX11_found_25 (by decide) ?_
      exact hs3 _ _ _ _ hM (lv_sub hl [1, 2, 3, 4, 0] rfl) he
    · rw [if_pos h3] at he
      refine lv_iload hx hb dX11_found_19 (lv_at hl 4 rfl) ?_
      cases he
      exact g_iret E hM hret hlk dX11_found_21

set_option maxHeartbeats 4000000 in
set_option maxRecDepth 100000 in
theorem w11_found_b3 (E : g_C p s m args c cX11_found RX11 D aC (g_Zs (g_A B 44))) (hml : c.maxLocals = 5) (hret : meth.sig.returnType = (some .int)) (hlk : meth.locks = false) {F : Nat} {q0 : Int32} {a0 : Nat} {a1 : Int32} {a2 : Int32} {a3 : Int32} (ha0 : a0 < 44) (hYa0 : (yM.1 a0).1 = 50) {mem : g_M} : ∀ (v4 : Int32) (H : Heap) (locs : List Loc) (ls : Array Slot), g_At D aC B yM 44 mem s.heap H locs → lv_has ls 5 [(0, .ref (B + a0)), (1, .int a1), (2, .int a2), (3, .int a3), (4, .int v4)] → f11_found_b3 F a0 a1 a2 a3 mem v4 = some q0 → W p l e (g_rm 1) s m args below meth c H locs 0 0 (g_MQ below D aC B yM 44 args s (some (.int q0)) mem) (F0 m 3 ls []) := by
  have key : ∀ (nn : Nat) (x : Int32) (H : Heap) (locs : List Loc) (ls : Array Slot), g_At D aC B yM 44 mem s.heap H locs → lv_has ls 5 [(0, .ref (B + a0)), (1, .int a1), (2, .int a2), (3, .int a3), (4, .int x)] → g_fix (fun sf x => f11_found_b3_body F a0 a1 a2 a3 (fun v4 => sf v4) mem x) nn x = some q0 → W p l e (g_rm 1) s m args below meth c H locs 0 0 (g_MQ below D aC B yM 44 args s (some (.int q0)) mem) (F0 m 3 ls []) := by
    intro nn
    induction nn with
    | zero => intro x H locs ls hM hl he; simp [g_fix] at he
    | succ nn ih =>
      intro x H locs ls hM hl he
      exact w11_found_b3_body (F := F) (a0 := a0) (a1 := a1) (a2 := a2) (a3 := a3) E hml hret hlk ha0 hYa0 (fun v4 H locs ls hM hl he => ih v4 H locs ls hM hl he) x H locs ls hM hl he
  intro v4 H locs ls hM hl he
  exact key F v4 H locs ls hM hl he

set_option maxHeartbeats 4000000 in
set_option maxRecDepth 100000 in
theorem c11_found (l : Launch) (D : va_G) (aC : Nat → ClassId) (B : Nat) {F : Nat} {a0 : Nat} (ha0 : a0 < 44) (hYa0 : (yM.1 a0).1 = 50) {a1 : Int32} {a2 : Int32} {a3 : Int32} {mem : g_M} {q0 : Int32} (he : f11_found F a0 a1 a2 a3 mem = some q0) : g_Met l yX11_found cX11_found 5 (some .int) 1 D aC B yM 44 mem [.ref (B + a0), .int a1, .int a2, .int a3] (some (.int q0)) mem := by
  refine g_ofW (by decide) (Nat.le_of_ble_eq_true rfl) ?_
  intro p e s m args below meth c ls E hml hret hlk hM hl
  have E : g_C p s m args c cX11_found RX11 D aC (g_Zs (g_A B 44)) := E
  have hx := E.1
  have hb := E.2.1
  have hown := E.2.2.1
  have hts := E.2.2.2.1
  have hl : lv_has ls 5 [(0, .ref (B + a0)), (1, .int a1), (2, .int a2), (3, .int a3)] := hl
  unfold f11_found at he
  refine lv_iconst (v := (0 : Int32)) hx hb dX11_found_0 rfl ?_
  refine lv_istore (lv' := [(4, .int (0 : Int32)), (0, .ref (B + a0)), (1, .int a1), (2, .int a2), (3, .int a3)]) hx hb dX11_found_1 hl (by decide) rfl (fun ls hl => ?_)
  exact w11_found_b3 (F := F) (a0 := a0) (a1 := a1) (a2 := a2) (a3 := a3) E hml hret hlk ha0 hYa0 _ _ _ _ hM (lv_sub hl [1, 2, 3, 4, 0] rfl) he

set_option maxHeartbeats 4000000 in
set_option maxRecDepth 100000 in
theorem w11_fresh_b44 (E : g_C p s m args c cX11_fresh RX11 D aC (g_Zs (g_A B 44))) (hml : c.maxLocals = 5) (hret : meth.sig.returnType = (some .int)) (hlk : meth.locks = false) {F : Nat} {q0 : Int32 × g_M} {a1 : Nat} {a2 : Int32} {a3 : Int32} (ha1 : a1 < 44) (hYa1 : (yM.1 a1).1 = 50) : ∀ (mem : g_M) (H : Heap) (locs : List Loc) (ls : Array Slot), g_At D aC B yM 44 mem s.heap H locs → lv_has ls 5 [(0, .ref (B + 0))] → f11_fresh_b44 F a1 a2 a3 mem = some q0 → W p l e (g_rm 7) s m args below meth c H locs 0 0 (g_MQ below D aC B yM 44 args s (some (.int q0.1)) q0.2) (F0 m 44 ls []) := by
  intro mem H locs ls hM hl he
  unfold f11_fresh_b44 at he
  have hx := E.1
  have hb := E.2.1
  have hown := E.2.2.1
  have hts := E.2.2.2.1
  refine lv_aload_n hx hb dX11_fresh_44 rfl (lv_at hl 0 rfl) ?_
  refine g_getI E hM (o := 0) (Nat.le_of_ble_eq_true rfl) rfl fl_X11_211 dX11_fresh_45 ?_
  refine lv_if_eq (tgt := 53) hx hb dX11_fresh_48 (by decide) (fun h1 => ?_) (fun h1 => ?_)
  · rw [if_pos h1] at he
    refine lv_aload_n hx hb dX11_fresh_53 rfl (lv_at hl 0 rfl) ?_
    refine g_getI E hM (o := 0) (Nat.le_of_ble_eq_true rfl) rfl fl_X11_186 dX11_fresh_54 ?_
    obtain ⟨x2, hx2, he⟩ := g_let_ex he
    refine g_topI hx2 ?_
    refine lv_istore (lv' := [(4, .int x2), (0, .ref (B + 0))]) hx hb dX11_fresh_57 hl (by decide) rfl (fun ls hl => ?_)
    refine lv_aload_n hx hb dX11_fresh_59 rfl (lv_at hl 1 rfl) ?_
    obtain ⟨r3, hcr3, he⟩ := g_bind he
    refine g_callV [] (rest := []) E hml hl.1 hM cv_X11_217 (c11_token l D aC B hcr3) (o := 0) (Nat.le_of_ble_eq_true rfl) rfl (by decide) rfl rfl (Nat.le_of_ble_eq_true rfl) dX11_fresh_60 (fun H locs hM => ?_)
    refine W.eq (g2 := F0 m 63 ls []) rfl ?_
    refine lv_iload hx hb dX11_fresh_63 (lv_at hl 0 rfl) ?_
    cases he
    exact g_iret E hM hret hlk dX11_fresh_65
  · rw [if_neg h1] at he
    refine lv_iconst (v := (0 : Int32)) hx hb dX11_fresh_51 rfl ?_
    cases he
    exact g_iret E hM hret hlk dX11_fresh_52

set_option maxHeartbeats 4000000 in
set_option maxRecDepth 100000 in
theorem c11_fresh (l : Launch) (D : va_G) (aC : Nat → ClassId) (B : Nat) {F : Nat} {a1 : Nat} (ha1 : a1 < 44) (hYa1 : (yM.1 a1).1 = 50) {a2 : Int32} {a3 : Int32} {mem : g_M} {q0 : Int32 × g_M} (he : f11_fresh F a1 a2 a3 mem = some q0) : g_Met l yX11_fresh cX11_fresh 5 (some .int) 7 D aC B yM 44 mem [.ref (B + 0), .ref (B + a1), .int a2, .int a3] (some (.int q0.1)) q0.2 := by
  refine g_ofW (by decide) (Nat.le_of_ble_eq_true rfl) ?_
  intro p e s m args below meth c ls E hml hret hlk hM hl
  have E : g_C p s m args c cX11_fresh RX11 D aC (g_Zs (g_A B 44)) := E
  have hx := E.1
  have hb := E.2.1
  have hown := E.2.2.1
  have hts := E.2.2.2.1
  have hl : lv_has ls 5 [(0, .ref (B + 0)), (1, .ref (B + a1)), (2, .int a2), (3, .int a3)] := hl
  unfold f11_fresh at he
  refine lv_aload_n hx hb dX11_fresh_0 rfl (lv_at hl 0 rfl) ?_
  refine g_getI E hM (o := 0) (Nat.le_of_ble_eq_true rfl) rfl fl_X11_211 dX11_fresh_1 ?_
  refine lv_if_eq (tgt := 9) hx hb dX11_fresh_4 (by decide) (fun h4 => ?_) (fun h4 => ?_)
  · rw [if_pos h4] at he
    refine lv_aload_n hx hb dX11_fresh_9 rfl (lv_at hl 0 rfl) ?_
    refine g_getI E hM (o := 0) (Nat.le_of_ble_eq_true rfl) rfl fl_X11_176 dX11_fresh_10 ?_
    refine lv_iconst (v := (1 : Int32)) hx hb dX11_fresh_13 rfl ?_
    refine lv_icmp_eq (tgt := 25) hx hb dX11_fresh_14 (by decide) (fun h5 => ?_) (fun h5 => ?_)
    · rw [if_pos h5] at he
      refine lv_aload_n hx hb dX11_fresh_25 rfl (lv_at hl 1 rfl) ?_
      refine lv_iload_n hx hb dX11_fresh_26 rfl (lv_at hl 2 rfl) ?_
      refine lv_iload_n hx hb dX11_fresh_27 rfl (lv_at hl 3 rfl) ?_
      refine lv_aload_n hx hb dX11_fresh_28 rfl (lv_at hl 0 rfl) ?_
      refine g_getI E hM (o := 0) (Nat.le_of_ble_eq_true rfl) rfl fl_X11_186 dX11_fresh_29 ?_
      obtain ⟨r7, hcr7, he⟩ := g_bind he
      refine g_callS [.ref (B + a1), .int a2, .int a3, .int (mem.1 0 29)] (rest := []) E hml hl.1 hM cs_X11_223 (c11_found l D aC B ha1 (congrArg Prod.fst (g_yp hYa1)) hcr7) (by decide) rfl rfl (Nat.le_of_ble_eq_true rfl) dX11_fresh_32 (fun H locs hM => ?_)
      refine W.eq (g2 := F0 m 35 ls [.int r7]) rfl ?_
      refine lv_iconst (v := (-1 : Int32)) hx hb dX11_fresh_35 rfl ?_
      refine lv_icmp_eq (tgt := 44) hx hb dX11_fresh_36 (by decide) (fun h8 => ?_) (fun h8 => ?_)
      · rw [if_pos h8] at he
        exact w11_fresh_b44 (F := F) (a1 := a1) (a2 := a2) (a3 := a3) E hml hret hlk ha1 hYa1 _ _ _ _ hM (lv_sub hl [0] rfl) he
      · rw [if_neg h8] at he
        refine lv_aload_n hx hb dX11_fresh_39 rfl (lv_at hl 0 rfl) ?_
        refine lv_iconst (v := (3 : Int32)) hx hb dX11_fresh_40 rfl ?_
        obtain ⟨r9, hcr9, he⟩ := g_bind he
        refine g_callV [.int (3 : Int32)] (rest := []) E hml hl.1 hM cv_X11_220 (c11_wrong l D aC B hcr9) (o := 0) (Nat.le_of_ble_eq_true rfl) rfl (by decide) rfl rfl (Nat.le_of_ble_eq_true rfl) dX11_fresh_41 (fun H locs hM => ?_)
        refine W.eq (g2 := F0 m 44 ls []) rfl ?_
        exact w11_fresh_b44 (F := F) (a1 := a1) (a2 := a2) (a3 := a3) E hml hret hlk ha1 hYa1 _ _ _ _ hM (lv_sub hl [0] rfl) he
    · rw [if_neg h5] at he
      refine lv_aload_n hx hb dX11_fresh_17 rfl (lv_at hl 0 rfl) ?_
      refine lv_iconst (v := (1 : Int32)) hx hb dX11_fresh_18 rfl ?_
      obtain ⟨r6, hcr6, he⟩ := g_bind he
      refine g_callV [.int (1 : Int32)] (rest := []) E hml hl.1 hM cv_X11_220 (c11_wrong l D aC B hcr6) (o := 0) (Nat.le_of_ble_eq_true rfl) rfl (by decide) rfl rfl (Nat.le_of_ble_eq_true rfl) dX11_fresh_19 (fun H locs hM => ?_)
      refine W.eq (g2 := F0 m 22 ls []) rfl ?_
      refine lv_goto (tgt := 44) hx hb dX11_fresh_22 (by decide) ?_
      exact w11_fresh_b44 (F := F) (a1 := a1) (a2 := a2) (a3 := a3) E hml hret hlk ha1 hYa1 _ _ _ _ hM (lv_sub hl [0] rfl) he
  · rw [if_neg h4] at he
    refine lv_iconst (v := (0 : Int32)) hx hb dX11_fresh_7 rfl ?_
    cases he
    exact g_iret E hM hret hlk dX11_fresh_8

set_option maxHeartbeats 4000000 in
set_option maxRecDepth 100000 in
theorem c11_fresher (l : Launch) (D : va_G) (aC : Nat → ClassId) (B : Nat) {F : Nat} {a1 : Int32} {mem : g_M} {q0 : Int32} (he : f11_fresher F a1 mem = some q0) : g_Met l yX11_fresher cX11_fresher 2 (some .int) 1 D aC B yM 44 mem [.ref (B + 0), .int a1] (some (.int q0)) mem := by
  refine g_ofW (by decide) (Nat.le_of_ble_eq_true rfl) ?_
  intro p e s m args below meth c ls E hml hret hlk hM hl
  have E : g_C p s m args c cX11_fresher RX11 D aC (g_Zs (g_A B 44)) := E
  have hx := E.1
  have hb := E.2.1
  have hown := E.2.2.1
  have hts := E.2.2.2.1
  have hl : lv_has ls 2 [(0, .ref (B + 0)), (1, .int a1)] := hl
  unfold f11_fresher at he
  refine lv_aload_n hx hb dX11_fresher_0 rfl (lv_at hl 0 rfl) ?_
  refine g_getP E hM (o := 0) (Nat.le_of_ble_eq_true rfl) rfl fl_X11_13 (q := 2) rfl dX11_fresher_1 ?_
  refine lv_bipush (v := (9 : Int32)) hx hb dX11_fresher_4 rfl ?_
  refine lv_iload_n hx hb dX11_fresher_6 rfl (lv_at hl 1 rfl) ?_
  refine lv_iadd hx hb dX11_fresher_7 ?_
  obtain ⟨h1, he⟩ := g_ck_some he
  refine g_iald E hM (o := 2) (Nat.le_of_ble_eq_true rfl) rfl h1 dX11_fresher_8 ?_
  cases he
  exact g_iret E hM hret hlk dX11_fresher_9

set_option maxHeartbeats 4000000 in
set_option maxRecDepth 100000 in
theorem c11_reads (l : Launch) (D : va_G) (aC : Nat → ClassId) (B : Nat) {F : Nat} {a1 : Int32} {a2 : Int32} {mem : g_M} {q0 : g_M} (he : f11_reads F a1 a2 mem = some q0) : g_Met l yX11_reads cX11_reads 3 none 1 D aC B yM 44 mem [.ref (B + 0), .int a1, .int a2] none q0 := by
  refine g_ofW (by decide) (Nat.le_of_ble_eq_true rfl) ?_
  intro p e s m args below meth c ls E hml hret hlk hM hl
  have E : g_C p s m args c cX11_reads RX11 D aC (g_Zs (g_A B 44)) := E
  have hx := E.1
  have hb := E.2.1
  have hown := E.2.2.1
  have hts := E.2.2.2.1
  have hl : lv_has ls 3 [(0, .ref (B + 0)), (1, .int a1), (2, .int a2)] := hl
  unfold f11_reads at he
  refine lv_aload_n hx hb dX11_reads_0 rfl (lv_at hl 0 rfl) ?_
  refine g_getP E hM (o := 0) (Nat.le_of_ble_eq_true rfl) rfl fl_X11_13 (q := 2) rfl dX11_reads_1 ?_
  refine lv_bipush (v := (9 : Int32)) hx hb dX11_reads_4 rfl ?_
  refine lv_iload_n hx hb dX11_reads_6 rfl (lv_at hl 1 rfl) ?_
  refine lv_iadd hx hb dX11_reads_7 ?_
  refine lv_iload_n hx hb dX11_reads_8 rfl (lv_at hl 2 rfl) ?_
  obtain ⟨h1, he⟩ := g_ck_some he
  refine g_iast E hM (o := 2) (Nat.le_of_ble_eq_true rfl) rfl h1 dX11_reads_9 (fun H locs hM => ?_)
  obtain ⟨m2, hm2, he⟩ := g_let_ex he
  rw [← hm2] at hM
  cases he
  exact g_vret E hM hret hlk dX11_reads_10

set_option maxHeartbeats 4000000 in
set_option maxRecDepth 100000 in
theorem w11_toldAhead_b63 (E : g_C p s m args c cX11_toldAhead RX11 D aC (g_Zs (g_A B 44))) (hml : c.maxLocals = 5) (hret : meth.sig.returnType = (some .int)) (hlk : meth.locks = false) {F : Nat} {q0 : Int32 × g_M} {a1 : Nat} {a2 : Int32} {a3 : Int32} (ha1 : a1 < 44) (hYa1 : (yM.1 a1).1 = 50) : ∀ (v4 : Int32) (mem : g_M) (H : Heap) (locs : List Loc) (ls : Array Slot), g_At D aC B yM 44 mem s.heap H locs → lv_has ls 5 [(0, .ref (B + 0)), (4, .int v4)] → f11_toldAhead_b63 F a1 a2 a3 v4 mem = some q0 → W p l e (g_rm 8) s m args below meth c H locs 0 0 (g_MQ below D aC B yM 44 args s (some (.int q0.1)) q0.2) (F0 m 63 ls []) := by
  intro v4 mem H locs ls hM hl he
  unfold f11_toldAhead_b63 at he
  have hx := E.1
  have hb := E.2.1
  have hown := E.2.2.1
  have hts := E.2.2.2.1
  refine lv_aload_n hx hb dX11_toldAhead_63 rfl (lv_at hl 0 rfl) ?_
  obtain ⟨r1, hcr1, he⟩ := g_bind he
  refine g_callV [] (rest := []) E hml hl.1 hM cv_X11_227 (c11_goOn l D aC B hcr1) (o := 0) (Nat.le_of_ble_eq_true rfl) rfl (by decide) rfl rfl (Nat.le_of_ble_eq_true rfl) dX11_toldAhead_64 (fun H locs hM => ?_)
  refine W.eq (g2 := F0 m 67 ls []) rfl ?_
  refine lv_aload_n hx hb dX11_toldAhead_67 rfl (lv_at hl 0 rfl) ?_
  refine g_getI E hM (o := 0) (Nat.le_of_ble_eq_true rfl) rfl fl_X11_211 dX11_toldAhead_68 ?_
  refine lv_if_eq (tgt := 78) hx hb dX11_toldAhead_71 (by decide) (fun h2 => ?_) (fun h2 => ?_)
  · rw [if_pos h2] at he
    refine lv_iload hx hb dX11_toldAhead_78 (lv_at hl 1 rfl) ?_
    cases he
    exact g_iret E hM hret hlk dX11_toldAhead_80
  · rw [if_neg h2] at he
    refine lv_iconst (v := (0 : Int32)) hx hb dX11_toldAhead_74 rfl ?_
    refine lv_goto (tgt := 80) hx hb dX11_toldAhead_75 (by decide) ?_
    cases he
    exact g_iret E hM hret hlk dX11_toldAhead_80

set_option maxHeartbeats 4000000 in
set_option maxRecDepth 100000 in
theorem w11_toldAhead_b43 (E : g_C p s m args c cX11_toldAhead RX11 D aC (g_Zs (g_A B 44))) (hml : c.maxLocals = 5) (hret : meth.sig.returnType = (some .int)) (hlk : meth.locks = false) {F : Nat} {q0 : Int32 × g_M} {a1 : Nat} {a2 : Int32} {a3 : Int32} (ha1 : a1 < 44) (hYa1 : (yM.1 a1).1 = 50) : ∀ (w0 : Int32) (mem : g_M) (H : Heap) (locs : List Loc) (ls : Array Slot), g_At D aC B yM 44 mem s.heap H locs → lv_has ls 5 [(0, .ref (B + 0))] → f11_toldAhead_b43 F a1 a2 a3 w0 mem = some q0 → W p l e (g_rm 8) s m args below meth c H locs 0 0 (g_MQ below D aC B yM 44 args s (some (.int q0.1)) q0.2) (F0 m 43 ls [.int w0]) := by
  intro w0 mem H locs ls hM hl he
  unfold f11_toldAhead_b43 at he
  have hx := E.1
  have hb := E.2.1
  have hown := E.2.2.1
  have hts := E.2.2.2.1
  refine lv_istore (lv' := [(4, .int w0), (0, .ref (B + 0))]) hx hb dX11_toldAhead_43 hl (by decide) rfl (fun ls hl => ?_)
  refine lv_aload_n hx hb dX11_toldAhead_45 rfl (lv_at hl 1 rfl) ?_
  refine g_getI E hM (o := 0) (Nat.le_of_ble_eq_true rfl) rfl fl_X11_211 dX11_toldAhead_46 ?_
  refine lv_if_ne (tgt := 63) hx hb dX11_toldAhead_49 (by decide) (fun h3 => ?_) (fun h3 => ?_)
  · rw [if_neg h3] at he
    exact w11_toldAhead_b63 (F := F) (a1 := a1) (a2 := a2) (a3 := a3) E hml hret hlk ha1 hYa1 _ _ _ _ _ hM (lv_sub hl [1, 0] rfl) he
  · rw [if_pos h3] at he
    refine lv_iload hx hb dX11_toldAhead_52 (lv_at hl 0 rfl) ?_
    refine lv_iconst (v := (-1 : Int32)) hx hb dX11_toldAhead_54 rfl ?_
    refine lv_icmp_ne (tgt := 63) hx hb dX11_toldAhead_55 (by decide) (fun h4 => ?_) (fun h4 => ?_)
    · rw [if_neg h4] at he
      exact w11_toldAhead_b63 (F := F) (a1 := a1) (a2 := a2) (a3 := a3) E hml hret hlk ha1 hYa1 _ _ _ _ _ hM (lv_sub hl [1, 0] rfl) he
    · rw [if_pos h4] at he
      refine lv_aload_n hx hb dX11_toldAhead_58 rfl (lv_at hl 1 rfl) ?_
      refine lv_iconst (v := (4 : Int32)) hx hb dX11_toldAhead_59 rfl ?_
      obtain ⟨r5, hcr5, he⟩ := g_bind he
      refine g_callV [.int (4 : Int32)] (rest := []) E hml hl.1 hM cv_X11_220 (c11_wrong l D aC B hcr5) (o := 0) (Nat.le_of_ble_eq_true rfl) rfl (by decide) rfl rfl (Nat.le_of_ble_eq_true rfl) dX11_toldAhead_60 (fun H locs hM => ?_)
      refine W.eq (g2 := F0 m 63 ls []) rfl ?_
      exact w11_toldAhead_b63 (F := F) (a1 := a1) (a2 := a2) (a3 := a3) E hml hret hlk ha1 hYa1 _ _ _ _ _ hM (lv_sub hl [1, 0] rfl) he

set_option maxHeartbeats 4000000 in
set_option maxRecDepth 100000 in
theorem w11_toldAhead_b22 (E : g_C p s m args c cX11_toldAhead RX11 D aC (g_Zs (g_A B 44))) (hml : c.maxLocals = 5) (hret : meth.sig.returnType = (some .int)) (hlk : meth.locks = false) {F : Nat} {q0 : Int32 × g_M} {a1 : Nat} {a2 : Int32} {a3 : Int32} (ha1 : a1 < 44) (hYa1 : (yM.1 a1).1 = 50) : ∀ (mem : g_M) (H : Heap) (locs : List Loc) (ls : Array Slot), g_At D aC B yM 44 mem s.heap H locs → lv_has ls 5 [(0, .ref (B + 0)), (1, .ref (B + a1)), (2, .int a2), (3, .int a3)] → f11_toldAhead_b22 F a1 a2 a3 mem = some q0 → W p l e (g_rm 8) s m args below meth c H locs 0 0 (g_MQ below D aC B yM 44 args s (some (.int q0.1)) q0.2) (F0 m 22 ls []) := by
  intro mem H locs ls hM hl he
  unfold f11_toldAhead_b22 at he
  have hx := E.1
  have hb := E.2.1
  have hown := E.2.2.1
  have hts := E.2.2.2.1
  refine lv_aload_n hx hb dX11_toldAhead_22 rfl (lv_at hl 0 rfl) ?_
  refine g_getI E hM (o := 0) (Nat.le_of_ble_eq_true rfl) rfl fl_X11_211 dX11_toldAhead_23 ?_
  refine lv_if_ne (tgt := 42) hx hb dX11_toldAhead_26 (by decide) (fun h6 => ?_) (fun h6 => ?_)
  · rw [if_neg h6] at he
    refine lv_iconst (v := (0 : Int32)) hx hb dX11_toldAhead_42 rfl ?_
    exact w11_toldAhead_b43 (F := F) (a1 := a1) (a2 := a2) (a3 := a3) E hml hret hlk ha1 hYa1 _ _ _ _ _ hM (lv_sub hl [0] rfl) he
  · rw [if_pos h6] at he
    refine lv_aload_n hx hb dX11_toldAhead_29 rfl (lv_at hl 1 rfl) ?_
    refine lv_iload_n hx hb dX11_toldAhead_30 rfl (lv_at hl 2 rfl) ?_
    refine lv_iload_n hx hb dX11_toldAhead_31 rfl (lv_at hl 3 rfl) ?_
    refine lv_aload_n hx hb dX11_toldAhead_32 rfl (lv_at hl 0 rfl) ?_
    refine g_getI E hM (o := 0) (Nat.le_of_ble_eq_true rfl) rfl fl_X11_186 dX11_toldAhead_33 ?_
    obtain ⟨r7, hcr7, he⟩ := g_bind he
    refine g_callS [.ref (B + a1), .int a2, .int a3, .int (mem.1 0 29)] (rest := []) E hml hl.1 hM cs_X11_223 (c11_found l D aC B ha1 (congrArg Prod.fst (g_yp hYa1)) hcr7) (by decide) rfl rfl (Nat.le_of_ble_eq_true rfl) dX11_toldAhead_36 (fun H locs hM => ?_)
    refine W.eq (g2 := F0 m 39 ls [.int r7]) rfl ?_
    refine lv_goto (tgt := 43) hx hb dX11_toldAhead_39 (by decide) ?_
    exact w11_toldAhead_b43 (F := F) (a1 := a1) (a2 := a2) (a3 := a3) E hml hret hlk ha1 hYa1 _ _ _ _ _ hM (lv_sub hl [0] rfl) he

set_option maxHeartbeats 4000000 in
set_option maxRecDepth 100000 in
theorem c11_toldAhead (l : Launch) (D : va_G) (aC : Nat → ClassId) (B : Nat) {F : Nat} {a1 : Nat} (ha1 : a1 < 44) (hYa1 : (yM.1 a1).1 = 50) {a2 : Int32} {a3 : Int32} {mem : g_M} {q0 : Int32 × g_M} (he : f11_toldAhead F a1 a2 a3 mem = some q0) : g_Met l yX11_toldAhead cX11_toldAhead 5 (some .int) 8 D aC B yM 44 mem [.ref (B + 0), .ref (B + a1), .int a2, .int a3] (some (.int q0.1)) q0.2 := by
  refine g_ofW (by decide) (Nat.le_of_ble_eq_true rfl) ?_
  intro p e s m args below meth c ls E hml hret hlk hM hl
  have E : g_C p s m args c cX11_toldAhead RX11 D aC (g_Zs (g_A B 44)) := E
  have hx := E.1
  have hb := E.2.1
  have hown := E.2.2.1
  have hts := E.2.2.2.1
  have hl : lv_has ls 5 [(0, .ref (B + 0)), (1, .ref (B + a1)), (2, .int a2), (3, .int a3)] := hl
  unfold f11_toldAhead at he
  refine lv_aload_n hx hb dX11_toldAhead_0 rfl (lv_at hl 0 rfl) ?_
  refine g_getI E hM (o := 0) (Nat.le_of_ble_eq_true rfl) rfl fl_X11_211 dX11_toldAhead_1 ?_
  refine lv_if_eq (tgt := 9) hx hb dX11_toldAhead_4 (by decide) (fun h8 => ?_) (fun h8 => ?_)
  · rw [if_pos h8] at he
    refine lv_aload_n hx hb dX11_toldAhead_9 rfl (lv_at hl 0 rfl) ?_
    refine g_getI E hM (o := 0) (Nat.le_of_ble_eq_true rfl) rfl fl_X11_176 dX11_toldAhead_10 ?_
    refine lv_iconst (v := (1 : Int32)) hx hb dX11_toldAhead_13 rfl ?_
    refine lv_icmp_eq (tgt := 22) hx hb dX11_toldAhead_14 (by decide) (fun h9 => ?_) (fun h9 => ?_)
    · rw [if_pos h9] at he
      exact w11_toldAhead_b22 (F := F) (a1 := a1) (a2 := a2) (a3 := a3) E hml hret hlk ha1 hYa1 _ _ _ _ hM (lv_sub hl [0, 1, 2, 3] rfl) he
    · rw [if_neg h9] at he
      refine lv_aload_n hx hb dX11_toldAhead_17 rfl (lv_at hl 0 rfl) ?_
      refine lv_iconst (v := (1 : Int32)) hx hb dX11_toldAhead_18 rfl ?_
      obtain ⟨r10, hcr10, he⟩ := g_bind he
      refine g_callV [.int (1 : Int32)] (rest := []) E hml hl.1 hM cv_X11_220 (c11_wrong l D aC B hcr10) (o := 0) (Nat.le_of_ble_eq_true rfl) rfl (by decide) rfl rfl (Nat.le_of_ble_eq_true rfl) dX11_toldAhead_19 (fun H locs hM => ?_)
      refine W.eq (g2 := F0 m 22 ls []) rfl ?_
      exact w11_toldAhead_b22 (F := F) (a1 := a1) (a2 := a2) (a3 := a3) E hml hret hlk ha1 hYa1 _ _ _ _ hM (lv_sub hl [0, 1, 2, 3] rfl) he
  · rw [if_neg h8] at he
    refine lv_iconst (v := (0 : Int32)) hx hb dX11_toldAhead_7 rfl ?_
    cases he
    exact g_iret E hM hret hlk dX11_toldAhead_8

set_option maxHeartbeats 4000000 in
set_option maxRecDepth 100000 in
theorem c11_manAhead (l : Launch) (D : va_G) (aC : Nat → ClassId) (B : Nat) {F : Nat} {mem : g_M} {q0 : Int32 × g_M} (he : f11_manAhead F mem = some q0) : g_Met l yX11_manAhead cX11_manAhead 1 (some .int) 9 D aC B yM 44 mem [.ref (B + 0)] (some (.int q0.1)) q0.2 := by
  refine g_ofW (by decide) (Nat.le_of_ble_eq_true rfl) ?_
  intro p e s m args below meth c ls E hml hret hlk hM hl
  have E : g_C p s m args c cX11_manAhead RX11 D aC (g_Zs (g_A B 44)) := E
  have hx := E.1
  have hb := E.2.1
  have hown := E.2.2.1
  have hts := E.2.2.2.1
  have hl : lv_has ls 1 [(0, .ref (B + 0))] := hl
  unfold f11_manAhead at he
  refine lv_aload_n hx hb dX11_manAhead_0 rfl (lv_at hl 0 rfl) ?_
  refine lv_aload_n hx hb dX11_manAhead_1 rfl (lv_at hl 0 rfl) ?_
  refine g_getP E hM (o := 0) (Nat.le_of_ble_eq_true rfl) rfl fl_X11_16 (q := 3) rfl dX11_manAhead_2 ?_
  refine lv_iconst (v := (5 : Int32)) hx hb dX11_manAhead_5 rfl ?_
  refine lv_aload_n hx hb dX11_manAhead_6 rfl (lv_at hl 0 rfl) ?_
  refine lv_iconst (v := (0 : Int32)) hx hb dX11_manAhead_7 rfl ?_
  obtain ⟨r1, hcr1, he⟩ := g_bind he
  refine g_callV [.int (0 : Int32)] (rest := [.int (5 : Int32), .ref (B + 3), .ref (B + 0)]) E hml hl.1 hM cv_X11_230 (c11_fresher l D aC B hcr1) (o := 0) (Nat.le_of_ble_eq_true rfl) rfl (by decide) rfl rfl (Nat.le_of_ble_eq_true rfl) dX11_manAhead_8 (fun H locs hM => ?_)
  refine W.eq (g2 := F0 m 11 ls [.int r1, .int (5 : Int32), .ref (B + 3), .ref (B + 0)]) rfl ?_
  obtain ⟨r2, hcr2, he⟩ := g_bind he
  refine g_callV [.ref (B + 3), .int (5 : Int32), .int r1] (rest := []) E hml hl.1 hM cv_X11_234 (c11_toldAhead l D aC B (Nat.le_of_ble_eq_true rfl) rfl hcr2) (o := 0) (Nat.le_of_ble_eq_true rfl) rfl (by decide) rfl rfl (Nat.le_of_ble_eq_true rfl) dX11_manAhead_11 (fun H locs hM => ?_)
  refine W.eq (g2 := F0 m 14 ls [.int r2.1]) rfl ?_
  cases he
  exact g_iret E hM hret hlk dX11_manAhead_14

set_option maxHeartbeats 4000000 in
set_option maxRecDepth 100000 in
theorem c11_isFull (l : Launch) (D : va_G) (aC : Nat → ClassId) (B : Nat) {F : Nat} {a1 : Int32} {mem : g_M} {q0 : Int32} (he : f11_isFull F a1 mem = some q0) : g_Met l yX11_isFull cX11_isFull 2 (some .boolean) 2 D aC B yM 44 mem [.ref (B + 0), .int a1] (some (.int q0)) mem := by
  refine g_ofW (by decide) (Nat.le_of_ble_eq_true rfl) ?_
  intro p e s m args below meth c ls E hml hret hlk hM hl
  have E : g_C p s m args c cX11_isFull RX11 D aC (g_Zs (g_A B 44)) := E
  have hx := E.1
  have hb := E.2.1
  have hown := E.2.2.1
  have hts := E.2.2.2.1
  have hl : lv_has ls 2 [(0, .ref (B + 0)), (1, .int a1)] := hl
  unfold f11_isFull at he
  refine lv_iload_n hx hb dX11_isFull_0 rfl (lv_at hl 1 rfl) ?_
  by_cases h1 : a1 = (0 : Int32)
  · rw [if_pos h1] at he
    refine lv_tableIn (tgt := 36) (off := 35) hx hb dX11_isFull_1 (by rw [h1]; decide) (by rw [h1]; decide) (by rw [h1]; rfl) (by decide) ?_
    refine lv_aload_n hx hb dX11_isFull_36 rfl (lv_at hl 0 rfl) ?_
    refine lv_iconst (v := (0 : Int32)) hx hb dX11_isFull_37 rfl ?_
    obtain ⟨r2, hcr2, he⟩ := g_bind he
    refine g_callV [.int (0 : Int32)] (rest := []) E hml hl.1 hM cv_X11_230 (c11_fresher l D aC B hcr2) (o := 0) (Nat.le_of_ble_eq_true rfl) rfl (by decide) rfl rfl (Nat.le_of_ble_eq_true rfl) dX11_isFull_38 (fun H locs hM => ?_)
    refine W.eq (g2 := F0 m 41 ls [.int r2]) rfl ?_
    refine lv_iconst (v := (5 : Int32)) hx hb dX11_isFull_41 rfl ?_
    refine lv_icmp_ne (tgt := 49) hx hb dX11_isFull_42 (by decide) (fun h3 => ?_) (fun h3 => ?_)
    · rw [if_neg h3] at he
      refine lv_iconst (v := (0 : Int32)) hx hb dX11_isFull_49 rfl ?_
      cases he
      exact g_zret E hM hret hlk (Or.inl rfl) dX11_isFull_50
    · rw [if_pos h3] at he
      refine lv_iconst (v := (1 : Int32)) hx hb dX11_isFull_45 rfl ?_
      refine lv_goto (tgt := 50) hx hb dX11_isFull_46 (by decide) ?_
      cases he
      exact g_zret E hM hret hlk (Or.inr rfl) dX11_isFull_50
  rw [if_neg h1] at he
  by_cases h4 : a1 = (1 : Int32)
  · rw [if_pos h4] at he
    refine lv_tableIn (tgt := 51) (off := 50) hx hb dX11_isFull_1 (by rw [h4]; decide) (by rw [h4]; decide) (by rw [h4]; rfl) (by decide) ?_
    refine lv_aload_n hx hb dX11_isFull_51 rfl (lv_at hl 0 rfl) ?_
    refine lv_iconst (v := (1 : Int32)) hx hb dX11_isFull_52 rfl ?_
    obtain ⟨r5, hcr5, he⟩ := g_bind he
    refine g_callV [.int (1 : Int32)] (rest := []) E hml hl.1 hM cv_X11_230 (c11_fresher l D aC B hcr5) (o := 0) (Nat.le_of_ble_eq_true rfl) rfl (by decide) rfl rfl (Nat.le_of_ble_eq_true rfl) dX11_isFull_53 (fun H locs hM => ?_)
    refine W.eq (g2 := F0 m 56 ls [.int r5]) rfl ?_
    refine lv_iconst (v := (5 : Int32)) hx hb dX11_isFull_56 rfl ?_
    refine lv_icmp_ne (tgt := 64) hx hb dX11_isFull_57 (by decide) (fun h6 => ?_) (fun h6 => ?_)
    · rw [if_neg h6] at he
      refine lv_iconst (v := (0 : Int32)) hx hb dX11_isFull_64 rfl ?_
      cases he
      exact g_zret E hM hret hlk (Or.inl rfl) dX11_isFull_65
    · rw [if_pos h6] at he
      refine lv_iconst (v := (1 : Int32)) hx hb dX11_isFull_60 rfl ?_
      refine lv_goto (tgt := 65) hx hb dX11_isFull_61 (by decide) ?_
      cases he
      exact g_zret E hM hret hlk (Or.inr rfl) dX11_isFull_65
  rw [if_neg h4] at he
  by_cases h7 : a1 = (2 : Int32)
  · rw [if_pos h7] at he
    refine lv_tableIn (tgt := 66) (off := 65) hx hb dX11_isFull_1 (by rw [h7]; decide) (by rw [h7]; decide) (by rw [h7]; rfl) (by decide) ?_
    refine lv_aload_n hx hb dX11_isFull_66 rfl (lv_at hl 0 rfl) ?_
    refine lv_iconst (v := (2 : Int32)) hx hb dX11_isFull_67 rfl ?_
    obtain ⟨r8, hcr8, he⟩ := g_bind he
    refine g_callV [.int (2 : Int32)] (rest := []) E hml hl.1 hM cv_X11_230 (c11_fresher l D aC B hcr8) (o := 0) (Nat.le_of_ble_eq_true rfl) rfl (by decide) rfl rfl (Nat.le_of_ble_eq_true rfl) dX11_isFull_68 (fun H locs hM => ?_)
    refine W.eq (g2 := F0 m 71 ls [.int r8]) rfl ?_
    refine lv_iconst (v := (5 : Int32)) hx hb dX11_isFull_71 rfl ?_
    refine lv_icmp_ne (tgt := 79) hx hb dX11_isFull_72 (by decide) (fun h9 => ?_) (fun h9 => ?_)
    · rw [if_neg h9] at he
      refine lv_iconst (v := (0 : Int32)) hx hb dX11_isFull_79 rfl ?_
      cases he
      exact g_zret E hM hret hlk (Or.inl rfl) dX11_isFull_80
    · rw [if_pos h9] at he
      refine lv_iconst (v := (1 : Int32)) hx hb dX11_isFull_75 rfl ?_
      refine lv_goto (tgt := 80) hx hb dX11_isFull_76 (by decide) ?_
      cases he
      exact g_zret E hM hret hlk (Or.inr rfl) dX11_isFull_80
  rw [if_neg h7] at he
  by_cases h10 : a1 = (3 : Int32)
  · rw [if_pos h10] at he
    refine lv_tableIn (tgt := 81) (off := 80) hx hb dX11_isFull_1 (by rw [h10]; decide) (by rw [h10]; decide) (by rw [h10]; rfl) (by decide) ?_
    refine lv_aload_n hx hb dX11_isFull_81 rfl (lv_at hl 0 rfl) ?_
    refine lv_iconst (v := (3 : Int32)) hx hb dX11_isFull_82 rfl ?_
    obtain ⟨r11, hcr11, he⟩ := g_bind he
    refine g_callV [.int (3 : Int32)] (rest := []) E hml hl.1 hM cv_X11_230 (c11_fresher l D aC B hcr11) (o := 0) (Nat.le_of_ble_eq_true rfl) rfl (by decide) rfl rfl (Nat.le_of_ble_eq_true rfl) dX11_isFull_83 (fun H locs hM => ?_)
    refine W.eq (g2 := F0 m 86 ls [.int r11]) rfl ?_
    refine lv_bipush (v := (12 : Int32)) hx hb dX11_isFull_86 rfl ?_
    refine lv_icmp_ne (tgt := 95) hx hb dX11_isFull_88 (by decide) (fun h12 => ?_) (fun h12 => ?_)
    · rw [if_neg h12] at he
      refine lv_iconst (v := (0 : Int32)) hx hb dX11_isFull_95 rfl ?_
      cases he
      exact g_zret E hM hret hlk (Or.inl rfl) dX11_isFull_96
    · rw [if_pos h12] at he
      refine lv_iconst (v := (1 : Int32)) hx hb dX11_isFull_91 rfl ?_
      refine lv_goto (tgt := 96) hx hb dX11_isFull_92 (by decide) ?_
      cases he
      exact g_zret E hM hret hlk (Or.inr rfl) dX11_isFull_96
  rw [if_neg h10] at he
  by_cases h13 : a1 = (4 : Int32)
  · rw [if_pos h13] at he
    refine lv_tableIn (tgt := 97) (off := 96) hx hb dX11_isFull_1 (by rw [h13]; decide) (by rw [h13]; decide) (by rw [h13]; rfl) (by decide) ?_
    refine lv_aload_n hx hb dX11_isFull_97 rfl (lv_at hl 0 rfl) ?_
    refine lv_iconst (v := (4 : Int32)) hx hb dX11_isFull_98 rfl ?_
    obtain ⟨r14, hcr14, he⟩ := g_bind he
    refine g_callV [.int (4 : Int32)] (rest := []) E hml hl.1 hM cv_X11_230 (c11_fresher l D aC B hcr14) (o := 0) (Nat.le_of_ble_eq_true rfl) rfl (by decide) rfl rfl (Nat.le_of_ble_eq_true rfl) dX11_isFull_99 (fun H locs hM => ?_)
    refine W.eq (g2 := F0 m 102 ls [.int r14]) rfl ?_
    refine lv_bipush (v := (8 : Int32)) hx hb dX11_isFull_102 rfl ?_
    refine lv_icmp_ne (tgt := 111) hx hb dX11_isFull_104 (by decide) (fun h15 => ?_) (fun h15 => ?_)
    · rw [if_neg h15] at he
      refine lv_iconst (v := (0 : Int32)) hx hb dX11_isFull_111 rfl ?_
      cases he
      exact g_zret E hM hret hlk (Or.inl rfl) dX11_isFull_112
    · rw [if_pos h15] at he
      refine lv_iconst (v := (1 : Int32)) hx hb dX11_isFull_107 rfl ?_
      refine lv_goto (tgt := 112) hx hb dX11_isFull_108 (by decide) ?_
      cases he
      exact g_zret E hM hret hlk (Or.inr rfl) dX11_isFull_112
  rw [if_neg h13] at he
  refine lv_tableOut (tgt := 113) hx hb dX11_isFull_1 (by have zh1 := lv_neT (a := 0) h1 rfl; have zh4 := lv_neT (a := 1) h4 rfl; have zh7 := lv_neT (a := 2) h7 rfl; have zh10 := lv_neT (a := 3) h10 rfl; have zh13 := lv_neT (a := 4) h13 rfl; omega) (by decide) ?_
  refine lv_iconst (v := (0 : Int32)) hx hb dX11_isFull_113 rfl ?_
  cases he
  exact g_zret E hM hret hlk (Or.inl rfl) dX11_isFull_114

set_option maxHeartbeats 4000000 in
set_option maxRecDepth 100000 in
theorem c11_wantLine (l : Launch) (D : va_G) (aC : Nat → ClassId) (B : Nat) {F : Nat} {a1 : Int32} {mem : g_M} {q0 : g_M} (he : f11_wantLine F a1 mem = some q0) : g_Met l yX11_wantLine cX11_wantLine 2 none 10 D aC B yM 44 mem [.ref (B + 0), .int a1] none q0 := by
  refine g_ofW (by decide) (Nat.le_of_ble_eq_true rfl) ?_
  intro p e s m args below meth c ls E hml hret hlk hM hl
  have E : g_C p s m args c cX11_wantLine RX11 D aC (g_Zs (g_A B 44)) := E
  have hx := E.1
  have hb := E.2.1
  have hown := E.2.2.1
  have hts := E.2.2.2.1
  have hl : lv_has ls 2 [(0, .ref (B + 0)), (1, .int a1)] := hl
  unfold f11_wantLine at he
  refine lv_aload_n hx hb dX11_wantLine_0 rfl (lv_at hl 0 rfl) ?_
  refine g_getP E hM (o := 0) (Nat.le_of_ble_eq_true rfl) rfl fl_X11_46 (q := 13) rfl dX11_wantLine_1 ?_
  refine lv_iload_n hx hb dX11_wantLine_4 rfl (lv_at hl 1 rfl) ?_
  refine lv_aload_n hx hb dX11_wantLine_5 rfl (lv_at hl 0 rfl) ?_
  obtain ⟨r1, hcr1, he⟩ := g_bind he
  refine g_callV [] (rest := [.int a1, .ref (B + 13)]) E hml hl.1 hM cv_X11_255 (c11_manAhead l D aC B hcr1) (o := 0) (Nat.le_of_ble_eq_true rfl) rfl (by decide) rfl rfl (Nat.le_of_ble_eq_true rfl) dX11_wantLine_6 (fun H locs hM => ?_)
  refine W.eq (g2 := F0 m 9 ls [.int r1.1, .int a1, .ref (B + 13)]) rfl ?_
  obtain ⟨h2, he⟩ := g_ck_some he
  refine g_iast E hM (o := 13) (Nat.le_of_ble_eq_true rfl) rfl h2 dX11_wantLine_9 (fun H locs hM => ?_)
  obtain ⟨m3, hm3, he⟩ := g_let_ex he
  rw [← hm3] at hM
  refine lv_aload_n hx hb dX11_wantLine_10 rfl (lv_at hl 0 rfl) ?_
  refine g_getP E hM (o := 0) (Nat.le_of_ble_eq_true rfl) rfl fl_X11_49 (q := 14) rfl dX11_wantLine_11 ?_
  refine lv_iload_n hx hb dX11_wantLine_14 rfl (lv_at hl 1 rfl) ?_
  refine lv_aload_n hx hb dX11_wantLine_15 rfl (lv_at hl 0 rfl) ?_
  refine lv_aload_n hx hb dX11_wantLine_16 rfl (lv_at hl 0 rfl) ?_
  refine g_getP E hM (o := 0) (Nat.le_of_ble_eq_true rfl) rfl fl_X11_31 (q := 8) rfl dX11_wantLine_17 ?_
  refine lv_iconst (v := (5 : Int32)) hx hb dX11_wantLine_20 rfl ?_
  refine lv_aload_n hx hb dX11_wantLine_21 rfl (lv_at hl 0 rfl) ?_
  refine lv_iconst (v := (2 : Int32)) hx hb dX11_wantLine_22 rfl ?_
  obtain ⟨r4, hcr4, he⟩ := g_bind he
  refine g_callV [.int (2 : Int32)] (rest := [.int (5 : Int32), .ref (B + 8), .ref (B + 0), .int a1, .ref (B + 14)]) E hml hl.1 hM cv_X11_230 (c11_fresher l D aC B hcr4) (o := 0) (Nat.le_of_ble_eq_true rfl) rfl (by decide) rfl rfl (Nat.le_of_ble_eq_true rfl) dX11_wantLine_23 (fun H locs hM => ?_)
  refine W.eq (g2 := F0 m 26 ls [.int r4, .int (5 : Int32), .ref (B + 8), .ref (B + 0), .int a1, .ref (B + 14)]) rfl ?_
  obtain ⟨r5, hcr5, he⟩ := g_bind he
  refine g_callV [.ref (B + 8), .int (5 : Int32), .int r4] (rest := [.int a1, .ref (B + 14)]) E hml hl.1 hM cv_X11_234 (c11_toldAhead l D aC B (Nat.le_of_ble_eq_true rfl) rfl hcr5) (o := 0) (Nat.le_of_ble_eq_true rfl) rfl (by decide) rfl rfl (Nat.le_of_ble_eq_true rfl) dX11_wantLine_26 (fun H locs hM => ?_)
  refine W.eq (g2 := F0 m 29 ls [.int r5.1, .int a1, .ref (B + 14)]) rfl ?_
  obtain ⟨h6, he⟩ := g_ck_some he
  refine g_iast E hM (o := 14) (Nat.le_of_ble_eq_true rfl) rfl h6 dX11_wantLine_29 (fun H locs hM => ?_)
  obtain ⟨m7, hm7, he⟩ := g_let_ex he
  rw [← hm7] at hM
  refine lv_aload_n hx hb dX11_wantLine_30 rfl (lv_at hl 0 rfl) ?_
  refine g_getP E hM (o := 0) (Nat.le_of_ble_eq_true rfl) rfl fl_X11_52 (q := 15) rfl dX11_wantLine_31 ?_
  refine lv_iload_n hx hb dX11_wantLine_34 rfl (lv_at hl 1 rfl) ?_
  refine lv_aload_n hx hb dX11_wantLine_35 rfl (lv_at hl 0 rfl) ?_
  refine lv_iconst (v := (0 : Int32)) hx hb dX11_wantLine_36 rfl ?_
  refine lv_iconst (v := (1 : Int32)) hx hb dX11_wantLine_37 rfl ?_
  obtain ⟨r8, hcr8, he⟩ := g_bind he
  refine g_callV [.int (0 : Int32), .int (1 : Int32)] (rest := [.int a1, .ref (B + 15)]) E hml hl.1 hM cv_X11_247 (c11_numeral l D aC B hcr8) (o := 0) (Nat.le_of_ble_eq_true rfl) rfl (by decide) rfl rfl (Nat.le_of_ble_eq_true rfl) dX11_wantLine_38 (fun H locs hM => ?_)
  refine W.eq (g2 := F0 m 41 ls [.int r8.1, .int a1, .ref (B + 15)]) rfl ?_
  obtain ⟨h9, he⟩ := g_ck_some he
  refine g_iast E hM (o := 15) (Nat.le_of_ble_eq_true rfl) rfl h9 dX11_wantLine_41 (fun H locs hM => ?_)
  obtain ⟨m10, hm10, he⟩ := g_let_ex he
  rw [← hm10] at hM
  refine lv_aload_n hx hb dX11_wantLine_42 rfl (lv_at hl 0 rfl) ?_
  refine g_getP E hM (o := 0) (Nat.le_of_ble_eq_true rfl) rfl fl_X11_55 (q := 16) rfl dX11_wantLine_43 ?_
  refine lv_iload_n hx hb dX11_wantLine_46 rfl (lv_at hl 1 rfl) ?_
  refine lv_aload_n hx hb dX11_wantLine_47 rfl (lv_at hl 0 rfl) ?_
  refine lv_iconst (v := (0 : Int32)) hx hb dX11_wantLine_48 rfl ?_
  refine lv_bipush (v := (99 : Int32)) hx hb dX11_wantLine_49 rfl ?_
  obtain ⟨r11, hcr11, he⟩ := g_bind he
  refine g_callV [.int (0 : Int32), .int (99 : Int32)] (rest := [.int a1, .ref (B + 16)]) E hml hl.1 hM cv_X11_247 (c11_numeral l D aC B hcr11) (o := 0) (Nat.le_of_ble_eq_true rfl) rfl (by decide) rfl rfl (Nat.le_of_ble_eq_true rfl) dX11_wantLine_51 (fun H locs hM => ?_)
  refine W.eq (g2 := F0 m 54 ls [.int r11.1, .int a1, .ref (B + 16)]) rfl ?_
  obtain ⟨h12, he⟩ := g_ck_some he
  refine g_iast E hM (o := 16) (Nat.le_of_ble_eq_true rfl) rfl h12 dX11_wantLine_54 (fun H locs hM => ?_)
  obtain ⟨m13, hm13, he⟩ := g_let_ex he
  rw [← hm13] at hM
  refine lv_aload_n hx hb dX11_wantLine_55 rfl (lv_at hl 0 rfl) ?_
  refine g_getP E hM (o := 0) (Nat.le_of_ble_eq_true rfl) rfl fl_X11_58 (q := 17) rfl dX11_wantLine_56 ?_
  refine lv_iload_n hx hb dX11_wantLine_59 rfl (lv_at hl 1 rfl) ?_
  refine lv_aload_n hx hb dX11_wantLine_60 rfl (lv_at hl 0 rfl) ?_
  refine lv_iconst (v := (0 : Int32)) hx hb dX11_wantLine_61 rfl ?_
  refine lv_bipush (v := (99 : Int32)) hx hb dX11_wantLine_62 rfl ?_
  obtain ⟨r14, hcr14, he⟩ := g_bind he
  refine g_callV [.int (0 : Int32), .int (99 : Int32)] (rest := [.int a1, .ref (B + 17)]) E hml hl.1 hM cv_X11_247 (c11_numeral l D aC B hcr14) (o := 0) (Nat.le_of_ble_eq_true rfl) rfl (by decide) rfl rfl (Nat.le_of_ble_eq_true rfl) dX11_wantLine_64 (fun H locs hM => ?_)
  refine W.eq (g2 := F0 m 67 ls [.int r14.1, .int a1, .ref (B + 17)]) rfl ?_
  obtain ⟨h15, he⟩ := g_ck_some he
  refine g_iast E hM (o := 17) (Nat.le_of_ble_eq_true rfl) rfl h15 dX11_wantLine_67 (fun H locs hM => ?_)
  obtain ⟨m16, hm16, he⟩ := g_let_ex he
  rw [← hm16] at hM
  refine lv_aload_n hx hb dX11_wantLine_68 rfl (lv_at hl 0 rfl) ?_
  refine lv_iconst (v := (4 : Int32)) hx hb dX11_wantLine_69 rfl ?_
  refine lv_aload_n hx hb dX11_wantLine_70 rfl (lv_at hl 0 rfl) ?_
  refine lv_iconst (v := (4 : Int32)) hx hb dX11_wantLine_71 rfl ?_
  obtain ⟨r17, hcr17, he⟩ := g_bind he
  refine g_callV [.int (4 : Int32)] (rest := [.int (4 : Int32), .ref (B + 0)]) E hml hl.1 hM cv_X11_230 (c11_fresher l D aC B hcr17) (o := 0) (Nat.le_of_ble_eq_true rfl) rfl (by decide) rfl rfl (Nat.le_of_ble_eq_true rfl) dX11_wantLine_72 (fun H locs hM => ?_)
  refine W.eq (g2 := F0 m 75 ls [.int r17, .int (4 : Int32), .ref (B + 0)]) rfl ?_
  refine lv_iconst (v := (1 : Int32)) hx hb dX11_wantLine_75 rfl ?_
  refine lv_iadd hx hb dX11_wantLine_76 ?_
  obtain ⟨r18, hcr18, he⟩ := g_bind he
  refine g_callV [.int (4 : Int32), .int (r17 + (1 : Int32))] (rest := []) E hml hl.1 hM cv_X11_251 (c11_reads l D aC B hcr18) (o := 0) (Nat.le_of_ble_eq_true rfl) rfl (by decide) rfl rfl (Nat.le_of_ble_eq_true rfl) dX11_wantLine_77 (fun H locs hM => ?_)
  refine W.eq (g2 := F0 m 80 ls []) rfl ?_
  cases he
  exact g_vret E hM hret hlk dX11_wantLine_80

set_option maxHeartbeats 4000000 in
set_option maxRecDepth 100000 in
theorem c11_knot (l : Launch) (D : va_G) (aC : Nat → ClassId) (B : Nat) {F : Nat} {mem : g_M} {q0 : g_M} (he : f11_knot F mem = some q0) : g_Met l yX11_knot cX11_knot 1 none 2 D aC B yM 44 mem [.ref (B + 0)] none q0 := by
  refine g_ofW (by decide) (Nat.le_of_ble_eq_true rfl) ?_
  intro p e s m args below meth c ls E hml hret hlk hM hl
  have E : g_C p s m args c cX11_knot RX11 D aC (g_Zs (g_A B 44)) := E
  have hx := E.1
  have hb := E.2.1
  have hown := E.2.2.1
  have hts := E.2.2.2.1
  have hl : lv_has ls 1 [(0, .ref (B + 0))] := hl
  unfold f11_knot at he
  refine lv_aload_n hx hb dX11_knot_0 rfl (lv_at hl 0 rfl) ?_
  refine g_getI E hM (o := 0) (Nat.le_of_ble_eq_true rfl) rfl fl_X11_211 dX11_knot_1 ?_
  refine lv_if_eq (tgt := 8) hx hb dX11_knot_4 (by decide) (fun h1 => ?_) (fun h1 => ?_)
  · rw [if_pos h1] at he
    refine lv_aload_n hx hb dX11_knot_8 rfl (lv_at hl 0 rfl) ?_
    refine g_getI E hM (o := 0) (Nat.le_of_ble_eq_true rfl) rfl fl_X11_273 dX11_knot_9 ?_
    refine lv_bipush (v := (64 : Int32)) hx hb dX11_knot_12 rfl ?_
    refine lv_icmp_ne (tgt := 25) hx hb dX11_knot_14 (by decide) (fun h2 => ?_) (fun h2 => ?_)
    · rw [if_neg h2] at he
      refine lv_aload_n hx hb dX11_knot_25 rfl (lv_at hl 0 rfl) ?_
      refine lv_dup hx hb dX11_knot_26 rfl ?_
      refine g_getI E hM (o := 0) (Nat.le_of_ble_eq_true rfl) rfl fl_X11_273 dX11_knot_27 ?_
      refine lv_iconst (v := (1 : Int32)) hx hb dX11_knot_30 rfl ?_
      refine lv_iadd hx hb dX11_knot_31 ?_
      refine g_putI E hM (o := 0) (Nat.le_of_ble_eq_true rfl) rfl fp_X11_273 dX11_knot_32 (fun H locs hM => ?_)
      obtain ⟨m4, hm4, he⟩ := g_let_ex he
      rw [← hm4] at hM
      cases he
      exact g_vret E hM hret hlk dX11_knot_35
    · rw [if_pos h2] at he
      refine lv_aload_n hx hb dX11_knot_17 rfl (lv_at hl 0 rfl) ?_
      refine lv_iconst (v := (2 : Int32)) hx hb dX11_knot_18 rfl ?_
      obtain ⟨r3, hcr3, he⟩ := g_bind he
      refine g_callV [.int (2 : Int32)] (rest := []) E hml hl.1 hM cv_X11_220 (c11_wrong l D aC B hcr3) (o := 0) (Nat.le_of_ble_eq_true rfl) rfl (by decide) rfl rfl (Nat.le_of_ble_eq_true rfl) dX11_knot_19 (fun H locs hM => ?_)
      refine W.eq (g2 := F0 m 22 ls []) rfl ?_
      refine lv_goto (tgt := 35) hx hb dX11_knot_22 (by decide) ?_
      cases he
      exact g_vret E hM hret hlk dX11_knot_35
  · rw [if_neg h1] at he
    cases he
    exact g_vret E hM hret hlk dX11_knot_7

set_option maxHeartbeats 4000000 in
set_option maxRecDepth 100000 in
theorem c11_puts (l : Launch) (D : va_G) (aC : Nat → ClassId) (B : Nat) {F : Nat} {a1 : Int32} {a2 : Int32} {mem : g_M} {q0 : g_M} (he : f11_puts F a1 a2 mem = some q0) : g_Met l yX11_puts cX11_puts 3 none 2 D aC B yM 44 mem [.ref (B + 0), .int a1, .int a2] none q0 := by
  refine g_ofW (by decide) (Nat.le_of_ble_eq_true rfl) ?_
  intro p e s m args below meth c ls E hml hret hlk hM hl
  have E : g_C p s m args c cX11_puts RX11 D aC (g_Zs (g_A B 44)) := E
  have hx := E.1
  have hb := E.2.1
  have hown := E.2.2.1
  have hts := E.2.2.2.1
  have hl : lv_has ls 3 [(0, .ref (B + 0)), (1, .int a1), (2, .int a2)] := hl
  unfold f11_puts at he
  refine lv_aload_n hx hb dX11_puts_0 rfl (lv_at hl 0 rfl) ?_
  refine g_getI E hM (o := 0) (Nat.le_of_ble_eq_true rfl) rfl fl_X11_211 dX11_puts_1 ?_
  refine lv_if_eq (tgt := 8) hx hb dX11_puts_4 (by decide) (fun h1 => ?_) (fun h1 => ?_)
  · rw [if_pos h1] at he
    refine lv_aload_n hx hb dX11_puts_8 rfl (lv_at hl 0 rfl) ?_
    refine g_getP E hM (o := 0) (Nat.le_of_ble_eq_true rfl) rfl fl_X11_67 (q := 20) rfl dX11_puts_9 ?_
    refine lv_bipush (v := (64 : Int32)) hx hb dX11_puts_12 rfl ?_
    refine lv_aload_n hx hb dX11_puts_14 rfl (lv_at hl 0 rfl) ?_
    refine lv_bipush (v := (8 : Int32)) hx hb dX11_puts_15 rfl ?_
    obtain ⟨r2, hcr2, he⟩ := g_bind he
    refine g_callV [.int (8 : Int32)] (rest := [.int (64 : Int32), .ref (B + 20)]) E hml hl.1 hM cv_X11_230 (c11_fresher l D aC B hcr2) (o := 0) (Nat.le_of_ble_eq_true rfl) rfl (by decide) rfl rfl (Nat.le_of_ble_eq_true rfl) dX11_puts_17 (fun H locs hM => ?_)
    refine W.eq (g2 := F0 m 20 ls [.int r2, .int (64 : Int32), .ref (B + 20)]) rfl ?_
    refine lv_iadd hx hb dX11_puts_20 ?_
    refine lv_iload_n hx hb dX11_puts_21 rfl (lv_at hl 1 rfl) ?_
    obtain ⟨h3, he⟩ := g_ck_some he
    refine g_iast E hM (o := 20) (Nat.le_of_ble_eq_true rfl) rfl h3 dX11_puts_22 (fun H locs hM => ?_)
    obtain ⟨m4, hm4, he⟩ := g_let_ex he
    rw [← hm4] at hM
    refine lv_aload_n hx hb dX11_puts_23 rfl (lv_at hl 0 rfl) ?_
    refine g_getP E hM (o := 0) (Nat.le_of_ble_eq_true rfl) rfl fl_X11_70 (q := 21) rfl dX11_puts_24 ?_
    refine lv_bipush (v := (64 : Int32)) hx hb dX11_puts_27 rfl ?_
    refine lv_aload_n hx hb dX11_puts_29 rfl (lv_at hl 0 rfl) ?_
    refine lv_bipush (v := (8 : Int32)) hx hb dX11_puts_30 rfl ?_
    obtain ⟨r5, hcr5, he⟩ := g_bind he
    refine g_callV [.int (8 : Int32)] (rest := [.int (64 : Int32), .ref (B + 21)]) E hml hl.1 hM cv_X11_230 (c11_fresher l D aC B hcr5) (o := 0) (Nat.le_of_ble_eq_true rfl) rfl (by decide) rfl rfl (Nat.le_of_ble_eq_true rfl) dX11_puts_32 (fun H locs hM => ?_)
    refine W.eq (g2 := F0 m 35 ls [.int r5, .int (64 : Int32), .ref (B + 21)]) rfl ?_
    refine lv_iadd hx hb dX11_puts_35 ?_
    refine lv_iload_n hx hb dX11_puts_36 rfl (lv_at hl 2 rfl) ?_
    obtain ⟨h6, he⟩ := g_ck_some he
    refine g_iast E hM (o := 21) (Nat.le_of_ble_eq_true rfl) rfl h6 dX11_puts_37 (fun H locs hM => ?_)
    obtain ⟨m7, hm7, he⟩ := g_let_ex he
    rw [← hm7] at hM
    refine lv_aload_n hx hb dX11_puts_38 rfl (lv_at hl 0 rfl) ?_
    refine lv_bipush (v := (8 : Int32)) hx hb dX11_puts_39 rfl ?_
    refine lv_aload_n hx hb dX11_puts_41 rfl (lv_at hl 0 rfl) ?_
    refine lv_bipush (v := (8 : Int32)) hx hb dX11_puts_42 rfl ?_
    obtain ⟨r8, hcr8, he⟩ := g_bind he
    refine g_callV [.int (8 : Int32)] (rest := [.int (8 : Int32), .ref (B + 0)]) E hml hl.1 hM cv_X11_230 (c11_fresher l D aC B hcr8) (o := 0) (Nat.le_of_ble_eq_true rfl) rfl (by decide) rfl rfl (Nat.le_of_ble_eq_true rfl) dX11_puts_44 (fun H locs hM => ?_)
    refine W.eq (g2 := F0 m 47 ls [.int r8, .int (8 : Int32), .ref (B + 0)]) rfl ?_
    refine lv_iconst (v := (1 : Int32)) hx hb dX11_puts_47 rfl ?_
    refine lv_iadd hx hb dX11_puts_48 ?_
    obtain ⟨r9, hcr9, he⟩ := g_bind he
    refine g_callV [.int (8 : Int32), .int (r8 + (1 : Int32))] (rest := []) E hml hl.1 hM cv_X11_251 (c11_reads l D aC B hcr9) (o := 0) (Nat.le_of_ble_eq_true rfl) rfl (by decide) rfl rfl (Nat.le_of_ble_eq_true rfl) dX11_puts_49 (fun H locs hM => ?_)
    refine W.eq (g2 := F0 m 52 ls []) rfl ?_
    cases he
    exact g_vret E hM hret hlk dX11_puts_52
  · rw [if_neg h1] at he
    cases he
    exact g_vret E hM hret hlk dX11_puts_7

def gE_ok (l : Launch) (D : va_G) (aC : Nat → ClassId) (B : Nat) (dd : Nat) (rc : Nat → g_M → Option g_M) : Prop := ∀ (mem q : g_M), (rc 0 mem = some q → g_Met l yX11_expression cX11_expression 1 none (8 + dd) D aC B yM 44 mem [.ref (B + 0)] none q) ∧ (rc 1 mem = some q → g_Met l yX11_conjunction cX11_conjunction 1 none (8 + dd) D aC B yM 44 mem [.ref (B + 0)] none q) ∧ (rc 2 mem = some q → g_Met l yX11_negation cX11_negation 2 none (8 + dd) D aC B yM 44 mem [.ref (B + 0)] none q) ∧ (rc 3 mem = some q → g_Met l yX11_sum cX11_sum 2 none (8 + dd) D aC B yM 44 mem [.ref (B + 0)] none q) ∧ (rc 4 mem = some q → g_Met l yX11_product cX11_product 2 none (8 + dd) D aC B yM 44 mem [.ref (B + 0)] none q) ∧ (rc 5 mem = some q → g_Met l yX11_primary cX11_primary 2 none (8 + dd) D aC B yM 44 mem [.ref (B + 0)] none q)
set_option maxHeartbeats 4000000 in
set_option maxRecDepth 100000 in
theorem w11_primary_b78 (E : g_C p s m args c cX11_primary RX11 D aC (g_Zs (g_A B 44))) (hml : c.maxLocals = 2) (hret : meth.sig.returnType = none) (hlk : meth.locks = false) {F : Nat} {q0 : g_M} {dd : Nat} {rc : Nat → g_M → Option g_M} (hrc : gE_ok l D aC B dd rc) : ∀ (mem : g_M) (H : Heap) (locs : List Loc) (ls : Array Slot), g_At D aC B yM 44 mem s.heap H locs → lv_has ls 2 [(0, .ref (B + 0))] → f11_primary_b78 F rc mem = some q0 → W p l e (g_rm (8 + (dd + 1))) s m args below meth c H locs 0 0 (g_MQ below D aC B yM 44 args s none q0) (F0 m 78 ls []) := by
  intro mem H locs ls hM hl he
  unfold f11_primary_b78 at he
  have hx := E.1
  have hb := E.2.1
  have hown := E.2.2.1
  have hts := E.2.2.2.1
  refine lv_aload_n hx hb dX11_primary_78 rfl (lv_at hl 0 rfl) ?_
  refine g_getI E hM (o := 0) (Nat.le_of_ble_eq_true rfl) rfl fl_X11_211 dX11_primary_79 ?_
  refine lv_if_eq (tgt := 86) hx hb dX11_primary_82 (by decide) (fun h1 => ?_) (fun h1 => ?_)
  · rw [if_pos h1] at he
    refine lv_aload_n hx hb dX11_primary_86 rfl (lv_at hl 0 rfl) ?_
    refine lv_dup hx hb dX11_primary_87 rfl ?_
    refine g_getI E hM (o := 0) (Nat.le_of_ble_eq_true rfl) rfl fl_X11_300 dX11_primary_88 ?_
    refine lv_iconst (v := (1 : Int32)) hx hb dX11_primary_91 rfl ?_
    refine lv_isub hx hb dX11_primary_92 ?_
    refine g_putI E hM (o := 0) (Nat.le_of_ble_eq_true rfl) rfl fp_X11_300 dX11_primary_93 (fun H locs hM => ?_)
    obtain ⟨m2, hm2, he⟩ := g_let_ex he
    rw [← hm2] at hM
    refine lv_aload_n hx hb dX11_primary_96 rfl (lv_at hl 0 rfl) ?_
    obtain ⟨r3, hcr3, he⟩ := g_bind he
    refine g_callV [] (rest := []) E hml hl.1 hM cv_X11_217 (c11_token l D aC B hcr3) (o := 0) (Nat.le_of_ble_eq_true rfl) rfl (by omega) rfl rfl (Nat.le_of_ble_eq_true rfl) dX11_primary_97 (fun H locs hM => ?_)
    refine W.eq (g2 := F0 m 100 ls []) rfl ?_
    cases he
    exact g_vret E hM hret hlk dX11_primary_100
  · rw [if_neg h1] at he
    cases he
    exact g_vret E hM hret hlk dX11_primary_85

set_option maxHeartbeats 4000000 in
set_option maxRecDepth 100000 in
theorem w11_primary_b31 (E : g_C p s m args c cX11_primary RX11 D aC (g_Zs (g_A B 44))) (hml : c.maxLocals = 2) (hret : meth.sig.returnType = none) (hlk : meth.locks = false) {F : Nat} {q0 : g_M} {dd : Nat} {rc : Nat → g_M → Option g_M} (hrc : gE_ok l D aC B dd rc) : ∀ (mem : g_M) (H : Heap) (locs : List Loc) (ls : Array Slot), g_At D aC B yM 44 mem s.heap H locs → lv_has ls 2 [(0, .ref (B + 0))] → f11_primary_b31 F rc mem = some q0 → W p l e (g_rm (8 + (dd + 1))) s m args below meth c H locs 0 0 (g_MQ below D aC B yM 44 args s none q0) (F0 m 31 ls []) := by
  intro mem H locs ls hM hl he
  unfold f11_primary_b31 at he
  have hx := E.1
  have hb := E.2.1
  have hown := E.2.2.1
  have hts := E.2.2.2.1
  refine lv_aload_n hx hb dX11_primary_31 rfl (lv_at hl 0 rfl) ?_
  refine g_getI E hM (o := 0) (Nat.le_of_ble_eq_true rfl) rfl fl_X11_211 dX11_primary_32 ?_
  refine lv_if_eq (tgt := 39) hx hb dX11_primary_35 (by decide) (fun h4 => ?_) (fun h4 => ?_)
  · rw [if_pos h4] at he
    refine lv_aload_n hx hb dX11_primary_39 rfl (lv_at hl 0 rfl) ?_
    refine lv_dup hx hb dX11_primary_40 rfl ?_
    refine g_getI E hM (o := 0) (Nat.le_of_ble_eq_true rfl) rfl fl_X11_300 dX11_primary_41 ?_
    refine lv_iconst (v := (1 : Int32)) hx hb dX11_primary_44 rfl ?_
    refine lv_iadd hx hb dX11_primary_45 ?_
    refine g_putI E hM (o := 0) (Nat.le_of_ble_eq_true rfl) rfl fp_X11_300 dX11_primary_46 (fun H locs hM => ?_)
    obtain ⟨m5, hm5, he⟩ := g_let_ex he
    rw [← hm5] at hM
    refine lv_aload_n hx hb dX11_primary_49 rfl (lv_at hl 0 rfl) ?_
    obtain ⟨r6, hcr6, he⟩ := g_bind he
    refine g_callV [] (rest := []) E hml hl.1 hM cv_X11_217 (c11_token l D aC B hcr6) (o := 0) (Nat.le_of_ble_eq_true rfl) rfl (by omega) rfl rfl (Nat.le_of_ble_eq_true rfl) dX11_primary_50 (fun H locs hM => ?_)
    refine W.eq (g2 := F0 m 53 ls []) rfl ?_
    refine lv_aload_n hx hb dX11_primary_53 rfl (lv_at hl 0 rfl) ?_
    obtain ⟨r7, hcr7, he⟩ := g_bind he
    refine g_callV [] (rest := []) E hml hl.1 hM cv_X11_270 ((hrc _ _).1 hcr7) (o := 0) (Nat.le_of_ble_eq_true rfl) rfl (by omega) rfl rfl (Nat.le_of_ble_eq_true rfl) dX11_primary_54 (fun H locs hM => ?_)
    refine W.eq (g2 := F0 m 57 ls []) rfl ?_
    refine lv_aload_n hx hb dX11_primary_57 rfl (lv_at hl 0 rfl) ?_
    refine g_getI E hM (o := 0) (Nat.le_of_ble_eq_true rfl) rfl fl_X11_211 dX11_primary_58 ?_
    refine lv_if_ne (tgt := 78) hx hb dX11_primary_61 (by decide) (fun h8 => ?_) (fun h8 => ?_)
    · rw [if_neg h8] at he
      exact w11_primary_b78 (F := F) E hml hret hlk hrc _ _ _ _ hM (lv_sub hl [0] rfl) he
    · rw [if_pos h8] at he
      refine lv_aload_n hx hb dX11_primary_64 rfl (lv_at hl 0 rfl) ?_
      refine lv_bipush (v := (41 : Int32)) hx hb dX11_primary_65 rfl ?_
      obtain ⟨r9, hcr9, he⟩ := g_bind he
      refine g_callV [.int (41 : Int32)] (rest := []) E hml hl.1 hM cv_X11_264 (c11_isSign l D aC B hcr9) (o := 0) (Nat.le_of_ble_eq_true rfl) rfl (by omega) rfl rfl (Nat.le_of_ble_eq_true rfl) dX11_primary_67 (fun H locs hM => ?_)
      refine W.eq (g2 := F0 m 70 ls [.int r9]) rfl ?_
      refine lv_if_ne (tgt := 78) hx hb dX11_primary_70 (by decide) (fun h10 => ?_) (fun h10 => ?_)
      · rw [if_neg h10] at he
        exact w11_primary_b78 (F := F) E hml hret hlk hrc _ _ _ _ hM (lv_sub hl [0] rfl) he
      · rw [if_pos h10] at he
        refine lv_aload_n hx hb dX11_primary_73 rfl (lv_at hl 0 rfl) ?_
        refine lv_iconst (v := (1 : Int32)) hx hb dX11_primary_74 rfl ?_
        obtain ⟨r11, hcr11, he⟩ := g_bind he
        refine g_callV [.int (1 : Int32)] (rest := []) E hml hl.1 hM cv_X11_220 (c11_wrong l D aC B hcr11) (o := 0) (Nat.le_of_ble_eq_true rfl) rfl (by omega) rfl rfl (Nat.le_of_ble_eq_true rfl) dX11_primary_75 (fun H locs hM => ?_)
        refine W.eq (g2 := F0 m 78 ls []) rfl ?_
        exact w11_primary_b78 (F := F) E hml hret hlk hrc _ _ _ _ hM (lv_sub hl [0] rfl) he
  · rw [if_neg h4] at he
    cases he
    exact g_vret E hM hret hlk dX11_primary_38

set_option maxHeartbeats 4000000 in
set_option maxRecDepth 100000 in
theorem w11_primary_b194 (E : g_C p s m args c cX11_primary RX11 D aC (g_Zs (g_A B 44))) (hml : c.maxLocals = 2) (hret : meth.sig.returnType = none) (hlk : meth.locks = false) {F : Nat} {q0 : g_M} {dd : Nat} {rc : Nat → g_M → Option g_M} (hrc : gE_ok l D aC B dd rc) : ∀ (w1 : Int32) (w2 : Int32) (mem : g_M) (H : Heap) (locs : List Loc) (ls : Array Slot), g_At D aC B yM 44 mem s.heap H locs → lv_has ls 2 [(0, .ref (B + 0))] → f11_primary_b194 F rc w1 w2 mem = some q0 → W p l e (g_rm (8 + (dd + 1))) s m args below meth c H locs 0 0 (g_MQ below D aC B yM 44 args s none q0) (F0 m 194 ls [.int w2, .int w1, .ref (B + 0)]) := by
  intro w1 w2 mem H locs ls hM hl he
  unfold f11_primary_b194 at he
  have hx := E.1
  have hb := E.2.1
  have hown := E.2.2.1
  have hts := E.2.2.2.1
  obtain ⟨r12, hcr12, he⟩ := g_bind he
  refine g_callV [.int w1, .int w2] (rest := []) E hml hl.1 hM cv_X11_285 (c11_puts l D aC B hcr12) (o := 0) (Nat.le_of_ble_eq_true rfl) rfl (by omega) rfl rfl (Nat.le_of_ble_eq_true rfl) dX11_primary_194 (fun H locs hM => ?_)
  refine W.eq (g2 := F0 m 197 ls []) rfl ?_
  refine lv_aload_n hx hb dX11_primary_197 rfl (lv_at hl 0 rfl) ?_
  obtain ⟨r13, hcr13, he⟩ := g_bind he
  refine g_callV [] (rest := []) E hml hl.1 hM cv_X11_227 (c11_goOn l D aC B hcr13) (o := 0) (Nat.le_of_ble_eq_true rfl) rfl (by omega) rfl rfl (Nat.le_of_ble_eq_true rfl) dX11_primary_198 (fun H locs hM => ?_)
  refine W.eq (g2 := F0 m 201 ls []) rfl ?_
  cases he
  exact g_vret E hM hret hlk dX11_primary_201

set_option maxHeartbeats 4000000 in
set_option maxRecDepth 100000 in
theorem w11_primary_b176 (E : g_C p s m args c cX11_primary RX11 D aC (g_Zs (g_A B 44))) (hml : c.maxLocals = 2) (hret : meth.sig.returnType = none) (hlk : meth.locks = false) {F : Nat} {q0 : g_M} {dd : Nat} {rc : Nat → g_M → Option g_M} (hrc : gE_ok l D aC B dd rc) : ∀ (v1 : Int32) (w1 : Int32) (mem : g_M) (H : Heap) (locs : List Loc) (ls : Array Slot), g_At D aC B yM 44 mem s.heap H locs → lv_has ls 2 [(0, .ref (B + 0)), (1, .int v1)] → f11_primary_b176 F rc v1 w1 mem = some q0 → W p l e (g_rm (8 + (dd + 1))) s m args below meth c H locs 0 0 (g_MQ below D aC B yM 44 args s none q0) (F0 m 176 ls [.int w1, .ref (B + 0)]) := by
  intro v1 w1 mem H locs ls hM hl he
  unfold f11_primary_b176 at he
  have hx := E.1
  have hb := E.2.1
  have hown := E.2.2.1
  have hts := E.2.2.2.1
  refine lv_iload_n hx hb dX11_primary_176 rfl (lv_at hl 1 rfl) ?_
  refine lv_if_eq (tgt := 187) hx hb dX11_primary_177 (by decide) (fun h14 => ?_) (fun h14 => ?_)
  · rw [if_pos h14] at he
    refine lv_aload_n hx hb dX11_primary_187 rfl (lv_at hl 0 rfl) ?_
    refine g_getI E hM (o := 0) (Nat.le_of_ble_eq_true rfl) rfl fl_X11_186 dX11_primary_188 ?_
    refine lv_bipush (v := (15 : Int32)) hx hb dX11_primary_191 rfl ?_
    refine lv_isub hx hb dX11_primary_193 ?_
    exact w11_primary_b194 (F := F) E hml hret hlk hrc _ _ _ _ _ _ hM (lv_sub hl [0] rfl) he
  · rw [if_neg h14] at he
    refine lv_aload_n hx hb dX11_primary_180 rfl (lv_at hl 0 rfl) ?_
    refine g_getI E hM (o := 0) (Nat.le_of_ble_eq_true rfl) rfl fl_X11_186 dX11_primary_181 ?_
    refine lv_goto (tgt := 194) hx hb dX11_primary_184 (by decide) ?_
    exact w11_primary_b194 (F := F) E hml hret hlk hrc _ _ _ _ _ _ hM (lv_sub hl [0] rfl) he

set_option maxHeartbeats 4000000 in
set_option maxRecDepth 100000 in
theorem w11_primary_b162 (E : g_C p s m args c cX11_primary RX11 D aC (g_Zs (g_A B 44))) (hml : c.maxLocals = 2) (hret : meth.sig.returnType = none) (hlk : meth.locks = false) {F : Nat} {q0 : g_M} {dd : Nat} {rc : Nat → g_M → Option g_M} (hrc : gE_ok l D aC B dd rc) : ∀ (v1 : Int32) (mem : g_M) (H : Heap) (locs : List Loc) (ls : Array Slot), g_At D aC B yM 44 mem s.heap H locs → lv_has ls 2 [(0, .ref (B + 0)), (1, .int v1)] → f11_primary_b162 F rc v1 mem = some q0 → W p l e (g_rm (8 + (dd + 1))) s m args below meth c H locs 0 0 (g_MQ below D aC B yM 44 args s none q0) (F0 m 162 ls []) := by
  intro v1 mem H locs ls hM hl he
  unfold f11_primary_b162 at he
  have hx := E.1
  have hb := E.2.1
  have hown := E.2.2.1
  have hts := E.2.2.2.1
  refine lv_aload_n hx hb dX11_primary_162 rfl (lv_at hl 0 rfl) ?_
  obtain ⟨r15, hcr15, he⟩ := g_bind he
  refine g_callV [] (rest := []) E hml hl.1 hM cv_X11_282 (c11_knot l D aC B hcr15) (o := 0) (Nat.le_of_ble_eq_true rfl) rfl (by omega) rfl rfl (Nat.le_of_ble_eq_true rfl) dX11_primary_163 (fun H locs hM => ?_)
  refine W.eq (g2 := F0 m 166 ls []) rfl ?_
  refine lv_aload_n hx hb dX11_primary_166 rfl (lv_at hl 0 rfl) ?_
  refine lv_iload_n hx hb dX11_primary_167 rfl (lv_at hl 1 rfl) ?_
  refine lv_if_eq (tgt := 175) hx hb dX11_primary_168 (by decide) (fun h16 => ?_) (fun h16 => ?_)
  · rw [if_pos h16] at he
    refine lv_iconst (v := (1 : Int32)) hx hb dX11_primary_175 rfl ?_
    exact w11_primary_b176 (F := F) E hml hret hlk hrc _ _ _ _ _ _ hM (lv_sub hl [0, 1] rfl) he
  · rw [if_neg h16] at he
    refine lv_iconst (v := (0 : Int32)) hx hb dX11_primary_171 rfl ?_
    refine lv_goto (tgt := 176) hx hb dX11_primary_172 (by decide) ?_
    exact w11_primary_b176 (F := F) E hml hret hlk hrc _ _ _ _ _ _ hM (lv_sub hl [0, 1] rfl) he

set_option maxHeartbeats 4000000 in
set_option maxRecDepth 100000 in
theorem w11_primary_b157 (E : g_C p s m args c cX11_primary RX11 D aC (g_Zs (g_A B 44))) (hml : c.maxLocals = 2) (hret : meth.sig.returnType = none) (hlk : meth.locks = false) {F : Nat} {q0 : g_M} {dd : Nat} {rc : Nat → g_M → Option g_M} (hrc : gE_ok l D aC B dd rc) : ∀ (v1 : Int32) (mem : g_M) (H : Heap) (locs : List Loc) (ls : Array Slot), g_At D aC B yM 44 mem s.heap H locs → lv_has ls 2 [(0, .ref (B + 0)), (1, .int v1)] → f11_primary_b157 F rc v1 mem = some q0 → W p l e (g_rm (8 + (dd + 1))) s m args below meth c H locs 0 0 (g_MQ below D aC B yM 44 args s none q0) (F0 m 157 ls []) := by
  intro v1 mem H locs ls hM hl he
  unfold f11_primary_b157 at he
  have hx := E.1
  have hb := E.2.1
  have hown := E.2.2.1
  have hts := E.2.2.2.1
  refine lv_aload_n hx hb dX11_primary_157 rfl (lv_at hl 0 rfl) ?_
  refine lv_iconst (v := (1 : Int32)) hx hb dX11_primary_158 rfl ?_
  obtain ⟨r17, hcr17, he⟩ := g_bind he
  refine g_callV [.int (1 : Int32)] (rest := []) E hml hl.1 hM cv_X11_220 (c11_wrong l D aC B hcr17) (o := 0) (Nat.le_of_ble_eq_true rfl) rfl (by omega) rfl rfl (Nat.le_of_ble_eq_true rfl) dX11_primary_159 (fun H locs hM => ?_)
  refine W.eq (g2 := F0 m 162 ls []) rfl ?_
  exact w11_primary_b162 (F := F) E hml hret hlk hrc _ _ _ _ _ hM (lv_sub hl [0, 1] rfl) he

set_option maxHeartbeats 4000000 in
set_option maxRecDepth 100000 in
theorem w11_primary_b137 (E : g_C p s m args c cX11_primary RX11 D aC (g_Zs (g_A B 44))) (hml : c.maxLocals = 2) (hret : meth.sig.returnType = none) (hlk : meth.locks = false) {F : Nat} {q0 : g_M} {dd : Nat} {rc : Nat → g_M → Option g_M} (hrc : gE_ok l D aC B dd rc) : ∀ (v1 : Int32) (mem : g_M) (H : Heap) (locs : List Loc) (ls : Array Slot), g_At D aC B yM 44 mem s.heap H locs → lv_has ls 2 [(0, .ref (B + 0)), (1, .int v1)] → f11_primary_b137 F rc v1 mem = some q0 → W p l e (g_rm (8 + (dd + 1))) s m args below meth c H locs 0 0 (g_MQ below D aC B yM 44 args s none q0) (F0 m 137 ls []) := by
  intro v1 mem H locs ls hM hl he
  unfold f11_primary_b137 at he
  have hx := E.1
  have hb := E.2.1
  have hown := E.2.2.1
  have hts := E.2.2.2.1
  refine lv_iload_n hx hb dX11_primary_137 rfl (lv_at hl 1 rfl) ?_
  refine lv_if_ne (tgt := 162) hx hb dX11_primary_138 (by decide) (fun h18 => ?_) (fun h18 => ?_)
  · rw [if_neg h18] at he
    exact w11_primary_b162 (F := F) E hml hret hlk hrc _ _ _ _ _ hM (lv_sub hl [0, 1] rfl) he
  · rw [if_pos h18] at he
    refine lv_aload_n hx hb dX11_primary_141 rfl (lv_at hl 0 rfl) ?_
    refine g_getI E hM (o := 0) (Nat.le_of_ble_eq_true rfl) rfl fl_X11_176 dX11_primary_142 ?_
    refine lv_if_ne (tgt := 157) hx hb dX11_primary_145 (by decide) (fun h19 => ?_) (fun h19 => ?_)
    · rw [if_neg h19] at he
      exact w11_primary_b157 (F := F) E hml hret hlk hrc _ _ _ _ _ hM (lv_sub hl [0, 1] rfl) he
    · rw [if_pos h19] at he
      refine lv_aload_n hx hb dX11_primary_148 rfl (lv_at hl 0 rfl) ?_
      refine g_getI E hM (o := 0) (Nat.le_of_ble_eq_true rfl) rfl fl_X11_186 dX11_primary_149 ?_
      refine lv_bipush (v := (15 : Int32)) hx hb dX11_primary_152 rfl ?_
      refine lv_icmp_ge (tgt := 162) hx hb dX11_primary_154 (by decide) (fun h20 => ?_) (fun h20 => ?_)
      · rw [if_neg (Int32.not_lt.mpr h20)] at he
        exact w11_primary_b162 (F := F) E hml hret hlk hrc _ _ _ _ _ hM (lv_sub hl [0, 1] rfl) he
      · rw [if_pos (Int32.not_le.mp h20)] at he
        exact w11_primary_b157 (F := F) E hml hret hlk hrc _ _ _ _ _ hM (lv_sub hl [0, 1] rfl) he

set_option maxHeartbeats 4000000 in
set_option maxRecDepth 100000 in
theorem w11_primary_b114 (E : g_C p s m args c cX11_primary RX11 D aC (g_Zs (g_A B 44))) (hml : c.maxLocals = 2) (hret : meth.sig.returnType = none) (hlk : meth.locks = false) {F : Nat} {q0 : g_M} {dd : Nat} {rc : Nat → g_M → Option g_M} (hrc : gE_ok l D aC B dd rc) : ∀ (w0 : Int32) (mem : g_M) (H : Heap) (locs : List Loc) (ls : Array Slot), g_At D aC B yM 44 mem s.heap H locs → lv_has ls 2 [(0, .ref (B + 0))] → f11_primary_b114 F rc w0 mem = some q0 → W p l e (g_rm (8 + (dd + 1))) s m args below meth c H locs 0 0 (g_MQ below D aC B yM 44 args s none q0) (F0 m 114 ls [.int w0]) := by
  intro w0 mem H locs ls hM hl he
  unfold f11_primary_b114 at he
  have hx := E.1
  have hb := E.2.1
  have hown := E.2.2.1
  have hts := E.2.2.2.1
  refine lv_istore_n (lv' := [(1, .int w0), (0, .ref (B + 0))]) hx hb dX11_primary_114 rfl hl (by decide) rfl (fun ls hl => ?_)
  refine lv_iload_n hx hb dX11_primary_115 rfl (lv_at hl 0 rfl) ?_
  refine lv_if_eq (tgt := 137) hx hb dX11_primary_116 (by decide) (fun h21 => ?_) (fun h21 => ?_)
  · rw [if_pos h21] at he
    exact w11_primary_b137 (F := F) E hml hret hlk hrc _ _ _ _ _ hM (lv_sub hl [1, 0] rfl) he
  · rw [if_neg h21] at he
    refine lv_aload_n hx hb dX11_primary_119 rfl (lv_at hl 1 rfl) ?_
    refine g_getI E hM (o := 0) (Nat.le_of_ble_eq_true rfl) rfl fl_X11_186 dX11_primary_120 ?_
    refine lv_sipush (v := (9999 : Int32)) hx hb dX11_primary_123 rfl ?_
    refine lv_icmp_le (tgt := 137) hx hb dX11_primary_126 (by decide) (fun h22 => ?_) (fun h22 => ?_)
    · rw [if_neg (Int32.not_lt.mpr h22)] at he
      exact w11_primary_b137 (F := F) E hml hret hlk hrc _ _ _ _ _ hM (lv_sub hl [1, 0] rfl) he
    · rw [if_pos (Int32.not_le.mp h22)] at he
      refine lv_aload_n hx hb dX11_primary_129 rfl (lv_at hl 1 rfl) ?_
      refine lv_iconst (v := (2 : Int32)) hx hb dX11_primary_130 rfl ?_
      obtain ⟨r23, hcr23, he⟩ := g_bind he
      refine g_callV [.int (2 : Int32)] (rest := []) E hml hl.1 hM cv_X11_220 (c11_wrong l D aC B hcr23) (o := 0) (Nat.le_of_ble_eq_true rfl) rfl (by omega) rfl rfl (Nat.le_of_ble_eq_true rfl) dX11_primary_131 (fun H locs hM => ?_)
      refine W.eq (g2 := F0 m 134 ls []) rfl ?_
      refine lv_goto (tgt := 162) hx hb dX11_primary_134 (by decide) ?_
      exact w11_primary_b162 (F := F) E hml hret hlk hrc _ _ _ _ _ hM (lv_sub hl [1, 0] rfl) he

set_option maxHeartbeats 4000000 in
set_option maxRecDepth 100000 in
theorem c11_primary (l : Launch) (D : va_G) (aC : Nat → ClassId) (B : Nat) {F : Nat} {dd : Nat} {rc : Nat → g_M → Option g_M} (hrc : gE_ok l D aC B dd rc) {mem : g_M} {q0 : g_M} (he : f11_primary F rc mem = some q0) : g_Met l yX11_primary cX11_primary 2 none (8 + (dd + 1)) D aC B yM 44 mem [.ref (B + 0)] none q0 := by
  refine g_ofW (by decide) (Nat.le_of_ble_eq_true rfl) ?_
  intro p e s m args below meth c ls E hml hret hlk hM hl
  have E : g_C p s m args c cX11_primary RX11 D aC (g_Zs (g_A B 44)) := E
  have hx := E.1
  have hb := E.2.1
  have hown := E.2.2.1
  have hts := E.2.2.2.1
  have hl : lv_has ls 2 [(0, .ref (B + 0))] := hl
  unfold f11_primary at he
  refine lv_aload_n hx hb dX11_primary_0 rfl (lv_at hl 0 rfl) ?_
  refine g_getI E hM (o := 0) (Nat.le_of_ble_eq_true rfl) rfl fl_X11_211 dX11_primary_1 ?_
  refine lv_if_eq (tgt := 8) hx hb dX11_primary_4 (by decide) (fun h24 => ?_) (fun h24 => ?_)
  · rw [if_pos h24] at he
    refine lv_aload_n hx hb dX11_primary_8 rfl (lv_at hl 0 rfl) ?_
    refine lv_bipush (v := (40 : Int32)) hx hb dX11_primary_9 rfl ?_
    obtain ⟨r25, hcr25, he⟩ := g_bind he
    refine g_callV [.int (40 : Int32)] (rest := []) E hml hl.1 hM cv_X11_264 (c11_isSign l D aC B hcr25) (o := 0) (Nat.le_of_ble_eq_true rfl) rfl (by omega) rfl rfl (Nat.le_of_ble_eq_true rfl) dX11_primary_11 (fun H locs hM => ?_)
    refine W.eq (g2 := F0 m 14 ls [.int r25]) rfl ?_
    refine lv_if_eq (tgt := 101) hx hb dX11_primary_14 (by decide) (fun h26 => ?_) (fun h26 => ?_)
    · rw [if_pos h26] at he
      refine lv_aload_n hx hb dX11_primary_101 rfl (lv_at hl 0 rfl) ?_
      refine g_getI E hM (o := 0) (Nat.le_of_ble_eq_true rfl) rfl fl_X11_176 dX11_primary_102 ?_
      refine lv_iconst (v := (2 : Int32)) hx hb dX11_primary_105 rfl ?_
      refine lv_icmp_ne (tgt := 113) hx hb dX11_primary_106 (by decide) (fun h29 => ?_) (fun h29 => ?_)
      · rw [if_neg h29] at he
        refine lv_iconst (v := (0 : Int32)) hx hb dX11_primary_113 rfl ?_
        exact w11_primary_b114 (F := F) E hml hret hlk hrc _ _ _ _ _ hM (lv_sub hl [0] rfl) he
      · rw [if_pos h29] at he
        refine lv_iconst (v := (1 : Int32)) hx hb dX11_primary_109 rfl ?_
        refine lv_goto (tgt := 114) hx hb dX11_primary_110 (by decide) ?_
        exact w11_primary_b114 (F := F) E hml hret hlk hrc _ _ _ _ _ hM (lv_sub hl [0] rfl) he
    · rw [if_neg h26] at he
      refine lv_aload_n hx hb dX11_primary_17 rfl (lv_at hl 0 rfl) ?_
      refine g_getI E hM (o := 0) (Nat.le_of_ble_eq_true rfl) rfl fl_X11_300 dX11_primary_18 ?_
      refine lv_bipush (v := (8 : Int32)) hx hb dX11_primary_21 rfl ?_
      refine lv_icmp_ne (tgt := 31) hx hb dX11_primary_23 (by decide) (fun h27 => ?_) (fun h27 => ?_)
      · rw [if_neg h27] at he
        exact w11_primary_b31 (F := F) E hml hret hlk hrc _ _ _ _ hM (lv_sub hl [0] rfl) he
      · rw [if_pos h27] at he
        refine lv_aload_n hx hb dX11_primary_26 rfl (lv_at hl 0 rfl) ?_
        refine lv_iconst (v := (2 : Int32)) hx hb dX11_primary_27 rfl ?_
        obtain ⟨r28, hcr28, he⟩ := g_bind he
        refine g_callV [.int (2 : Int32)] (rest := []) E hml hl.1 hM cv_X11_220 (c11_wrong l D aC B hcr28) (o := 0) (Nat.le_of_ble_eq_true rfl) rfl (by omega) rfl rfl (Nat.le_of_ble_eq_true rfl) dX11_primary_28 (fun H locs hM => ?_)
        refine W.eq (g2 := F0 m 31 ls []) rfl ?_
        exact w11_primary_b31 (F := F) E hml hret hlk hrc _ _ _ _ hM (lv_sub hl [0] rfl) he
  · rw [if_neg h24] at he
    cases he
    exact g_vret E hM hret hlk dX11_primary_7

set_option maxHeartbeats 4000000 in
set_option maxRecDepth 100000 in
theorem w11_product_b22 (E : g_C p s m args c cX11_product RX11 D aC (g_Zs (g_A B 44))) (hml : c.maxLocals = 2) (hret : meth.sig.returnType = none) (hlk : meth.locks = false) {F : Nat} {q0 : g_M} {dd : Nat} {rc : Nat → g_M → Option g_M} (hrc : gE_ok l D aC B dd rc) {s4 : g_M → Option (g_M)} (hs4 : ∀ (mem : g_M) (H : Heap) (locs : List Loc) (ls : Array Slot), g_At D aC B yM 44 mem s.heap H locs → lv_has ls 2 [(0, .ref (B + 0))] → s4 mem = some q0 → W p l e (g_rm (8 + (dd + 1))) s m args below meth c H locs 0 0 (g_MQ below D aC B yM 44 args s none q0) (F0 m 4 ls [])) : ∀ (mem : g_M) (H : Heap) (locs : List Loc) (ls : Array Slot), g_At D aC B yM 44 mem s.heap H locs → lv_has ls 2 [(0, .ref (B + 0))] → f11_product_b22 F rc s4 mem = some q0 → W p l e (g_rm (8 + (dd + 1))) s m args below meth c H locs 0 0 (g_MQ below D aC B yM 44 args s none q0) (F0 m 22 ls []) := by
  intro mem H locs ls hM hl he
  unfold f11_product_b22 at he
  have hx := E.1
  have hb := E.2.1
  have hown := E.2.2.1
  have hts := E.2.2.2.1
  refine lv_aload_n hx hb dX11_product_22 rfl (lv_at hl 0 rfl) ?_
  refine g_getI E hM (o := 0) (Nat.le_of_ble_eq_true rfl) rfl fl_X11_186 dX11_product_23 ?_
  obtain ⟨x1, hx1, he⟩ := g_let_ex he
  refine g_topI hx1 ?_
  refine lv_istore_n (lv' := [(1, .int x1), (0, .ref (B + 0))]) hx hb dX11_product_26 rfl hl (by decide) rfl (fun ls hl => ?_)
  refine lv_aload_n hx hb dX11_product_27 rfl (lv_at hl 1 rfl) ?_
  obtain ⟨r2, hcr2, he⟩ := g_bind he
  refine g_callV [] (rest := []) E hml hl.1 hM cv_X11_282 (c11_knot l D aC B hcr2) (o := 0) (Nat.le_of_ble_eq_true rfl) rfl (by omega) rfl rfl (Nat.le_of_ble_eq_true rfl) dX11_product_28 (fun H locs hM => ?_)
  refine W.eq (g2 := F0 m 31 ls []) rfl ?_
  refine lv_aload_n hx hb dX11_product_31 rfl (lv_at hl 1 rfl) ?_
  obtain ⟨r3, hcr3, he⟩ := g_bind he
  refine g_callV [] (rest := []) E hml hl.1 hM cv_X11_227 (c11_goOn l D aC B hcr3) (o := 0) (Nat.le_of_ble_eq_true rfl) rfl (by omega) rfl rfl (Nat.le_of_ble_eq_true rfl) dX11_product_32 (fun H locs hM => ?_)
  refine W.eq (g2 := F0 m 35 ls []) rfl ?_
  refine lv_aload_n hx hb dX11_product_35 rfl (lv_at hl 1 rfl) ?_
  obtain ⟨r4, hcr4, he⟩ := g_bind he
  refine g_callV [] (rest := []) E hml hl.1 hM cv_X11_297 ((hrc _ _).2.2.2.2.2 hcr4) (o := 0) (Nat.le_of_ble_eq_true rfl) rfl (by omega) rfl rfl (Nat.le_of_ble_eq_true rfl) dX11_product_36 (fun H locs hM => ?_)
  refine W.eq (g2 := F0 m 39 ls []) rfl ?_
  refine lv_aload_n hx hb dX11_product_39 rfl (lv_at hl 1 rfl) ?_
  refine lv_iconst (v := (2 : Int32)) hx hb dX11_product_40 rfl ?_
  refine lv_iload_n hx hb dX11_product_41 rfl (lv_at hl 0 rfl) ?_
  obtain ⟨r5, hcr5, he⟩ := g_bind he
  refine g_callV [.int (2 : Int32), .int x1] (rest := []) E hml hl.1 hM cv_X11_285 (c11_puts l D aC B hcr5) (o := 0) (Nat.le_of_ble_eq_true rfl) rfl (by omega) rfl rfl (Nat.le_of_ble_eq_true rfl) dX11_product_42 (fun H locs hM => ?_)
  refine W.eq (g2 := F0 m 45 ls []) rfl ?_
  refine lv_goto (tgt := 4) hx hb dX11_product_45 (by decide) ?_
  exact hs4 _ _ _ _ hM (lv_sub hl [1] rfl) he

set_option maxHeartbeats 4000000 in
set_option maxRecDepth 100000 in
theorem w11_product_b4_body (E : g_C p s m args c cX11_product RX11 D aC (g_Zs (g_A B 44))) (hml : c.maxLocals = 2) (hret : meth.sig.returnType = none) (hlk : meth.locks = false) {F : Nat} {q0 : g_M} {dd : Nat} {rc : Nat → g_M → Option g_M} (hrc : gE_ok l D aC B dd rc) {s4 : g_M → Option (g_M)} (hs4 : ∀ (mem : g_M) (H : Heap) (locs : List Loc) (ls : Array Slot), g_At D aC B yM 44 mem s.heap H locs → lv_has ls 2 [(0, .ref (B + 0))] → s4 mem = some q0 → W p l e (g_rm (8 + (dd + 1))) s m args below meth c H locs 0 0 (g_MQ below D aC B yM 44 args s none q0) (F0 m 4 ls [])) : ∀ (mem : g_M) (H : Heap) (locs : List Loc) (ls : Array Slot), g_At D aC B yM 44 mem s.heap H locs → lv_has ls 2 [(0, .ref (B + 0))] → f11_product_b4_body F rc s4 mem = some q0 → W p l e (g_rm (8 + (dd + 1))) s m args below meth c H locs 0 0 (g_MQ below D aC B yM 44 args s none q0) (F0 m 4 ls []) := by
  intro mem H locs ls hM hl he
  unfold f11_product_b4_body at he
  have hx := E.1
  have hb := E.2.1
  have hown := E.2.2.1
  have hts := E.2.2.2.1
  refine lv_aload_n hx hb dX11_product_4 rfl (lv_at hl 0 rfl) ?_
  refine lv_bipush (v := (42 : Int32)) hx hb dX11_product_5 rfl ?_
  obtain ⟨r6, hcr6, he⟩ := g_bind he
  refine g_callV [.int (42 : Int32)] (rest := []) E hml hl.1 hM cv_X11_264 (c11_isSign l D aC B hcr6) (o := 0) (Nat.le_of_ble_eq_true rfl) rfl (by omega) rfl rfl (Nat.le_of_ble_eq_true rfl) dX11_product_7 (fun H locs hM => ?_)
  refine W.eq (g2 := F0 m 10 ls [.int r6]) rfl ?_
  refine lv_if_ne (tgt := 22) hx hb dX11_product_10 (by decide) (fun h7 => ?_) (fun h7 => ?_)
  · rw [if_neg h7] at he
    exact w11_product_b22 (F := F) E hml hret hlk hrc hs4 _ _ _ _ hM (lv_sub hl [0] rfl) he
  · rw [if_pos h7] at he
    refine lv_aload_n hx hb dX11_product_13 rfl (lv_at hl 0 rfl) ?_
    refine lv_bipush (v := (47 : Int32)) hx hb dX11_product_14 rfl ?_
    obtain ⟨r8, hcr8, he⟩ := g_bind he
    refine g_callV [.int (47 : Int32)] (rest := []) E hml hl.1 hM cv_X11_264 (c11_isSign l D aC B hcr8) (o := 0) (Nat.le_of_ble_eq_true rfl) rfl (by omega) rfl rfl (Nat.le_of_ble_eq_true rfl) dX11_product_16 (fun H locs hM => ?_)
    refine W.eq (g2 := F0 m 19 ls [.int r8]) rfl ?_
    refine lv_if_eq (tgt := 48) hx hb dX11_product_19 (by decide) (fun h9 => ?_) (fun h9 => ?_)
    · rw [if_pos h9] at he
      cases he
      exact g_vret E hM hret hlk dX11_product_48
    · rw [if_neg h9] at he
      exact w11_product_b22 (F := F) E hml hret hlk hrc hs4 _ _ _ _ hM (lv_sub hl [0] rfl) he

set_option maxHeartbeats 4000000 in
set_option maxRecDepth 100000 in
theorem w11_product_b4 (E : g_C p s m args c cX11_product RX11 D aC (g_Zs (g_A B 44))) (hml : c.maxLocals = 2) (hret : meth.sig.returnType = none) (hlk : meth.locks = false) {F : Nat} {q0 : g_M} {dd : Nat} {rc : Nat → g_M → Option g_M} (hrc : gE_ok l D aC B dd rc) : ∀ (mem : g_M) (H : Heap) (locs : List Loc) (ls : Array Slot), g_At D aC B yM 44 mem s.heap H locs → lv_has ls 2 [(0, .ref (B + 0))] → f11_product_b4 F rc mem = some q0 → W p l e (g_rm (8 + (dd + 1))) s m args below meth c H locs 0 0 (g_MQ below D aC B yM 44 args s none q0) (F0 m 4 ls []) := by
  have key : ∀ (nn : Nat) (x : g_M) (H : Heap) (locs : List Loc) (ls : Array Slot), g_At D aC B yM 44 x s.heap H locs → lv_has ls 2 [(0, .ref (B + 0))] → g_fix (fun sf x => f11_product_b4_body F rc (fun mem => sf mem) x) nn x = some q0 → W p l e (g_rm (8 + (dd + 1))) s m args below meth c H locs 0 0 (g_MQ below D aC B yM 44 args s none q0) (F0 m 4 ls []) := by
    intro nn
    induction nn with
    | zero => intro x H locs ls hM hl he; simp [g_fix] at he
    | succ nn ih =>
      intro x H locs ls hM hl he
      exact w11_product_b4_body (F := F) E hml hret hlk hrc (fun mem H locs ls hM hl he => ih mem H locs ls hM hl he) x H locs ls hM hl he
  intro mem H locs ls hM hl he
  exact key F mem H locs ls hM hl he

set_option maxHeartbeats 4000000 in
set_option maxRecDepth 100000 in
theorem c11_product (l : Launch) (D : va_G) (aC : Nat → ClassId) (B : Nat) {F : Nat} {dd : Nat} {rc : Nat → g_M → Option g_M} (hrc : gE_ok l D aC B dd rc) {mem : g_M} {q0 : g_M} (he : f11_product F rc mem = some q0) : g_Met l yX11_product cX11_product 2 none (8 + (dd + 1)) D aC B yM 44 mem [.ref (B + 0)] none q0 := by
  refine g_ofW (by decide) (Nat.le_of_ble_eq_true rfl) ?_
  intro p e s m args below meth c ls E hml hret hlk hM hl
  have E : g_C p s m args c cX11_product RX11 D aC (g_Zs (g_A B 44)) := E
  have hx := E.1
  have hb := E.2.1
  have hown := E.2.2.1
  have hts := E.2.2.2.1
  have hl : lv_has ls 2 [(0, .ref (B + 0))] := hl
  unfold f11_product at he
  refine lv_aload_n hx hb dX11_product_0 rfl (lv_at hl 0 rfl) ?_
  obtain ⟨r10, hcr10, he⟩ := g_bind he
  refine g_callV [] (rest := []) E hml hl.1 hM cv_X11_297 ((hrc _ _).2.2.2.2.2 hcr10) (o := 0) (Nat.le_of_ble_eq_true rfl) rfl (by omega) rfl rfl (Nat.le_of_ble_eq_true rfl) dX11_product_1 (fun H locs hM => ?_)
  refine W.eq (g2 := F0 m 4 ls []) rfl ?_
  exact w11_product_b4 (F := F) E hml hret hlk hrc _ _ _ _ hM (lv_sub hl [0] rfl) he

set_option maxHeartbeats 4000000 in
set_option maxRecDepth 100000 in
theorem w11_sum_b22 (E : g_C p s m args c cX11_sum RX11 D aC (g_Zs (g_A B 44))) (hml : c.maxLocals = 2) (hret : meth.sig.returnType = none) (hlk : meth.locks = false) {F : Nat} {q0 : g_M} {dd : Nat} {rc : Nat → g_M → Option g_M} (hrc : gE_ok l D aC B dd rc) {s4 : g_M → Option (g_M)} (hs4 : ∀ (mem : g_M) (H : Heap) (locs : List Loc) (ls : Array Slot), g_At D aC B yM 44 mem s.heap H locs → lv_has ls 2 [(0, .ref (B + 0))] → s4 mem = some q0 → W p l e (g_rm (8 + (dd + 1))) s m args below meth c H locs 0 0 (g_MQ below D aC B yM 44 args s none q0) (F0 m 4 ls [])) : ∀ (mem : g_M) (H : Heap) (locs : List Loc) (ls : Array Slot), g_At D aC B yM 44 mem s.heap H locs → lv_has ls 2 [(0, .ref (B + 0))] → f11_sum_b22 F rc s4 mem = some q0 → W p l e (g_rm (8 + (dd + 1))) s m args below meth c H locs 0 0 (g_MQ below D aC B yM 44 args s none q0) (F0 m 22 ls []) := by
  intro mem H locs ls hM hl he
  unfold f11_sum_b22 at he
  have hx := E.1
  have hb := E.2.1
  have hown := E.2.2.1
  have hts := E.2.2.2.1
  refine lv_aload_n hx hb dX11_sum_22 rfl (lv_at hl 0 rfl) ?_
  refine g_getI E hM (o := 0) (Nat.le_of_ble_eq_true rfl) rfl fl_X11_186 dX11_sum_23 ?_
  obtain ⟨x1, hx1, he⟩ := g_let_ex he
  refine g_topI hx1 ?_
  refine lv_istore_n (lv' := [(1, .int x1), (0, .ref (B + 0))]) hx hb dX11_sum_26 rfl hl (by decide) rfl (fun ls hl => ?_)
  refine lv_aload_n hx hb dX11_sum_27 rfl (lv_at hl 1 rfl) ?_
  obtain ⟨r2, hcr2, he⟩ := g_bind he
  refine g_callV [] (rest := []) E hml hl.1 hM cv_X11_282 (c11_knot l D aC B hcr2) (o := 0) (Nat.le_of_ble_eq_true rfl) rfl (by omega) rfl rfl (Nat.le_of_ble_eq_true rfl) dX11_sum_28 (fun H locs hM => ?_)
  refine W.eq (g2 := F0 m 31 ls []) rfl ?_
  refine lv_aload_n hx hb dX11_sum_31 rfl (lv_at hl 1 rfl) ?_
  obtain ⟨r3, hcr3, he⟩ := g_bind he
  refine g_callV [] (rest := []) E hml hl.1 hM cv_X11_227 (c11_goOn l D aC B hcr3) (o := 0) (Nat.le_of_ble_eq_true rfl) rfl (by omega) rfl rfl (Nat.le_of_ble_eq_true rfl) dX11_sum_32 (fun H locs hM => ?_)
  refine W.eq (g2 := F0 m 35 ls []) rfl ?_
  refine lv_aload_n hx hb dX11_sum_35 rfl (lv_at hl 1 rfl) ?_
  obtain ⟨r4, hcr4, he⟩ := g_bind he
  refine g_callV [] (rest := []) E hml hl.1 hM cv_X11_294 ((hrc _ _).2.2.2.2.1 hcr4) (o := 0) (Nat.le_of_ble_eq_true rfl) rfl (by omega) rfl rfl (Nat.le_of_ble_eq_true rfl) dX11_sum_36 (fun H locs hM => ?_)
  refine W.eq (g2 := F0 m 39 ls []) rfl ?_
  refine lv_aload_n hx hb dX11_sum_39 rfl (lv_at hl 1 rfl) ?_
  refine lv_iconst (v := (2 : Int32)) hx hb dX11_sum_40 rfl ?_
  refine lv_iload_n hx hb dX11_sum_41 rfl (lv_at hl 0 rfl) ?_
  obtain ⟨r5, hcr5, he⟩ := g_bind he
  refine g_callV [.int (2 : Int32), .int x1] (rest := []) E hml hl.1 hM cv_X11_285 (c11_puts l D aC B hcr5) (o := 0) (Nat.le_of_ble_eq_true rfl) rfl (by omega) rfl rfl (Nat.le_of_ble_eq_true rfl) dX11_sum_42 (fun H locs hM => ?_)
  refine W.eq (g2 := F0 m 45 ls []) rfl ?_
  refine lv_goto (tgt := 4) hx hb dX11_sum_45 (by decide) ?_
  exact hs4 _ _ _ _ hM (lv_sub hl [1] rfl) he

set_option maxHeartbeats 4000000 in
set_option maxRecDepth 100000 in
theorem w11_sum_b4_body (E : g_C p s m args c cX11_sum RX11 D aC (g_Zs (g_A B 44))) (hml : c.maxLocals = 2) (hret : meth.sig.returnType = none) (hlk : meth.locks = false) {F : Nat} {q0 : g_M} {dd : Nat} {rc : Nat → g_M → Option g_M} (hrc : gE_ok l D aC B dd rc) {s4 : g_M → Option (g_M)} (hs4 : ∀ (mem : g_M) (H : Heap) (locs : List Loc) (ls : Array Slot), g_At D aC B yM 44 mem s.heap H locs → lv_has ls 2 [(0, .ref (B + 0))] → s4 mem = some q0 → W p l e (g_rm (8 + (dd + 1))) s m args below meth c H locs 0 0 (g_MQ below D aC B yM 44 args s none q0) (F0 m 4 ls [])) : ∀ (mem : g_M) (H : Heap) (locs : List Loc) (ls : Array Slot), g_At D aC B yM 44 mem s.heap H locs → lv_has ls 2 [(0, .ref (B + 0))] → f11_sum_b4_body F rc s4 mem = some q0 → W p l e (g_rm (8 + (dd + 1))) s m args below meth c H locs 0 0 (g_MQ below D aC B yM 44 args s none q0) (F0 m 4 ls []) := by
  intro mem H locs ls hM hl he
  unfold f11_sum_b4_body at he
  have hx := E.1
  have hb := E.2.1
  have hown := E.2.2.1
  have hts := E.2.2.2.1
  refine lv_aload_n hx hb dX11_sum_4 rfl (lv_at hl 0 rfl) ?_
  refine lv_bipush (v := (43 : Int32)) hx hb dX11_sum_5 rfl ?_
  obtain ⟨r6, hcr6, he⟩ := g_bind he
  refine g_callV [.int (43 : Int32)] (rest := []) E hml hl.1 hM cv_X11_264 (c11_isSign l D aC B hcr6) (o := 0) (Nat.le_of_ble_eq_true rfl) rfl (by omega) rfl rfl (Nat.le_of_ble_eq_true rfl) dX11_sum_7 (fun H locs hM => ?_)
  refine W.eq (g2 := F0 m 10 ls [.int r6]) rfl ?_
  refine lv_if_ne (tgt := 22) hx hb dX11_sum_10 (by decide) (fun h7 => ?_) (fun h7 => ?_)
  · rw [if_neg h7] at he
    exact w11_sum_b22 (F := F) E hml hret hlk hrc hs4 _ _ _ _ hM (lv_sub hl [0] rfl) he
  · rw [if_pos h7] at he
    refine lv_aload_n hx hb dX11_sum_13 rfl (lv_at hl 0 rfl) ?_
    refine lv_bipush (v := (45 : Int32)) hx hb dX11_sum_14 rfl ?_
    obtain ⟨r8, hcr8, he⟩ := g_bind he
    refine g_callV [.int (45 : Int32)] (rest := []) E hml hl.1 hM cv_X11_264 (c11_isSign l D aC B hcr8) (o := 0) (Nat.le_of_ble_eq_true rfl) rfl (by omega) rfl rfl (Nat.le_of_ble_eq_true rfl) dX11_sum_16 (fun H locs hM => ?_)
    refine W.eq (g2 := F0 m 19 ls [.int r8]) rfl ?_
    refine lv_if_eq (tgt := 48) hx hb dX11_sum_19 (by decide) (fun h9 => ?_) (fun h9 => ?_)
    · rw [if_pos h9] at he
      cases he
      exact g_vret E hM hret hlk dX11_sum_48
    · rw [if_neg h9] at he
      exact w11_sum_b22 (F := F) E hml hret hlk hrc hs4 _ _ _ _ hM (lv_sub hl [0] rfl) he

set_option maxHeartbeats 4000000 in
set_option maxRecDepth 100000 in
theorem w11_sum_b4 (E : g_C p s m args c cX11_sum RX11 D aC (g_Zs (g_A B 44))) (hml : c.maxLocals = 2) (hret : meth.sig.returnType = none) (hlk : meth.locks = false) {F : Nat} {q0 : g_M} {dd : Nat} {rc : Nat → g_M → Option g_M} (hrc : gE_ok l D aC B dd rc) : ∀ (mem : g_M) (H : Heap) (locs : List Loc) (ls : Array Slot), g_At D aC B yM 44 mem s.heap H locs → lv_has ls 2 [(0, .ref (B + 0))] → f11_sum_b4 F rc mem = some q0 → W p l e (g_rm (8 + (dd + 1))) s m args below meth c H locs 0 0 (g_MQ below D aC B yM 44 args s none q0) (F0 m 4 ls []) := by
  have key : ∀ (nn : Nat) (x : g_M) (H : Heap) (locs : List Loc) (ls : Array Slot), g_At D aC B yM 44 x s.heap H locs → lv_has ls 2 [(0, .ref (B + 0))] → g_fix (fun sf x => f11_sum_b4_body F rc (fun mem => sf mem) x) nn x = some q0 → W p l e (g_rm (8 + (dd + 1))) s m args below meth c H locs 0 0 (g_MQ below D aC B yM 44 args s none q0) (F0 m 4 ls []) := by
    intro nn
    induction nn with
    | zero => intro x H locs ls hM hl he; simp [g_fix] at he
    | succ nn ih =>
      intro x H locs ls hM hl he
      exact w11_sum_b4_body (F := F) E hml hret hlk hrc (fun mem H locs ls hM hl he => ih mem H locs ls hM hl he) x H locs ls hM hl he
  intro mem H locs ls hM hl he
  exact key F mem H locs ls hM hl he

set_option maxHeartbeats 4000000 in
set_option maxRecDepth 100000 in
theorem c11_sum (l : Launch) (D : va_G) (aC : Nat → ClassId) (B : Nat) {F : Nat} {dd : Nat} {rc : Nat → g_M → Option g_M} (hrc : gE_ok l D aC B dd rc) {mem : g_M} {q0 : g_M} (he : f11_sum F rc mem = some q0) : g_Met l yX11_sum cX11_sum 2 none (8 + (dd + 1)) D aC B yM 44 mem [.ref (B + 0)] none q0 := by
  refine g_ofW (by decide) (Nat.le_of_ble_eq_true rfl) ?_
  intro p e s m args below meth c ls E hml hret hlk hM hl
  have E : g_C p s m args c cX11_sum RX11 D aC (g_Zs (g_A B 44)) := E
  have hx := E.1
  have hb := E.2.1
  have hown := E.2.2.1
  have hts := E.2.2.2.1
  have hl : lv_has ls 2 [(0, .ref (B + 0))] := hl
  unfold f11_sum at he
  refine lv_aload_n hx hb dX11_sum_0 rfl (lv_at hl 0 rfl) ?_
  obtain ⟨r10, hcr10, he⟩ := g_bind he
  refine g_callV [] (rest := []) E hml hl.1 hM cv_X11_294 ((hrc _ _).2.2.2.2.1 hcr10) (o := 0) (Nat.le_of_ble_eq_true rfl) rfl (by omega) rfl rfl (Nat.le_of_ble_eq_true rfl) dX11_sum_1 (fun H locs hM => ?_)
  refine W.eq (g2 := F0 m 4 ls []) rfl ?_
  exact w11_sum_b4 (F := F) E hml hret hlk hrc _ _ _ _ hM (lv_sub hl [0] rfl) he

set_option maxHeartbeats 4000000 in
set_option maxRecDepth 100000 in
theorem w11_negation_b87 (E : g_C p s m args c cX11_negation RX11 D aC (g_Zs (g_A B 44))) (hml : c.maxLocals = 2) (hret : meth.sig.returnType = none) (hlk : meth.locks = false) {F : Nat} {q0 : g_M} {dd : Nat} {rc : Nat → g_M → Option g_M} (hrc : gE_ok l D aC B dd rc) : ∀ (mem : g_M) (H : Heap) (locs : List Loc) (ls : Array Slot), g_At D aC B yM 44 mem s.heap H locs → lv_has ls 2 [(0, .ref (B + 0))] → f11_negation_b87 F rc mem = some q0 → W p l e (g_rm (8 + (dd + 1))) s m args below meth c H locs 0 0 (g_MQ below D aC B yM 44 args s none q0) (F0 m 87 ls []) := by
  intro mem H locs ls hM hl he
  unfold f11_negation_b87 at he
  have hx := E.1
  have hb := E.2.1
  have hown := E.2.2.1
  have hts := E.2.2.2.1
  refine lv_aload_n hx hb dX11_negation_87 rfl (lv_at hl 0 rfl) ?_
  refine g_getI E hM (o := 0) (Nat.le_of_ble_eq_true rfl) rfl fl_X11_186 dX11_negation_88 ?_
  obtain ⟨x1, hx1, he⟩ := g_let_ex he
  refine g_topI hx1 ?_
  refine lv_istore_n (lv' := [(1, .int x1), (0, .ref (B + 0))]) hx hb dX11_negation_91 rfl hl (by decide) rfl (fun ls hl => ?_)
  refine lv_aload_n hx hb dX11_negation_92 rfl (lv_at hl 1 rfl) ?_
  obtain ⟨r2, hcr2, he⟩ := g_bind he
  refine g_callV [] (rest := []) E hml hl.1 hM cv_X11_282 (c11_knot l D aC B hcr2) (o := 0) (Nat.le_of_ble_eq_true rfl) rfl (by omega) rfl rfl (Nat.le_of_ble_eq_true rfl) dX11_negation_93 (fun H locs hM => ?_)
  refine W.eq (g2 := F0 m 96 ls []) rfl ?_
  refine lv_aload_n hx hb dX11_negation_96 rfl (lv_at hl 1 rfl) ?_
  obtain ⟨r3, hcr3, he⟩ := g_bind he
  refine g_callV [] (rest := []) E hml hl.1 hM cv_X11_227 (c11_goOn l D aC B hcr3) (o := 0) (Nat.le_of_ble_eq_true rfl) rfl (by omega) rfl rfl (Nat.le_of_ble_eq_true rfl) dX11_negation_97 (fun H locs hM => ?_)
  refine W.eq (g2 := F0 m 100 ls []) rfl ?_
  refine lv_aload_n hx hb dX11_negation_100 rfl (lv_at hl 1 rfl) ?_
  obtain ⟨r4, hcr4, he⟩ := g_bind he
  refine g_callV [] (rest := []) E hml hl.1 hM cv_X11_291 ((hrc _ _).2.2.2.1 hcr4) (o := 0) (Nat.le_of_ble_eq_true rfl) rfl (by omega) rfl rfl (Nat.le_of_ble_eq_true rfl) dX11_negation_101 (fun H locs hM => ?_)
  refine W.eq (g2 := F0 m 104 ls []) rfl ?_
  refine lv_aload_n hx hb dX11_negation_104 rfl (lv_at hl 1 rfl) ?_
  refine lv_iconst (v := (2 : Int32)) hx hb dX11_negation_105 rfl ?_
  refine lv_iload_n hx hb dX11_negation_106 rfl (lv_at hl 0 rfl) ?_
  obtain ⟨r5, hcr5, he⟩ := g_bind he
  refine g_callV [.int (2 : Int32), .int x1] (rest := []) E hml hl.1 hM cv_X11_285 (c11_puts l D aC B hcr5) (o := 0) (Nat.le_of_ble_eq_true rfl) rfl (by omega) rfl rfl (Nat.le_of_ble_eq_true rfl) dX11_negation_107 (fun H locs hM => ?_)
  refine W.eq (g2 := F0 m 110 ls []) rfl ?_
  cases he
  exact g_vret E hM hret hlk dX11_negation_110

set_option maxHeartbeats 4000000 in
set_option maxRecDepth 100000 in
theorem c11_negation (l : Launch) (D : va_G) (aC : Nat → ClassId) (B : Nat) {F : Nat} {dd : Nat} {rc : Nat → g_M → Option g_M} (hrc : gE_ok l D aC B dd rc) {mem : g_M} {q0 : g_M} (he : f11_negation F rc mem = some q0) : g_Met l yX11_negation cX11_negation 2 none (8 + (dd + 1)) D aC B yM 44 mem [.ref (B + 0)] none q0 := by
  refine g_ofW (by decide) (Nat.le_of_ble_eq_true rfl) ?_
  intro p e s m args below meth c ls E hml hret hlk hM hl
  have E : g_C p s m args c cX11_negation RX11 D aC (g_Zs (g_A B 44)) := E
  have hx := E.1
  have hb := E.2.1
  have hown := E.2.2.1
  have hts := E.2.2.2.1
  have hl : lv_has ls 2 [(0, .ref (B + 0))] := hl
  unfold f11_negation at he
  refine lv_aload_n hx hb dX11_negation_0 rfl (lv_at hl 0 rfl) ?_
  refine lv_bipush (v := (14 : Int32)) hx hb dX11_negation_1 rfl ?_
  obtain ⟨r6, hcr6, he⟩ := g_bind he
  refine g_callV [.int (14 : Int32)] (rest := []) E hml hl.1 hM cv_X11_279 (c11_isWord l D aC B hcr6) (o := 0) (Nat.le_of_ble_eq_true rfl) rfl (by omega) rfl rfl (Nat.le_of_ble_eq_true rfl) dX11_negation_3 (fun H locs hM => ?_)
  refine W.eq (g2 := F0 m 6 ls [.int r6]) rfl ?_
  refine lv_if_eq (tgt := 30) hx hb dX11_negation_6 (by decide) (fun h7 => ?_) (fun h7 => ?_)
  · rw [if_pos h7] at he
    refine lv_aload_n hx hb dX11_negation_30 rfl (lv_at hl 0 rfl) ?_
    obtain ⟨r12, hcr12, he⟩ := g_bind he
    refine g_callV [] (rest := []) E hml hl.1 hM cv_X11_291 ((hrc _ _).2.2.2.1 hcr12) (o := 0) (Nat.le_of_ble_eq_true rfl) rfl (by omega) rfl rfl (Nat.le_of_ble_eq_true rfl) dX11_negation_31 (fun H locs hM => ?_)
    refine W.eq (g2 := F0 m 34 ls []) rfl ?_
    refine lv_aload_n hx hb dX11_negation_34 rfl (lv_at hl 0 rfl) ?_
    refine g_getI E hM (o := 0) (Nat.le_of_ble_eq_true rfl) rfl fl_X11_211 dX11_negation_35 ?_
    refine lv_if_ne (tgt := 86) hx hb dX11_negation_38 (by decide) (fun h13 => ?_) (fun h13 => ?_)
    · rw [if_neg h13] at he
      cases he
      exact g_vret E hM hret hlk dX11_negation_86
    · rw [if_pos h13] at he
      refine lv_aload_n hx hb dX11_negation_41 rfl (lv_at hl 0 rfl) ?_
      refine g_getI E hM (o := 0) (Nat.le_of_ble_eq_true rfl) rfl fl_X11_176 dX11_negation_42 ?_
      refine lv_iconst (v := (3 : Int32)) hx hb dX11_negation_45 rfl ?_
      refine lv_icmp_ne (tgt := 86) hx hb dX11_negation_46 (by decide) (fun h14 => ?_) (fun h14 => ?_)
      · rw [if_neg h14] at he
        cases he
        exact g_vret E hM hret hlk dX11_negation_86
      · rw [if_pos h14] at he
        refine lv_aload_n hx hb dX11_negation_49 rfl (lv_at hl 0 rfl) ?_
        refine g_getI E hM (o := 0) (Nat.le_of_ble_eq_true rfl) rfl fl_X11_186 dX11_negation_50 ?_
        refine lv_bipush (v := (60 : Int32)) hx hb dX11_negation_53 rfl ?_
        refine lv_icmp_eq (tgt := 87) hx hb dX11_negation_55 (by decide) (fun h15 => ?_) (fun h15 => ?_)
        · rw [if_pos h15] at he
          exact w11_negation_b87 (F := F) E hml hret hlk hrc _ _ _ _ hM (lv_sub hl [0] rfl) he
        · rw [if_neg h15] at he
          refine lv_aload_n hx hb dX11_negation_58 rfl (lv_at hl 0 rfl) ?_
          refine g_getI E hM (o := 0) (Nat.le_of_ble_eq_true rfl) rfl fl_X11_186 dX11_negation_59 ?_
          refine lv_bipush (v := (62 : Int32)) hx hb dX11_negation_62 rfl ?_
          refine lv_icmp_eq (tgt := 87) hx hb dX11_negation_64 (by decide) (fun h16 => ?_) (fun h16 => ?_)
          · rw [if_pos h16] at he
            exact w11_negation_b87 (F := F) E hml hret hlk hrc _ _ _ _ hM (lv_sub hl [0] rfl) he
          · rw [if_neg h16] at he
            refine lv_aload_n hx hb dX11_negation_67 rfl (lv_at hl 0 rfl) ?_
            refine g_getI E hM (o := 0) (Nat.le_of_ble_eq_true rfl) rfl fl_X11_186 dX11_negation_68 ?_
            refine lv_bipush (v := (61 : Int32)) hx hb dX11_negation_71 rfl ?_
            refine lv_icmp_eq (tgt := 87) hx hb dX11_negation_73 (by decide) (fun h17 => ?_) (fun h17 => ?_)
            · rw [if_pos h17] at he
              exact w11_negation_b87 (F := F) E hml hret hlk hrc _ _ _ _ hM (lv_sub hl [0] rfl) he
            · rw [if_neg h17] at he
              refine lv_aload_n hx hb dX11_negation_76 rfl (lv_at hl 0 rfl) ?_
              refine g_getI E hM (o := 0) (Nat.le_of_ble_eq_true rfl) rfl fl_X11_186 dX11_negation_77 ?_
              refine lv_sipush (v := (256 : Int32)) hx hb dX11_negation_80 rfl ?_
              refine lv_icmp_ge (tgt := 87) hx hb dX11_negation_83 (by decide) (fun h18 => ?_) (fun h18 => ?_)
              · rw [if_neg (Int32.not_lt.mpr h18)] at he
                exact w11_negation_b87 (F := F) E hml hret hlk hrc _ _ _ _ hM (lv_sub hl [0] rfl) he
              · rw [if_pos (Int32.not_le.mp h18)] at he
                cases he
                exact g_vret E hM hret hlk dX11_negation_86
  · rw [if_neg h7] at he
    refine lv_aload_n hx hb dX11_negation_9 rfl (lv_at hl 0 rfl) ?_
    obtain ⟨r8, hcr8, he⟩ := g_bind he
    refine g_callV [] (rest := []) E hml hl.1 hM cv_X11_282 (c11_knot l D aC B hcr8) (o := 0) (Nat.le_of_ble_eq_true rfl) rfl (by omega) rfl rfl (Nat.le_of_ble_eq_true rfl) dX11_negation_10 (fun H locs hM => ?_)
    refine W.eq (g2 := F0 m 13 ls []) rfl ?_
    refine lv_aload_n hx hb dX11_negation_13 rfl (lv_at hl 0 rfl) ?_
    obtain ⟨r9, hcr9, he⟩ := g_bind he
    refine g_callV [] (rest := []) E hml hl.1 hM cv_X11_227 (c11_goOn l D aC B hcr9) (o := 0) (Nat.le_of_ble_eq_true rfl) rfl (by omega) rfl rfl (Nat.le_of_ble_eq_true rfl) dX11_negation_14 (fun H locs hM => ?_)
    refine W.eq (g2 := F0 m 17 ls []) rfl ?_
    refine lv_aload_n hx hb dX11_negation_17 rfl (lv_at hl 0 rfl) ?_
    obtain ⟨r10, hcr10, he⟩ := g_bind he
    refine g_callV [] (rest := []) E hml hl.1 hM cv_X11_288 ((hrc _ _).2.2.1 hcr10) (o := 0) (Nat.le_of_ble_eq_true rfl) rfl (by omega) rfl rfl (Nat.le_of_ble_eq_true rfl) dX11_negation_18 (fun H locs hM => ?_)
    refine W.eq (g2 := F0 m 21 ls []) rfl ?_
    refine lv_aload_n hx hb dX11_negation_21 rfl (lv_at hl 0 rfl) ?_
    refine lv_iconst (v := (2 : Int32)) hx hb dX11_negation_22 rfl ?_
    refine lv_sipush (v := (260 : Int32)) hx hb dX11_negation_23 rfl ?_
    obtain ⟨r11, hcr11, he⟩ := g_bind he
    refine g_callV [.int (2 : Int32), .int (260 : Int32)] (rest := []) E hml hl.1 hM cv_X11_285 (c11_puts l D aC B hcr11) (o := 0) (Nat.le_of_ble_eq_true rfl) rfl (by omega) rfl rfl (Nat.le_of_ble_eq_true rfl) dX11_negation_26 (fun H locs hM => ?_)
    refine W.eq (g2 := F0 m 29 ls []) rfl ?_
    cases he
    exact g_vret E hM hret hlk dX11_negation_29

set_option maxHeartbeats 4000000 in
set_option maxRecDepth 100000 in
theorem w11_conjunction_b4_body (E : g_C p s m args c cX11_conjunction RX11 D aC (g_Zs (g_A B 44))) (hml : c.maxLocals = 1) (hret : meth.sig.returnType = none) (hlk : meth.locks = false) {F : Nat} {q0 : g_M} {dd : Nat} {rc : Nat → g_M → Option g_M} (hrc : gE_ok l D aC B dd rc) {s4 : g_M → Option (g_M)} (hs4 : ∀ (mem : g_M) (H : Heap) (locs : List Loc) (ls : Array Slot), g_At D aC B yM 44 mem s.heap H locs → lv_has ls 1 [(0, .ref (B + 0))] → s4 mem = some q0 → W p l e (g_rm (8 + (dd + 1))) s m args below meth c H locs 0 0 (g_MQ below D aC B yM 44 args s none q0) (F0 m 4 ls [])) : ∀ (mem : g_M) (H : Heap) (locs : List Loc) (ls : Array Slot), g_At D aC B yM 44 mem s.heap H locs → lv_has ls 1 [(0, .ref (B + 0))] → f11_conjunction_b4_body F rc s4 mem = some q0 → W p l e (g_rm (8 + (dd + 1))) s m args below meth c H locs 0 0 (g_MQ below D aC B yM 44 args s none q0) (F0 m 4 ls []) := by
  intro mem H locs ls hM hl he
  unfold f11_conjunction_b4_body at he
  have hx := E.1
  have hb := E.2.1
  have hown := E.2.2.1
  have hts := E.2.2.2.1
  refine lv_aload_n hx hb dX11_conjunction_4 rfl (lv_at hl 0 rfl) ?_
  refine lv_bipush (v := (13 : Int32)) hx hb dX11_conjunction_5 rfl ?_
  obtain ⟨r1, hcr1, he⟩ := g_bind he
  refine g_callV [.int (13 : Int32)] (rest := []) E hml hl.1 hM cv_X11_279 (c11_isWord l D aC B hcr1) (o := 0) (Nat.le_of_ble_eq_true rfl) rfl (by omega) rfl rfl (Nat.le_of_ble_eq_true rfl) dX11_conjunction_7 (fun H locs hM => ?_)
  refine W.eq (g2 := F0 m 10 ls [.int r1]) rfl ?_
  refine lv_if_eq (tgt := 36) hx hb dX11_conjunction_10 (by decide) (fun h2 => ?_) (fun h2 => ?_)
  · rw [if_pos h2] at he
    cases he
    exact g_vret E hM hret hlk dX11_conjunction_36
  · rw [if_neg h2] at he
    refine lv_aload_n hx hb dX11_conjunction_13 rfl (lv_at hl 0 rfl) ?_
    obtain ⟨r3, hcr3, he⟩ := g_bind he
    refine g_callV [] (rest := []) E hml hl.1 hM cv_X11_282 (c11_knot l D aC B hcr3) (o := 0) (Nat.le_of_ble_eq_true rfl) rfl (by omega) rfl rfl (Nat.le_of_ble_eq_true rfl) dX11_conjunction_14 (fun H locs hM => ?_)
    refine W.eq (g2 := F0 m 17 ls []) rfl ?_
    refine lv_aload_n hx hb dX11_conjunction_17 rfl (lv_at hl 0 rfl) ?_
    obtain ⟨r4, hcr4, he⟩ := g_bind he
    refine g_callV [] (rest := []) E hml hl.1 hM cv_X11_227 (c11_goOn l D aC B hcr4) (o := 0) (Nat.le_of_ble_eq_true rfl) rfl (by omega) rfl rfl (Nat.le_of_ble_eq_true rfl) dX11_conjunction_18 (fun H locs hM => ?_)
    refine W.eq (g2 := F0 m 21 ls []) rfl ?_
    refine lv_aload_n hx hb dX11_conjunction_21 rfl (lv_at hl 0 rfl) ?_
    obtain ⟨r5, hcr5, he⟩ := g_bind he
    refine g_callV [] (rest := []) E hml hl.1 hM cv_X11_288 ((hrc _ _).2.2.1 hcr5) (o := 0) (Nat.le_of_ble_eq_true rfl) rfl (by omega) rfl rfl (Nat.le_of_ble_eq_true rfl) dX11_conjunction_22 (fun H locs hM => ?_)
    refine W.eq (g2 := F0 m 25 ls []) rfl ?_
    refine lv_aload_n hx hb dX11_conjunction_25 rfl (lv_at hl 0 rfl) ?_
    refine lv_iconst (v := (2 : Int32)) hx hb dX11_conjunction_26 rfl ?_
    refine lv_sipush (v := (261 : Int32)) hx hb dX11_conjunction_27 rfl ?_
    obtain ⟨r6, hcr6, he⟩ := g_bind he
    refine g_callV [.int (2 : Int32), .int (261 : Int32)] (rest := []) E hml hl.1 hM cv_X11_285 (c11_puts l D aC B hcr6) (o := 0) (Nat.le_of_ble_eq_true rfl) rfl (by omega) rfl rfl (Nat.le_of_ble_eq_true rfl) dX11_conjunction_30 (fun H locs hM => ?_)
    refine W.eq (g2 := F0 m 33 ls []) rfl ?_
    refine lv_goto (tgt := 4) hx hb dX11_conjunction_33 (by decide) ?_
    exact hs4 _ _ _ _ hM (lv_sub hl [0] rfl) he

set_option maxHeartbeats 4000000 in
set_option maxRecDepth 100000 in
theorem w11_conjunction_b4 (E : g_C p s m args c cX11_conjunction RX11 D aC (g_Zs (g_A B 44))) (hml : c.maxLocals = 1) (hret : meth.sig.returnType = none) (hlk : meth.locks = false) {F : Nat} {q0 : g_M} {dd : Nat} {rc : Nat → g_M → Option g_M} (hrc : gE_ok l D aC B dd rc) : ∀ (mem : g_M) (H : Heap) (locs : List Loc) (ls : Array Slot), g_At D aC B yM 44 mem s.heap H locs → lv_has ls 1 [(0, .ref (B + 0))] → f11_conjunction_b4 F rc mem = some q0 → W p l e (g_rm (8 + (dd + 1))) s m args below meth c H locs 0 0 (g_MQ below D aC B yM 44 args s none q0) (F0 m 4 ls []) := by
  have key : ∀ (nn : Nat) (x : g_M) (H : Heap) (locs : List Loc) (ls : Array Slot), g_At D aC B yM 44 x s.heap H locs → lv_has ls 1 [(0, .ref (B + 0))] → g_fix (fun sf x => f11_conjunction_b4_body F rc (fun mem => sf mem) x) nn x = some q0 → W p l e (g_rm (8 + (dd + 1))) s m args below meth c H locs 0 0 (g_MQ below D aC B yM 44 args s none q0) (F0 m 4 ls []) := by
    intro nn
    induction nn with
    | zero => intro x H locs ls hM hl he; simp [g_fix] at he
    | succ nn ih =>
      intro x H locs ls hM hl he
      exact w11_conjunction_b4_body (F := F) E hml hret hlk hrc (fun mem H locs ls hM hl he => ih mem H locs ls hM hl he) x H locs ls hM hl he
  intro mem H locs ls hM hl he
  exact key F mem H locs ls hM hl he

set_option maxHeartbeats 4000000 in
set_option maxRecDepth 100000 in
theorem c11_conjunction (l : Launch) (D : va_G) (aC : Nat → ClassId) (B : Nat) {F : Nat} {dd : Nat} {rc : Nat → g_M → Option g_M} (hrc : gE_ok l D aC B dd rc) {mem : g_M} {q0 : g_M} (he : f11_conjunction F rc mem = some q0) : g_Met l yX11_conjunction cX11_conjunction 1 none (8 + (dd + 1)) D aC B yM 44 mem [.ref (B + 0)] none q0 := by
  refine g_ofW (by decide) (Nat.le_of_ble_eq_true rfl) ?_
  intro p e s m args below meth c ls E hml hret hlk hM hl
  have E : g_C p s m args c cX11_conjunction RX11 D aC (g_Zs (g_A B 44)) := E
  have hx := E.1
  have hb := E.2.1
  have hown := E.2.2.1
  have hts := E.2.2.2.1
  have hl : lv_has ls 1 [(0, .ref (B + 0))] := hl
  unfold f11_conjunction at he
  refine lv_aload_n hx hb dX11_conjunction_0 rfl (lv_at hl 0 rfl) ?_
  obtain ⟨r7, hcr7, he⟩ := g_bind he
  refine g_callV [] (rest := []) E hml hl.1 hM cv_X11_288 ((hrc _ _).2.2.1 hcr7) (o := 0) (Nat.le_of_ble_eq_true rfl) rfl (by omega) rfl rfl (Nat.le_of_ble_eq_true rfl) dX11_conjunction_1 (fun H locs hM => ?_)
  refine W.eq (g2 := F0 m 4 ls []) rfl ?_
  exact w11_conjunction_b4 (F := F) E hml hret hlk hrc _ _ _ _ hM (lv_sub hl [0] rfl) he

set_option maxHeartbeats 4000000 in
set_option maxRecDepth 100000 in
theorem w11_expression_b4_body (E : g_C p s m args c cX11_expression RX11 D aC (g_Zs (g_A B 44))) (hml : c.maxLocals = 1) (hret : meth.sig.returnType = none) (hlk : meth.locks = false) {F : Nat} {q0 : g_M} {dd : Nat} {rc : Nat → g_M → Option g_M} (hrc : gE_ok l D aC B dd rc) {s4 : g_M → Option (g_M)} (hs4 : ∀ (mem : g_M) (H : Heap) (locs : List Loc) (ls : Array Slot), g_At D aC B yM 44 mem s.heap H locs → lv_has ls 1 [(0, .ref (B + 0))] → s4 mem = some q0 → W p l e (g_rm (8 + (dd + 1))) s m args below meth c H locs 0 0 (g_MQ below D aC B yM 44 args s none q0) (F0 m 4 ls [])) : ∀ (mem : g_M) (H : Heap) (locs : List Loc) (ls : Array Slot), g_At D aC B yM 44 mem s.heap H locs → lv_has ls 1 [(0, .ref (B + 0))] → f11_expression_b4_body F rc s4 mem = some q0 → W p l e (g_rm (8 + (dd + 1))) s m args below meth c H locs 0 0 (g_MQ below D aC B yM 44 args s none q0) (F0 m 4 ls []) := by
  intro mem H locs ls hM hl he
  unfold f11_expression_b4_body at he
  have hx := E.1
  have hb := E.2.1
  have hown := E.2.2.1
  have hts := E.2.2.2.1
  refine lv_aload_n hx hb dX11_expression_4 rfl (lv_at hl 0 rfl) ?_
  refine lv_bipush (v := (12 : Int32)) hx hb dX11_expression_5 rfl ?_
  obtain ⟨r1, hcr1, he⟩ := g_bind he
  refine g_callV [.int (12 : Int32)] (rest := []) E hml hl.1 hM cv_X11_279 (c11_isWord l D aC B hcr1) (o := 0) (Nat.le_of_ble_eq_true rfl) rfl (by omega) rfl rfl (Nat.le_of_ble_eq_true rfl) dX11_expression_7 (fun H locs hM => ?_)
  refine W.eq (g2 := F0 m 10 ls [.int r1]) rfl ?_
  refine lv_if_eq (tgt := 36) hx hb dX11_expression_10 (by decide) (fun h2 => ?_) (fun h2 => ?_)
  · rw [if_pos h2] at he
    cases he
    exact g_vret E hM hret hlk dX11_expression_36
  · rw [if_neg h2] at he
    refine lv_aload_n hx hb dX11_expression_13 rfl (lv_at hl 0 rfl) ?_
    obtain ⟨r3, hcr3, he⟩ := g_bind he
    refine g_callV [] (rest := []) E hml hl.1 hM cv_X11_282 (c11_knot l D aC B hcr3) (o := 0) (Nat.le_of_ble_eq_true rfl) rfl (by omega) rfl rfl (Nat.le_of_ble_eq_true rfl) dX11_expression_14 (fun H locs hM => ?_)
    refine W.eq (g2 := F0 m 17 ls []) rfl ?_
    refine lv_aload_n hx hb dX11_expression_17 rfl (lv_at hl 0 rfl) ?_
    obtain ⟨r4, hcr4, he⟩ := g_bind he
    refine g_callV [] (rest := []) E hml hl.1 hM cv_X11_227 (c11_goOn l D aC B hcr4) (o := 0) (Nat.le_of_ble_eq_true rfl) rfl (by omega) rfl rfl (Nat.le_of_ble_eq_true rfl) dX11_expression_18 (fun H locs hM => ?_)
    refine W.eq (g2 := F0 m 21 ls []) rfl ?_
    refine lv_aload_n hx hb dX11_expression_21 rfl (lv_at hl 0 rfl) ?_
    obtain ⟨r5, hcr5, he⟩ := g_bind he
    refine g_callV [] (rest := []) E hml hl.1 hM cv_X11_276 ((hrc _ _).2.1 hcr5) (o := 0) (Nat.le_of_ble_eq_true rfl) rfl (by omega) rfl rfl (Nat.le_of_ble_eq_true rfl) dX11_expression_22 (fun H locs hM => ?_)
    refine W.eq (g2 := F0 m 25 ls []) rfl ?_
    refine lv_aload_n hx hb dX11_expression_25 rfl (lv_at hl 0 rfl) ?_
    refine lv_iconst (v := (2 : Int32)) hx hb dX11_expression_26 rfl ?_
    refine lv_sipush (v := (262 : Int32)) hx hb dX11_expression_27 rfl ?_
    obtain ⟨r6, hcr6, he⟩ := g_bind he
    refine g_callV [.int (2 : Int32), .int (262 : Int32)] (rest := []) E hml hl.1 hM cv_X11_285 (c11_puts l D aC B hcr6) (o := 0) (Nat.le_of_ble_eq_true rfl) rfl (by omega) rfl rfl (Nat.le_of_ble_eq_true rfl) dX11_expression_30 (fun H locs hM => ?_)
    refine W.eq (g2 := F0 m 33 ls []) rfl ?_
    refine lv_goto (tgt := 4) hx hb dX11_expression_33 (by decide) ?_
    exact hs4 _ _ _ _ hM (lv_sub hl [0] rfl) he

set_option maxHeartbeats 4000000 in
set_option maxRecDepth 100000 in
theorem w11_expression_b4 (E : g_C p s m args c cX11_expression RX11 D aC (g_Zs (g_A B 44))) (hml : c.maxLocals = 1) (hret : meth.sig.returnType = none) (hlk : meth.locks = false) {F : Nat} {q0 : g_M} {dd : Nat} {rc : Nat → g_M → Option g_M} (hrc : gE_ok l D aC B dd rc) : ∀ (mem : g_M) (H : Heap) (locs : List Loc) (ls : Array Slot), g_At D aC B yM 44 mem s.heap H locs → lv_has ls 1 [(0, .ref (B + 0))] → f11_expression_b4 F rc mem = some q0 → W p l e (g_rm (8 + (dd + 1))) s m args below meth c H locs 0 0 (g_MQ below D aC B yM 44 args s none q0) (F0 m 4 ls []) := by
  have key : ∀ (nn : Nat) (x : g_M) (H : Heap) (locs : List Loc) (ls : Array Slot), g_At D aC B yM 44 x s.heap H locs → lv_has ls 1 [(0, .ref (B + 0))] → g_fix (fun sf x => f11_expression_b4_body F rc (fun mem => sf mem) x) nn x = some q0 → W p l e (g_rm (8 + (dd + 1))) s m args below meth c H locs 0 0 (g_MQ below D aC B yM 44 args s none q0) (F0 m 4 ls []) := by
    intro nn
    induction nn with
    | zero => intro x H locs ls hM hl he; simp [g_fix] at he
    | succ nn ih =>
      intro x H locs ls hM hl he
      exact w11_expression_b4_body (F := F) E hml hret hlk hrc (fun mem H locs ls hM hl he => ih mem H locs ls hM hl he) x H locs ls hM hl he
  intro mem H locs ls hM hl he
  exact key F mem H locs ls hM hl he

set_option maxHeartbeats 4000000 in
set_option maxRecDepth 100000 in
theorem c11_expression (l : Launch) (D : va_G) (aC : Nat → ClassId) (B : Nat) {F : Nat} {dd : Nat} {rc : Nat → g_M → Option g_M} (hrc : gE_ok l D aC B dd rc) {mem : g_M} {q0 : g_M} (he : f11_expression F rc mem = some q0) : g_Met l yX11_expression cX11_expression 1 none (8 + (dd + 1)) D aC B yM 44 mem [.ref (B + 0)] none q0 := by
  refine g_ofW (by decide) (Nat.le_of_ble_eq_true rfl) ?_
  intro p e s m args below meth c ls E hml hret hlk hM hl
  have E : g_C p s m args c cX11_expression RX11 D aC (g_Zs (g_A B 44)) := E
  have hx := E.1
  have hb := E.2.1
  have hown := E.2.2.1
  have hts := E.2.2.2.1
  have hl : lv_has ls 1 [(0, .ref (B + 0))] := hl
  unfold f11_expression at he
  refine lv_aload_n hx hb dX11_expression_0 rfl (lv_at hl 0 rfl) ?_
  obtain ⟨r7, hcr7, he⟩ := g_bind he
  refine g_callV [] (rest := []) E hml hl.1 hM cv_X11_276 ((hrc _ _).2.1 hcr7) (o := 0) (Nat.le_of_ble_eq_true rfl) rfl (by omega) rfl rfl (Nat.le_of_ble_eq_true rfl) dX11_expression_1 (fun H locs hM => ?_)
  refine W.eq (g2 := F0 m 4 ls []) rfl ?_
  exact w11_expression_b4 (F := F) E hml hret hlk hrc _ _ _ _ hM (lv_sub hl [0] rfl) he

theorem gE_all (l : Launch) (D : va_G) (aC : Nat → ClassId) (B : Nat) (F : Nat) : ∀ d, gE_ok l D aC B d (fgE F d) := by
  intro d
  induction d with
  | zero => intro mem q; simp [fgE]
  | succ d ih =>
    intro mem q
    refine ⟨fun h => c11_expression l D aC B ih (by simpa [fgE] using h), fun h => c11_conjunction l D aC B ih (by simpa [fgE] using h), fun h => c11_negation l D aC B ih (by simpa [fgE] using h), fun h => c11_sum l D aC B ih (by simpa [fgE] using h), fun h => c11_product l D aC B ih (by simpa [fgE] using h), fun h => c11_primary l D aC B ih (by simpa [fgE] using h)⟩
set_option maxHeartbeats 4000000 in
set_option maxRecDepth 100000 in
theorem w11_lawLine_b65 (E : g_C p s m args c cX11_lawLine RX11 D aC (g_Zs (g_A B 44))) (hml : c.maxLocals = 2) (hret : meth.sig.returnType = none) (hlk : meth.locks = false) {F : Nat} {q0 : g_M} : ∀ (v1 : Int32) (mem : g_M) (H : Heap) (locs : List Loc) (ls : Array Slot), g_At D aC B yM 44 mem s.heap H locs → lv_has ls 2 [(0, .ref (B + 0)), (1, .int v1)] → f11_lawLine_b65 F v1 mem = some q0 → W p l e (g_rm 209) s m args below meth c H locs 0 0 (g_MQ below D aC B yM 44 args s none q0) (F0 m 65 ls []) := by
  intro v1 mem H locs ls hM hl he
  unfold f11_lawLine_b65 at he
  have hx := E.1
  have hb := E.2.1
  have hown := E.2.2.1
  have hts := E.2.2.2.1
  refine lv_aload_n hx hb dX11_lawLine_65 rfl (lv_at hl 0 rfl) ?_
  refine g_getI E hM (o := 0) (Nat.le_of_ble_eq_true rfl) rfl fl_X11_211 dX11_lawLine_66 ?_
  refine lv_if_eq (tgt := 73) hx hb dX11_lawLine_69 (by decide) (fun h1 => ?_) (fun h1 => ?_)
  · rw [if_pos h1] at he
    refine lv_aload_n hx hb dX11_lawLine_73 rfl (lv_at hl 0 rfl) ?_
    refine lv_dup hx hb dX11_lawLine_74 rfl ?_
    refine g_getI E hM (o := 0) (Nat.le_of_ble_eq_true rfl) rfl fl_X11_241 dX11_lawLine_75 ?_
    refine lv_iconst (v := (1 : Int32)) hx hb dX11_lawLine_78 rfl ?_
    refine lv_bipush (v := (16 : Int32)) hx hb dX11_lawLine_79 rfl ?_
    refine lv_iload_n hx hb dX11_lawLine_81 rfl (lv_at hl 1 rfl) ?_
    refine lv_iadd hx hb dX11_lawLine_82 ?_
    refine lv_ishl hx hb dX11_lawLine_83 ?_
    refine lv_ior hx hb dX11_lawLine_84 ?_
    refine g_putI E hM (o := 0) (Nat.le_of_ble_eq_true rfl) rfl fp_X11_241 dX11_lawLine_85 (fun H locs hM => ?_)
    obtain ⟨m2, hm2, he⟩ := g_let_ex he
    rw [← hm2] at hM
    refine lv_aload_n hx hb dX11_lawLine_88 rfl (lv_at hl 0 rfl) ?_
    obtain ⟨r3, hcr3, he⟩ := g_bind he
    refine g_callV [] (rest := []) E hml hl.1 hM cv_X11_217 (c11_token l D aC B hcr3) (o := 0) (Nat.le_of_ble_eq_true rfl) rfl (by decide) rfl rfl (Nat.le_of_ble_eq_true rfl) dX11_lawLine_89 (fun H locs hM => ?_)
    refine W.eq (g2 := F0 m 92 ls []) rfl ?_
    refine lv_aload_n hx hb dX11_lawLine_92 rfl (lv_at hl 0 rfl) ?_
    refine g_getP E hM (o := 0) (Nat.le_of_ble_eq_true rfl) rfl fl_X11_61 (q := 18) rfl dX11_lawLine_93 ?_
    refine lv_iconst (v := (3 : Int32)) hx hb dX11_lawLine_96 rfl ?_
    refine lv_iload_n hx hb dX11_lawLine_97 rfl (lv_at hl 1 rfl) ?_
    refine lv_iadd hx hb dX11_lawLine_98 ?_
    refine lv_aload_n hx hb dX11_lawLine_99 rfl (lv_at hl 0 rfl) ?_
    refine lv_bipush (v := (8 : Int32)) hx hb dX11_lawLine_100 rfl ?_
    obtain ⟨r4, hcr4, he⟩ := g_bind he
    refine g_callV [.int (8 : Int32)] (rest := [.int ((3 : Int32) + v1), .ref (B + 18)]) E hml hl.1 hM cv_X11_230 (c11_fresher l D aC B hcr4) (o := 0) (Nat.le_of_ble_eq_true rfl) rfl (by decide) rfl rfl (Nat.le_of_ble_eq_true rfl) dX11_lawLine_102 (fun H locs hM => ?_)
    refine W.eq (g2 := F0 m 105 ls [.int r4, .int ((3 : Int32) + v1), .ref (B + 18)]) rfl ?_
    obtain ⟨h5, he⟩ := g_ck_some he
    refine g_iast E hM (o := 18) (Nat.le_of_ble_eq_true rfl) rfl h5 dX11_lawLine_105 (fun H locs hM => ?_)
    obtain ⟨m6, hm6, he⟩ := g_let_ex he
    rw [← hm6] at hM
    refine lv_aload_n hx hb dX11_lawLine_106 rfl (lv_at hl 0 rfl) ?_
    obtain ⟨r7, hcr7, he⟩ := g_bind he
    refine g_callV [] (rest := []) E hml hl.1 hM cv_X11_270 (((gE_all l D aC B F 200) _ _).1 hcr7) (o := 0) (Nat.le_of_ble_eq_true rfl) rfl (by decide) rfl rfl (Nat.le_of_ble_eq_true rfl) dX11_lawLine_107 (fun H locs hM => ?_)
    refine W.eq (g2 := F0 m 110 ls []) rfl ?_
    refine lv_aload_n hx hb dX11_lawLine_110 rfl (lv_at hl 0 rfl) ?_
    refine g_getP E hM (o := 0) (Nat.le_of_ble_eq_true rfl) rfl fl_X11_64 (q := 19) rfl dX11_lawLine_111 ?_
    refine lv_iconst (v := (3 : Int32)) hx hb dX11_lawLine_114 rfl ?_
    refine lv_iload_n hx hb dX11_lawLine_115 rfl (lv_at hl 1 rfl) ?_
    refine lv_iadd hx hb dX11_lawLine_116 ?_
    refine lv_aload_n hx hb dX11_lawLine_117 rfl (lv_at hl 0 rfl) ?_
    refine lv_bipush (v := (8 : Int32)) hx hb dX11_lawLine_118 rfl ?_
    obtain ⟨r8, hcr8, he⟩ := g_bind he
    refine g_callV [.int (8 : Int32)] (rest := [.int ((3 : Int32) + v1), .ref (B + 19)]) E hml hl.1 hM cv_X11_230 (c11_fresher l D aC B hcr8) (o := 0) (Nat.le_of_ble_eq_true rfl) rfl (by decide) rfl rfl (Nat.le_of_ble_eq_true rfl) dX11_lawLine_120 (fun H locs hM => ?_)
    refine W.eq (g2 := F0 m 123 ls [.int r8, .int ((3 : Int32) + v1), .ref (B + 19)]) rfl ?_
    obtain ⟨h9, he⟩ := g_ck_some he
    refine g_iast E hM (o := 19) (Nat.le_of_ble_eq_true rfl) rfl h9 dX11_lawLine_123 (fun H locs hM => ?_)
    obtain ⟨m10, hm10, he⟩ := g_let_ex he
    rw [← hm10] at hM
    cases he
    exact g_vret E hM hret hlk dX11_lawLine_124
  · rw [if_neg h1] at he
    cases he
    exact g_vret E hM hret hlk dX11_lawLine_72

set_option maxHeartbeats 4000000 in
set_option maxRecDepth 100000 in
theorem w11_lawLine_b30 (E : g_C p s m args c cX11_lawLine RX11 D aC (g_Zs (g_A B 44))) (hml : c.maxLocals = 2) (hret : meth.sig.returnType = none) (hlk : meth.locks = false) {F : Nat} {q0 : g_M} : ∀ (mem : g_M) (H : Heap) (locs : List Loc) (ls : Array Slot), g_At D aC B yM 44 mem s.heap H locs → lv_has ls 2 [(0, .ref (B + 0))] → f11_lawLine_b30 F mem = some q0 → W p l e (g_rm 209) s m args below meth c H locs 0 0 (g_MQ below D aC B yM 44 args s none q0) (F0 m 30 ls []) := by
  intro mem H locs ls hM hl he
  unfold f11_lawLine_b30 at he
  have hx := E.1
  have hb := E.2.1
  have hown := E.2.2.1
  have hts := E.2.2.2.1
  refine lv_aload_n hx hb dX11_lawLine_30 rfl (lv_at hl 0 rfl) ?_
  refine g_getI E hM (o := 0) (Nat.le_of_ble_eq_true rfl) rfl fl_X11_186 dX11_lawLine_31 ?_
  refine lv_bipush (v := (9 : Int32)) hx hb dX11_lawLine_34 rfl ?_
  refine lv_isub hx hb dX11_lawLine_36 ?_
  obtain ⟨x11, hx11, he⟩ := g_let_ex he
  refine g_topI hx11 ?_
  refine lv_istore_n (lv' := [(1, .int x11), (0, .ref (B + 0))]) hx hb dX11_lawLine_37 rfl hl (by decide) rfl (fun ls hl => ?_)
  refine lv_aload_n hx hb dX11_lawLine_38 rfl (lv_at hl 1 rfl) ?_
  refine g_getI E hM (o := 0) (Nat.le_of_ble_eq_true rfl) rfl fl_X11_211 dX11_lawLine_39 ?_
  refine lv_if_ne (tgt := 65) hx hb dX11_lawLine_42 (by decide) (fun h12 => ?_) (fun h12 => ?_)
  · rw [if_neg h12] at he
    exact w11_lawLine_b65 (F := F) E hml hret hlk _ _ _ _ _ hM (lv_sub hl [1, 0] rfl) he
  · rw [if_pos h12] at he
    refine lv_aload_n hx hb dX11_lawLine_45 rfl (lv_at hl 1 rfl) ?_
    refine g_getI E hM (o := 0) (Nat.le_of_ble_eq_true rfl) rfl fl_X11_241 dX11_lawLine_46 ?_
    refine lv_bipush (v := (16 : Int32)) hx hb dX11_lawLine_49 rfl ?_
    refine lv_iload_n hx hb dX11_lawLine_51 rfl (lv_at hl 0 rfl) ?_
    refine lv_iadd hx hb dX11_lawLine_52 ?_
    refine lv_ishr hx hb dX11_lawLine_53 ?_
    refine lv_iconst (v := (1 : Int32)) hx hb dX11_lawLine_54 rfl ?_
    refine lv_iand hx hb dX11_lawLine_55 ?_
    refine lv_iconst (v := (1 : Int32)) hx hb dX11_lawLine_56 rfl ?_
    refine lv_icmp_ne (tgt := 65) hx hb dX11_lawLine_57 (by decide) (fun h13 => ?_) (fun h13 => ?_)
    · rw [if_neg h13] at he
      exact w11_lawLine_b65 (F := F) E hml hret hlk _ _ _ _ _ hM (lv_sub hl [1, 0] rfl) he
    · rw [if_pos h13] at he
      refine lv_aload_n hx hb dX11_lawLine_60 rfl (lv_at hl 1 rfl) ?_
      refine lv_iconst (v := (3 : Int32)) hx hb dX11_lawLine_61 rfl ?_
      obtain ⟨r14, hcr14, he⟩ := g_bind he
      refine g_callV [.int (3 : Int32)] (rest := []) E hml hl.1 hM cv_X11_220 (c11_wrong l D aC B hcr14) (o := 0) (Nat.le_of_ble_eq_true rfl) rfl (by decide) rfl rfl (Nat.le_of_ble_eq_true rfl) dX11_lawLine_62 (fun H locs hM => ?_)
      refine W.eq (g2 := F0 m 65 ls []) rfl ?_
      exact w11_lawLine_b65 (F := F) E hml hret hlk _ _ _ _ _ hM (lv_sub hl [1, 0] rfl) he

set_option maxHeartbeats 4000000 in
set_option maxRecDepth 100000 in
theorem w11_lawLine_b25 (E : g_C p s m args c cX11_lawLine RX11 D aC (g_Zs (g_A B 44))) (hml : c.maxLocals = 2) (hret : meth.sig.returnType = none) (hlk : meth.locks = false) {F : Nat} {q0 : g_M} : ∀ (mem : g_M) (H : Heap) (locs : List Loc) (ls : Array Slot), g_At D aC B yM 44 mem s.heap H locs → lv_has ls 2 [(0, .ref (B + 0))] → f11_lawLine_b25 F mem = some q0 → W p l e (g_rm 209) s m args below meth c H locs 0 0 (g_MQ below D aC B yM 44 args s none q0) (F0 m 25 ls []) := by
  intro mem H locs ls hM hl he
  unfold f11_lawLine_b25 at he
  have hx := E.1
  have hb := E.2.1
  have hown := E.2.2.1
  have hts := E.2.2.2.1
  refine lv_aload_n hx hb dX11_lawLine_25 rfl (lv_at hl 0 rfl) ?_
  refine lv_iconst (v := (1 : Int32)) hx hb dX11_lawLine_26 rfl ?_
  obtain ⟨r15, hcr15, he⟩ := g_bind he
  refine g_callV [.int (1 : Int32)] (rest := []) E hml hl.1 hM cv_X11_220 (c11_wrong l D aC B hcr15) (o := 0) (Nat.le_of_ble_eq_true rfl) rfl (by decide) rfl rfl (Nat.le_of_ble_eq_true rfl) dX11_lawLine_27 (fun H locs hM => ?_)
  refine W.eq (g2 := F0 m 30 ls []) rfl ?_
  exact w11_lawLine_b30 (F := F) E hml hret hlk _ _ _ _ hM (lv_sub hl [0] rfl) he

set_option maxHeartbeats 4000000 in
set_option maxRecDepth 100000 in
theorem c11_lawLine (l : Launch) (D : va_G) (aC : Nat → ClassId) (B : Nat) {F : Nat} {mem : g_M} {q0 : g_M} (he : f11_lawLine F mem = some q0) : g_Met l yX11_lawLine cX11_lawLine 2 none 209 D aC B yM 44 mem [.ref (B + 0)] none q0 := by
  refine g_ofW (by decide) (Nat.le_of_ble_eq_true rfl) ?_
  intro p e s m args below meth c ls E hml hret hlk hM hl
  have E : g_C p s m args c cX11_lawLine RX11 D aC (g_Zs (g_A B 44)) := E
  have hx := E.1
  have hb := E.2.1
  have hown := E.2.2.1
  have hts := E.2.2.2.1
  have hl : lv_has ls 2 [(0, .ref (B + 0))] := hl
  unfold f11_lawLine at he
  refine lv_aload_n hx hb dX11_lawLine_0 rfl (lv_at hl 0 rfl) ?_
  refine g_getI E hM (o := 0) (Nat.le_of_ble_eq_true rfl) rfl fl_X11_176 dX11_lawLine_1 ?_
  refine lv_if_ne (tgt := 25) hx hb dX11_lawLine_4 (by decide) (fun h16 => ?_) (fun h16 => ?_)
  · rw [if_neg h16] at he
    exact w11_lawLine_b25 (F := F) E hml hret hlk _ _ _ _ hM (lv_sub hl [0] rfl) he
  · rw [if_pos h16] at he
    refine lv_aload_n hx hb dX11_lawLine_7 rfl (lv_at hl 0 rfl) ?_
    refine g_getI E hM (o := 0) (Nat.le_of_ble_eq_true rfl) rfl fl_X11_186 dX11_lawLine_8 ?_
    refine lv_bipush (v := (9 : Int32)) hx hb dX11_lawLine_11 rfl ?_
    refine lv_icmp_lt (tgt := 25) hx hb dX11_lawLine_13 (by decide) (fun h17 => ?_) (fun h17 => ?_)
    · rw [if_neg (Int32.not_le.mpr h17)] at he
      exact w11_lawLine_b25 (F := F) E hml hret hlk _ _ _ _ hM (lv_sub hl [0] rfl) he
    · rw [if_pos (Int32.not_lt.mp h17)] at he
      refine lv_aload_n hx hb dX11_lawLine_16 rfl (lv_at hl 0 rfl) ?_
      refine g_getI E hM (o := 0) (Nat.le_of_ble_eq_true rfl) rfl fl_X11_186 dX11_lawLine_17 ?_
      refine lv_bipush (v := (11 : Int32)) hx hb dX11_lawLine_20 rfl ?_
      refine lv_icmp_le (tgt := 30) hx hb dX11_lawLine_22 (by decide) (fun h18 => ?_) (fun h18 => ?_)
      · rw [if_neg (Int32.not_lt.mpr h18)] at he
        exact w11_lawLine_b30 (F := F) E hml hret hlk _ _ _ _ hM (lv_sub hl [0] rfl) he
      · rw [if_pos (Int32.not_le.mp h18)] at he
        exact w11_lawLine_b25 (F := F) E hml hret hlk _ _ _ _ hM (lv_sub hl [0] rfl) he

set_option maxHeartbeats 4000000 in
set_option maxRecDepth 100000 in
theorem w11_line_b16 (E : g_C p s m args c cX11_line RX11 D aC (g_Zs (g_A B 44))) (hml : c.maxLocals = 6) (hret : meth.sig.returnType = none) (hlk : meth.locks = false) {F : Nat} {q0 : g_M} : ∀ (mem : g_M) (H : Heap) (locs : List Loc) (ls : Array Slot), g_At D aC B yM 44 mem s.heap H locs → lv_has ls 6 [(0, .ref (B + 0))] → f11_line_b16 F mem = some q0 → W p l e (g_rm 210) s m args below meth c H locs 0 0 (g_MQ below D aC B yM 44 args s none q0) (F0 m 16 ls []) := by
  intro mem H locs ls hM hl he
  unfold f11_line_b16 at he
  have hx := E.1
  have hb := E.2.1
  have hown := E.2.2.1
  have hts := E.2.2.2.1
  refine lv_aload_n hx hb dX11_line_16 rfl (lv_at hl 0 rfl) ?_
  refine lv_iconst (v := (1 : Int32)) hx hb dX11_line_17 rfl ?_
  obtain ⟨r1, hcr1, he⟩ := g_bind he
  refine g_callV [.int (1 : Int32)] (rest := []) E hml hl.1 hM cv_X11_220 (c11_wrong l D aC B hcr1) (o := 0) (Nat.le_of_ble_eq_true rfl) rfl (by decide) rfl rfl (Nat.le_of_ble_eq_true rfl) dX11_line_18 (fun H locs hM => ?_)
  refine W.eq (g2 := F0 m 21 ls []) rfl ?_
  cases he
  exact g_vret E hM hret hlk dX11_line_21

set_option maxHeartbeats 4000000 in
set_option maxRecDepth 100000 in
theorem w11_line_b495 (E : g_C p s m args c cX11_line RX11 D aC (g_Zs (g_A B 44))) (hml : c.maxLocals = 6) (hret : meth.sig.returnType = none) (hlk : meth.locks = false) {F : Nat} {q0 : g_M} : ∀ (mem : g_M) (H : Heap) (locs : List Loc) (ls : Array Slot), g_At D aC B yM 44 mem s.heap H locs → lv_has ls 6 [(0, .ref (B + 0))] → f11_line_b495 F mem = some q0 → W p l e (g_rm 210) s m args below meth c H locs 0 0 (g_MQ below D aC B yM 44 args s none q0) (F0 m 495 ls []) := by
  intro mem H locs ls hM hl he
  unfold f11_line_b495 at he
  have hx := E.1
  have hb := E.2.1
  have hown := E.2.2.1
  have hts := E.2.2.2.1
  refine lv_aload_n hx hb dX11_line_495 rfl (lv_at hl 0 rfl) ?_
  refine lv_dup hx hb dX11_line_496 rfl ?_
  refine g_getI E hM (o := 0) (Nat.le_of_ble_eq_true rfl) rfl fl_X11_267 dX11_line_497 ?_
  refine lv_iconst (v := (1 : Int32)) hx hb dX11_line_500 rfl ?_
  refine lv_iadd hx hb dX11_line_501 ?_
  refine g_putI E hM (o := 0) (Nat.le_of_ble_eq_true rfl) rfl fp_X11_267 dX11_line_502 (fun H locs hM => ?_)
  obtain ⟨m2, hm2, he⟩ := g_let_ex he
  rw [← hm2] at hM
  cases he
  exact g_vret E hM hret hlk dX11_line_505

set_option maxHeartbeats 4000000 in
set_option maxRecDepth 100000 in
theorem w11_line_b466 (E : g_C p s m args c cX11_line RX11 D aC (g_Zs (g_A B 44))) (hml : c.maxLocals = 6) (hret : meth.sig.returnType = none) (hlk : meth.locks = false) {F : Nat} {q0 : g_M} : ∀ (mem : g_M) (H : Heap) (locs : List Loc) (ls : Array Slot), g_At D aC B yM 44 mem s.heap H locs → lv_has ls 6 [(0, .ref (B + 0))] → f11_line_b466 F mem = some q0 → W p l e (g_rm 210) s m args below meth c H locs 0 0 (g_MQ below D aC B yM 44 args s none q0) (F0 m 466 ls []) := by
  intro mem H locs ls hM hl he
  unfold f11_line_b466 at he
  have hx := E.1
  have hb := E.2.1
  have hown := E.2.2.1
  have hts := E.2.2.2.1
  refine lv_aload_n hx hb dX11_line_466 rfl (lv_at hl 0 rfl) ?_
  refine g_getI E hM (o := 0) (Nat.le_of_ble_eq_true rfl) rfl fl_X11_211 dX11_line_467 ?_
  refine lv_if_eq (tgt := 474) hx hb dX11_line_470 (by decide) (fun h3 => ?_) (fun h3 => ?_)
  · rw [if_pos h3] at he
    refine lv_aload_n hx hb dX11_line_474 rfl (lv_at hl 0 rfl) ?_
    refine lv_bipush (v := (59 : Int32)) hx hb dX11_line_475 rfl ?_
    obtain ⟨r4, hcr4, he⟩ := g_bind he
    refine g_callV [.int (59 : Int32)] (rest := []) E hml hl.1 hM cv_X11_264 (c11_isSign l D aC B hcr4) (o := 0) (Nat.le_of_ble_eq_true rfl) rfl (by decide) rfl rfl (Nat.le_of_ble_eq_true rfl) dX11_line_477 (fun H locs hM => ?_)
    refine W.eq (g2 := F0 m 480 ls [.int r4]) rfl ?_
    refine lv_if_ne (tgt := 491) hx hb dX11_line_480 (by decide) (fun h5 => ?_) (fun h5 => ?_)
    · rw [if_neg h5] at he
      refine lv_aload_n hx hb dX11_line_491 rfl (lv_at hl 0 rfl) ?_
      obtain ⟨r7, hcr7, he⟩ := g_bind he
      refine g_callV [] (rest := []) E hml hl.1 hM cv_X11_217 (c11_token l D aC B hcr7) (o := 0) (Nat.le_of_ble_eq_true rfl) rfl (by decide) rfl rfl (Nat.le_of_ble_eq_true rfl) dX11_line_492 (fun H locs hM => ?_)
      refine W.eq (g2 := F0 m 495 ls []) rfl ?_
      exact w11_line_b495 (F := F) E hml hret hlk _ _ _ _ hM (lv_sub hl [0] rfl) he
    · rw [if_pos h5] at he
      refine lv_aload_n hx hb dX11_line_483 rfl (lv_at hl 0 rfl) ?_
      refine lv_iconst (v := (1 : Int32)) hx hb dX11_line_484 rfl ?_
      obtain ⟨r6, hcr6, he⟩ := g_bind he
      refine g_callV [.int (1 : Int32)] (rest := []) E hml hl.1 hM cv_X11_220 (c11_wrong l D aC B hcr6) (o := 0) (Nat.le_of_ble_eq_true rfl) rfl (by decide) rfl rfl (Nat.le_of_ble_eq_true rfl) dX11_line_485 (fun H locs hM => ?_)
      refine W.eq (g2 := F0 m 488 ls []) rfl ?_
      refine lv_goto (tgt := 495) hx hb dX11_line_488 (by decide) ?_
      exact w11_line_b495 (F := F) E hml hret hlk _ _ _ _ hM (lv_sub hl [0] rfl) he
  · rw [if_neg h3] at he
    cases he
    exact g_vret E hM hret hlk dX11_line_473

set_option maxHeartbeats 4000000 in
set_option maxRecDepth 100000 in
theorem w11_line_b71 (E : g_C p s m args c cX11_line RX11 D aC (g_Zs (g_A B 44))) (hml : c.maxLocals = 6) (hret : meth.sig.returnType = none) (hlk : meth.locks = false) {F : Nat} {q0 : g_M} : ∀ (v1 : Int32) (mem : g_M) (H : Heap) (locs : List Loc) (ls : Array Slot), g_At D aC B yM 44 mem s.heap H locs → lv_has ls 6 [(0, .ref (B + 0)), (1, .int v1)] → f11_line_b71 F v1 mem = some q0 → W p l e (g_rm 210) s m args below meth c H locs 0 0 (g_MQ below D aC B yM 44 args s none q0) (F0 m 71 ls []) := by
  intro v1 mem H locs ls hM hl he
  unfold f11_line_b71 at he
  have hx := E.1
  have hb := E.2.1
  have hown := E.2.2.1
  have hts := E.2.2.2.1
  refine lv_aload_n hx hb dX11_line_71 rfl (lv_at hl 0 rfl) ?_
  refine g_getI E hM (o := 0) (Nat.le_of_ble_eq_true rfl) rfl fl_X11_211 dX11_line_72 ?_
  refine lv_if_eq (tgt := 79) hx hb dX11_line_75 (by decide) (fun h8 => ?_) (fun h8 => ?_)
  · rw [if_pos h8] at he
    refine lv_aload_n hx hb dX11_line_79 rfl (lv_at hl 0 rfl) ?_
    refine lv_dup hx hb dX11_line_80 rfl ?_
    refine g_getI E hM (o := 0) (Nat.le_of_ble_eq_true rfl) rfl fl_X11_241 dX11_line_81 ?_
    refine lv_iconst (v := (1 : Int32)) hx hb dX11_line_84 rfl ?_
    refine lv_iload_n hx hb dX11_line_85 rfl (lv_at hl 1 rfl) ?_
    refine lv_ishl hx hb dX11_line_86 ?_
    refine lv_ior hx hb dX11_line_87 ?_
    refine g_putI E hM (o := 0) (Nat.le_of_ble_eq_true rfl) rfl fp_X11_241 dX11_line_88 (fun H locs hM => ?_)
    obtain ⟨m9, hm9, he⟩ := g_let_ex he
    rw [← hm9] at hM
    refine lv_aload_n hx hb dX11_line_91 rfl (lv_at hl 0 rfl) ?_
    obtain ⟨r10, hcr10, he⟩ := g_bind he
    refine g_callV [] (rest := []) E hml hl.1 hM cv_X11_217 (c11_token l D aC B hcr10) (o := 0) (Nat.le_of_ble_eq_true rfl) rfl (by decide) rfl rfl (Nat.le_of_ble_eq_true rfl) dX11_line_92 (fun H locs hM => ?_)
    refine W.eq (g2 := F0 m 95 ls []) rfl ?_
    refine lv_iload_n hx hb dX11_line_95 rfl (lv_at hl 1 rfl) ?_
    by_cases h11 : v1 = (0 : Int32)
    · rw [if_pos h11] at he
      refine lv_tableIn (tgt := 144) (off := 48) hx hb dX11_line_96 (by rw [h11]; decide) (by rw [h11]; decide) (by rw [h11]; rfl) (by decide) ?_
      refine lv_iconst (v := (5 : Int32)) hx hb dX11_line_144 rfl ?_
      refine lv_aload_n hx hb dX11_line_145 rfl (lv_at hl 0 rfl) ?_
      refine lv_iconst (v := (0 : Int32)) hx hb dX11_line_146 rfl ?_
      obtain ⟨r12, hcr12, he⟩ := g_bind he
      refine g_callV [.int (0 : Int32)] (rest := [.int (5 : Int32)]) E hml hl.1 hM cv_X11_230 (c11_fresher l D aC B hcr12) (o := 0) (Nat.le_of_ble_eq_true rfl) rfl (by decide) rfl rfl (Nat.le_of_ble_eq_true rfl) dX11_line_147 (fun H locs hM => ?_)
      refine W.eq (g2 := F0 m 150 ls [.int r12, .int (5 : Int32)]) rfl ?_
      refine lv_iadd hx hb dX11_line_150 ?_
      obtain ⟨x13, hx13, he⟩ := g_let_ex he
      refine g_topI hx13 ?_
      refine lv_istore_n (lv' := [(2, .int x13), (0, .ref (B + 0)), (1, .int v1)]) hx hb dX11_line_151 rfl hl (by decide) rfl (fun ls hl => ?_)
      refine lv_aload_n hx hb dX11_line_152 rfl (lv_at hl 1 rfl) ?_
      refine g_getP E hM (o := 0) (Nat.le_of_ble_eq_true rfl) rfl fl_X11_16 (q := 3) rfl dX11_line_153 ?_
      refine lv_iload_n hx hb dX11_line_156 rfl (lv_at hl 0 rfl) ?_
      refine lv_aload_n hx hb dX11_line_157 rfl (lv_at hl 1 rfl) ?_
      refine lv_aload_n hx hb dX11_line_158 rfl (lv_at hl 1 rfl) ?_
      refine g_getP E hM (o := 0) (Nat.le_of_ble_eq_true rfl) rfl fl_X11_16 (q := 3) rfl dX11_line_159 ?_
      refine lv_iconst (v := (5 : Int32)) hx hb dX11_line_162 rfl ?_
      refine lv_aload_n hx hb dX11_line_163 rfl (lv_at hl 1 rfl) ?_
      refine lv_iconst (v := (0 : Int32)) hx hb dX11_line_164 rfl ?_
      obtain ⟨r14, hcr14, he⟩ := g_bind he
      refine g_callV [.int (0 : Int32)] (rest := [.int (5 : Int32), .ref (B + 3), .ref (B + 0), .int x13, .ref (B + 3)]) E hml hl.1 hM cv_X11_230 (c11_fresher l D aC B hcr14) (o := 0) (Nat.le_of_ble_eq_true rfl) rfl (by decide) rfl rfl (Nat.le_of_ble_eq_true rfl) dX11_line_165 (fun H locs hM => ?_)
      refine W.eq (g2 := F0 m 168 ls [.int r14, .int (5 : Int32), .ref (B + 3), .ref (B + 0), .int x13, .ref (B + 3)]) rfl ?_
      obtain ⟨r15, hcr15, he⟩ := g_bind he
      refine g_callV [.ref (B + 3), .int (5 : Int32), .int r14] (rest := [.int x13, .ref (B + 3)]) E hml hl.1 hM cv_X11_244 (c11_fresh l D aC B (Nat.le_of_ble_eq_true rfl) rfl hcr15) (o := 0) (Nat.le_of_ble_eq_true rfl) rfl (by decide) rfl rfl (Nat.le_of_ble_eq_true rfl) dX11_line_168 (fun H locs hM => ?_)
      refine W.eq (g2 := F0 m 171 ls [.int r15.1, .int x13, .ref (B + 3)]) rfl ?_
      obtain ⟨h16, he⟩ := g_ck_some he
      refine g_iast E hM (o := 3) (Nat.le_of_ble_eq_true rfl) rfl h16 dX11_line_171 (fun H locs hM => ?_)
      obtain ⟨m17, hm17, he⟩ := g_let_ex he
      rw [← hm17] at hM
      refine lv_aload_n hx hb dX11_line_172 rfl (lv_at hl 1 rfl) ?_
      refine g_getP E hM (o := 0) (Nat.le_of_ble_eq_true rfl) rfl fl_X11_19 (q := 4) rfl dX11_line_173 ?_
      refine lv_iload_n hx hb dX11_line_176 rfl (lv_at hl 0 rfl) ?_
      refine lv_aload_n hx hb dX11_line_177 rfl (lv_at hl 1 rfl) ?_
      refine lv_iconst (v := (0 : Int32)) hx hb dX11_line_178 rfl ?_
      refine lv_sipush (v := (999 : Int32)) hx hb dX11_line_179 rfl ?_
      obtain ⟨r18, hcr18, he⟩ := g_bind he
      refine g_callV [.int (0 : Int32), .int (999 : Int32)] (rest := [.int x13, .ref (B + 4)]) E hml hl.1 hM cv_X11_247 (c11_numeral l D aC B hcr18) (o := 0) (Nat.le_of_ble_eq_true rfl) rfl (by decide) rfl rfl (Nat.le_of_ble_eq_true rfl) dX11_line_182 (fun H locs hM => ?_)
      refine W.eq (g2 := F0 m 185 ls [.int r18.1, .int x13, .ref (B + 4)]) rfl ?_
      obtain ⟨h19, he⟩ := g_ck_some he
      refine g_iast E hM (o := 4) (Nat.le_of_ble_eq_true rfl) rfl h19 dX11_line_185 (fun H locs hM => ?_)
      obtain ⟨m20, hm20, he⟩ := g_let_ex he
      rw [← hm20] at hM
      refine lv_aload_n hx hb dX11_line_186 rfl (lv_at hl 1 rfl) ?_
      refine lv_iconst (v := (0 : Int32)) hx hb dX11_line_187 rfl ?_
      refine lv_aload_n hx hb dX11_line_188 rfl (lv_at hl 1 rfl) ?_
      refine lv_iconst (v := (0 : Int32)) hx hb dX11_line_189 rfl ?_
      obtain ⟨r21, hcr21, he⟩ := g_bind he
      refine g_callV [.int (0 : Int32)] (rest := [.int (0 : Int32), .ref (B + 0)]) E hml hl.1 hM cv_X11_230 (c11_fresher l D aC B hcr21) (o := 0) (Nat.le_of_ble_eq_true rfl) rfl (by decide) rfl rfl (Nat.le_of_ble_eq_true rfl) dX11_line_190 (fun H locs hM => ?_)
      refine W.eq (g2 := F0 m 193 ls [.int r21, .int (0 : Int32), .ref (B + 0)]) rfl ?_
      refine lv_iconst (v := (1 : Int32)) hx hb dX11_line_193 rfl ?_
      refine lv_iadd hx hb dX11_line_194 ?_
      obtain ⟨r22, hcr22, he⟩ := g_bind he
      refine g_callV [.int (0 : Int32), .int (r21 + (1 : Int32))] (rest := []) E hml hl.1 hM cv_X11_251 (c11_reads l D aC B hcr22) (o := 0) (Nat.le_of_ble_eq_true rfl) rfl (by decide) rfl rfl (Nat.le_of_ble_eq_true rfl) dX11_line_195 (fun H locs hM => ?_)
      refine W.eq (g2 := F0 m 198 ls []) rfl ?_
      refine lv_goto (tgt := 466) hx hb dX11_line_198 (by decide) ?_
      exact w11_line_b466 (F := F) E hml hret hlk _ _ _ _ hM (lv_sub hl [1] rfl) he
    rw [if_neg h11] at he
    by_cases h23 : v1 = (1 : Int32)
    · rw [if_pos h23] at he
      refine lv_tableIn (tgt := 201) (off := 105) hx hb dX11_line_96 (by rw [h23]; decide) (by rw [h23]; decide) (by rw [h23]; rfl) (by decide) ?_
      refine lv_iconst (v := (5 : Int32)) hx hb dX11_line_201 rfl ?_
      refine lv_aload_n hx hb dX11_line_202 rfl (lv_at hl 0 rfl) ?_
      refine lv_iconst (v := (1 : Int32)) hx hb dX11_line_203 rfl ?_
      obtain ⟨r24, hcr24, he⟩ := g_bind he
      refine g_callV [.int (1 : Int32)] (rest := [.int (5 : Int32)]) E hml hl.1 hM cv_X11_230 (c11_fresher l D aC B hcr24) (o := 0) (Nat.le_of_ble_eq_true rfl) rfl (by decide) rfl rfl (Nat.le_of_ble_eq_true rfl) dX11_line_204 (fun H locs hM => ?_)
      refine W.eq (g2 := F0 m 207 ls [.int r24, .int (5 : Int32)]) rfl ?_
      refine lv_iadd hx hb dX11_line_207 ?_
      obtain ⟨x25, hx25, he⟩ := g_let_ex he
      refine g_topI hx25 ?_
      refine lv_istore_n (lv' := [(3, .int x25), (0, .ref (B + 0)), (1, .int v1)]) hx hb dX11_line_208 rfl hl (by decide) rfl (fun ls hl => ?_)
      refine lv_aload_n hx hb dX11_line_209 rfl (lv_at hl 1 rfl) ?_
      refine g_getP E hM (o := 0) (Nat.le_of_ble_eq_true rfl) rfl fl_X11_22 (q := 5) rfl dX11_line_210 ?_
      refine lv_iload_n hx hb dX11_line_213 rfl (lv_at hl 0 rfl) ?_
      refine lv_aload_n hx hb dX11_line_214 rfl (lv_at hl 1 rfl) ?_
      refine lv_aload_n hx hb dX11_line_215 rfl (lv_at hl 1 rfl) ?_
      refine g_getP E hM (o := 0) (Nat.le_of_ble_eq_true rfl) rfl fl_X11_22 (q := 5) rfl dX11_line_216 ?_
      refine lv_iconst (v := (5 : Int32)) hx hb dX11_line_219 rfl ?_
      refine lv_aload_n hx hb dX11_line_220 rfl (lv_at hl 1 rfl) ?_
      refine lv_iconst (v := (1 : Int32)) hx hb dX11_line_221 rfl ?_
      obtain ⟨r26, hcr26, he⟩ := g_bind he
      refine g_callV [.int (1 : Int32)] (rest := [.int (5 : Int32), .ref (B + 5), .ref (B + 0), .int x25, .ref (B + 5)]) E hml hl.1 hM cv_X11_230 (c11_fresher l D aC B hcr26) (o := 0) (Nat.le_of_ble_eq_true rfl) rfl (by decide) rfl rfl (Nat.le_of_ble_eq_true rfl) dX11_line_222 (fun H locs hM => ?_)
      refine W.eq (g2 := F0 m 225 ls [.int r26, .int (5 : Int32), .ref (B + 5), .ref (B + 0), .int x25, .ref (B + 5)]) rfl ?_
      obtain ⟨r27, hcr27, he⟩ := g_bind he
      refine g_callV [.ref (B + 5), .int (5 : Int32), .int r26] (rest := [.int x25, .ref (B + 5)]) E hml hl.1 hM cv_X11_244 (c11_fresh l D aC B (Nat.le_of_ble_eq_true rfl) rfl hcr27) (o := 0) (Nat.le_of_ble_eq_true rfl) rfl (by decide) rfl rfl (Nat.le_of_ble_eq_true rfl) dX11_line_225 (fun H locs hM => ?_)
      refine W.eq (g2 := F0 m 228 ls [.int r27.1, .int x25, .ref (B + 5)]) rfl ?_
      obtain ⟨h28, he⟩ := g_ck_some he
      refine g_iast E hM (o := 5) (Nat.le_of_ble_eq_true rfl) rfl h28 dX11_line_228 (fun H locs hM => ?_)
      obtain ⟨m29, hm29, he⟩ := g_let_ex he
      rw [← hm29] at hM
      refine lv_aload_n hx hb dX11_line_229 rfl (lv_at hl 1 rfl) ?_
      refine g_getP E hM (o := 0) (Nat.le_of_ble_eq_true rfl) rfl fl_X11_25 (q := 6) rfl dX11_line_230 ?_
      refine lv_iload_n hx hb dX11_line_233 rfl (lv_at hl 0 rfl) ?_
      refine lv_aload_n hx hb dX11_line_234 rfl (lv_at hl 1 rfl) ?_
      refine lv_iconst (v := (1 : Int32)) hx hb dX11_line_235 rfl ?_
      refine lv_bipush (v := (9 : Int32)) hx hb dX11_line_236 rfl ?_
      obtain ⟨r30, hcr30, he⟩ := g_bind he
      refine g_callV [.int (1 : Int32), .int (9 : Int32)] (rest := [.int x25, .ref (B + 6)]) E hml hl.1 hM cv_X11_247 (c11_numeral l D aC B hcr30) (o := 0) (Nat.le_of_ble_eq_true rfl) rfl (by decide) rfl rfl (Nat.le_of_ble_eq_true rfl) dX11_line_238 (fun H locs hM => ?_)
      refine W.eq (g2 := F0 m 241 ls [.int r30.1, .int x25, .ref (B + 6)]) rfl ?_
      obtain ⟨h31, he⟩ := g_ck_some he
      refine g_iast E hM (o := 6) (Nat.le_of_ble_eq_true rfl) rfl h31 dX11_line_241 (fun H locs hM => ?_)
      obtain ⟨m32, hm32, he⟩ := g_let_ex he
      rw [← hm32] at hM
      refine lv_aload_n hx hb dX11_line_242 rfl (lv_at hl 1 rfl) ?_
      refine g_getP E hM (o := 0) (Nat.le_of_ble_eq_true rfl) rfl fl_X11_28 (q := 7) rfl dX11_line_243 ?_
      refine lv_iload_n hx hb dX11_line_246 rfl (lv_at hl 0 rfl) ?_
      refine lv_aload_n hx hb dX11_line_247 rfl (lv_at hl 1 rfl) ?_
      refine lv_iconst (v := (0 : Int32)) hx hb dX11_line_248 rfl ?_
      refine lv_bipush (v := (99 : Int32)) hx hb dX11_line_249 rfl ?_
      obtain ⟨r33, hcr33, he⟩ := g_bind he
      refine g_callV [.int (0 : Int32), .int (99 : Int32)] (rest := [.int x25, .ref (B + 7)]) E hml hl.1 hM cv_X11_247 (c11_numeral l D aC B hcr33) (o := 0) (Nat.le_of_ble_eq_true rfl) rfl (by decide) rfl rfl (Nat.le_of_ble_eq_true rfl) dX11_line_251 (fun H locs hM => ?_)
      refine W.eq (g2 := F0 m 254 ls [.int r33.1, .int x25, .ref (B + 7)]) rfl ?_
      obtain ⟨h34, he⟩ := g_ck_some he
      refine g_iast E hM (o := 7) (Nat.le_of_ble_eq_true rfl) rfl h34 dX11_line_254 (fun H locs hM => ?_)
      obtain ⟨m35, hm35, he⟩ := g_let_ex he
      rw [← hm35] at hM
      refine lv_aload_n hx hb dX11_line_255 rfl (lv_at hl 1 rfl) ?_
      refine lv_iconst (v := (1 : Int32)) hx hb dX11_line_256 rfl ?_
      refine lv_aload_n hx hb dX11_line_257 rfl (lv_at hl 1 rfl) ?_
      refine lv_iconst (v := (1 : Int32)) hx hb dX11_line_258 rfl ?_
      obtain ⟨r36, hcr36, he⟩ := g_bind he
      refine g_callV [.int (1 : Int32)] (rest := [.int (1 : Int32), .ref (B + 0)]) E hml hl.1 hM cv_X11_230 (c11_fresher l D aC B hcr36) (o := 0) (Nat.le_of_ble_eq_true rfl) rfl (by decide) rfl rfl (Nat.le_of_ble_eq_true rfl) dX11_line_259 (fun H locs hM => ?_)
      refine W.eq (g2 := F0 m 262 ls [.int r36, .int (1 : Int32), .ref (B + 0)]) rfl ?_
      refine lv_iconst (v := (1 : Int32)) hx hb dX11_line_262 rfl ?_
      refine lv_iadd hx hb dX11_line_263 ?_
      obtain ⟨r37, hcr37, he⟩ := g_bind he
      refine g_callV [.int (1 : Int32), .int (r36 + (1 : Int32))] (rest := []) E hml hl.1 hM cv_X11_251 (c11_reads l D aC B hcr37) (o := 0) (Nat.le_of_ble_eq_true rfl) rfl (by decide) rfl rfl (Nat.le_of_ble_eq_true rfl) dX11_line_264 (fun H locs hM => ?_)
      refine W.eq (g2 := F0 m 267 ls []) rfl ?_
      refine lv_goto (tgt := 466) hx hb dX11_line_267 (by decide) ?_
      exact w11_line_b466 (F := F) E hml hret hlk _ _ _ _ hM (lv_sub hl [1] rfl) he
    rw [if_neg h23] at he
    by_cases h38 : v1 = (2 : Int32)
    · rw [if_pos h38] at he
      refine lv_tableIn (tgt := 270) (off := 174) hx hb dX11_line_96 (by rw [h38]; decide) (by rw [h38]; decide) (by rw [h38]; rfl) (by decide) ?_
      refine lv_iconst (v := (5 : Int32)) hx hb dX11_line_270 rfl ?_
      refine lv_aload_n hx hb dX11_line_271 rfl (lv_at hl 0 rfl) ?_
      refine lv_iconst (v := (2 : Int32)) hx hb dX11_line_272 rfl ?_
      obtain ⟨r39, hcr39, he⟩ := g_bind he
      refine g_callV [.int (2 : Int32)] (rest := [.int (5 : Int32)]) E hml hl.1 hM cv_X11_230 (c11_fresher l D aC B hcr39) (o := 0) (Nat.le_of_ble_eq_true rfl) rfl (by decide) rfl rfl (Nat.le_of_ble_eq_true rfl) dX11_line_273 (fun H locs hM => ?_)
      refine W.eq (g2 := F0 m 276 ls [.int r39, .int (5 : Int32)]) rfl ?_
      refine lv_iadd hx hb dX11_line_276 ?_
      obtain ⟨x40, hx40, he⟩ := g_let_ex he
      refine g_topI hx40 ?_
      refine lv_istore (lv' := [(4, .int x40), (0, .ref (B + 0)), (1, .int v1)]) hx hb dX11_line_277 hl (by decide) rfl (fun ls hl => ?_)
      refine lv_aload_n hx hb dX11_line_279 rfl (lv_at hl 1 rfl) ?_
      refine g_getP E hM (o := 0) (Nat.le_of_ble_eq_true rfl) rfl fl_X11_31 (q := 8) rfl dX11_line_280 ?_
      refine lv_iload hx hb dX11_line_283 (lv_at hl 0 rfl) ?_
      refine lv_aload_n hx hb dX11_line_285 rfl (lv_at hl 1 rfl) ?_
      refine lv_aload_n hx hb dX11_line_286 rfl (lv_at hl 1 rfl) ?_
      refine g_getP E hM (o := 0) (Nat.le_of_ble_eq_true rfl) rfl fl_X11_31 (q := 8) rfl dX11_line_287 ?_
      refine lv_iconst (v := (5 : Int32)) hx hb dX11_line_290 rfl ?_
      refine lv_aload_n hx hb dX11_line_291 rfl (lv_at hl 1 rfl) ?_
      refine lv_iconst (v := (2 : Int32)) hx hb dX11_line_292 rfl ?_
      obtain ⟨r41, hcr41, he⟩ := g_bind he
      refine g_callV [.int (2 : Int32)] (rest := [.int (5 : Int32), .ref (B + 8), .ref (B + 0), .int x40, .ref (B + 8)]) E hml hl.1 hM cv_X11_230 (c11_fresher l D aC B hcr41) (o := 0) (Nat.le_of_ble_eq_true rfl) rfl (by decide) rfl rfl (Nat.le_of_ble_eq_true rfl) dX11_line_293 (fun H locs hM => ?_)
      refine W.eq (g2 := F0 m 296 ls [.int r41, .int (5 : Int32), .ref (B + 8), .ref (B + 0), .int x40, .ref (B + 8)]) rfl ?_
      obtain ⟨r42, hcr42, he⟩ := g_bind he
      refine g_callV [.ref (B + 8), .int (5 : Int32), .int r41] (rest := [.int x40, .ref (B + 8)]) E hml hl.1 hM cv_X11_244 (c11_fresh l D aC B (Nat.le_of_ble_eq_true rfl) rfl hcr42) (o := 0) (Nat.le_of_ble_eq_true rfl) rfl (by decide) rfl rfl (Nat.le_of_ble_eq_true rfl) dX11_line_296 (fun H locs hM => ?_)
      refine W.eq (g2 := F0 m 299 ls [.int r42.1, .int x40, .ref (B + 8)]) rfl ?_
      obtain ⟨h43, he⟩ := g_ck_some he
      refine g_iast E hM (o := 8) (Nat.le_of_ble_eq_true rfl) rfl h43 dX11_line_299 (fun H locs hM => ?_)
      obtain ⟨m44, hm44, he⟩ := g_let_ex he
      rw [← hm44] at hM
      refine lv_aload_n hx hb dX11_line_300 rfl (lv_at hl 1 rfl) ?_
      refine g_getP E hM (o := 0) (Nat.le_of_ble_eq_true rfl) rfl fl_X11_34 (q := 9) rfl dX11_line_301 ?_
      refine lv_iload hx hb dX11_line_304 (lv_at hl 0 rfl) ?_
      refine lv_aload_n hx hb dX11_line_306 rfl (lv_at hl 1 rfl) ?_
      refine lv_iconst (v := (0 : Int32)) hx hb dX11_line_307 rfl ?_
      refine lv_bipush (v := (31 : Int32)) hx hb dX11_line_308 rfl ?_
      obtain ⟨r45, hcr45, he⟩ := g_bind he
      refine g_callV [.int (0 : Int32), .int (31 : Int32)] (rest := [.int x40, .ref (B + 9)]) E hml hl.1 hM cv_X11_247 (c11_numeral l D aC B hcr45) (o := 0) (Nat.le_of_ble_eq_true rfl) rfl (by decide) rfl rfl (Nat.le_of_ble_eq_true rfl) dX11_line_310 (fun H locs hM => ?_)
      refine W.eq (g2 := F0 m 313 ls [.int r45.1, .int x40, .ref (B + 9)]) rfl ?_
      obtain ⟨h46, he⟩ := g_ck_some he
      refine g_iast E hM (o := 9) (Nat.le_of_ble_eq_true rfl) rfl h46 dX11_line_313 (fun H locs hM => ?_)
      obtain ⟨m47, hm47, he⟩ := g_let_ex he
      rw [← hm47] at hM
      refine lv_aload_n hx hb dX11_line_314 rfl (lv_at hl 1 rfl) ?_
      refine lv_iconst (v := (2 : Int32)) hx hb dX11_line_315 rfl ?_
      refine lv_aload_n hx hb dX11_line_316 rfl (lv_at hl 1 rfl) ?_
      refine lv_iconst (v := (2 : Int32)) hx hb dX11_line_317 rfl ?_
      obtain ⟨r48, hcr48, he⟩ := g_bind he
      refine g_callV [.int (2 : Int32)] (rest := [.int (2 : Int32), .ref (B + 0)]) E hml hl.1 hM cv_X11_230 (c11_fresher l D aC B hcr48) (o := 0) (Nat.le_of_ble_eq_true rfl) rfl (by decide) rfl rfl (Nat.le_of_ble_eq_true rfl) dX11_line_318 (fun H locs hM => ?_)
      refine W.eq (g2 := F0 m 321 ls [.int r48, .int (2 : Int32), .ref (B + 0)]) rfl ?_
      refine lv_iconst (v := (1 : Int32)) hx hb dX11_line_321 rfl ?_
      refine lv_iadd hx hb dX11_line_322 ?_
      obtain ⟨r49, hcr49, he⟩ := g_bind he
      refine g_callV [.int (2 : Int32), .int (r48 + (1 : Int32))] (rest := []) E hml hl.1 hM cv_X11_251 (c11_reads l D aC B hcr49) (o := 0) (Nat.le_of_ble_eq_true rfl) rfl (by decide) rfl rfl (Nat.le_of_ble_eq_true rfl) dX11_line_323 (fun H locs hM => ?_)
      refine W.eq (g2 := F0 m 326 ls []) rfl ?_
      refine lv_goto (tgt := 466) hx hb dX11_line_326 (by decide) ?_
      exact w11_line_b466 (F := F) E hml hret hlk _ _ _ _ hM (lv_sub hl [1] rfl) he
    rw [if_neg h38] at he
    by_cases h50 : v1 = (3 : Int32)
    · rw [if_pos h50] at he
      refine lv_tableIn (tgt := 329) (off := 233) hx hb dX11_line_96 (by rw [h50]; decide) (by rw [h50]; decide) (by rw [h50]; rfl) (by decide) ?_
      refine lv_bipush (v := (12 : Int32)) hx hb dX11_line_329 rfl ?_
      refine lv_aload_n hx hb dX11_line_331 rfl (lv_at hl 0 rfl) ?_
      refine lv_iconst (v := (3 : Int32)) hx hb dX11_line_332 rfl ?_
      obtain ⟨r51, hcr51, he⟩ := g_bind he
      refine g_callV [.int (3 : Int32)] (rest := [.int (12 : Int32)]) E hml hl.1 hM cv_X11_230 (c11_fresher l D aC B hcr51) (o := 0) (Nat.le_of_ble_eq_true rfl) rfl (by decide) rfl rfl (Nat.le_of_ble_eq_true rfl) dX11_line_333 (fun H locs hM => ?_)
      refine W.eq (g2 := F0 m 336 ls [.int r51, .int (12 : Int32)]) rfl ?_
      refine lv_iadd hx hb dX11_line_336 ?_
      obtain ⟨x52, hx52, he⟩ := g_let_ex he
      refine g_topI hx52 ?_
      refine lv_istore (lv' := [(5, .int x52), (0, .ref (B + 0)), (1, .int v1)]) hx hb dX11_line_337 hl (by decide) rfl (fun ls hl => ?_)
      refine lv_aload_n hx hb dX11_line_339 rfl (lv_at hl 1 rfl) ?_
      refine g_getP E hM (o := 0) (Nat.le_of_ble_eq_true rfl) rfl fl_X11_37 (q := 10) rfl dX11_line_340 ?_
      refine lv_iload hx hb dX11_line_343 (lv_at hl 0 rfl) ?_
      refine lv_aload_n hx hb dX11_line_345 rfl (lv_at hl 1 rfl) ?_
      obtain ⟨r53, hcr53, he⟩ := g_bind he
      refine g_callV [] (rest := [.int x52, .ref (B + 10)]) E hml hl.1 hM cv_X11_255 (c11_manAhead l D aC B hcr53) (o := 0) (Nat.le_of_ble_eq_true rfl) rfl (by decide) rfl rfl (Nat.le_of_ble_eq_true rfl) dX11_line_346 (fun H locs hM => ?_)
      refine W.eq (g2 := F0 m 349 ls [.int r53.1, .int x52, .ref (B + 10)]) rfl ?_
      obtain ⟨h54, he⟩ := g_ck_some he
      refine g_iast E hM (o := 10) (Nat.le_of_ble_eq_true rfl) rfl h54 dX11_line_349 (fun H locs hM => ?_)
      obtain ⟨m55, hm55, he⟩ := g_let_ex he
      rw [← hm55] at hM
      refine lv_aload_n hx hb dX11_line_350 rfl (lv_at hl 1 rfl) ?_
      refine g_getP E hM (o := 0) (Nat.le_of_ble_eq_true rfl) rfl fl_X11_40 (q := 11) rfl dX11_line_351 ?_
      refine lv_iload hx hb dX11_line_354 (lv_at hl 0 rfl) ?_
      refine lv_aload_n hx hb dX11_line_356 rfl (lv_at hl 1 rfl) ?_
      refine lv_aload_n hx hb dX11_line_357 rfl (lv_at hl 1 rfl) ?_
      refine g_getP E hM (o := 0) (Nat.le_of_ble_eq_true rfl) rfl fl_X11_22 (q := 5) rfl dX11_line_358 ?_
      refine lv_iconst (v := (5 : Int32)) hx hb dX11_line_361 rfl ?_
      refine lv_aload_n hx hb dX11_line_362 rfl (lv_at hl 1 rfl) ?_
      refine lv_iconst (v := (1 : Int32)) hx hb dX11_line_363 rfl ?_
      obtain ⟨r56, hcr56, he⟩ := g_bind he
      refine g_callV [.int (1 : Int32)] (rest := [.int (5 : Int32), .ref (B + 5), .ref (B + 0), .int x52, .ref (B + 11)]) E hml hl.1 hM cv_X11_230 (c11_fresher l D aC B hcr56) (o := 0) (Nat.le_of_ble_eq_true rfl) rfl (by decide) rfl rfl (Nat.le_of_ble_eq_true rfl) dX11_line_364 (fun H locs hM => ?_)
      refine W.eq (g2 := F0 m 367 ls [.int r56, .int (5 : Int32), .ref (B + 5), .ref (B + 0), .int x52, .ref (B + 11)]) rfl ?_
      obtain ⟨r57, hcr57, he⟩ := g_bind he
      refine g_callV [.ref (B + 5), .int (5 : Int32), .int r56] (rest := [.int x52, .ref (B + 11)]) E hml hl.1 hM cv_X11_234 (c11_toldAhead l D aC B (Nat.le_of_ble_eq_true rfl) rfl hcr57) (o := 0) (Nat.le_of_ble_eq_true rfl) rfl (by decide) rfl rfl (Nat.le_of_ble_eq_true rfl) dX11_line_367 (fun H locs hM => ?_)
      refine W.eq (g2 := F0 m 370 ls [.int r57.1, .int x52, .ref (B + 11)]) rfl ?_
      obtain ⟨h58, he⟩ := g_ck_some he
      refine g_iast E hM (o := 11) (Nat.le_of_ble_eq_true rfl) rfl h58 dX11_line_370 (fun H locs hM => ?_)
      obtain ⟨m59, hm59, he⟩ := g_let_ex he
      rw [← hm59] at hM
      refine lv_aload_n hx hb dX11_line_371 rfl (lv_at hl 1 rfl) ?_
      refine g_getP E hM (o := 0) (Nat.le_of_ble_eq_true rfl) rfl fl_X11_43 (q := 12) rfl dX11_line_372 ?_
      refine lv_iload hx hb dX11_line_375 (lv_at hl 0 rfl) ?_
      refine lv_aload_n hx hb dX11_line_377 rfl (lv_at hl 1 rfl) ?_
      refine lv_iconst (v := (0 : Int32)) hx hb dX11_line_378 rfl ?_
      refine lv_bipush (v := (99 : Int32)) hx hb dX11_line_379 rfl ?_
      obtain ⟨r60, hcr60, he⟩ := g_bind he
      refine g_callV [.int (0 : Int32), .int (99 : Int32)] (rest := [.int x52, .ref (B + 12)]) E hml hl.1 hM cv_X11_247 (c11_numeral l D aC B hcr60) (o := 0) (Nat.le_of_ble_eq_true rfl) rfl (by decide) rfl rfl (Nat.le_of_ble_eq_true rfl) dX11_line_381 (fun H locs hM => ?_)
      refine W.eq (g2 := F0 m 384 ls [.int r60.1, .int x52, .ref (B + 12)]) rfl ?_
      obtain ⟨h61, he⟩ := g_ck_some he
      refine g_iast E hM (o := 12) (Nat.le_of_ble_eq_true rfl) rfl h61 dX11_line_384 (fun H locs hM => ?_)
      obtain ⟨m62, hm62, he⟩ := g_let_ex he
      rw [← hm62] at hM
      refine lv_aload_n hx hb dX11_line_385 rfl (lv_at hl 1 rfl) ?_
      refine lv_iconst (v := (3 : Int32)) hx hb dX11_line_386 rfl ?_
      refine lv_aload_n hx hb dX11_line_387 rfl (lv_at hl 1 rfl) ?_
      refine lv_iconst (v := (3 : Int32)) hx hb dX11_line_388 rfl ?_
      obtain ⟨r63, hcr63, he⟩ := g_bind he
      refine g_callV [.int (3 : Int32)] (rest := [.int (3 : Int32), .ref (B + 0)]) E hml hl.1 hM cv_X11_230 (c11_fresher l D aC B hcr63) (o := 0) (Nat.le_of_ble_eq_true rfl) rfl (by decide) rfl rfl (Nat.le_of_ble_eq_true rfl) dX11_line_389 (fun H locs hM => ?_)
      refine W.eq (g2 := F0 m 392 ls [.int r63, .int (3 : Int32), .ref (B + 0)]) rfl ?_
      refine lv_iconst (v := (1 : Int32)) hx hb dX11_line_392 rfl ?_
      refine lv_iadd hx hb dX11_line_393 ?_
      obtain ⟨r64, hcr64, he⟩ := g_bind he
      refine g_callV [.int (3 : Int32), .int (r63 + (1 : Int32))] (rest := []) E hml hl.1 hM cv_X11_251 (c11_reads l D aC B hcr64) (o := 0) (Nat.le_of_ble_eq_true rfl) rfl (by decide) rfl rfl (Nat.le_of_ble_eq_true rfl) dX11_line_394 (fun H locs hM => ?_)
      refine W.eq (g2 := F0 m 397 ls []) rfl ?_
      refine lv_goto (tgt := 466) hx hb dX11_line_397 (by decide) ?_
      exact w11_line_b466 (F := F) E hml hret hlk _ _ _ _ hM (lv_sub hl [1] rfl) he
    rw [if_neg h50] at he
    by_cases h65 : v1 = (4 : Int32)
    · rw [if_pos h65] at he
      refine lv_tableIn (tgt := 400) (off := 304) hx hb dX11_line_96 (by rw [h65]; decide) (by rw [h65]; decide) (by rw [h65]; rfl) (by decide) ?_
      refine lv_aload_n hx hb dX11_line_400 rfl (lv_at hl 0 rfl) ?_
      refine lv_bipush (v := (8 : Int32)) hx hb dX11_line_401 rfl ?_
      refine lv_aload_n hx hb dX11_line_403 rfl (lv_at hl 0 rfl) ?_
      refine lv_iconst (v := (4 : Int32)) hx hb dX11_line_404 rfl ?_
      obtain ⟨r66, hcr66, he⟩ := g_bind he
      refine g_callV [.int (4 : Int32)] (rest := [.int (8 : Int32), .ref (B + 0)]) E hml hl.1 hM cv_X11_230 (c11_fresher l D aC B hcr66) (o := 0) (Nat.le_of_ble_eq_true rfl) rfl (by decide) rfl rfl (Nat.le_of_ble_eq_true rfl) dX11_line_405 (fun H locs hM => ?_)
      refine W.eq (g2 := F0 m 408 ls [.int r66, .int (8 : Int32), .ref (B + 0)]) rfl ?_
      refine lv_iadd hx hb dX11_line_408 ?_
      obtain ⟨r67, hcr67, he⟩ := g_bind he
      refine g_callV [.int ((8 : Int32) + r66)] (rest := []) E hml hl.1 hM cv_X11_258 (c11_wantLine l D aC B hcr67) (o := 0) (Nat.le_of_ble_eq_true rfl) rfl (by decide) rfl rfl (Nat.le_of_ble_eq_true rfl) dX11_line_409 (fun H locs hM => ?_)
      refine W.eq (g2 := F0 m 412 ls []) rfl ?_
      refine lv_goto (tgt := 466) hx hb dX11_line_412 (by decide) ?_
      exact w11_line_b466 (F := F) E hml hret hlk _ _ _ _ hM (lv_sub hl [0] rfl) he
    rw [if_neg h65] at he
    by_cases h68 : v1 = (5 : Int32)
    · rw [if_pos h68] at he
      refine lv_tableIn (tgt := 415) (off := 319) hx hb dX11_line_96 (by rw [h68]; decide) (by rw [h68]; decide) (by rw [h68]; rfl) (by decide) ?_
      refine lv_aload_n hx hb dX11_line_415 rfl (lv_at hl 0 rfl) ?_
      refine lv_iconst (v := (5 : Int32)) hx hb dX11_line_416 rfl ?_
      refine lv_aload_n hx hb dX11_line_417 rfl (lv_at hl 0 rfl) ?_
      refine lv_iconst (v := (1 : Int32)) hx hb dX11_line_418 rfl ?_
      refine lv_bipush (v := (30 : Int32)) hx hb dX11_line_419 rfl ?_
      obtain ⟨r69, hcr69, he⟩ := g_bind he
      refine g_callV [.int (1 : Int32), .int (30 : Int32)] (rest := [.int (5 : Int32), .ref (B + 0)]) E hml hl.1 hM cv_X11_247 (c11_numeral l D aC B hcr69) (o := 0) (Nat.le_of_ble_eq_true rfl) rfl (by decide) rfl rfl (Nat.le_of_ble_eq_true rfl) dX11_line_421 (fun H locs hM => ?_)
      refine W.eq (g2 := F0 m 424 ls [.int r69.1, .int (5 : Int32), .ref (B + 0)]) rfl ?_
      obtain ⟨r70, hcr70, he⟩ := g_bind he
      refine g_callV [.int (5 : Int32), .int r69.1] (rest := []) E hml hl.1 hM cv_X11_251 (c11_reads l D aC B hcr70) (o := 0) (Nat.le_of_ble_eq_true rfl) rfl (by decide) rfl rfl (Nat.le_of_ble_eq_true rfl) dX11_line_424 (fun H locs hM => ?_)
      refine W.eq (g2 := F0 m 427 ls []) rfl ?_
      refine lv_goto (tgt := 466) hx hb dX11_line_427 (by decide) ?_
      exact w11_line_b466 (F := F) E hml hret hlk _ _ _ _ hM (lv_sub hl [0] rfl) he
    rw [if_neg h68] at he
    by_cases h71 : v1 = (6 : Int32)
    · rw [if_pos h71] at he
      refine lv_tableIn (tgt := 430) (off := 334) hx hb dX11_line_96 (by rw [h71]; decide) (by rw [h71]; decide) (by rw [h71]; rfl) (by decide) ?_
      refine lv_aload_n hx hb dX11_line_430 rfl (lv_at hl 0 rfl) ?_
      refine lv_bipush (v := (6 : Int32)) hx hb dX11_line_431 rfl ?_
      refine lv_aload_n hx hb dX11_line_433 rfl (lv_at hl 0 rfl) ?_
      refine lv_iconst (v := (0 : Int32)) hx hb dX11_line_434 rfl ?_
      refine lv_bipush (v := (100 : Int32)) hx hb dX11_line_435 rfl ?_
      obtain ⟨r72, hcr72, he⟩ := g_bind he
      refine g_callV [.int (0 : Int32), .int (100 : Int32)] (rest := [.int (6 : Int32), .ref (B + 0)]) E hml hl.1 hM cv_X11_247 (c11_numeral l D aC B hcr72) (o := 0) (Nat.le_of_ble_eq_true rfl) rfl (by decide) rfl rfl (Nat.le_of_ble_eq_true rfl) dX11_line_437 (fun H locs hM => ?_)
      refine W.eq (g2 := F0 m 440 ls [.int r72.1, .int (6 : Int32), .ref (B + 0)]) rfl ?_
      obtain ⟨r73, hcr73, he⟩ := g_bind he
      refine g_callV [.int (6 : Int32), .int r72.1] (rest := []) E hml hl.1 hM cv_X11_251 (c11_reads l D aC B hcr73) (o := 0) (Nat.le_of_ble_eq_true rfl) rfl (by decide) rfl rfl (Nat.le_of_ble_eq_true rfl) dX11_line_440 (fun H locs hM => ?_)
      refine W.eq (g2 := F0 m 443 ls []) rfl ?_
      refine lv_goto (tgt := 466) hx hb dX11_line_443 (by decide) ?_
      exact w11_line_b466 (F := F) E hml hret hlk _ _ _ _ hM (lv_sub hl [0] rfl) he
    rw [if_neg h71] at he
    by_cases h74 : v1 = (7 : Int32)
    · rw [if_pos h74] at he
      refine lv_tableIn (tgt := 446) (off := 350) hx hb dX11_line_96 (by rw [h74]; decide) (by rw [h74]; decide) (by rw [h74]; rfl) (by decide) ?_
      refine lv_aload_n hx hb dX11_line_446 rfl (lv_at hl 0 rfl) ?_
      refine lv_bipush (v := (7 : Int32)) hx hb dX11_line_447 rfl ?_
      refine lv_aload_n hx hb dX11_line_449 rfl (lv_at hl 0 rfl) ?_
      refine lv_iconst (v := (0 : Int32)) hx hb dX11_line_450 rfl ?_
      refine lv_ldc (v := (99999 : Int32)) hx hb hown (hts _ kc_X11_195) dX11_line_451 ?_
      obtain ⟨r75, hcr75, he⟩ := g_bind he
      refine g_callV [.int (0 : Int32), .int (99999 : Int32)] (rest := [.int (7 : Int32), .ref (B + 0)]) E hml hl.1 hM cv_X11_247 (c11_numeral l D aC B hcr75) (o := 0) (Nat.le_of_ble_eq_true rfl) rfl (by decide) rfl rfl (Nat.le_of_ble_eq_true rfl) dX11_line_453 (fun H locs hM => ?_)
      refine W.eq (g2 := F0 m 456 ls [.int r75.1, .int (7 : Int32), .ref (B + 0)]) rfl ?_
      obtain ⟨r76, hcr76, he⟩ := g_bind he
      refine g_callV [.int (7 : Int32), .int r75.1] (rest := []) E hml hl.1 hM cv_X11_251 (c11_reads l D aC B hcr76) (o := 0) (Nat.le_of_ble_eq_true rfl) rfl (by decide) rfl rfl (Nat.le_of_ble_eq_true rfl) dX11_line_456 (fun H locs hM => ?_)
      refine W.eq (g2 := F0 m 459 ls []) rfl ?_
      refine lv_goto (tgt := 466) hx hb dX11_line_459 (by decide) ?_
      exact w11_line_b466 (F := F) E hml hret hlk _ _ _ _ hM (lv_sub hl [0] rfl) he
    rw [if_neg h74] at he
    refine lv_tableOut (tgt := 462) hx hb dX11_line_96 (by have zh11 := lv_neT (a := 0) h11 rfl; have zh23 := lv_neT (a := 1) h23 rfl; have zh38 := lv_neT (a := 2) h38 rfl; have zh50 := lv_neT (a := 3) h50 rfl; have zh65 := lv_neT (a := 4) h65 rfl; have zh68 := lv_neT (a := 5) h68 rfl; have zh71 := lv_neT (a := 6) h71 rfl; have zh74 := lv_neT (a := 7) h74 rfl; omega) (by decide) ?_
    refine lv_aload_n hx hb dX11_line_462 rfl (lv_at hl 0 rfl) ?_
    obtain ⟨r77, hcr77, he⟩ := g_bind he
    refine g_callV [] (rest := []) E hml hl.1 hM cv_X11_261 (c11_lawLine l D aC B hcr77) (o := 0) (Nat.le_of_ble_eq_true rfl) rfl (by decide) rfl rfl (Nat.le_of_ble_eq_true rfl) dX11_line_463 (fun H locs hM => ?_)
    refine W.eq (g2 := F0 m 466 ls []) rfl ?_
    exact w11_line_b466 (F := F) E hml hret hlk _ _ _ _ hM (lv_sub hl [0] rfl) he
  · rw [if_neg h8] at he
    cases he
    exact g_vret E hM hret hlk dX11_line_78

set_option maxHeartbeats 4000000 in
set_option maxRecDepth 100000 in
theorem c11_line (l : Launch) (D : va_G) (aC : Nat → ClassId) (B : Nat) {F : Nat} {mem : g_M} {q0 : g_M} (he : f11_line F mem = some q0) : g_Met l yX11_line cX11_line 6 none 210 D aC B yM 44 mem [.ref (B + 0)] none q0 := by
  refine g_ofW (by decide) (Nat.le_of_ble_eq_true rfl) ?_
  intro p e s m args below meth c ls E hml hret hlk hM hl
  have E : g_C p s m args c cX11_line RX11 D aC (g_Zs (g_A B 44)) := E
  have hx := E.1
  have hb := E.2.1
  have hown := E.2.2.1
  have hts := E.2.2.2.1
  have hl : lv_has ls 6 [(0, .ref (B + 0))] := hl
  unfold f11_line at he
  refine lv_aload_n hx hb dX11_line_0 rfl (lv_at hl 0 rfl) ?_
  refine g_getI E hM (o := 0) (Nat.le_of_ble_eq_true rfl) rfl fl_X11_176 dX11_line_1 ?_
  refine lv_if_ne (tgt := 16) hx hb dX11_line_4 (by decide) (fun h78 => ?_) (fun h78 => ?_)
  · rw [if_neg h78] at he
    exact w11_line_b16 (F := F) E hml hret hlk _ _ _ _ hM (lv_sub hl [0] rfl) he
  · rw [if_pos h78] at he
    refine lv_aload_n hx hb dX11_line_7 rfl (lv_at hl 0 rfl) ?_
    refine g_getI E hM (o := 0) (Nat.le_of_ble_eq_true rfl) rfl fl_X11_186 dX11_line_8 ?_
    refine lv_bipush (v := (8 : Int32)) hx hb dX11_line_11 rfl ?_
    refine lv_icmp_le (tgt := 22) hx hb dX11_line_13 (by decide) (fun h79 => ?_) (fun h79 => ?_)
    · rw [if_neg (Int32.not_lt.mpr h79)] at he
      refine lv_aload_n hx hb dX11_line_22 rfl (lv_at hl 0 rfl) ?_
      refine g_getI E hM (o := 0) (Nat.le_of_ble_eq_true rfl) rfl fl_X11_186 dX11_line_23 ?_
      obtain ⟨x80, hx80, he⟩ := g_let_ex he
      refine g_topI hx80 ?_
      refine lv_istore_n (lv' := [(1, .int x80), (0, .ref (B + 0))]) hx hb dX11_line_26 rfl hl (by decide) rfl (fun ls hl => ?_)
      refine lv_aload_n hx hb dX11_line_27 rfl (lv_at hl 1 rfl) ?_
      refine lv_iload_n hx hb dX11_line_28 rfl (lv_at hl 0 rfl) ?_
      obtain ⟨r81, hcr81, he⟩ := g_bind he
      refine g_callV [.int x80] (rest := []) E hml hl.1 hM cv_X11_238 (c11_isFull l D aC B hcr81) (o := 0) (Nat.le_of_ble_eq_true rfl) rfl (by decide) rfl rfl (Nat.le_of_ble_eq_true rfl) dX11_line_29 (fun H locs hM => ?_)
      refine W.eq (g2 := F0 m 32 ls [.int r81]) rfl ?_
      refine lv_if_eq (tgt := 43) hx hb dX11_line_32 (by decide) (fun h82 => ?_) (fun h82 => ?_)
      · rw [if_pos h82] at he
        refine lv_iload_n hx hb dX11_line_43 rfl (lv_at hl 0 rfl) ?_
        refine lv_iconst (v := (5 : Int32)) hx hb dX11_line_44 rfl ?_
        refine lv_icmp_lt (tgt := 71) hx hb dX11_line_45 (by decide) (fun h84 => ?_) (fun h84 => ?_)
        · rw [if_neg (Int32.not_le.mpr h84)] at he
          exact w11_line_b71 (F := F) E hml hret hlk _ _ _ _ _ hM (lv_sub hl [1, 0] rfl) he
        · rw [if_pos (Int32.not_lt.mp h84)] at he
          refine lv_iload_n hx hb dX11_line_48 rfl (lv_at hl 0 rfl) ?_
          refine lv_bipush (v := (7 : Int32)) hx hb dX11_line_49 rfl ?_
          refine lv_icmp_gt (tgt := 71) hx hb dX11_line_51 (by decide) (fun h85 => ?_) (fun h85 => ?_)
          · rw [if_neg (Int32.not_le.mpr h85)] at he
            exact w11_line_b71 (F := F) E hml hret hlk _ _ _ _ _ hM (lv_sub hl [1, 0] rfl) he
          · rw [if_pos (Int32.not_lt.mp h85)] at he
            refine lv_aload_n hx hb dX11_line_54 rfl (lv_at hl 1 rfl) ?_
            refine g_getI E hM (o := 0) (Nat.le_of_ble_eq_true rfl) rfl fl_X11_241 dX11_line_55 ?_
            refine lv_iload_n hx hb dX11_line_58 rfl (lv_at hl 0 rfl) ?_
            refine lv_ishr hx hb dX11_line_59 ?_
            refine lv_iconst (v := (1 : Int32)) hx hb dX11_line_60 rfl ?_
            refine lv_iand hx hb dX11_line_61 ?_
            refine lv_iconst (v := (1 : Int32)) hx hb dX11_line_62 rfl ?_
            refine lv_icmp_ne (tgt := 71) hx hb dX11_line_63 (by decide) (fun h86 => ?_) (fun h86 => ?_)
            · rw [if_neg h86] at he
              exact w11_line_b71 (F := F) E hml hret hlk _ _ _ _ _ hM (lv_sub hl [1, 0] rfl) he
            · rw [if_pos h86] at he
              refine lv_aload_n hx hb dX11_line_66 rfl (lv_at hl 1 rfl) ?_
              refine lv_iconst (v := (3 : Int32)) hx hb dX11_line_67 rfl ?_
              obtain ⟨r87, hcr87, he⟩ := g_bind he
              refine g_callV [.int (3 : Int32)] (rest := []) E hml hl.1 hM cv_X11_220 (c11_wrong l D aC B hcr87) (o := 0) (Nat.le_of_ble_eq_true rfl) rfl (by decide) rfl rfl (Nat.le_of_ble_eq_true rfl) dX11_line_68 (fun H locs hM => ?_)
              refine W.eq (g2 := F0 m 71 ls []) rfl ?_
              exact w11_line_b71 (F := F) E hml hret hlk _ _ _ _ _ hM (lv_sub hl [1, 0] rfl) he
      · rw [if_neg h82] at he
        refine lv_aload_n hx hb dX11_line_35 rfl (lv_at hl 1 rfl) ?_
        refine lv_iconst (v := (2 : Int32)) hx hb dX11_line_36 rfl ?_
        obtain ⟨r83, hcr83, he⟩ := g_bind he
        refine g_callV [.int (2 : Int32)] (rest := []) E hml hl.1 hM cv_X11_220 (c11_wrong l D aC B hcr83) (o := 0) (Nat.le_of_ble_eq_true rfl) rfl (by decide) rfl rfl (Nat.le_of_ble_eq_true rfl) dX11_line_37 (fun H locs hM => ?_)
        refine W.eq (g2 := F0 m 40 ls []) rfl ?_
        refine lv_goto (tgt := 71) hx hb dX11_line_40 (by decide) ?_
        exact w11_line_b71 (F := F) E hml hret hlk _ _ _ _ _ hM (lv_sub hl [1, 0] rfl) he
    · rw [if_pos (Int32.not_le.mp h79)] at he
      exact w11_line_b16 (F := F) E hml hret hlk _ _ _ _ hM (lv_sub hl [0] rfl) he

set_option maxHeartbeats 4000000 in
set_option maxRecDepth 100000 in
theorem w11_half_b7_body (E : g_C p s m args c cX11_half RX11 D aC (g_Zs (g_A B 44))) (hml : c.maxLocals = 3) (hret : meth.sig.returnType = none) (hlk : meth.locks = false) {F : Nat} {q0 : g_M} {a0 : Nat} (ha0 : a0 < 44) (hYa0 : (yM.1 a0).1 = 50) {s7 : Int32 → Int32 → g_M → Option (g_M)} (hs7 : ∀ (v1 : Int32) (v2 : Int32) (mem : g_M) (H : Heap) (locs : List Loc) (ls : Array Slot), g_At D aC B yM 44 mem s.heap H locs → lv_has ls 3 [(0, .ref (B + a0)), (1, .int v1), (2, .int v2)] → s7 v1 v2 mem = some q0 → W p l e (g_rm 1) s m args below meth c H locs 0 0 (g_MQ below D aC B yM 44 args s none q0) (F0 m 7 ls [])) : ∀ (v1 : Int32) (v2 : Int32) (mem : g_M) (H : Heap) (locs : List Loc) (ls : Array Slot), g_At D aC B yM 44 mem s.heap H locs → lv_has ls 3 [(0, .ref (B + a0)), (1, .int v1), (2, .int v2)] → f11_half_b7_body F a0 s7 v1 v2 mem = some q0 → W p l e (g_rm 1) s m args below meth c H locs 0 0 (g_MQ below D aC B yM 44 args s none q0) (F0 m 7 ls []) := by
  intro v1 v2 mem H locs ls hM hl he
  unfold f11_half_b7_body at he
  have hx := E.1
  have hb := E.2.1
  have hown := E.2.2.1
  have hts := E.2.2.2.1
  refine lv_iload_n hx hb dX11_half_7 rfl (lv_at hl 2 rfl) ?_
  refine lv_iload_n hx hb dX11_half_8 rfl (lv_at hl 1 rfl) ?_
  refine lv_icmp_ge (tgt := 26) hx hb dX11_half_9 (by decide) (fun h1 => ?_) (fun h1 => ?_)
  · rw [if_neg (Int32.not_lt.mpr h1)] at he
    cases he
    exact g_vret E hM hret hlk dX11_half_26
  · rw [if_pos (Int32.not_le.mp h1)] at he
    refine lv_aload_n hx hb dX11_half_12 rfl (lv_at hl 0 rfl) ?_
    refine lv_iload_n hx hb dX11_half_13 rfl (lv_at hl 2 rfl) ?_
    refine lv_aload_n hx hb dX11_half_14 rfl (lv_at hl 0 rfl) ?_
    refine lv_iload_n hx hb dX11_half_15 rfl (lv_at hl 1 rfl) ?_
    refine lv_iload_n hx hb dX11_half_16 rfl (lv_at hl 2 rfl) ?_
    refine lv_iadd hx hb dX11_half_17 ?_
    obtain ⟨h2, he⟩ := g_ck_some he
    refine g_iald E hM (o := a0) ha0 (g_yp hYa0) h2 dX11_half_18 ?_
    obtain ⟨h3, he⟩ := g_ck_some he
    refine g_iast E hM (o := a0) ha0 (g_yp hYa0) h3 dX11_half_19 (fun H locs hM => ?_)
    obtain ⟨m4, hm4, he⟩ := g_let_ex he
    rw [← hm4] at hM
    obtain ⟨x5, hx5, he⟩ := g_let_ex he
    refine lv_iinc (v := x5) (lv' := [(2, .int x5), (0, .ref (B + a0)), (1, .int v1)]) hx hb dX11_half_20 hl (k := 2) rfl (by rw [hx5]; rfl) (by decide) rfl (fun ls hl => ?_)
    refine lv_goto (tgt := 7) hx hb dX11_half_23 (by decide) ?_
    exact hs7 _ _ _ _ _ _ hM (lv_sub hl [1, 2, 0] rfl) he

set_option maxHeartbeats 4000000 in
set_option maxRecDepth 100000 in
theorem w11_half_b7 (E : g_C p s m args c cX11_half RX11 D aC (g_Zs (g_A B 44))) (hml : c.maxLocals = 3) (hret : meth.sig.returnType = none) (hlk : meth.locks = false) {F : Nat} {q0 : g_M} {a0 : Nat} (ha0 : a0 < 44) (hYa0 : (yM.1 a0).1 = 50) : ∀ (v1 : Int32) (v2 : Int32) (mem : g_M) (H : Heap) (locs : List Loc) (ls : Array Slot), g_At D aC B yM 44 mem s.heap H locs → lv_has ls 3 [(0, .ref (B + a0)), (1, .int v1), (2, .int v2)] → f11_half_b7 F a0 v1 v2 mem = some q0 → W p l e (g_rm 1) s m args below meth c H locs 0 0 (g_MQ below D aC B yM 44 args s none q0) (F0 m 7 ls []) := by
  have key : ∀ (nn : Nat) (x : Int32 × Int32 × g_M) (H : Heap) (locs : List Loc) (ls : Array Slot), g_At D aC B yM 44 x.2.2 s.heap H locs → lv_has ls 3 [(0, .ref (B + a0)), (1, .int x.1), (2, .int x.2.1)] → g_fix (fun sf x => f11_half_b7_body F a0 (fun v1 v2 mem => sf (v1, v2, mem)) x.1 x.2.1 x.2.2) nn x = some q0 → W p l e (g_rm 1) s m args below meth c H locs 0 0 (g_MQ below D aC B yM 44 args s none q0) (F0 m 7 ls []) := by
    intro nn
    induction nn with
    | zero => intro x H locs ls hM hl he; simp [g_fix] at he
    | succ nn ih =>
      intro x H locs ls hM hl he
      exact w11_half_b7_body (F := F) (a0 := a0) E hml hret hlk ha0 hYa0 (fun v1 v2 mem H locs ls hM hl he => ih (v1, v2, mem) H locs ls hM hl he) x.1 x.2.1 x.2.2 H locs ls hM hl he
  intro v1 v2 mem H locs ls hM hl he
  exact key F (v1, v2, mem) H locs ls hM hl he

set_option maxHeartbeats 4000000 in
set_option maxRecDepth 100000 in
theorem c11_half (l : Launch) (D : va_G) (aC : Nat → ClassId) (B : Nat) {F : Nat} {a0 : Nat} (ha0 : a0 < 44) (hYa0 : (yM.1 a0).1 = 50) {mem : g_M} {q0 : g_M} (he : f11_half F a0 mem = some q0) : g_Met l yX11_half cX11_half 3 none 1 D aC B yM 44 mem [.ref (B + a0)] none q0 := by
  refine g_ofW (by decide) (Nat.le_of_ble_eq_true rfl) ?_
  intro p e s m args below meth c ls E hml hret hlk hM hl
  have E : g_C p s m args c cX11_half RX11 D aC (g_Zs (g_A B 44)) := E
  have hx := E.1
  have hb := E.2.1
  have hown := E.2.2.1
  have hts := E.2.2.2.1
  have hl : lv_has ls 3 [(0, .ref (B + a0))] := hl
  unfold f11_half at he
  refine lv_aload_n hx hb dX11_half_0 rfl (lv_at hl 0 rfl) ?_
  refine g_alenI (v := (Int32.ofNat (yM.1 a0).2)) E hM (o := a0) ha0 (g_yp hYa0) rfl dX11_half_1 ?_
  refine lv_iconst (v := (2 : Int32)) hx hb dX11_half_2 rfl ?_
  refine lv_idiv hx hb dX11_half_3 (by decide) ?_
  obtain ⟨x6, hx6, he⟩ := g_let_ex he
  refine g_topI hx6 ?_
  refine lv_istore_n (lv' := [(1, .int x6), (0, .ref (B + a0))]) hx hb dX11_half_4 rfl hl (by decide) rfl (fun ls hl => ?_)
  refine lv_iconst (v := (0 : Int32)) hx hb dX11_half_5 rfl ?_
  refine lv_istore_n (lv' := [(2, .int (0 : Int32)), (1, .int x6), (0, .ref (B + a0))]) hx hb dX11_half_6 rfl hl (by decide) rfl (fun ls hl => ?_)
  exact w11_half_b7 (F := F) (a0 := a0) E hml hret hlk ha0 hYa0 _ _ _ _ _ _ hM (lv_sub hl [2, 1, 0] rfl) he

end
