theorem dX6_agrees_0 : decode cX6_agrees 0 = .ok (.iconst 0, 1) := by decide +kernel
theorem dX6_agrees_1 : decode cX6_agrees 1 = .ok (.istore_n 3, 1) := by decide +kernel
theorem dX6_agrees_2 : decode cX6_agrees 2 = .ok (.iload_n 3, 1) := by decide +kernel
theorem dX6_agrees_3 : decode cX6_agrees 3 = .ok (.aload_n 0, 1) := by decide +kernel
theorem dX6_agrees_4 : decode cX6_agrees 4 = .ok (.invokevirtual 42, 3) := by decide +kernel
theorem dX6_agrees_7 : decode cX6_agrees 7 = .ok (.if_icmp .ge 82, 3) := by decide +kernel
theorem dX6_agrees_10 : decode cX6_agrees 10 = .ok (.aload_n 0, 1) := by decide +kernel
theorem dX6_agrees_11 : decode cX6_agrees 11 = .ok (.getfield 35, 3) := by decide +kernel
theorem dX6_agrees_14 : decode cX6_agrees 14 = .ok (.iload_n 3, 1) := by decide +kernel
theorem dX6_agrees_15 : decode cX6_agrees 15 = .ok (.baload, 1) := by decide +kernel
theorem dX6_agrees_16 : decode cX6_agrees 16 = .ok (.ifCond .ne 67, 3) := by decide +kernel
theorem dX6_agrees_19 : decode cX6_agrees 19 = .ok (.aload_n 0, 1) := by decide +kernel
theorem dX6_agrees_20 : decode cX6_agrees 20 = .ok (.getfield 32, 3) := by decide +kernel
theorem dX6_agrees_23 : decode cX6_agrees 23 = .ok (.iload_n 3, 1) := by decide +kernel
theorem dX6_agrees_24 : decode cX6_agrees 24 = .ok (.iaload, 1) := by decide +kernel
theorem dX6_agrees_25 : decode cX6_agrees 25 = .ok (.iconst (-1), 1) := by decide +kernel
theorem dX6_agrees_26 : decode cX6_agrees 26 = .ok (.if_icmp .ne 57, 3) := by decide +kernel
theorem dX6_agrees_29 : decode cX6_agrees 29 = .ok (.aload_n 0, 1) := by decide +kernel
theorem dX6_agrees_30 : decode cX6_agrees 30 = .ok (.getfield 18, 3) := by decide +kernel
theorem dX6_agrees_33 : decode cX6_agrees 33 = .ok (.iload_n 3, 1) := by decide +kernel
theorem dX6_agrees_34 : decode cX6_agrees 34 = .ok (.iaload, 1) := by decide +kernel
theorem dX6_agrees_35 : decode cX6_agrees 35 = .ok (.iload_n 1, 1) := by decide +kernel
theorem dX6_agrees_36 : decode cX6_agrees 36 = .ok (.if_icmp .ne 47, 3) := by decide +kernel
theorem dX6_agrees_39 : decode cX6_agrees 39 = .ok (.aload_n 2, 1) := by decide +kernel
theorem dX6_agrees_40 : decode cX6_agrees 40 = .ok (.getfield 52, 3) := by decide +kernel
theorem dX6_agrees_43 : decode cX6_agrees 43 = .ok (.aload_n 0, 1) := by decide +kernel
theorem dX6_agrees_44 : decode cX6_agrees 44 = .ok (.getfield 22, 3) := by decide +kernel
theorem dX6_agrees_47 : decode cX6_agrees 47 = .ok (.iload_n 3, 1) := by decide +kernel
theorem dX6_agrees_48 : decode cX6_agrees 48 = .ok (.iaload, 1) := by decide +kernel
theorem dX6_agrees_49 : decode cX6_agrees 49 = .ok (.iconst 5, 1) := by decide +kernel
theorem dX6_agrees_50 : decode cX6_agrees 50 = .ok (.imul, 1) := by decide +kernel
theorem dX6_agrees_51 : decode cX6_agrees 51 = .ok (.aload_n 0, 1) := by decide +kernel
theorem dX6_agrees_52 : decode cX6_agrees 52 = .ok (.getfield 25, 3) := by decide +kernel
theorem dX6_agrees_55 : decode cX6_agrees 55 = .ok (.iload_n 3, 1) := by decide +kernel
theorem dX6_agrees_56 : decode cX6_agrees 56 = .ok (.iaload, 1) := by decide +kernel
theorem dX6_agrees_57 : decode cX6_agrees 57 = .ok (.iadd, 1) := by decide +kernel
theorem dX6_agrees_58 : decode cX6_agrees 58 = .ok (.iaload, 1) := by decide +kernel
theorem dX6_agrees_59 : decode cX6_agrees 59 = .ok (.iconst 1, 1) := by decide +kernel
theorem dX6_agrees_60 : decode cX6_agrees 60 = .ok (.if_icmp .ne 7, 3) := by decide +kernel
theorem dX6_agrees_63 : decode cX6_agrees 63 = .ok (.iconst 1, 1) := by decide +kernel
theorem dX6_agrees_64 : decode cX6_agrees 64 = .ok (.goto 4, 3) := by decide +kernel
theorem dX6_agrees_67 : decode cX6_agrees 67 = .ok (.iconst 0, 1) := by decide +kernel
theorem dX6_agrees_68 : decode cX6_agrees 68 = .ok (.istore 4, 2) := by decide +kernel
theorem dX6_agrees_70 : decode cX6_agrees 70 = .ok (.iload 4, 2) := by decide +kernel
theorem dX6_agrees_72 : decode cX6_agrees 72 = .ok (.aload_n 0, 1) := by decide +kernel
theorem dX6_agrees_73 : decode cX6_agrees 73 = .ok (.getfield 28, 3) := by decide +kernel
theorem dX6_agrees_76 : decode cX6_agrees 76 = .ok (.iload_n 3, 1) := by decide +kernel
theorem dX6_agrees_77 : decode cX6_agrees 77 = .ok (.baload, 1) := by decide +kernel
theorem dX6_agrees_78 : decode cX6_agrees 78 = .ok (.if_icmp .eq 5, 3) := by decide +kernel
theorem dX6_agrees_81 : decode cX6_agrees 81 = .ok (.iconst 0, 1) := by decide +kernel
theorem dX6_agrees_82 : decode cX6_agrees 82 = .ok (.ireturn, 1) := by decide +kernel
theorem dX6_agrees_83 : decode cX6_agrees 83 = .ok (.iinc 3 1, 3) := by decide +kernel
theorem dX6_agrees_86 : decode cX6_agrees 86 = .ok (.goto (-84), 3) := by decide +kernel
theorem dX6_agrees_89 : decode cX6_agrees 89 = .ok (.iconst 1, 1) := by decide +kernel
theorem dX6_agrees_90 : decode cX6_agrees 90 = .ok (.ireturn, 1) := by decide +kernel
theorem dX7_giveOwn_0 : decode cX7_giveOwn 0 = .ok (.iconst 0, 1) := by decide +kernel
theorem dX7_giveOwn_1 : decode cX7_giveOwn 1 = .ok (.istore_n 1, 1) := by decide +kernel
theorem dX7_giveOwn_2 : decode cX7_giveOwn 2 = .ok (.iload_n 1, 1) := by decide +kernel
theorem dX7_giveOwn_3 : decode cX7_giveOwn 3 = .ok (.aload_n 0, 1) := by decide +kernel
theorem dX7_giveOwn_4 : decode cX7_giveOwn 4 = .ok (.getfield 25, 3) := by decide +kernel
theorem dX7_giveOwn_7 : decode cX7_giveOwn 7 = .ok (.arraylength, 1) := by decide +kernel
theorem dX7_giveOwn_8 : decode cX7_giveOwn 8 = .ok (.if_icmp .ge 18, 3) := by decide +kernel
theorem dX7_giveOwn_11 : decode cX7_giveOwn 11 = .ok (.aload_n 0, 1) := by decide +kernel
theorem dX7_giveOwn_12 : decode cX7_giveOwn 12 = .ok (.getfield 25, 3) := by decide +kernel
theorem dX7_giveOwn_15 : decode cX7_giveOwn 15 = .ok (.iload_n 1, 1) := by decide +kernel
theorem dX7_giveOwn_16 : decode cX7_giveOwn 16 = .ok (.iload_n 1, 1) := by decide +kernel
theorem dX7_giveOwn_17 : decode cX7_giveOwn 17 = .ok (.iconst 5, 1) := by decide +kernel
theorem dX7_giveOwn_18 : decode cX7_giveOwn 18 = .ok (.idiv, 1) := by decide +kernel
theorem dX7_giveOwn_19 : decode cX7_giveOwn 19 = .ok (.iastore, 1) := by decide +kernel
theorem dX7_giveOwn_20 : decode cX7_giveOwn 20 = .ok (.iinc 1 1, 3) := by decide +kernel
theorem dX7_giveOwn_23 : decode cX7_giveOwn 23 = .ok (.goto (-21), 3) := by decide +kernel
theorem dX7_giveOwn_26 : decode cX7_giveOwn 26 = .ok (.return_, 1) := by decide +kernel
theorem dX7_begin_0 : decode cX7_begin 0 = .ok (.aload_n 0, 1) := by decide +kernel
theorem dX7_begin_1 : decode cX7_begin 1 = .ok (.aload_n 1, 1) := by decide +kernel
theorem dX7_begin_2 : decode cX7_begin 2 = .ok (.putfield 40, 3) := by decide +kernel
theorem dX7_begin_5 : decode cX7_begin 5 = .ok (.aload_n 0, 1) := by decide +kernel
theorem dX7_begin_6 : decode cX7_begin 6 = .ok (.iconst 0, 1) := by decide +kernel
theorem dX7_begin_7 : decode cX7_begin 7 = .ok (.putfield 9, 3) := by decide +kernel
theorem dX7_begin_10 : decode cX7_begin 10 = .ok (.aload_n 0, 1) := by decide +kernel
theorem dX7_begin_11 : decode cX7_begin 11 = .ok (.aload_n 1, 1) := by decide +kernel
theorem dX7_begin_12 : decode cX7_begin 12 = .ok (.getfield 44, 3) := by decide +kernel
theorem dX7_begin_15 : decode cX7_begin 15 = .ok (.putfield 15, 3) := by decide +kernel
theorem dX7_begin_18 : decode cX7_begin 18 = .ok (.aload_n 0, 1) := by decide +kernel
theorem dX7_begin_19 : decode cX7_begin 19 = .ok (.iconst 0, 1) := by decide +kernel
theorem dX7_begin_20 : decode cX7_begin 20 = .ok (.putfield 18, 3) := by decide +kernel
theorem dX7_begin_23 : decode cX7_begin 23 = .ok (.aload_n 0, 1) := by decide +kernel
theorem dX7_begin_24 : decode cX7_begin 24 = .ok (.aload_n 1, 1) := by decide +kernel
theorem dX7_begin_25 : decode cX7_begin 25 = .ok (.getfield 49, 3) := by decide +kernel
theorem dX7_begin_28 : decode cX7_begin 28 = .ok (.putfield 31, 3) := by decide +kernel
theorem dX7_begin_31 : decode cX7_begin 31 = .ok (.aload_n 1, 1) := by decide +kernel
theorem dX7_begin_32 : decode cX7_begin 32 = .ok (.getfield 50, 3) := by decide +kernel
theorem dX7_begin_35 : decode cX7_begin 35 = .ok (.iconst 0, 1) := by decide +kernel
theorem dX7_begin_36 : decode cX7_begin 36 = .ok (.aload_n 0, 1) := by decide +kernel
theorem dX7_begin_37 : decode cX7_begin 37 = .ok (.getfield 21, 3) := by decide +kernel
theorem dX7_begin_40 : decode cX7_begin 40 = .ok (.iconst 0, 1) := by decide +kernel
theorem dX7_begin_41 : decode cX7_begin 41 = .ok (.iconst 5, 1) := by decide +kernel
theorem dX7_begin_42 : decode cX7_begin 42 = .ok (.invokestatic 51, 3) := by decide +kernel
theorem dX7_begin_45 : decode cX7_begin 45 = .ok (.aload_n 1, 1) := by decide +kernel
theorem dX7_begin_46 : decode cX7_begin 46 = .ok (.getfield 57, 3) := by decide +kernel
theorem dX7_begin_49 : decode cX7_begin 49 = .ok (.iconst 0, 1) := by decide +kernel
theorem dX7_begin_50 : decode cX7_begin 50 = .ok (.aload_n 0, 1) := by decide +kernel
theorem dX7_begin_51 : decode cX7_begin 51 = .ok (.getfield 34, 3) := by decide +kernel
theorem dX7_begin_54 : decode cX7_begin 54 = .ok (.iconst 0, 1) := by decide +kernel
theorem dX7_begin_55 : decode cX7_begin 55 = .ok (.aload_n 0, 1) := by decide +kernel
theorem dX7_begin_56 : decode cX7_begin 56 = .ok (.getfield 34, 3) := by decide +kernel
theorem dX7_begin_59 : decode cX7_begin 59 = .ok (.arraylength, 1) := by decide +kernel
theorem dX7_begin_60 : decode cX7_begin 60 = .ok (.invokestatic 51, 3) := by decide +kernel
theorem dX7_begin_63 : decode cX7_begin 63 = .ok (.iconst 0, 1) := by decide +kernel
theorem dX7_begin_64 : decode cX7_begin 64 = .ok (.istore_n 2, 1) := by decide +kernel
theorem dX7_begin_65 : decode cX7_begin 65 = .ok (.iload_n 2, 1) := by decide +kernel
theorem dX7_begin_66 : decode cX7_begin 66 = .ok (.aload_n 0, 1) := by decide +kernel
theorem dX7_begin_67 : decode cX7_begin 67 = .ok (.getfield 28, 3) := by decide +kernel
theorem dX7_begin_70 : decode cX7_begin 70 = .ok (.arraylength, 1) := by decide +kernel
theorem dX7_begin_71 : decode cX7_begin 71 = .ok (.if_icmp .ge 16, 3) := by decide +kernel
theorem dX7_begin_74 : decode cX7_begin 74 = .ok (.aload_n 0, 1) := by decide +kernel
theorem dX7_begin_75 : decode cX7_begin 75 = .ok (.getfield 28, 3) := by decide +kernel
theorem dX7_begin_78 : decode cX7_begin 78 = .ok (.iload_n 2, 1) := by decide +kernel
theorem dX7_begin_79 : decode cX7_begin 79 = .ok (.iconst 0, 1) := by decide +kernel
theorem dX7_begin_80 : decode cX7_begin 80 = .ok (.iastore, 1) := by decide +kernel
theorem dX7_begin_81 : decode cX7_begin 81 = .ok (.iinc 2 1, 3) := by decide +kernel
theorem dX7_begin_84 : decode cX7_begin 84 = .ok (.goto (-19), 3) := by decide +kernel
theorem dX7_begin_87 : decode cX7_begin 87 = .ok (.iconst 0, 1) := by decide +kernel
theorem dX7_begin_88 : decode cX7_begin 88 = .ok (.istore_n 2, 1) := by decide +kernel
theorem dX7_begin_89 : decode cX7_begin 89 = .ok (.iload_n 2, 1) := by decide +kernel
theorem dX7_begin_90 : decode cX7_begin 90 = .ok (.bipush 8, 2) := by decide +kernel
theorem dX7_begin_92 : decode cX7_begin 92 = .ok (.if_icmp .ge 16, 3) := by decide +kernel
theorem dX7_begin_95 : decode cX7_begin 95 = .ok (.aload_n 0, 1) := by decide +kernel
theorem dX7_begin_96 : decode cX7_begin 96 = .ok (.getfield 37, 3) := by decide +kernel
theorem dX7_begin_99 : decode cX7_begin 99 = .ok (.iload_n 2, 1) := by decide +kernel
theorem dX7_begin_100 : decode cX7_begin 100 = .ok (.iconst 0, 1) := by decide +kernel
theorem dX7_begin_101 : decode cX7_begin 101 = .ok (.iastore, 1) := by decide +kernel
theorem dX7_begin_102 : decode cX7_begin 102 = .ok (.iinc 2 1, 3) := by decide +kernel
theorem dX7_begin_105 : decode cX7_begin 105 = .ok (.goto (-16), 3) := by decide +kernel
theorem dX7_begin_108 : decode cX7_begin 108 = .ok (.aload_n 0, 1) := by decide +kernel
theorem dX7_begin_109 : decode cX7_begin 109 = .ok (.invokevirtual 58, 3) := by decide +kernel
theorem dX7_begin_112 : decode cX7_begin 112 = .ok (.return_, 1) := by decide +kernel
theorem dX7_copy_0 : decode cX7_copy 0 = .ok (.aload_n 0, 1) := by decide +kernel
theorem dX7_copy_1 : decode cX7_copy 1 = .ok (.aload_n 1, 1) := by decide +kernel
theorem dX7_copy_2 : decode cX7_copy 2 = .ok (.getfield 40, 3) := by decide +kernel
theorem dX7_copy_5 : decode cX7_copy 5 = .ok (.putfield 40, 3) := by decide +kernel
theorem dX7_copy_8 : decode cX7_copy 8 = .ok (.aload_n 0, 1) := by decide +kernel
theorem dX7_copy_9 : decode cX7_copy 9 = .ok (.aload_n 1, 1) := by decide +kernel
theorem dX7_copy_10 : decode cX7_copy 10 = .ok (.getfield 9, 3) := by decide +kernel
theorem dX7_copy_13 : decode cX7_copy 13 = .ok (.putfield 9, 3) := by decide +kernel
theorem dX7_copy_16 : decode cX7_copy 16 = .ok (.aload_n 0, 1) := by decide +kernel
theorem dX7_copy_17 : decode cX7_copy 17 = .ok (.aload_n 1, 1) := by decide +kernel
theorem dX7_copy_18 : decode cX7_copy 18 = .ok (.getfield 15, 3) := by decide +kernel
theorem dX7_copy_21 : decode cX7_copy 21 = .ok (.putfield 15, 3) := by decide +kernel
theorem dX7_copy_24 : decode cX7_copy 24 = .ok (.aload_n 0, 1) := by decide +kernel
theorem dX7_copy_25 : decode cX7_copy 25 = .ok (.aload_n 1, 1) := by decide +kernel
theorem dX7_copy_26 : decode cX7_copy 26 = .ok (.getfield 18, 3) := by decide +kernel
theorem dX7_copy_29 : decode cX7_copy 29 = .ok (.putfield 18, 3) := by decide +kernel
theorem dX7_copy_32 : decode cX7_copy 32 = .ok (.aload_n 0, 1) := by decide +kernel
theorem dX7_copy_33 : decode cX7_copy 33 = .ok (.aload_n 1, 1) := by decide +kernel
theorem dX7_copy_34 : decode cX7_copy 34 = .ok (.getfield 31, 3) := by decide +kernel
theorem dX7_copy_37 : decode cX7_copy 37 = .ok (.putfield 31, 3) := by decide +kernel
theorem dX7_copy_40 : decode cX7_copy 40 = .ok (.aload_n 1, 1) := by decide +kernel
theorem dX7_copy_41 : decode cX7_copy 41 = .ok (.getfield 21, 3) := by decide +kernel
theorem dX7_copy_44 : decode cX7_copy 44 = .ok (.iconst 0, 1) := by decide +kernel
theorem dX7_copy_45 : decode cX7_copy 45 = .ok (.aload_n 0, 1) := by decide +kernel
theorem dX7_copy_46 : decode cX7_copy 46 = .ok (.getfield 21, 3) := by decide +kernel
theorem dX7_copy_49 : decode cX7_copy 49 = .ok (.iconst 0, 1) := by decide +kernel
theorem dX7_copy_50 : decode cX7_copy 50 = .ok (.aload_n 0, 1) := by decide +kernel
theorem dX7_copy_51 : decode cX7_copy 51 = .ok (.getfield 21, 3) := by decide +kernel
theorem dX7_copy_54 : decode cX7_copy 54 = .ok (.arraylength, 1) := by decide +kernel
theorem dX7_copy_55 : decode cX7_copy 55 = .ok (.invokestatic 51, 3) := by decide +kernel
theorem dX7_copy_58 : decode cX7_copy 58 = .ok (.aload_n 1, 1) := by decide +kernel
theorem dX7_copy_59 : decode cX7_copy 59 = .ok (.getfield 25, 3) := by decide +kernel
theorem dX7_copy_62 : decode cX7_copy 62 = .ok (.iconst 0, 1) := by decide +kernel
theorem dX7_copy_63 : decode cX7_copy 63 = .ok (.aload_n 0, 1) := by decide +kernel
theorem dX7_copy_64 : decode cX7_copy 64 = .ok (.getfield 25, 3) := by decide +kernel
theorem dX7_copy_67 : decode cX7_copy 67 = .ok (.iconst 0, 1) := by decide +kernel
theorem dX7_copy_68 : decode cX7_copy 68 = .ok (.aload_n 0, 1) := by decide +kernel
theorem dX7_copy_69 : decode cX7_copy 69 = .ok (.getfield 25, 3) := by decide +kernel
theorem dX7_copy_72 : decode cX7_copy 72 = .ok (.arraylength, 1) := by decide +kernel
theorem dX7_copy_73 : decode cX7_copy 73 = .ok (.invokestatic 51, 3) := by decide +kernel
theorem dX7_copy_76 : decode cX7_copy 76 = .ok (.aload_n 1, 1) := by decide +kernel
theorem dX7_copy_77 : decode cX7_copy 77 = .ok (.getfield 28, 3) := by decide +kernel
theorem dX7_copy_80 : decode cX7_copy 80 = .ok (.iconst 0, 1) := by decide +kernel
theorem dX7_copy_81 : decode cX7_copy 81 = .ok (.aload_n 0, 1) := by decide +kernel
theorem dX7_copy_82 : decode cX7_copy 82 = .ok (.getfield 28, 3) := by decide +kernel
theorem dX7_copy_85 : decode cX7_copy 85 = .ok (.iconst 0, 1) := by decide +kernel
theorem dX7_copy_86 : decode cX7_copy 86 = .ok (.aload_n 0, 1) := by decide +kernel
theorem dX7_copy_87 : decode cX7_copy 87 = .ok (.getfield 28, 3) := by decide +kernel
theorem dX7_copy_90 : decode cX7_copy 90 = .ok (.arraylength, 1) := by decide +kernel
theorem dX7_copy_91 : decode cX7_copy 91 = .ok (.invokestatic 51, 3) := by decide +kernel
theorem dX7_copy_94 : decode cX7_copy 94 = .ok (.aload_n 1, 1) := by decide +kernel
theorem dX7_copy_95 : decode cX7_copy 95 = .ok (.getfield 34, 3) := by decide +kernel
theorem dX7_copy_98 : decode cX7_copy 98 = .ok (.iconst 0, 1) := by decide +kernel
theorem dX7_copy_99 : decode cX7_copy 99 = .ok (.aload_n 0, 1) := by decide +kernel
theorem dX7_copy_100 : decode cX7_copy 100 = .ok (.getfield 34, 3) := by decide +kernel
theorem dX7_copy_103 : decode cX7_copy 103 = .ok (.iconst 0, 1) := by decide +kernel
theorem dX7_copy_104 : decode cX7_copy 104 = .ok (.aload_n 0, 1) := by decide +kernel
theorem dX7_copy_105 : decode cX7_copy 105 = .ok (.getfield 34, 3) := by decide +kernel
theorem dX7_copy_108 : decode cX7_copy 108 = .ok (.arraylength, 1) := by decide +kernel
theorem dX7_copy_109 : decode cX7_copy 109 = .ok (.invokestatic 51, 3) := by decide +kernel
theorem dX7_copy_112 : decode cX7_copy 112 = .ok (.aload_n 1, 1) := by decide +kernel
theorem dX7_copy_113 : decode cX7_copy 113 = .ok (.getfield 37, 3) := by decide +kernel
theorem dX7_copy_116 : decode cX7_copy 116 = .ok (.iconst 0, 1) := by decide +kernel
theorem dX7_copy_117 : decode cX7_copy 117 = .ok (.aload_n 0, 1) := by decide +kernel
theorem dX7_copy_118 : decode cX7_copy 118 = .ok (.getfield 37, 3) := by decide +kernel
theorem dX7_copy_121 : decode cX7_copy 121 = .ok (.iconst 0, 1) := by decide +kernel
theorem dX7_copy_122 : decode cX7_copy 122 = .ok (.aload_n 0, 1) := by decide +kernel
theorem dX7_copy_123 : decode cX7_copy 123 = .ok (.getfield 37, 3) := by decide +kernel
theorem dX7_copy_126 : decode cX7_copy 126 = .ok (.arraylength, 1) := by decide +kernel
theorem dX7_copy_127 : decode cX7_copy 127 = .ok (.invokestatic 51, 3) := by decide +kernel
theorem dX7_copy_130 : decode cX7_copy 130 = .ok (.return_, 1) := by decide +kernel
theorem dX7_putSending_0 : decode cX7_putSending 0 = .ok (.aload_n 0, 1) := by decide +kernel
theorem dX7_putSending_1 : decode cX7_putSending 1 = .ok (.aload_n 0, 1) := by decide +kernel
theorem dX7_putSending_2 : decode cX7_putSending 2 = .ok (.getfield 31, 3) := by decide +kernel
theorem dX7_putSending_5 : decode cX7_putSending 5 = .ok (.iconst 0, 1) := by decide +kernel
theorem dX7_putSending_6 : decode cX7_putSending 6 = .ok (.iload_n 1, 1) := by decide +kernel
theorem dX7_putSending_7 : decode cX7_putSending 7 = .ok (.invokevirtual 61, 3) := by decide +kernel
theorem dX7_putSending_10 : decode cX7_putSending 10 = .ok (.aload_n 0, 1) := by decide +kernel
theorem dX7_putSending_11 : decode cX7_putSending 11 = .ok (.aload_n 0, 1) := by decide +kernel
theorem dX7_putSending_12 : decode cX7_putSending 12 = .ok (.getfield 31, 3) := by decide +kernel
theorem dX7_putSending_15 : decode cX7_putSending 15 = .ok (.iconst 1, 1) := by decide +kernel
theorem dX7_putSending_16 : decode cX7_putSending 16 = .ok (.iload_n 2, 1) := by decide +kernel
theorem dX7_putSending_17 : decode cX7_putSending 17 = .ok (.invokevirtual 61, 3) := by decide +kernel
theorem dX7_putSending_20 : decode cX7_putSending 20 = .ok (.aload_n 0, 1) := by decide +kernel
theorem dX7_putSending_21 : decode cX7_putSending 21 = .ok (.aload_n 0, 1) := by decide +kernel
theorem dX7_putSending_22 : decode cX7_putSending 22 = .ok (.getfield 31, 3) := by decide +kernel
theorem dX7_putSending_25 : decode cX7_putSending 25 = .ok (.iconst 2, 1) := by decide +kernel
theorem dX7_putSending_26 : decode cX7_putSending 26 = .ok (.iload_n 3, 1) := by decide +kernel
theorem dX7_putSending_27 : decode cX7_putSending 27 = .ok (.invokevirtual 61, 3) := by decide +kernel
theorem dX7_putSending_30 : decode cX7_putSending 30 = .ok (.aload_n 0, 1) := by decide +kernel
theorem dX7_putSending_31 : decode cX7_putSending 31 = .ok (.aload_n 0, 1) := by decide +kernel
theorem dX7_putSending_32 : decode cX7_putSending 32 = .ok (.getfield 31, 3) := by decide +kernel
theorem dX7_putSending_35 : decode cX7_putSending 35 = .ok (.iconst 3, 1) := by decide +kernel
theorem dX7_putSending_36 : decode cX7_putSending 36 = .ok (.iconst 0, 1) := by decide +kernel
theorem dX7_putSending_37 : decode cX7_putSending 37 = .ok (.invokevirtual 61, 3) := by decide +kernel
theorem dX7_putSending_40 : decode cX7_putSending 40 = .ok (.aload_n 0, 1) := by decide +kernel
theorem dX7_putSending_41 : decode cX7_putSending 41 = .ok (.dup, 1) := by decide +kernel
theorem dX7_putSending_42 : decode cX7_putSending 42 = .ok (.getfield 31, 3) := by decide +kernel
theorem dX7_putSending_45 : decode cX7_putSending 45 = .ok (.iconst 1, 1) := by decide +kernel
theorem dX7_putSending_46 : decode cX7_putSending 46 = .ok (.iadd, 1) := by decide +kernel
theorem dX7_putSending_47 : decode cX7_putSending 47 = .ok (.putfield 31, 3) := by decide +kernel
theorem dX7_putSending_50 : decode cX7_putSending 50 = .ok (.return_, 1) := by decide +kernel
theorem dX7_dueSendings_0 : decode cX7_dueSendings 0 = .ok (.iconst 0, 1) := by decide +kernel
theorem dX7_dueSendings_1 : decode cX7_dueSendings 1 = .ok (.istore_n 1, 1) := by decide +kernel
theorem dX7_dueSendings_2 : decode cX7_dueSendings 2 = .ok (.iconst 0, 1) := by decide +kernel
theorem dX7_dueSendings_3 : decode cX7_dueSendings 3 = .ok (.istore_n 2, 1) := by decide +kernel
theorem dX7_dueSendings_4 : decode cX7_dueSendings 4 = .ok (.iload_n 2, 1) := by decide +kernel
theorem dX7_dueSendings_5 : decode cX7_dueSendings 5 = .ok (.aload_n 0, 1) := by decide +kernel
theorem dX7_dueSendings_6 : decode cX7_dueSendings 6 = .ok (.getfield 31, 3) := by decide +kernel
theorem dX7_dueSendings_9 : decode cX7_dueSendings 9 = .ok (.if_icmp .ge 23, 3) := by decide +kernel
theorem dX7_dueSendings_12 : decode cX7_dueSendings 12 = .ok (.aload_n 0, 1) := by decide +kernel
theorem dX7_dueSendings_13 : decode cX7_dueSendings 13 = .ok (.iload_n 2, 1) := by decide +kernel
theorem dX7_dueSendings_14 : decode cX7_dueSendings 14 = .ok (.invokevirtual 69, 3) := by decide +kernel
theorem dX7_dueSendings_17 : decode cX7_dueSendings 17 = .ok (.ifCond .eq 9, 3) := by decide +kernel
theorem dX7_dueSendings_20 : decode cX7_dueSendings 20 = .ok (.iload_n 1, 1) := by decide +kernel
theorem dX7_dueSendings_21 : decode cX7_dueSendings 21 = .ok (.iconst 1, 1) := by decide +kernel
theorem dX7_dueSendings_22 : decode cX7_dueSendings 22 = .ok (.iload_n 2, 1) := by decide +kernel
theorem dX7_dueSendings_23 : decode cX7_dueSendings 23 = .ok (.ishl, 1) := by decide +kernel
theorem dX7_dueSendings_24 : decode cX7_dueSendings 24 = .ok (.ior, 1) := by decide +kernel
theorem dX7_dueSendings_25 : decode cX7_dueSendings 25 = .ok (.istore_n 1, 1) := by decide +kernel
theorem dX7_dueSendings_26 : decode cX7_dueSendings 26 = .ok (.iinc 2 1, 3) := by decide +kernel
theorem dX7_dueSendings_29 : decode cX7_dueSendings 29 = .ok (.goto (-25), 3) := by decide +kernel
theorem dX7_dueSendings_32 : decode cX7_dueSendings 32 = .ok (.iload_n 1, 1) := by decide +kernel
theorem dX7_dueSendings_33 : decode cX7_dueSendings 33 = .ok (.ireturn, 1) := by decide +kernel
theorem dX7_sendingsGone_0 : decode cX7_sendingsGone 0 = .ok (.iconst 0, 1) := by decide +kernel
theorem dX7_sendingsGone_1 : decode cX7_sendingsGone 1 = .ok (.istore_n 1, 1) := by decide +kernel
theorem dX7_sendingsGone_2 : decode cX7_sendingsGone 2 = .ok (.iconst 0, 1) := by decide +kernel
theorem dX7_sendingsGone_3 : decode cX7_sendingsGone 3 = .ok (.istore_n 2, 1) := by decide +kernel
theorem dX7_sendingsGone_4 : decode cX7_sendingsGone 4 = .ok (.iload_n 2, 1) := by decide +kernel
theorem dX7_sendingsGone_5 : decode cX7_sendingsGone 5 = .ok (.aload_n 0, 1) := by decide +kernel
theorem dX7_sendingsGone_6 : decode cX7_sendingsGone 6 = .ok (.getfield 31, 3) := by decide +kernel
theorem dX7_sendingsGone_9 : decode cX7_sendingsGone 9 = .ok (.if_icmp .ge 27, 3) := by decide +kernel
theorem dX7_sendingsGone_12 : decode cX7_sendingsGone 12 = .ok (.iload_n 1, 1) := by decide +kernel
theorem dX7_sendingsGone_13 : decode cX7_sendingsGone 13 = .ok (.aload_n 0, 1) := by decide +kernel
theorem dX7_sendingsGone_14 : decode cX7_sendingsGone 14 = .ok (.iload_n 2, 1) := by decide +kernel
theorem dX7_sendingsGone_15 : decode cX7_sendingsGone 15 = .ok (.iconst 3, 1) := by decide +kernel
theorem dX7_sendingsGone_16 : decode cX7_sendingsGone 16 = .ok (.invokevirtual 65, 3) := by decide +kernel
theorem dX7_sendingsGone_19 : decode cX7_sendingsGone 19 = .ok (.iconst 1, 1) := by decide +kernel
theorem dX7_sendingsGone_20 : decode cX7_sendingsGone 20 = .ok (.if_icmp .ne 7, 3) := by decide +kernel
theorem dX7_sendingsGone_23 : decode cX7_sendingsGone 23 = .ok (.iconst 1, 1) := by decide +kernel
theorem dX7_sendingsGone_24 : decode cX7_sendingsGone 24 = .ok (.goto 4, 3) := by decide +kernel
theorem dX7_sendingsGone_27 : decode cX7_sendingsGone 27 = .ok (.iconst 0, 1) := by decide +kernel
theorem dX7_sendingsGone_28 : decode cX7_sendingsGone 28 = .ok (.iadd, 1) := by decide +kernel
theorem dX7_sendingsGone_29 : decode cX7_sendingsGone 29 = .ok (.istore_n 1, 1) := by decide +kernel
theorem dX7_sendingsGone_30 : decode cX7_sendingsGone 30 = .ok (.iinc 2 1, 3) := by decide +kernel
theorem dX7_sendingsGone_33 : decode cX7_sendingsGone 33 = .ok (.goto (-29), 3) := by decide +kernel
theorem dX7_sendingsGone_36 : decode cX7_sendingsGone 36 = .ok (.iload_n 1, 1) := by decide +kernel
theorem dX7_sendingsGone_37 : decode cX7_sendingsGone 37 = .ok (.ireturn, 1) := by decide +kernel
theorem dX7_ownSorts_0 : decode cX7_ownSorts 0 = .ok (.iconst 0, 1) := by decide +kernel
theorem dX7_ownSorts_1 : decode cX7_ownSorts 1 = .ok (.istore_n 2, 1) := by decide +kernel
theorem dX7_ownSorts_2 : decode cX7_ownSorts 2 = .ok (.iconst 0, 1) := by decide +kernel
theorem dX7_ownSorts_3 : decode cX7_ownSorts 3 = .ok (.istore_n 3, 1) := by decide +kernel
theorem dX7_ownSorts_4 : decode cX7_ownSorts 4 = .ok (.iload_n 3, 1) := by decide +kernel
theorem dX7_ownSorts_5 : decode cX7_ownSorts 5 = .ok (.aload_n 0, 1) := by decide +kernel
theorem dX7_ownSorts_6 : decode cX7_ownSorts 6 = .ok (.getfield 40, 3) := by decide +kernel
theorem dX7_ownSorts_9 : decode cX7_ownSorts 9 = .ok (.getfield 73, 3) := by decide +kernel
theorem dX7_ownSorts_12 : decode cX7_ownSorts 12 = .ok (.iconst 1, 1) := by decide +kernel
theorem dX7_ownSorts_13 : decode cX7_ownSorts 13 = .ok (.iaload, 1) := by decide +kernel
theorem dX7_ownSorts_14 : decode cX7_ownSorts 14 = .ok (.if_icmp .ge 29, 3) := by decide +kernel
theorem dX7_ownSorts_17 : decode cX7_ownSorts 17 = .ok (.aload_n 0, 1) := by decide +kernel
theorem dX7_ownSorts_18 : decode cX7_ownSorts 18 = .ok (.getfield 25, 3) := by decide +kernel
theorem dX7_ownSorts_21 : decode cX7_ownSorts 21 = .ok (.iload_n 1, 1) := by decide +kernel
theorem dX7_ownSorts_22 : decode cX7_ownSorts 22 = .ok (.iconst 5, 1) := by decide +kernel
theorem dX7_ownSorts_23 : decode cX7_ownSorts 23 = .ok (.imul, 1) := by decide +kernel
theorem dX7_ownSorts_24 : decode cX7_ownSorts 24 = .ok (.iload_n 3, 1) := by decide +kernel
theorem dX7_ownSorts_25 : decode cX7_ownSorts 25 = .ok (.iadd, 1) := by decide +kernel
theorem dX7_ownSorts_26 : decode cX7_ownSorts 26 = .ok (.iaload, 1) := by decide +kernel
theorem dX7_ownSorts_27 : decode cX7_ownSorts 27 = .ok (.iload_n 1, 1) := by decide +kernel
theorem dX7_ownSorts_28 : decode cX7_ownSorts 28 = .ok (.if_icmp .ne 9, 3) := by decide +kernel
theorem dX7_ownSorts_31 : decode cX7_ownSorts 31 = .ok (.iload_n 2, 1) := by decide +kernel
theorem dX7_ownSorts_32 : decode cX7_ownSorts 32 = .ok (.iconst 1, 1) := by decide +kernel
theorem dX7_ownSorts_33 : decode cX7_ownSorts 33 = .ok (.iload_n 3, 1) := by decide +kernel
theorem dX7_ownSorts_34 : decode cX7_ownSorts 34 = .ok (.ishl, 1) := by decide +kernel
theorem dX7_ownSorts_35 : decode cX7_ownSorts 35 = .ok (.ior, 1) := by decide +kernel
theorem dX7_ownSorts_36 : decode cX7_ownSorts 36 = .ok (.istore_n 2, 1) := by decide +kernel
theorem dX7_ownSorts_37 : decode cX7_ownSorts 37 = .ok (.iinc 3 1, 3) := by decide +kernel
theorem dX7_ownSorts_40 : decode cX7_ownSorts 40 = .ok (.goto (-36), 3) := by decide +kernel
theorem dX7_ownSorts_43 : decode cX7_ownSorts 43 = .ok (.iload_n 2, 1) := by decide +kernel
theorem dX7_ownSorts_44 : decode cX7_ownSorts 44 = .ok (.ireturn, 1) := by decide +kernel
theorem dX7_wantsOf_0 : decode cX7_wantsOf 0 = .ok (.iconst 0, 1) := by decide +kernel
theorem dX7_wantsOf_1 : decode cX7_wantsOf 1 = .ok (.istore_n 3, 1) := by decide +kernel
theorem dX7_wantsOf_2 : decode cX7_wantsOf 2 = .ok (.iconst 0, 1) := by decide +kernel
theorem dX7_wantsOf_3 : decode cX7_wantsOf 3 = .ok (.istore 4, 2) := by decide +kernel
theorem dX7_wantsOf_5 : decode cX7_wantsOf 5 = .ok (.iload 4, 2) := by decide +kernel
theorem dX7_wantsOf_7 : decode cX7_wantsOf 7 = .ok (.aload_n 0, 1) := by decide +kernel
theorem dX7_wantsOf_8 : decode cX7_wantsOf 8 = .ok (.getfield 40, 3) := by decide +kernel
theorem dX7_wantsOf_11 : decode cX7_wantsOf 11 = .ok (.getfield 88, 3) := by decide +kernel
theorem dX7_wantsOf_14 : decode cX7_wantsOf 14 = .ok (.if_icmp .ge 42, 3) := by decide +kernel
theorem dX7_wantsOf_17 : decode cX7_wantsOf 17 = .ok (.iload_n 3, 1) := by decide +kernel
theorem dX7_wantsOf_18 : decode cX7_wantsOf 18 = .ok (.aload_n 0, 1) := by decide +kernel
theorem dX7_wantsOf_19 : decode cX7_wantsOf 19 = .ok (.getfield 40, 3) := by decide +kernel
theorem dX7_wantsOf_22 : decode cX7_wantsOf 22 = .ok (.iload 4, 2) := by decide +kernel
theorem dX7_wantsOf_24 : decode cX7_wantsOf 24 = .ok (.iconst 0, 1) := by decide +kernel
theorem dX7_wantsOf_25 : decode cX7_wantsOf 25 = .ok (.invokevirtual 91, 3) := by decide +kernel
theorem dX7_wantsOf_28 : decode cX7_wantsOf 28 = .ok (.iload_n 1, 1) := by decide +kernel
theorem dX7_wantsOf_29 : decode cX7_wantsOf 29 = .ok (.if_icmp .ne 18, 3) := by decide +kernel
theorem dX7_wantsOf_32 : decode cX7_wantsOf 32 = .ok (.aload_n 0, 1) := by decide +kernel
theorem dX7_wantsOf_33 : decode cX7_wantsOf 33 = .ok (.getfield 37, 3) := by decide +kernel
theorem dX7_wantsOf_36 : decode cX7_wantsOf 36 = .ok (.iload 4, 2) := by decide +kernel
theorem dX7_wantsOf_38 : decode cX7_wantsOf 38 = .ok (.iaload, 1) := by decide +kernel
theorem dX7_wantsOf_39 : decode cX7_wantsOf 39 = .ok (.iload_n 2, 1) := by decide +kernel
theorem dX7_wantsOf_40 : decode cX7_wantsOf 40 = .ok (.if_icmp .ne 7, 3) := by decide +kernel
theorem dX7_wantsOf_43 : decode cX7_wantsOf 43 = .ok (.iconst 1, 1) := by decide +kernel
theorem dX7_wantsOf_44 : decode cX7_wantsOf 44 = .ok (.goto 4, 3) := by decide +kernel
theorem dX7_wantsOf_47 : decode cX7_wantsOf 47 = .ok (.iconst 0, 1) := by decide +kernel
theorem dX7_wantsOf_48 : decode cX7_wantsOf 48 = .ok (.iadd, 1) := by decide +kernel
theorem dX7_wantsOf_49 : decode cX7_wantsOf 49 = .ok (.istore_n 3, 1) := by decide +kernel
theorem dX7_wantsOf_50 : decode cX7_wantsOf 50 = .ok (.iinc 4 1, 3) := by decide +kernel
theorem dX7_wantsOf_53 : decode cX7_wantsOf 53 = .ok (.goto (-48), 3) := by decide +kernel
theorem dX7_wantsOf_56 : decode cX7_wantsOf 56 = .ok (.iload_n 3, 1) := by decide +kernel
theorem dX7_wantsOf_57 : decode cX7_wantsOf 57 = .ok (.ireturn, 1) := by decide +kernel
theorem dX7_wantsThatAre_0 : decode cX7_wantsThatAre 0 = .ok (.iconst 0, 1) := by decide +kernel
theorem dX7_wantsThatAre_1 : decode cX7_wantsThatAre 1 = .ok (.istore_n 2, 1) := by decide +kernel
theorem dX7_wantsThatAre_2 : decode cX7_wantsThatAre 2 = .ok (.iconst 0, 1) := by decide +kernel
theorem dX7_wantsThatAre_3 : decode cX7_wantsThatAre 3 = .ok (.istore_n 3, 1) := by decide +kernel
theorem dX7_wantsThatAre_4 : decode cX7_wantsThatAre 4 = .ok (.iload_n 3, 1) := by decide +kernel
theorem dX7_wantsThatAre_5 : decode cX7_wantsThatAre 5 = .ok (.aload_n 0, 1) := by decide +kernel
theorem dX7_wantsThatAre_6 : decode cX7_wantsThatAre 6 = .ok (.getfield 40, 3) := by decide +kernel
theorem dX7_wantsThatAre_9 : decode cX7_wantsThatAre 9 = .ok (.getfield 88, 3) := by decide +kernel
theorem dX7_wantsThatAre_12 : decode cX7_wantsThatAre 12 = .ok (.if_icmp .ge 27, 3) := by decide +kernel
theorem dX7_wantsThatAre_15 : decode cX7_wantsThatAre 15 = .ok (.iload_n 2, 1) := by decide +kernel
theorem dX7_wantsThatAre_16 : decode cX7_wantsThatAre 16 = .ok (.aload_n 0, 1) := by decide +kernel
theorem dX7_wantsThatAre_17 : decode cX7_wantsThatAre 17 = .ok (.getfield 37, 3) := by decide +kernel
theorem dX7_wantsThatAre_20 : decode cX7_wantsThatAre 20 = .ok (.iload_n 3, 1) := by decide +kernel
theorem dX7_wantsThatAre_21 : decode cX7_wantsThatAre 21 = .ok (.iaload, 1) := by decide +kernel
theorem dX7_wantsThatAre_22 : decode cX7_wantsThatAre 22 = .ok (.iload_n 1, 1) := by decide +kernel
theorem dX7_wantsThatAre_23 : decode cX7_wantsThatAre 23 = .ok (.if_icmp .ne 7, 3) := by decide +kernel
theorem dX7_wantsThatAre_26 : decode cX7_wantsThatAre 26 = .ok (.iconst 1, 1) := by decide +kernel
theorem dX7_wantsThatAre_27 : decode cX7_wantsThatAre 27 = .ok (.goto 4, 3) := by decide +kernel
theorem dX7_wantsThatAre_30 : decode cX7_wantsThatAre 30 = .ok (.iconst 0, 1) := by decide +kernel
theorem dX7_wantsThatAre_31 : decode cX7_wantsThatAre 31 = .ok (.iadd, 1) := by decide +kernel
theorem dX7_wantsThatAre_32 : decode cX7_wantsThatAre 32 = .ok (.istore_n 2, 1) := by decide +kernel
theorem dX7_wantsThatAre_33 : decode cX7_wantsThatAre 33 = .ok (.iinc 3 1, 3) := by decide +kernel
theorem dX7_wantsThatAre_36 : decode cX7_wantsThatAre 36 = .ok (.goto (-32), 3) := by decide +kernel
theorem dX7_wantsThatAre_39 : decode cX7_wantsThatAre 39 = .ok (.iload_n 2, 1) := by decide +kernel
theorem dX7_wantsThatAre_40 : decode cX7_wantsThatAre 40 = .ok (.ireturn, 1) := by decide +kernel
theorem dX7_allPence_0 : decode cX7_allPence 0 = .ok (.iconst 0, 1) := by decide +kernel
theorem dX7_allPence_1 : decode cX7_allPence 1 = .ok (.istore_n 1, 1) := by decide +kernel
theorem dX7_allPence_2 : decode cX7_allPence 2 = .ok (.iconst 0, 1) := by decide +kernel
theorem dX7_allPence_3 : decode cX7_allPence 3 = .ok (.istore_n 2, 1) := by decide +kernel
theorem dX7_allPence_4 : decode cX7_allPence 4 = .ok (.iload_n 2, 1) := by decide +kernel
theorem dX7_allPence_5 : decode cX7_allPence 5 = .ok (.aload_n 0, 1) := by decide +kernel
theorem dX7_allPence_6 : decode cX7_allPence 6 = .ok (.getfield 40, 3) := by decide +kernel
theorem dX7_allPence_9 : decode cX7_allPence 9 = .ok (.getfield 73, 3) := by decide +kernel
theorem dX7_allPence_12 : decode cX7_allPence 12 = .ok (.iconst 0, 1) := by decide +kernel
theorem dX7_allPence_13 : decode cX7_allPence 13 = .ok (.iaload, 1) := by decide +kernel
theorem dX7_allPence_14 : decode cX7_allPence 14 = .ok (.if_icmp .ge 18, 3) := by decide +kernel
theorem dX7_allPence_17 : decode cX7_allPence 17 = .ok (.iload_n 1, 1) := by decide +kernel
theorem dX7_allPence_18 : decode cX7_allPence 18 = .ok (.aload_n 0, 1) := by decide +kernel
theorem dX7_allPence_19 : decode cX7_allPence 19 = .ok (.getfield 21, 3) := by decide +kernel
theorem dX7_allPence_22 : decode cX7_allPence 22 = .ok (.iload_n 2, 1) := by decide +kernel
theorem dX7_allPence_23 : decode cX7_allPence 23 = .ok (.iaload, 1) := by decide +kernel
theorem dX7_allPence_24 : decode cX7_allPence 24 = .ok (.iadd, 1) := by decide +kernel
theorem dX7_allPence_25 : decode cX7_allPence 25 = .ok (.istore_n 1, 1) := by decide +kernel
theorem dX7_allPence_26 : decode cX7_allPence 26 = .ok (.iinc 2 1, 3) := by decide +kernel
theorem dX7_allPence_29 : decode cX7_allPence 29 = .ok (.goto (-25), 3) := by decide +kernel
theorem dX7_allPence_32 : decode cX7_allPence 32 = .ok (.iload_n 1, 1) := by decide +kernel
theorem dX7_allPence_33 : decode cX7_allPence 33 = .ok (.ireturn, 1) := by decide +kernel
theorem dX7_mixed_0 : decode cX7_mixed 0 = .ok (.aload_n 0, 1) := by decide +kernel
theorem dX7_mixed_1 : decode cX7_mixed 1 = .ok (.getfield 40, 3) := by decide +kernel
theorem dX7_mixed_4 : decode cX7_mixed 4 = .ok (.getfield 73, 3) := by decide +kernel
theorem dX7_mixed_7 : decode cX7_mixed 7 = .ok (.iconst 0, 1) := by decide +kernel
theorem dX7_mixed_8 : decode cX7_mixed 8 = .ok (.iaload, 1) := by decide +kernel
theorem dX7_mixed_9 : decode cX7_mixed 9 = .ok (.aload_n 0, 1) := by decide +kernel
theorem dX7_mixed_10 : decode cX7_mixed 10 = .ok (.getfield 40, 3) := by decide +kernel
theorem dX7_mixed_13 : decode cX7_mixed 13 = .ok (.getfield 73, 3) := by decide +kernel
theorem dX7_mixed_16 : decode cX7_mixed 16 = .ok (.iconst 1, 1) := by decide +kernel
theorem dX7_mixed_17 : decode cX7_mixed 17 = .ok (.iaload, 1) := by decide +kernel
theorem dX7_mixed_18 : decode cX7_mixed 18 = .ok (.imul, 1) := by decide +kernel
theorem dX7_mixed_19 : decode cX7_mixed 19 = .ok (.istore_n 1, 1) := by decide +kernel
theorem dX7_mixed_20 : decode cX7_mixed 20 = .ok (.iconst 0, 1) := by decide +kernel
theorem dX7_mixed_21 : decode cX7_mixed 21 = .ok (.istore_n 2, 1) := by decide +kernel
theorem dX7_mixed_22 : decode cX7_mixed 22 = .ok (.iload_n 2, 1) := by decide +kernel
theorem dX7_mixed_23 : decode cX7_mixed 23 = .ok (.aload_n 0, 1) := by decide +kernel
theorem dX7_mixed_24 : decode cX7_mixed 24 = .ok (.getfield 40, 3) := by decide +kernel
theorem dX7_mixed_27 : decode cX7_mixed 27 = .ok (.getfield 73, 3) := by decide +kernel
theorem dX7_mixed_30 : decode cX7_mixed 30 = .ok (.iconst 0, 1) := by decide +kernel
theorem dX7_mixed_31 : decode cX7_mixed 31 = .ok (.iaload, 1) := by decide +kernel
theorem dX7_mixed_32 : decode cX7_mixed 32 = .ok (.if_icmp .ge 20, 3) := by decide +kernel
theorem dX7_mixed_35 : decode cX7_mixed 35 = .ok (.iload_n 1, 1) := by decide +kernel
theorem dX7_mixed_36 : decode cX7_mixed 36 = .ok (.aload_n 0, 1) := by decide +kernel
theorem dX7_mixed_37 : decode cX7_mixed 37 = .ok (.iload_n 2, 1) := by decide +kernel
theorem dX7_mixed_38 : decode cX7_mixed 38 = .ok (.invokevirtual 94, 3) := by decide +kernel
theorem dX7_mixed_41 : decode cX7_mixed 41 = .ok (.invokestatic 79, 3) := by decide +kernel
theorem dX7_mixed_44 : decode cX7_mixed 44 = .ok (.isub, 1) := by decide +kernel
theorem dX7_mixed_45 : decode cX7_mixed 45 = .ok (.istore_n 1, 1) := by decide +kernel
theorem dX7_mixed_46 : decode cX7_mixed 46 = .ok (.iinc 2 1, 3) := by decide +kernel
theorem dX7_mixed_49 : decode cX7_mixed 49 = .ok (.goto (-27), 3) := by decide +kernel
theorem dX7_mixed_52 : decode cX7_mixed 52 = .ok (.iload_n 1, 1) := by decide +kernel
theorem dX7_mixed_53 : decode cX7_mixed 53 = .ok (.ireturn, 1) := by decide +kernel
theorem dX7_holderOf_0 : decode cX7_holderOf 0 = .ok (.iconst 0, 1) := by decide +kernel
theorem dX7_holderOf_1 : decode cX7_holderOf 1 = .ok (.istore_n 3, 1) := by decide +kernel
theorem dX7_holderOf_2 : decode cX7_holderOf 2 = .ok (.iload_n 3, 1) := by decide +kernel
theorem dX7_holderOf_3 : decode cX7_holderOf 3 = .ok (.aload_n 0, 1) := by decide +kernel
theorem dX7_holderOf_4 : decode cX7_holderOf 4 = .ok (.getfield 40, 3) := by decide +kernel
theorem dX7_holderOf_7 : decode cX7_holderOf 7 = .ok (.getfield 73, 3) := by decide +kernel
theorem dX7_holderOf_10 : decode cX7_holderOf 10 = .ok (.iconst 0, 1) := by decide +kernel
theorem dX7_holderOf_11 : decode cX7_holderOf 11 = .ok (.iaload, 1) := by decide +kernel
theorem dX7_holderOf_12 : decode cX7_holderOf 12 = .ok (.if_icmp .ge 25, 3) := by decide +kernel
theorem dX7_holderOf_15 : decode cX7_holderOf 15 = .ok (.aload_n 0, 1) := by decide +kernel
theorem dX7_holderOf_16 : decode cX7_holderOf 16 = .ok (.getfield 25, 3) := by decide +kernel
theorem dX7_holderOf_19 : decode cX7_holderOf 19 = .ok (.iload_n 3, 1) := by decide +kernel
theorem dX7_holderOf_20 : decode cX7_holderOf 20 = .ok (.iconst 5, 1) := by decide +kernel
theorem dX7_holderOf_21 : decode cX7_holderOf 21 = .ok (.imul, 1) := by decide +kernel
theorem dX7_holderOf_22 : decode cX7_holderOf 22 = .ok (.iload_n 2, 1) := by decide +kernel
theorem dX7_holderOf_23 : decode cX7_holderOf 23 = .ok (.iadd, 1) := by decide +kernel
theorem dX7_holderOf_24 : decode cX7_holderOf 24 = .ok (.iaload, 1) := by decide +kernel
theorem dX7_holderOf_25 : decode cX7_holderOf 25 = .ok (.iload_n 1, 1) := by decide +kernel
theorem dX7_holderOf_26 : decode cX7_holderOf 26 = .ok (.if_icmp .ne 5, 3) := by decide +kernel
theorem dX7_holderOf_29 : decode cX7_holderOf 29 = .ok (.iload_n 3, 1) := by decide +kernel
theorem dX7_holderOf_30 : decode cX7_holderOf 30 = .ok (.ireturn, 1) := by decide +kernel
theorem dX7_holderOf_31 : decode cX7_holderOf 31 = .ok (.iinc 3 1, 3) := by decide +kernel
theorem dX7_holderOf_34 : decode cX7_holderOf 34 = .ok (.goto (-32), 3) := by decide +kernel
theorem dX7_holderOf_37 : decode cX7_holderOf 37 = .ok (.iconst (-1), 1) := by decide +kernel
theorem dX7_holderOf_38 : decode cX7_holderOf 38 = .ok (.ireturn, 1) := by decide +kernel
theorem dX7_lost_0 : decode cX7_lost 0 = .ok (.iconst 0, 1) := by decide +kernel
theorem dX7_lost_1 : decode cX7_lost 1 = .ok (.istore_n 1, 1) := by decide +kernel
theorem dX7_lost_2 : decode cX7_lost 2 = .ok (.iconst 0, 1) := by decide +kernel
theorem dX7_lost_3 : decode cX7_lost 3 = .ok (.istore_n 2, 1) := by decide +kernel
theorem dX7_lost_4 : decode cX7_lost 4 = .ok (.iload_n 2, 1) := by decide +kernel
theorem dX7_lost_5 : decode cX7_lost 5 = .ok (.aload_n 0, 1) := by decide +kernel
theorem dX7_lost_6 : decode cX7_lost 6 = .ok (.getfield 40, 3) := by decide +kernel
theorem dX7_lost_9 : decode cX7_lost 9 = .ok (.getfield 73, 3) := by decide +kernel
theorem dX7_lost_12 : decode cX7_lost 12 = .ok (.iconst 0, 1) := by decide +kernel
theorem dX7_lost_13 : decode cX7_lost 13 = .ok (.iaload, 1) := by decide +kernel
theorem dX7_lost_14 : decode cX7_lost 14 = .ok (.if_icmp .ge 35, 3) := by decide +kernel
theorem dX7_lost_17 : decode cX7_lost 17 = .ok (.aload_n 0, 1) := by decide +kernel
theorem dX7_lost_18 : decode cX7_lost 18 = .ok (.getfield 40, 3) := by decide +kernel
theorem dX7_lost_21 : decode cX7_lost 21 = .ok (.getfield 73, 3) := by decide +kernel
theorem dX7_lost_24 : decode cX7_lost 24 = .ok (.iconst 1, 1) := by decide +kernel
theorem dX7_lost_25 : decode cX7_lost 25 = .ok (.iaload, 1) := by decide +kernel
theorem dX7_lost_26 : decode cX7_lost 26 = .ok (.ifCond .le 17, 3) := by decide +kernel
theorem dX7_lost_29 : decode cX7_lost 29 = .ok (.aload_n 0, 1) := by decide +kernel
theorem dX7_lost_30 : decode cX7_lost 30 = .ok (.iload_n 2, 1) := by decide +kernel
theorem dX7_lost_31 : decode cX7_lost 31 = .ok (.invokevirtual 94, 3) := by decide +kernel
theorem dX7_lost_34 : decode cX7_lost 34 = .ok (.ifCond .ne 9, 3) := by decide +kernel
theorem dX7_lost_37 : decode cX7_lost 37 = .ok (.iload_n 1, 1) := by decide +kernel
theorem dX7_lost_38 : decode cX7_lost 38 = .ok (.iconst 1, 1) := by decide +kernel
theorem dX7_lost_39 : decode cX7_lost 39 = .ok (.iload_n 2, 1) := by decide +kernel
theorem dX7_lost_40 : decode cX7_lost 40 = .ok (.ishl, 1) := by decide +kernel
theorem dX7_lost_41 : decode cX7_lost 41 = .ok (.ior, 1) := by decide +kernel
theorem dX7_lost_42 : decode cX7_lost 42 = .ok (.istore_n 1, 1) := by decide +kernel
theorem dX7_lost_43 : decode cX7_lost 43 = .ok (.iinc 2 1, 3) := by decide +kernel
theorem dX7_lost_46 : decode cX7_lost 46 = .ok (.goto (-42), 3) := by decide +kernel
theorem dX7_lost_49 : decode cX7_lost 49 = .ok (.iload_n 1, 1) := by decide +kernel
theorem dX7_lost_50 : decode cX7_lost 50 = .ok (.ireturn, 1) := by decide +kernel
theorem dX7_halves_0 : decode cX7_halves 0 = .ok (.iconst 0, 1) := by decide +kernel
theorem dX7_halves_1 : decode cX7_halves 1 = .ok (.istore_n 1, 1) := by decide +kernel
theorem dX7_halves_2 : decode cX7_halves 2 = .ok (.iconst 0, 1) := by decide +kernel
theorem dX7_halves_3 : decode cX7_halves 3 = .ok (.istore_n 2, 1) := by decide +kernel
theorem dX7_halves_4 : decode cX7_halves 4 = .ok (.iload_n 2, 1) := by decide +kernel
theorem dX7_halves_5 : decode cX7_halves 5 = .ok (.aload_n 0, 1) := by decide +kernel
theorem dX7_halves_6 : decode cX7_halves 6 = .ok (.getfield 40, 3) := by decide +kernel
theorem dX7_halves_9 : decode cX7_halves 9 = .ok (.getfield 73, 3) := by decide +kernel
theorem dX7_halves_12 : decode cX7_halves 12 = .ok (.iconst 0, 1) := by decide +kernel
theorem dX7_halves_13 : decode cX7_halves 13 = .ok (.iaload, 1) := by decide +kernel
theorem dX7_halves_14 : decode cX7_halves 14 = .ok (.if_icmp .ge 33, 3) := by decide +kernel
theorem dX7_halves_17 : decode cX7_halves 17 = .ok (.aload_n 0, 1) := by decide +kernel
theorem dX7_halves_18 : decode cX7_halves 18 = .ok (.iload_n 2, 1) := by decide +kernel
theorem dX7_halves_19 : decode cX7_halves 19 = .ok (.iconst 0, 1) := by decide +kernel
theorem dX7_halves_20 : decode cX7_halves 20 = .ok (.invokevirtual 76, 3) := by decide +kernel
theorem dX7_halves_23 : decode cX7_halves 23 = .ok (.ifCond .eq 18, 3) := by decide +kernel
theorem dX7_halves_26 : decode cX7_halves 26 = .ok (.aload_n 0, 1) := by decide +kernel
theorem dX7_halves_27 : decode cX7_halves 27 = .ok (.iload_n 2, 1) := by decide +kernel
theorem dX7_halves_28 : decode cX7_halves 28 = .ok (.iconst 1, 1) := by decide +kernel
theorem dX7_halves_29 : decode cX7_halves 29 = .ok (.invokevirtual 76, 3) := by decide +kernel
theorem dX7_halves_32 : decode cX7_halves 32 = .ok (.ifCond .eq 9, 3) := by decide +kernel
theorem dX7_halves_35 : decode cX7_halves 35 = .ok (.iload_n 1, 1) := by decide +kernel
theorem dX7_halves_36 : decode cX7_halves 36 = .ok (.iconst 1, 1) := by decide +kernel
theorem dX7_halves_37 : decode cX7_halves 37 = .ok (.iload_n 2, 1) := by decide +kernel
theorem dX7_halves_38 : decode cX7_halves 38 = .ok (.ishl, 1) := by decide +kernel
theorem dX7_halves_39 : decode cX7_halves 39 = .ok (.ior, 1) := by decide +kernel
theorem dX7_halves_40 : decode cX7_halves 40 = .ok (.istore_n 1, 1) := by decide +kernel
theorem dX7_halves_41 : decode cX7_halves 41 = .ok (.iinc 2 1, 3) := by decide +kernel
theorem dX7_halves_44 : decode cX7_halves 44 = .ok (.goto (-40), 3) := by decide +kernel
theorem dX7_halves_47 : decode cX7_halves 47 = .ok (.iload_n 1, 1) := by decide +kernel
theorem dX7_halves_48 : decode cX7_halves 48 = .ok (.ireturn, 1) := by decide +kernel
theorem dX7_rings_0 : decode cX7_rings 0 = .ok (.aload_n 0, 1) := by decide +kernel
theorem dX7_rings_1 : decode cX7_rings 1 = .ok (.getfield 40, 3) := by decide +kernel
theorem dX7_rings_4 : decode cX7_rings 4 = .ok (.getfield 73, 3) := by decide +kernel
theorem dX7_rings_7 : decode cX7_rings 7 = .ok (.iconst 0, 1) := by decide +kernel
theorem dX7_rings_8 : decode cX7_rings 8 = .ok (.iaload, 1) := by decide +kernel
theorem dX7_rings_9 : decode cX7_rings 9 = .ok (.istore_n 2, 1) := by decide +kernel
theorem dX7_rings_10 : decode cX7_rings 10 = .ok (.iconst 0, 1) := by decide +kernel
theorem dX7_rings_11 : decode cX7_rings 11 = .ok (.istore_n 3, 1) := by decide +kernel
theorem dX7_rings_12 : decode cX7_rings 12 = .ok (.iconst 0, 1) := by decide +kernel
theorem dX7_rings_13 : decode cX7_rings 13 = .ok (.istore 4, 2) := by decide +kernel
theorem dX7_rings_15 : decode cX7_rings 15 = .ok (.iconst 0, 1) := by decide +kernel
theorem dX7_rings_16 : decode cX7_rings 16 = .ok (.istore 5, 2) := by decide +kernel
theorem dX7_rings_18 : decode cX7_rings 18 = .ok (.iload 5, 2) := by decide +kernel
theorem dX7_rings_20 : decode cX7_rings 20 = .ok (.iload_n 2, 1) := by decide +kernel
theorem dX7_rings_21 : decode cX7_rings 21 = .ok (.if_icmp .ge 73, 3) := by decide +kernel
theorem dX7_rings_24 : decode cX7_rings 24 = .ok (.iload 4, 2) := by decide +kernel
theorem dX7_rings_26 : decode cX7_rings 26 = .ok (.iload 5, 2) := by decide +kernel
theorem dX7_rings_28 : decode cX7_rings 28 = .ok (.ishr, 1) := by decide +kernel
theorem dX7_rings_29 : decode cX7_rings 29 = .ok (.iconst 1, 1) := by decide +kernel
theorem dX7_rings_30 : decode cX7_rings 30 = .ok (.iand, 1) := by decide +kernel
theorem dX7_rings_31 : decode cX7_rings 31 = .ok (.ifCond .ne 6, 3) := by decide +kernel
theorem dX7_rings_34 : decode cX7_rings 34 = .ok (.iinc 3 1, 3) := by decide +kernel
theorem dX7_rings_37 : decode cX7_rings 37 = .ok (.iload 5, 2) := by decide +kernel
theorem dX7_rings_39 : decode cX7_rings 39 = .ok (.istore 6, 2) := by decide +kernel
theorem dX7_rings_41 : decode cX7_rings 41 = .ok (.iconst 0, 1) := by decide +kernel
theorem dX7_rings_42 : decode cX7_rings 42 = .ok (.istore 7, 2) := by decide +kernel
theorem dX7_rings_44 : decode cX7_rings 44 = .ok (.iload 7, 2) := by decide +kernel
theorem dX7_rings_46 : decode cX7_rings 46 = .ok (.iload_n 2, 1) := by decide +kernel
theorem dX7_rings_47 : decode cX7_rings 47 = .ok (.if_icmp .ge 41, 3) := by decide +kernel
theorem dX7_rings_50 : decode cX7_rings 50 = .ok (.iload 4, 2) := by decide +kernel
theorem dX7_rings_52 : decode cX7_rings 52 = .ok (.iload 6, 2) := by decide +kernel
theorem dX7_rings_54 : decode cX7_rings 54 = .ok (.ishr, 1) := by decide +kernel
theorem dX7_rings_55 : decode cX7_rings 55 = .ok (.iconst 1, 1) := by decide +kernel
theorem dX7_rings_56 : decode cX7_rings 56 = .ok (.iand, 1) := by decide +kernel
theorem dX7_rings_57 : decode cX7_rings 57 = .ok (.ifCond .ne 31, 3) := by decide +kernel
theorem dX7_rings_60 : decode cX7_rings 60 = .ok (.iload 4, 2) := by decide +kernel
theorem dX7_rings_62 : decode cX7_rings 62 = .ok (.iconst 1, 1) := by decide +kernel
theorem dX7_rings_63 : decode cX7_rings 63 = .ok (.iload 6, 2) := by decide +kernel
theorem dX7_rings_65 : decode cX7_rings 65 = .ok (.ishl, 1) := by decide +kernel
theorem dX7_rings_66 : decode cX7_rings 66 = .ok (.ior, 1) := by decide +kernel
theorem dX7_rings_67 : decode cX7_rings 67 = .ok (.istore 4, 2) := by decide +kernel
theorem dX7_rings_69 : decode cX7_rings 69 = .ok (.aload_n 0, 1) := by decide +kernel
theorem dX7_rings_70 : decode cX7_rings 70 = .ok (.getfield 25, 3) := by decide +kernel
theorem dX7_rings_73 : decode cX7_rings 73 = .ok (.iload 6, 2) := by decide +kernel
theorem dX7_rings_75 : decode cX7_rings 75 = .ok (.iconst 5, 1) := by decide +kernel
theorem dX7_rings_76 : decode cX7_rings 76 = .ok (.imul, 1) := by decide +kernel
theorem dX7_rings_77 : decode cX7_rings 77 = .ok (.iload_n 1, 1) := by decide +kernel
theorem dX7_rings_78 : decode cX7_rings 78 = .ok (.iadd, 1) := by decide +kernel
theorem dX7_rings_79 : decode cX7_rings 79 = .ok (.iaload, 1) := by decide +kernel
theorem dX7_rings_80 : decode cX7_rings 80 = .ok (.istore 6, 2) := by decide +kernel
theorem dX7_rings_82 : decode cX7_rings 82 = .ok (.iinc 7 1, 3) := by decide +kernel
theorem dX7_rings_85 : decode cX7_rings 85 = .ok (.goto (-41), 3) := by decide +kernel
theorem dX7_rings_88 : decode cX7_rings 88 = .ok (.iinc 5 1, 3) := by decide +kernel
theorem dX7_rings_91 : decode cX7_rings 91 = .ok (.goto (-73), 3) := by decide +kernel
theorem dX7_rings_94 : decode cX7_rings 94 = .ok (.iload_n 3, 1) := by decide +kernel
theorem dX7_rings_95 : decode cX7_rings 95 = .ok (.ireturn, 1) := by decide +kernel
theorem dX10_putFour_0 : decode cX10_putFour 0 = .ok (.bipush 24, 2) := by decide +kernel
theorem dX10_putFour_2 : decode cX10_putFour 2 = .ok (.istore_n 2, 1) := by decide +kernel
theorem dX10_putFour_3 : decode cX10_putFour 3 = .ok (.iload_n 2, 1) := by decide +kernel
theorem dX10_putFour_4 : decode cX10_putFour 4 = .ok (.ifCond .lt 42, 3) := by decide +kernel
theorem dX10_putFour_7 : decode cX10_putFour 7 = .ok (.aload_n 0, 1) := by decide +kernel
theorem dX10_putFour_8 : decode cX10_putFour 8 = .ok (.getfield 13, 3) := by decide +kernel
theorem dX10_putFour_11 : decode cX10_putFour 11 = .ok (.sipush 700, 3) := by decide +kernel
theorem dX10_putFour_14 : decode cX10_putFour 14 = .ok (.if_icmp .ge 32, 3) := by decide +kernel
theorem dX10_putFour_17 : decode cX10_putFour 17 = .ok (.aload_n 0, 1) := by decide +kernel
theorem dX10_putFour_18 : decode cX10_putFour 18 = .ok (.getfield 9, 3) := by decide +kernel
theorem dX10_putFour_21 : decode cX10_putFour 21 = .ok (.aload_n 0, 1) := by decide +kernel
theorem dX10_putFour_22 : decode cX10_putFour 22 = .ok (.getfield 13, 3) := by decide +kernel
theorem dX10_putFour_25 : decode cX10_putFour 25 = .ok (.iload_n 1, 1) := by decide +kernel
theorem dX10_putFour_26 : decode cX10_putFour 26 = .ok (.iload_n 2, 1) := by decide +kernel
theorem dX10_putFour_27 : decode cX10_putFour 27 = .ok (.ishr, 1) := by decide +kernel
theorem dX10_putFour_28 : decode cX10_putFour 28 = .ok (.i2b, 1) := by decide +kernel
theorem dX10_putFour_29 : decode cX10_putFour 29 = .ok (.bastore, 1) := by decide +kernel
theorem dX10_putFour_30 : decode cX10_putFour 30 = .ok (.aload_n 0, 1) := by decide +kernel
theorem dX10_putFour_31 : decode cX10_putFour 31 = .ok (.dup, 1) := by decide +kernel
theorem dX10_putFour_32 : decode cX10_putFour 32 = .ok (.getfield 13, 3) := by decide +kernel
theorem dX10_putFour_35 : decode cX10_putFour 35 = .ok (.iconst 1, 1) := by decide +kernel
theorem dX10_putFour_36 : decode cX10_putFour 36 = .ok (.iadd, 1) := by decide +kernel
theorem dX10_putFour_37 : decode cX10_putFour 37 = .ok (.putfield 13, 3) := by decide +kernel
theorem dX10_putFour_40 : decode cX10_putFour 40 = .ok (.iinc 2 (-8), 3) := by decide +kernel
theorem dX10_putFour_43 : decode cX10_putFour 43 = .ok (.goto (-40), 3) := by decide +kernel
theorem dX10_putFour_46 : decode cX10_putFour 46 = .ok (.return_, 1) := by decide +kernel
theorem dX10_feed_0 : decode cX10_feed 0 = .ok (.aload_n 0, 1) := by decide +kernel
theorem dX10_feed_1 : decode cX10_feed 1 = .ok (.getfield 13, 3) := by decide +kernel
theorem dX10_feed_4 : decode cX10_feed 4 = .ok (.bipush 20, 2) := by decide +kernel
theorem dX10_feed_6 : decode cX10_feed 6 = .ok (.iadd, 1) := by decide +kernel
theorem dX10_feed_7 : decode cX10_feed 7 = .ok (.sipush 700, 3) := by decide +kernel
theorem dX10_feed_10 : decode cX10_feed 10 = .ok (.if_icmp .le 5, 3) := by decide +kernel
theorem dX10_feed_13 : decode cX10_feed 13 = .ok (.iconst (-1), 1) := by decide +kernel
theorem dX10_feed_14 : decode cX10_feed 14 = .ok (.ireturn, 1) := by decide +kernel
theorem dX10_feed_15 : decode cX10_feed 15 = .ok (.aload_n 0, 1) := by decide +kernel
theorem dX10_feed_16 : decode cX10_feed 16 = .ok (.iload_n 1, 1) := by decide +kernel
theorem dX10_feed_17 : decode cX10_feed 17 = .ok (.invokevirtual 95, 3) := by decide +kernel
theorem dX10_feed_20 : decode cX10_feed 20 = .ok (.aload_n 0, 1) := by decide +kernel
theorem dX10_feed_21 : decode cX10_feed 21 = .ok (.iload_n 2, 1) := by decide +kernel
theorem dX10_feed_22 : decode cX10_feed 22 = .ok (.invokevirtual 95, 3) := by decide +kernel
theorem dX10_feed_25 : decode cX10_feed 25 = .ok (.aload_n 0, 1) := by decide +kernel
theorem dX10_feed_26 : decode cX10_feed 26 = .ok (.iload_n 3, 1) := by decide +kernel
theorem dX10_feed_27 : decode cX10_feed 27 = .ok (.invokevirtual 95, 3) := by decide +kernel
theorem dX10_feed_30 : decode cX10_feed 30 = .ok (.aload_n 0, 1) := by decide +kernel
theorem dX10_feed_31 : decode cX10_feed 31 = .ok (.iload 4, 2) := by decide +kernel
theorem dX10_feed_33 : decode cX10_feed 33 = .ok (.invokevirtual 95, 3) := by decide +kernel
theorem dX10_feed_36 : decode cX10_feed 36 = .ok (.aload_n 0, 1) := by decide +kernel
theorem dX10_feed_37 : decode cX10_feed 37 = .ok (.iload 5, 2) := by decide +kernel
theorem dX10_feed_39 : decode cX10_feed 39 = .ok (.invokevirtual 95, 3) := by decide +kernel
theorem dX10_feed_42 : decode cX10_feed 42 = .ok (.aload_n 0, 1) := by decide +kernel
theorem dX10_feed_43 : decode cX10_feed 43 = .ok (.getfield 13, 3) := by decide +kernel
theorem dX10_feed_46 : decode cX10_feed 46 = .ok (.ireturn, 1) := by decide +kernel
theorem dX10_text_0 : decode cX10_text 0 = .ok (.iload_n 1, 1) := by decide +kernel
theorem dX10_text_1 : decode cX10_text 1 = .ok (.ifCond .lt 11, 3) := by decide +kernel
theorem dX10_text_4 : decode cX10_text 4 = .ok (.iload_n 1, 1) := by decide +kernel
theorem dX10_text_5 : decode cX10_text 5 = .ok (.aload_n 0, 1) := by decide +kernel
theorem dX10_text_6 : decode cX10_text 6 = .ok (.getfield 13, 3) := by decide +kernel
theorem dX10_text_9 : decode cX10_text 9 = .ok (.if_icmp .le 6, 3) := by decide +kernel
theorem dX10_text_12 : decode cX10_text 12 = .ok (.bipush (-2), 2) := by decide +kernel
theorem dX10_text_14 : decode cX10_text 14 = .ok (.ireturn, 1) := by decide +kernel
theorem dX10_text_15 : decode cX10_text 15 = .ok (.aload_n 0, 1) := by decide +kernel
theorem dX10_text_16 : decode cX10_text 16 = .ok (.getfield 32, 3) := by decide +kernel
theorem dX10_text_19 : decode cX10_text 19 = .ok (.iload_n 1, 1) := by decide +kernel
theorem dX10_text_20 : decode cX10_text 20 = .ok (.aload_n 0, 1) := by decide +kernel
theorem dX10_text_21 : decode cX10_text 21 = .ok (.getfield 24, 3) := by decide +kernel
theorem dX10_text_24 : decode cX10_text 24 = .ok (.invokevirtual 99, 3) := by decide +kernel
theorem dX10_text_27 : decode cX10_text 27 = .ok (.istore_n 2, 1) := by decide +kernel
theorem dX10_text_28 : decode cX10_text 28 = .ok (.aload_n 0, 1) := by decide +kernel
theorem dX10_text_29 : decode cX10_text 29 = .ok (.iconst 0, 1) := by decide +kernel
theorem dX10_text_30 : decode cX10_text 30 = .ok (.putfield 13, 3) := by decide +kernel
theorem dX10_text_33 : decode cX10_text 33 = .ok (.aload_n 0, 1) := by decide +kernel
theorem dX10_text_34 : decode cX10_text 34 = .ok (.aload_n 0, 1) := by decide +kernel
theorem dX10_text_35 : decode cX10_text 35 = .ok (.getfield 32, 3) := by decide +kernel
theorem dX10_text_38 : decode cX10_text 38 = .ok (.getfield 103, 3) := by decide +kernel
theorem dX10_text_41 : decode cX10_text 41 = .ok (.putfield 36, 3) := by decide +kernel
theorem dX10_text_44 : decode cX10_text 44 = .ok (.aload_n 0, 1) := by decide +kernel
theorem dX10_text_45 : decode cX10_text 45 = .ok (.aload_n 0, 1) := by decide +kernel
theorem dX10_text_46 : decode cX10_text 46 = .ok (.getfield 32, 3) := by decide +kernel
theorem dX10_text_49 : decode cX10_text 49 = .ok (.getfield 104, 3) := by decide +kernel
theorem dX10_text_52 : decode cX10_text 52 = .ok (.putfield 39, 3) := by decide +kernel
theorem dX10_text_55 : decode cX10_text 55 = .ok (.iload_n 2, 1) := by decide +kernel
theorem dX10_text_56 : decode cX10_text 56 = .ok (.ifCond .ne 5, 3) := by decide +kernel
theorem dX10_text_59 : decode cX10_text 59 = .ok (.iconst (-1), 1) := by decide +kernel
theorem dX10_text_60 : decode cX10_text 60 = .ok (.ireturn, 1) := by decide +kernel
theorem dX10_text_61 : decode cX10_text 61 = .ok (.aload_n 0, 1) := by decide +kernel
theorem dX10_text_62 : decode cX10_text 62 = .ok (.getfield 20, 3) := by decide +kernel
theorem dX10_text_65 : decode cX10_text 65 = .ok (.astore_n 3, 1) := by decide +kernel
theorem dX10_text_66 : decode cX10_text 66 = .ok (.aload_n 0, 1) := by decide +kernel
theorem dX10_text_67 : decode cX10_text 67 = .ok (.aload_n 0, 1) := by decide +kernel
theorem dX10_text_68 : decode cX10_text 68 = .ok (.getfield 24, 3) := by decide +kernel
theorem dX10_text_71 : decode cX10_text 71 = .ok (.putfield 20, 3) := by decide +kernel
theorem dX10_text_74 : decode cX10_text 74 = .ok (.aload_n 0, 1) := by decide +kernel
theorem dX10_text_75 : decode cX10_text 75 = .ok (.aload_n 3, 1) := by decide +kernel
theorem dX10_text_76 : decode cX10_text 76 = .ok (.putfield 24, 3) := by decide +kernel
theorem dX10_text_79 : decode cX10_text 79 = .ok (.aload_n 0, 1) := by decide +kernel
theorem dX10_text_80 : decode cX10_text 80 = .ok (.getfield 47, 3) := by decide +kernel
theorem dX10_text_83 : decode cX10_text 83 = .ok (.aload_n 0, 1) := by decide +kernel
theorem dX10_text_84 : decode cX10_text 84 = .ok (.getfield 20, 3) := by decide +kernel
theorem dX10_text_87 : decode cX10_text 87 = .ok (.invokevirtual 105, 3) := by decide +kernel
theorem dX10_text_90 : decode cX10_text 90 = .ok (.aload_n 0, 1) := by decide +kernel
theorem dX10_text_91 : decode cX10_text 91 = .ok (.iconst 0, 1) := by decide +kernel
theorem dX10_text_92 : decode cX10_text 92 = .ok (.putfield 54, 3) := by decide +kernel
theorem dX10_text_95 : decode cX10_text 95 = .ok (.aload_n 0, 1) := by decide +kernel
theorem dX10_text_96 : decode cX10_text 96 = .ok (.getfield 84, 3) := by decide +kernel
theorem dX10_text_99 : decode cX10_text 99 = .ok (.invokevirtual 108, 3) := by decide +kernel
theorem dX10_text_102 : decode cX10_text 102 = .ok (.aload_n 0, 1) := by decide +kernel
theorem dX10_text_103 : decode cX10_text 103 = .ok (.getfield 91, 3) := by decide +kernel
theorem dX10_text_106 : decode cX10_text 106 = .ok (.invokevirtual 111, 3) := by decide +kernel
theorem dX10_text_109 : decode cX10_text 109 = .ok (.aload_n 0, 1) := by decide +kernel
theorem dX10_text_110 : decode cX10_text 110 = .ok (.getfield 32, 3) := by decide +kernel
theorem dX10_text_113 : decode cX10_text 113 = .ok (.getfield 112, 3) := by decide +kernel
theorem dX10_text_116 : decode cX10_text 116 = .ok (.ireturn, 1) := by decide +kernel
theorem dX10_fault_0 : decode cX10_fault 0 = .ok (.iload_n 1, 1) := by decide +kernel
theorem dX10_fault_1 : decode cX10_fault 1 = .ok (.ifCond .ne 8, 3) := by decide +kernel
theorem dX10_fault_4 : decode cX10_fault 4 = .ok (.aload_n 0, 1) := by decide +kernel
theorem dX10_fault_5 : decode cX10_fault 5 = .ok (.getfield 36, 3) := by decide +kernel
theorem dX10_fault_8 : decode cX10_fault 8 = .ok (.ireturn, 1) := by decide +kernel
theorem dX10_fault_9 : decode cX10_fault 9 = .ok (.iload_n 1, 1) := by decide +kernel
theorem dX10_fault_10 : decode cX10_fault 10 = .ok (.iconst 1, 1) := by decide +kernel
theorem dX10_fault_11 : decode cX10_fault 11 = .ok (.if_icmp .ne 10, 3) := by decide +kernel
theorem dX10_fault_14 : decode cX10_fault 14 = .ok (.aload_n 0, 1) := by decide +kernel
theorem dX10_fault_15 : decode cX10_fault 15 = .ok (.getfield 39, 3) := by decide +kernel
theorem dX10_fault_18 : decode cX10_fault 18 = .ok (.goto 4, 3) := by decide +kernel
theorem dX10_fault_21 : decode cX10_fault 21 = .ok (.iconst (-1), 1) := by decide +kernel
theorem dX10_fault_22 : decode cX10_fault 22 = .ok (.ireturn, 1) := by decide +kernel
theorem dX10_named_0 : decode cX10_named 0 = .ok (.iload_n 1, 1) := by decide +kernel
theorem dX10_named_1 : decode cX10_named 1 = .ok (.ifCond .lt 8, 3) := by decide +kernel
theorem dX10_named_4 : decode cX10_named 4 = .ok (.iload_n 1, 1) := by decide +kernel
theorem dX10_named_5 : decode cX10_named 5 = .ok (.iconst 2, 1) := by decide +kernel
theorem dX10_named_6 : decode cX10_named 6 = .ok (.if_icmp .le 5, 3) := by decide +kernel
theorem dX10_named_9 : decode cX10_named 9 = .ok (.iconst (-1), 1) := by decide +kernel
theorem dX10_named_10 : decode cX10_named 10 = .ok (.ireturn, 1) := by decide +kernel
theorem dX10_named_11 : decode cX10_named 11 = .ok (.aload_n 0, 1) := by decide +kernel
theorem dX10_named_12 : decode cX10_named 12 = .ok (.getfield 20, 3) := by decide +kernel
theorem dX10_named_15 : decode cX10_named 15 = .ok (.iload_n 1, 1) := by decide +kernel
theorem dX10_named_16 : decode cX10_named 16 = .ok (.iload_n 2, 1) := by decide +kernel
theorem dX10_named_17 : decode cX10_named 17 = .ok (.invokevirtual 115, 3) := by decide +kernel
theorem dX10_named_20 : decode cX10_named 20 = .ok (.ireturn, 1) := by decide +kernel
theorem dX10_isSort_0 : decode cX10_isSort 0 = .ok (.iload_n 1, 1) := by decide +kernel
theorem dX10_isSort_1 : decode cX10_isSort 1 = .ok (.ifCond .lt 20, 3) := by decide +kernel
theorem dX10_isSort_4 : decode cX10_isSort 4 = .ok (.iload_n 1, 1) := by decide +kernel
theorem dX10_isSort_5 : decode cX10_isSort 5 = .ok (.aload_n 0, 1) := by decide +kernel
theorem dX10_isSort_6 : decode cX10_isSort 6 = .ok (.getfield 20, 3) := by decide +kernel
theorem dX10_isSort_9 : decode cX10_isSort 9 = .ok (.getfield 302, 3) := by decide +kernel
theorem dX10_isSort_12 : decode cX10_isSort 12 = .ok (.iconst 1, 1) := by decide +kernel
theorem dX10_isSort_13 : decode cX10_isSort 13 = .ok (.iaload, 1) := by decide +kernel
theorem dX10_isSort_14 : decode cX10_isSort 14 = .ok (.if_icmp .ge 7, 3) := by decide +kernel
theorem dX10_isSort_17 : decode cX10_isSort 17 = .ok (.iconst 1, 1) := by decide +kernel
theorem dX10_isSort_18 : decode cX10_isSort 18 = .ok (.goto 4, 3) := by decide +kernel
theorem dX10_isSort_21 : decode cX10_isSort 21 = .ok (.iconst 0, 1) := by decide +kernel
theorem dX10_isSort_22 : decode cX10_isSort 22 = .ok (.ireturn, 1) := by decide +kernel
theorem dX10_sort_0 : decode cX10_sort 0 = .ok (.aload_n 0, 1) := by decide +kernel
theorem dX10_sort_1 : decode cX10_sort 1 = .ok (.iload_n 1, 1) := by decide +kernel
theorem dX10_sort_2 : decode cX10_sort 2 = .ok (.invokevirtual 148, 3) := by decide +kernel
theorem dX10_sort_5 : decode cX10_sort 5 = .ok (.ifCond .ne 5, 3) := by decide +kernel
theorem dX10_sort_8 : decode cX10_sort 8 = .ok (.iconst (-1), 1) := by decide +kernel
theorem dX10_sort_9 : decode cX10_sort 9 = .ok (.ireturn, 1) := by decide +kernel
theorem dX10_sort_10 : decode cX10_sort 10 = .ok (.iload_n 2, 1) := by decide +kernel
theorem dX10_sort_11 : decode cX10_sort 11 = .ok (.ifCond .ne 13, 3) := by decide +kernel
theorem dX10_sort_14 : decode cX10_sort 14 = .ok (.aload_n 0, 1) := by decide +kernel
theorem dX10_sort_15 : decode cX10_sort 15 = .ok (.getfield 20, 3) := by decide +kernel
theorem dX10_sort_18 : decode cX10_sort 18 = .ok (.getfield 151, 3) := by decide +kernel
theorem dX10_sort_21 : decode cX10_sort 21 = .ok (.iload_n 1, 1) := by decide +kernel
theorem dX10_sort_22 : decode cX10_sort 22 = .ok (.iaload, 1) := by decide +kernel
theorem dX10_sort_23 : decode cX10_sort 23 = .ok (.ireturn, 1) := by decide +kernel
theorem dX10_sort_24 : decode cX10_sort 24 = .ok (.iload_n 2, 1) := by decide +kernel
theorem dX10_sort_25 : decode cX10_sort 25 = .ok (.iconst 1, 1) := by decide +kernel
theorem dX10_sort_26 : decode cX10_sort 26 = .ok (.if_icmp .ne 15, 3) := by decide +kernel
theorem dX10_sort_29 : decode cX10_sort 29 = .ok (.aload_n 0, 1) := by decide +kernel
theorem dX10_sort_30 : decode cX10_sort 30 = .ok (.getfield 20, 3) := by decide +kernel
theorem dX10_sort_33 : decode cX10_sort 33 = .ok (.getfield 154, 3) := by decide +kernel
theorem dX10_sort_36 : decode cX10_sort 36 = .ok (.iload_n 1, 1) := by decide +kernel
theorem dX10_sort_37 : decode cX10_sort 37 = .ok (.iaload, 1) := by decide +kernel
theorem dX10_sort_38 : decode cX10_sort 38 = .ok (.goto 4, 3) := by decide +kernel
theorem dX10_sort_41 : decode cX10_sort 41 = .ok (.iconst (-1), 1) := by decide +kernel
theorem dX10_sort_42 : decode cX10_sort 42 = .ok (.ireturn, 1) := by decide +kernel
theorem dX10_isDeed_0 : decode cX10_isDeed 0 = .ok (.iload_n 1, 1) := by decide +kernel
theorem dX10_isDeed_1 : decode cX10_isDeed 1 = .ok (.ifCond .lt 20, 3) := by decide +kernel
theorem dX10_isDeed_4 : decode cX10_isDeed 4 = .ok (.iload_n 1, 1) := by decide +kernel
theorem dX10_isDeed_5 : decode cX10_isDeed 5 = .ok (.aload_n 0, 1) := by decide +kernel
theorem dX10_isDeed_6 : decode cX10_isDeed 6 = .ok (.getfield 20, 3) := by decide +kernel
theorem dX10_isDeed_9 : decode cX10_isDeed 9 = .ok (.getfield 302, 3) := by decide +kernel
theorem dX10_isDeed_12 : decode cX10_isDeed 12 = .ok (.iconst 2, 1) := by decide +kernel
theorem dX10_isDeed_13 : decode cX10_isDeed 13 = .ok (.iaload, 1) := by decide +kernel
theorem dX10_isDeed_14 : decode cX10_isDeed 14 = .ok (.if_icmp .ge 7, 3) := by decide +kernel
theorem dX10_isDeed_17 : decode cX10_isDeed 17 = .ok (.iconst 1, 1) := by decide +kernel
theorem dX10_isDeed_18 : decode cX10_isDeed 18 = .ok (.goto 4, 3) := by decide +kernel
theorem dX10_isDeed_21 : decode cX10_isDeed 21 = .ok (.iconst 0, 1) := by decide +kernel
theorem dX10_isDeed_22 : decode cX10_isDeed 22 = .ok (.ireturn, 1) := by decide +kernel
theorem dX10_deed_0 : decode cX10_deed 0 = .ok (.aload_n 0, 1) := by decide +kernel
theorem dX10_deed_1 : decode cX10_deed 1 = .ok (.iload_n 1, 1) := by decide +kernel
theorem dX10_deed_2 : decode cX10_deed 2 = .ok (.invokevirtual 157, 3) := by decide +kernel
theorem dX10_deed_5 : decode cX10_deed 5 = .ok (.ifCond .eq 15, 3) := by decide +kernel
theorem dX10_deed_8 : decode cX10_deed 8 = .ok (.aload_n 0, 1) := by decide +kernel
theorem dX10_deed_9 : decode cX10_deed 9 = .ok (.getfield 20, 3) := by decide +kernel
theorem dX10_deed_12 : decode cX10_deed 12 = .ok (.getfield 160, 3) := by decide +kernel
theorem dX10_deed_15 : decode cX10_deed 15 = .ok (.iload_n 1, 1) := by decide +kernel
theorem dX10_deed_16 : decode cX10_deed 16 = .ok (.iaload, 1) := by decide +kernel
theorem dX10_deed_17 : decode cX10_deed 17 = .ok (.goto 4, 3) := by decide +kernel
theorem dX10_deed_20 : decode cX10_deed 20 = .ok (.iconst (-1), 1) := by decide +kernel
theorem dX10_deed_21 : decode cX10_deed 21 = .ok (.ireturn, 1) := by decide +kernel
theorem dX10_isSending_0 : decode cX10_isSending 0 = .ok (.iload_n 1, 1) := by decide +kernel
theorem dX10_isSending_1 : decode cX10_isSending 1 = .ok (.ifCond .lt 18, 3) := by decide +kernel
theorem dX10_isSending_4 : decode cX10_isSending 4 = .ok (.iload_n 1, 1) := by decide +kernel
theorem dX10_isSending_5 : decode cX10_isSending 5 = .ok (.aload_n 0, 1) := by decide +kernel
theorem dX10_isSending_6 : decode cX10_isSending 6 = .ok (.getfield 47, 3) := by decide +kernel
theorem dX10_isSending_9 : decode cX10_isSending 9 = .ok (.getfield 218, 3) := by decide +kernel
theorem dX10_isSending_12 : decode cX10_isSending 12 = .ok (.if_icmp .ge 7, 3) := by decide +kernel
theorem dX10_isSending_15 : decode cX10_isSending 15 = .ok (.iconst 1, 1) := by decide +kernel
theorem dX10_isSending_16 : decode cX10_isSending 16 = .ok (.goto 4, 3) := by decide +kernel
theorem dX10_isSending_19 : decode cX10_isSending 19 = .ok (.iconst 0, 1) := by decide +kernel
theorem dX10_isSending_20 : decode cX10_isSending 20 = .ok (.ireturn, 1) := by decide +kernel
theorem dX10_sending_0 : decode cX10_sending 0 = .ok (.aload_n 0, 1) := by decide +kernel
theorem dX10_sending_1 : decode cX10_sending 1 = .ok (.iload_n 1, 1) := by decide +kernel
theorem dX10_sending_2 : decode cX10_sending 2 = .ok (.invokevirtual 163, 3) := by decide +kernel
theorem dX10_sending_5 : decode cX10_sending 5 = .ok (.ifCond .eq 12, 3) := by decide +kernel
theorem dX10_sending_8 : decode cX10_sending 8 = .ok (.iload_n 2, 1) := by decide +kernel
theorem dX10_sending_9 : decode cX10_sending 9 = .ok (.ifCond .lt 8, 3) := by decide +kernel
theorem dX10_sending_12 : decode cX10_sending 12 = .ok (.iload_n 2, 1) := by decide +kernel
theorem dX10_sending_13 : decode cX10_sending 13 = .ok (.iconst 4, 1) := by decide +kernel
theorem dX10_sending_14 : decode cX10_sending 14 = .ok (.if_icmp .lt 5, 3) := by decide +kernel
theorem dX10_sending_17 : decode cX10_sending 17 = .ok (.iconst (-1), 1) := by decide +kernel
theorem dX10_sending_18 : decode cX10_sending 18 = .ok (.ireturn, 1) := by decide +kernel
theorem dX10_sending_19 : decode cX10_sending 19 = .ok (.aload_n 0, 1) := by decide +kernel
theorem dX10_sending_20 : decode cX10_sending 20 = .ok (.getfield 47, 3) := by decide +kernel
theorem dX10_sending_23 : decode cX10_sending 23 = .ok (.iload_n 1, 1) := by decide +kernel
theorem dX10_sending_24 : decode cX10_sending 24 = .ok (.iload_n 2, 1) := by decide +kernel
theorem dX10_sending_25 : decode cX10_sending 25 = .ok (.invokevirtual 166, 3) := by decide +kernel
theorem dX10_sending_28 : decode cX10_sending 28 = .ok (.ireturn, 1) := by decide +kernel
theorem dX10_isWant_0 : decode cX10_isWant 0 = .ok (.iload_n 1, 1) := by decide +kernel
theorem dX10_isWant_1 : decode cX10_isWant 1 = .ok (.ifCond .lt 18, 3) := by decide +kernel
theorem dX10_isWant_4 : decode cX10_isWant 4 = .ok (.iload_n 1, 1) := by decide +kernel
theorem dX10_isWant_5 : decode cX10_isWant 5 = .ok (.aload_n 0, 1) := by decide +kernel
theorem dX10_isWant_6 : decode cX10_isWant 6 = .ok (.getfield 20, 3) := by decide +kernel
theorem dX10_isWant_9 : decode cX10_isWant 9 = .ok (.getfield 377, 3) := by decide +kernel
theorem dX10_isWant_12 : decode cX10_isWant 12 = .ok (.if_icmp .ge 7, 3) := by decide +kernel
theorem dX10_isWant_15 : decode cX10_isWant 15 = .ok (.iconst 1, 1) := by decide +kernel
theorem dX10_isWant_16 : decode cX10_isWant 16 = .ok (.goto 4, 3) := by decide +kernel
theorem dX10_isWant_19 : decode cX10_isWant 19 = .ok (.iconst 0, 1) := by decide +kernel
theorem dX10_isWant_20 : decode cX10_isWant 20 = .ok (.ireturn, 1) := by decide +kernel
theorem dX10_want_0 : decode cX10_want 0 = .ok (.aload_n 0, 1) := by decide +kernel
theorem dX10_want_1 : decode cX10_want 1 = .ok (.iload_n 1, 1) := by decide +kernel
theorem dX10_want_2 : decode cX10_want 2 = .ok (.invokevirtual 169, 3) := by decide +kernel
theorem dX10_want_5 : decode cX10_want 5 = .ok (.ifCond .eq 12, 3) := by decide +kernel
theorem dX10_want_8 : decode cX10_want 8 = .ok (.iload_n 2, 1) := by decide +kernel
theorem dX10_want_9 : decode cX10_want 9 = .ok (.ifCond .lt 8, 3) := by decide +kernel
theorem dX10_want_12 : decode cX10_want 12 = .ok (.iload_n 2, 1) := by decide +kernel
theorem dX10_want_13 : decode cX10_want 13 = .ok (.iconst 5, 1) := by decide +kernel
theorem dX10_want_14 : decode cX10_want 14 = .ok (.if_icmp .le 5, 3) := by decide +kernel
theorem dX10_want_17 : decode cX10_want 17 = .ok (.iconst (-1), 1) := by decide +kernel
theorem dX10_want_18 : decode cX10_want 18 = .ok (.ireturn, 1) := by decide +kernel
theorem dX10_want_19 : decode cX10_want 19 = .ok (.iload_n 2, 1) := by decide +kernel
theorem dX10_want_20 : decode cX10_want 20 = .ok (.iconst 5, 1) := by decide +kernel
theorem dX10_want_21 : decode cX10_want 21 = .ok (.if_icmp .ne 15, 3) := by decide +kernel
theorem dX10_want_24 : decode cX10_want 24 = .ok (.aload_n 0, 1) := by decide +kernel
theorem dX10_want_25 : decode cX10_want 25 = .ok (.getfield 47, 3) := by decide +kernel
theorem dX10_want_28 : decode cX10_want 28 = .ok (.getfield 172, 3) := by decide +kernel
theorem dX10_want_31 : decode cX10_want 31 = .ok (.iload_n 1, 1) := by decide +kernel
theorem dX10_want_32 : decode cX10_want 32 = .ok (.iaload, 1) := by decide +kernel
theorem dX10_want_33 : decode cX10_want 33 = .ok (.goto 12, 3) := by decide +kernel
theorem dX10_want_36 : decode cX10_want 36 = .ok (.aload_n 0, 1) := by decide +kernel
theorem dX10_want_37 : decode cX10_want 37 = .ok (.getfield 20, 3) := by decide +kernel
theorem dX10_want_40 : decode cX10_want 40 = .ok (.iload_n 1, 1) := by decide +kernel
theorem dX10_want_41 : decode cX10_want 41 = .ok (.iload_n 2, 1) := by decide +kernel
theorem dX10_want_42 : decode cX10_want 42 = .ok (.invokevirtual 175, 3) := by decide +kernel
theorem dX10_want_45 : decode cX10_want 45 = .ok (.ireturn, 1) := by decide +kernel
theorem dX10_isMan_0 : decode cX10_isMan 0 = .ok (.iload_n 1, 1) := by decide +kernel
theorem dX10_isMan_1 : decode cX10_isMan 1 = .ok (.ifCond .lt 20, 3) := by decide +kernel
theorem dX10_isMan_4 : decode cX10_isMan 4 = .ok (.iload_n 1, 1) := by decide +kernel
theorem dX10_isMan_5 : decode cX10_isMan 5 = .ok (.aload_n 0, 1) := by decide +kernel
theorem dX10_isMan_6 : decode cX10_isMan 6 = .ok (.getfield 20, 3) := by decide +kernel
theorem dX10_isMan_9 : decode cX10_isMan 9 = .ok (.getfield 302, 3) := by decide +kernel
theorem dX10_isMan_12 : decode cX10_isMan 12 = .ok (.iconst 0, 1) := by decide +kernel
theorem dX10_isMan_13 : decode cX10_isMan 13 = .ok (.iaload, 1) := by decide +kernel
theorem dX10_isMan_14 : decode cX10_isMan 14 = .ok (.if_icmp .ge 7, 3) := by decide +kernel
theorem dX10_isMan_17 : decode cX10_isMan 17 = .ok (.iconst 1, 1) := by decide +kernel
theorem dX10_isMan_18 : decode cX10_isMan 18 = .ok (.goto 4, 3) := by decide +kernel
theorem dX10_isMan_21 : decode cX10_isMan 21 = .ok (.iconst 0, 1) := by decide +kernel
theorem dX10_isMan_22 : decode cX10_isMan 22 = .ok (.ireturn, 1) := by decide +kernel
theorem dX10_isPart_0 : decode cX10_isPart 0 = .ok (.aload_n 0, 1) := by decide +kernel
theorem dX10_isPart_1 : decode cX10_isPart 1 = .ok (.iload_n 1, 1) := by decide +kernel
theorem dX10_isPart_2 : decode cX10_isPart 2 = .ok (.invokevirtual 119, 3) := by decide +kernel
theorem dX10_isPart_5 : decode cX10_isPart 5 = .ok (.ifCond .eq 15, 3) := by decide +kernel
theorem dX10_isPart_8 : decode cX10_isPart 8 = .ok (.aload_n 0, 1) := by decide +kernel
theorem dX10_isPart_9 : decode cX10_isPart 9 = .ok (.iload_n 2, 1) := by decide +kernel
theorem dX10_isPart_10 : decode cX10_isPart 10 = .ok (.invokevirtual 148, 3) := by decide +kernel
theorem dX10_isPart_13 : decode cX10_isPart 13 = .ok (.ifCond .eq 7, 3) := by decide +kernel
theorem dX10_isPart_16 : decode cX10_isPart 16 = .ok (.iconst 1, 1) := by decide +kernel
theorem dX10_isPart_17 : decode cX10_isPart 17 = .ok (.goto 4, 3) := by decide +kernel
theorem dX10_isPart_20 : decode cX10_isPart 20 = .ok (.iconst 0, 1) := by decide +kernel
theorem dX10_isPart_21 : decode cX10_isPart 21 = .ok (.ireturn, 1) := by decide +kernel
theorem dX10_holds_0 : decode cX10_holds 0 = .ok (.aload_n 0, 1) := by decide +kernel
theorem dX10_holds_1 : decode cX10_holds 1 = .ok (.iload_n 1, 1) := by decide +kernel
theorem dX10_holds_2 : decode cX10_holds 2 = .ok (.iload_n 2, 1) := by decide +kernel
theorem dX10_holds_3 : decode cX10_holds 3 = .ok (.invokevirtual 178, 3) := by decide +kernel
theorem dX10_holds_6 : decode cX10_holds 6 = .ok (.ifCond .eq 19, 3) := by decide +kernel
theorem dX10_holds_9 : decode cX10_holds 9 = .ok (.aload_n 0, 1) := by decide +kernel
theorem dX10_holds_10 : decode cX10_holds 10 = .ok (.getfield 47, 3) := by decide +kernel
theorem dX10_holds_13 : decode cX10_holds 13 = .ok (.getfield 182, 3) := by decide +kernel
theorem dX10_holds_16 : decode cX10_holds 16 = .ok (.iload_n 1, 1) := by decide +kernel
theorem dX10_holds_17 : decode cX10_holds 17 = .ok (.iconst 5, 1) := by decide +kernel
theorem dX10_holds_18 : decode cX10_holds 18 = .ok (.imul, 1) := by decide +kernel
theorem dX10_holds_19 : decode cX10_holds 19 = .ok (.iload_n 2, 1) := by decide +kernel
theorem dX10_holds_20 : decode cX10_holds 20 = .ok (.iadd, 1) := by decide +kernel
theorem dX10_holds_21 : decode cX10_holds 21 = .ok (.iaload, 1) := by decide +kernel
theorem dX10_holds_22 : decode cX10_holds 22 = .ok (.goto 4, 3) := by decide +kernel
theorem dX10_holds_25 : decode cX10_holds 25 = .ok (.iconst (-1), 1) := by decide +kernel
theorem dX10_holds_26 : decode cX10_holds 26 = .ok (.ireturn, 1) := by decide +kernel
theorem dX10_port_0 : decode cX10_port 0 = .ok (.aload_n 0, 1) := by decide +kernel
theorem dX10_port_1 : decode cX10_port 1 = .ok (.iload_n 1, 1) := by decide +kernel
theorem dX10_port_2 : decode cX10_port 2 = .ok (.iload_n 2, 1) := by decide +kernel
theorem dX10_port_3 : decode cX10_port 3 = .ok (.invokevirtual 178, 3) := by decide +kernel
theorem dX10_port_6 : decode cX10_port 6 = .ok (.ifCond .eq 19, 3) := by decide +kernel
theorem dX10_port_9 : decode cX10_port 9 = .ok (.aload_n 0, 1) := by decide +kernel
theorem dX10_port_10 : decode cX10_port 10 = .ok (.getfield 47, 3) := by decide +kernel
theorem dX10_port_13 : decode cX10_port 13 = .ok (.getfield 185, 3) := by decide +kernel
theorem dX10_port_16 : decode cX10_port 16 = .ok (.iload_n 1, 1) := by decide +kernel
theorem dX10_port_17 : decode cX10_port 17 = .ok (.iconst 5, 1) := by decide +kernel
theorem dX10_port_18 : decode cX10_port 18 = .ok (.imul, 1) := by decide +kernel
theorem dX10_port_19 : decode cX10_port 19 = .ok (.iload_n 2, 1) := by decide +kernel
theorem dX10_port_20 : decode cX10_port 20 = .ok (.iadd, 1) := by decide +kernel
theorem dX10_port_21 : decode cX10_port 21 = .ok (.iaload, 1) := by decide +kernel
theorem dX10_port_22 : decode cX10_port 22 = .ok (.goto 4, 3) := by decide +kernel
theorem dX10_port_25 : decode cX10_port 25 = .ok (.iconst (-1), 1) := by decide +kernel
theorem dX10_port_26 : decode cX10_port 26 = .ok (.ireturn, 1) := by decide +kernel
theorem dX10_isPort_0 : decode cX10_isPort 0 = .ok (.iload_n 0, 1) := by decide +kernel
theorem dX10_isPort_1 : decode cX10_isPort 1 = .ok (.ifCond .eq 8, 3) := by decide +kernel
theorem dX10_isPort_4 : decode cX10_isPort 4 = .ok (.iload_n 0, 1) := by decide +kernel
theorem dX10_isPort_5 : decode cX10_isPort 5 = .ok (.iconst 1, 1) := by decide +kernel
theorem dX10_isPort_6 : decode cX10_isPort 6 = .ok (.if_icmp .ne 7, 3) := by decide +kernel
theorem dX10_isPort_9 : decode cX10_isPort 9 = .ok (.iconst 1, 1) := by decide +kernel
theorem dX10_isPort_10 : decode cX10_isPort 10 = .ok (.goto 4, 3) := by decide +kernel
theorem dX10_isPort_13 : decode cX10_isPort 13 = .ok (.iconst 0, 1) := by decide +kernel
theorem dX10_isPort_14 : decode cX10_isPort 14 = .ok (.ireturn, 1) := by decide +kernel
theorem dX10_isTask_0 : decode cX10_isTask 0 = .ok (.aload_n 0, 1) := by decide +kernel
theorem dX10_isTask_1 : decode cX10_isTask 1 = .ok (.iload_n 1, 1) := by decide +kernel
theorem dX10_isTask_2 : decode cX10_isTask 2 = .ok (.invokevirtual 119, 3) := by decide +kernel
theorem dX10_isTask_5 : decode cX10_isTask 5 = .ok (.ifCond .eq 22, 3) := by decide +kernel
theorem dX10_isTask_8 : decode cX10_isTask 8 = .ok (.aload_n 0, 1) := by decide +kernel
theorem dX10_isTask_9 : decode cX10_isTask 9 = .ok (.iload_n 2, 1) := by decide +kernel
theorem dX10_isTask_10 : decode cX10_isTask 10 = .ok (.invokevirtual 157, 3) := by decide +kernel
theorem dX10_isTask_13 : decode cX10_isTask 13 = .ok (.ifCond .eq 14, 3) := by decide +kernel
theorem dX10_isTask_16 : decode cX10_isTask 16 = .ok (.iload_n 3, 1) := by decide +kernel
theorem dX10_isTask_17 : decode cX10_isTask 17 = .ok (.invokestatic 308, 3) := by decide +kernel
theorem dX10_isTask_20 : decode cX10_isTask 20 = .ok (.ifCond .eq 7, 3) := by decide +kernel
theorem dX10_isTask_23 : decode cX10_isTask 23 = .ok (.iconst 1, 1) := by decide +kernel
theorem dX10_isTask_24 : decode cX10_isTask 24 = .ok (.goto 4, 3) := by decide +kernel
theorem dX10_isTask_27 : decode cX10_isTask 27 = .ok (.iconst 0, 1) := by decide +kernel
theorem dX10_isTask_28 : decode cX10_isTask 28 = .ok (.ireturn, 1) := by decide +kernel
theorem dX10_can_0 : decode cX10_can 0 = .ok (.aload_n 0, 1) := by decide +kernel
theorem dX10_can_1 : decode cX10_can 1 = .ok (.iload_n 1, 1) := by decide +kernel
theorem dX10_can_2 : decode cX10_can 2 = .ok (.iload_n 2, 1) := by decide +kernel
theorem dX10_can_3 : decode cX10_can 3 = .ok (.iload_n 3, 1) := by decide +kernel
theorem dX10_can_4 : decode cX10_can 4 = .ok (.invokevirtual 188, 3) := by decide +kernel
theorem dX10_can_7 : decode cX10_can 7 = .ok (.ifCond .ne 5, 3) := by decide +kernel
theorem dX10_can_10 : decode cX10_can 10 = .ok (.iconst (-1), 1) := by decide +kernel
theorem dX10_can_11 : decode cX10_can 11 = .ok (.ireturn, 1) := by decide +kernel
theorem dX10_can_12 : decode cX10_can 12 = .ok (.aload_n 0, 1) := by decide +kernel
theorem dX10_can_13 : decode cX10_can 13 = .ok (.getfield 47, 3) := by decide +kernel
theorem dX10_can_16 : decode cX10_can 16 = .ok (.iload_n 1, 1) := by decide +kernel
theorem dX10_can_17 : decode cX10_can 17 = .ok (.iload_n 2, 1) := by decide +kernel
theorem dX10_can_18 : decode cX10_can 18 = .ok (.iload_n 3, 1) := by decide +kernel
theorem dX10_can_19 : decode cX10_can 19 = .ok (.invokevirtual 192, 3) := by decide +kernel
theorem dX10_can_22 : decode cX10_can 22 = .ok (.ifCond .ne 7, 3) := by decide +kernel
theorem dX10_can_25 : decode cX10_can 25 = .ok (.iconst 1, 1) := by decide +kernel
theorem dX10_can_26 : decode cX10_can 26 = .ok (.goto 4, 3) := by decide +kernel
theorem dX10_can_29 : decode cX10_can 29 = .ok (.iconst 0, 1) := by decide +kernel
theorem dX10_can_30 : decode cX10_can 30 = .ok (.ireturn, 1) := by decide +kernel
theorem dX10_law_0 : decode cX10_law 0 = .ok (.aload_n 0, 1) := by decide +kernel
theorem dX10_law_1 : decode cX10_law 1 = .ok (.getfield 66, 3) := by decide +kernel
theorem dX10_law_4 : decode cX10_law 4 = .ok (.aload_n 0, 1) := by decide +kernel
theorem dX10_law_5 : decode cX10_law 5 = .ok (.getfield 47, 3) := by decide +kernel
theorem dX10_law_8 : decode cX10_law 8 = .ok (.iconst 0, 1) := by decide +kernel
theorem dX10_law_9 : decode cX10_law 9 = .ok (.invokevirtual 196, 3) := by decide +kernel
theorem dX10_law_12 : decode cX10_law 12 = .ok (.iload_n 1, 1) := by decide +kernel
theorem dX10_law_13 : decode cX10_law 13 = .ok (.ifCond .ne 22, 3) := by decide +kernel
theorem dX10_law_16 : decode cX10_law 16 = .ok (.aload_n 0, 1) := by decide +kernel
theorem dX10_law_17 : decode cX10_law 17 = .ok (.iload_n 2, 1) := by decide +kernel
theorem dX10_law_18 : decode cX10_law 18 = .ok (.iload_n 3, 1) := by decide +kernel
theorem dX10_law_19 : decode cX10_law 19 = .ok (.invokevirtual 178, 3) := by decide +kernel
theorem dX10_law_22 : decode cX10_law 22 = .ok (.ifCond .eq 13, 3) := by decide +kernel
theorem dX10_law_25 : decode cX10_law 25 = .ok (.aload_n 0, 1) := by decide +kernel
theorem dX10_law_26 : decode cX10_law 26 = .ok (.getfield 66, 3) := by decide +kernel
theorem dX10_law_29 : decode cX10_law 29 = .ok (.iload_n 2, 1) := by decide +kernel
theorem dX10_law_30 : decode cX10_law 30 = .ok (.iload_n 3, 1) := by decide +kernel
theorem dX10_law_31 : decode cX10_law 31 = .ok (.invokevirtual 200, 3) := by decide +kernel
theorem dX10_law_34 : decode cX10_law 34 = .ok (.lreturn, 1) := by decide +kernel
theorem dX10_law_35 : decode cX10_law 35 = .ok (.iload_n 1, 1) := by decide +kernel
theorem dX10_law_36 : decode cX10_law 36 = .ok (.iconst 1, 1) := by decide +kernel
theorem dX10_law_37 : decode cX10_law 37 = .ok (.if_icmp .ne 29, 3) := by decide +kernel
theorem dX10_law_40 : decode cX10_law 40 = .ok (.aload_n 0, 1) := by decide +kernel
theorem dX10_law_41 : decode cX10_law 41 = .ok (.iload_n 2, 1) := by decide +kernel
theorem dX10_law_42 : decode cX10_law 42 = .ok (.invokevirtual 119, 3) := by decide +kernel
theorem dX10_law_45 : decode cX10_law 45 = .ok (.ifCond .eq 21, 3) := by decide +kernel
theorem dX10_law_48 : decode cX10_law 48 = .ok (.aload_n 0, 1) := by decide +kernel
theorem dX10_law_49 : decode cX10_law 49 = .ok (.iload_n 3, 1) := by decide +kernel
theorem dX10_law_50 : decode cX10_law 50 = .ok (.invokevirtual 169, 3) := by decide +kernel
theorem dX10_law_53 : decode cX10_law 53 = .ok (.ifCond .eq 13, 3) := by decide +kernel
theorem dX10_law_56 : decode cX10_law 56 = .ok (.aload_n 0, 1) := by decide +kernel
theorem dX10_law_57 : decode cX10_law 57 = .ok (.getfield 66, 3) := by decide +kernel
theorem dX10_law_60 : decode cX10_law 60 = .ok (.iload_n 2, 1) := by decide +kernel
theorem dX10_law_61 : decode cX10_law 61 = .ok (.iload_n 3, 1) := by decide +kernel
theorem dX10_law_62 : decode cX10_law 62 = .ok (.invokevirtual 204, 3) := by decide +kernel
theorem dX10_law_65 : decode cX10_law 65 = .ok (.lreturn, 1) := by decide +kernel
theorem dX10_law_66 : decode cX10_law 66 = .ok (.iload_n 1, 1) := by decide +kernel
theorem dX10_law_67 : decode cX10_law 67 = .ok (.iconst 2, 1) := by decide +kernel
theorem dX10_law_68 : decode cX10_law 68 = .ok (.if_icmp .ne 20, 3) := by decide +kernel
theorem dX10_law_71 : decode cX10_law 71 = .ok (.aload_n 0, 1) := by decide +kernel
theorem dX10_law_72 : decode cX10_law 72 = .ok (.iload_n 3, 1) := by decide +kernel
theorem dX10_law_73 : decode cX10_law 73 = .ok (.invokevirtual 148, 3) := by decide +kernel
theorem dX10_law_76 : decode cX10_law 76 = .ok (.ifCond .eq 12, 3) := by decide +kernel
theorem dX10_law_79 : decode cX10_law 79 = .ok (.aload_n 0, 1) := by decide +kernel
theorem dX10_law_80 : decode cX10_law 80 = .ok (.getfield 66, 3) := by decide +kernel
theorem dX10_law_83 : decode cX10_law 83 = .ok (.iload_n 3, 1) := by decide +kernel
theorem dX10_law_84 : decode cX10_law 84 = .ok (.invokevirtual 207, 3) := by decide +kernel
theorem dX10_law_87 : decode cX10_law 87 = .ok (.lreturn, 1) := by decide +kernel
theorem dX10_law_88 : decode cX10_law 88 = .ok (.ldc2_w 213, 3) := by decide +kernel
theorem dX10_law_91 : decode cX10_law 91 = .ok (.lreturn, 1) := by decide +kernel
theorem dX10_send_0 : decode cX10_send 0 = .ok (.aload_n 0, 1) := by decide +kernel
theorem dX10_send_1 : decode cX10_send 1 = .ok (.iload_n 1, 1) := by decide +kernel
theorem dX10_send_2 : decode cX10_send 2 = .ok (.iload_n 2, 1) := by decide +kernel
theorem dX10_send_3 : decode cX10_send 3 = .ok (.invokevirtual 178, 3) := by decide +kernel
theorem dX10_send_6 : decode cX10_send 6 = .ok (.ifCond .eq 33, 3) := by decide +kernel
theorem dX10_send_9 : decode cX10_send 9 = .ok (.iload_n 3, 1) := by decide +kernel
theorem dX10_send_10 : decode cX10_send 10 = .ok (.aload_n 0, 1) := by decide +kernel
theorem dX10_send_11 : decode cX10_send 11 = .ok (.getfield 47, 3) := by decide +kernel
theorem dX10_send_14 : decode cX10_send 14 = .ok (.getfield 215, 3) := by decide +kernel
theorem dX10_send_17 : decode cX10_send 17 = .ok (.if_icmp .lt 22, 3) := by decide +kernel
theorem dX10_send_20 : decode cX10_send 20 = .ok (.iload_n 3, 1) := by decide +kernel
theorem dX10_send_21 : decode cX10_send 21 = .ok (.sipush 9999, 3) := by decide +kernel
theorem dX10_send_24 : decode cX10_send 24 = .ok (.if_icmp .gt 15, 3) := by decide +kernel
theorem dX10_send_27 : decode cX10_send 27 = .ok (.aload_n 0, 1) := by decide +kernel
theorem dX10_send_28 : decode cX10_send 28 = .ok (.getfield 47, 3) := by decide +kernel
theorem dX10_send_31 : decode cX10_send 31 = .ok (.getfield 218, 3) := by decide +kernel
theorem dX10_send_34 : decode cX10_send 34 = .ok (.bipush 12, 2) := by decide +kernel
theorem dX10_send_36 : decode cX10_send 36 = .ok (.if_icmp .lt 5, 3) := by decide +kernel
theorem dX10_send_39 : decode cX10_send 39 = .ok (.iconst (-1), 1) := by decide +kernel
theorem dX10_send_40 : decode cX10_send 40 = .ok (.ireturn, 1) := by decide +kernel
theorem dX10_send_41 : decode cX10_send 41 = .ok (.aload_n 0, 1) := by decide +kernel
theorem dX10_send_42 : decode cX10_send 42 = .ok (.getfield 47, 3) := by decide +kernel
theorem dX10_send_45 : decode cX10_send 45 = .ok (.iload_n 1, 1) := by decide +kernel
theorem dX10_send_46 : decode cX10_send 46 = .ok (.iload_n 2, 1) := by decide +kernel
theorem dX10_send_47 : decode cX10_send 47 = .ok (.iload_n 3, 1) := by decide +kernel
theorem dX10_send_48 : decode cX10_send 48 = .ok (.invokevirtual 221, 3) := by decide +kernel
theorem dX10_send_51 : decode cX10_send 51 = .ok (.aload_n 0, 1) := by decide +kernel
theorem dX10_send_52 : decode cX10_send 52 = .ok (.getfield 91, 3) := by decide +kernel
theorem dX10_send_55 : decode cX10_send 55 = .ok (.iconst 0, 1) := by decide +kernel
theorem dX10_send_56 : decode cX10_send 56 = .ok (.iconst 0, 1) := by decide +kernel
theorem dX10_send_57 : decode cX10_send 57 = .ok (.iconst 0, 1) := by decide +kernel
theorem dX10_send_58 : decode cX10_send 58 = .ok (.iconst 0, 1) := by decide +kernel
theorem dX10_send_59 : decode cX10_send 59 = .ok (.invokevirtual 225, 3) := by decide +kernel
theorem dX10_send_62 : decode cX10_send 62 = .ok (.aload_n 0, 1) := by decide +kernel
theorem dX10_send_63 : decode cX10_send 63 = .ok (.getfield 47, 3) := by decide +kernel
theorem dX10_send_66 : decode cX10_send 66 = .ok (.getfield 218, 3) := by decide +kernel
theorem dX10_send_69 : decode cX10_send 69 = .ok (.iconst 1, 1) := by decide +kernel
theorem dX10_send_70 : decode cX10_send 70 = .ok (.isub, 1) := by decide +kernel
theorem dX10_send_71 : decode cX10_send 71 = .ok (.ireturn, 1) := by decide +kernel
theorem dX10_take_0 : decode cX10_take 0 = .ok (.aload_n 0, 1) := by decide +kernel
theorem dX10_take_1 : decode cX10_take 1 = .ok (.iload_n 1, 1) := by decide +kernel
theorem dX10_take_2 : decode cX10_take 2 = .ok (.invokevirtual 163, 3) := by decide +kernel
theorem dX10_take_5 : decode cX10_take 5 = .ok (.ifCond .eq 15, 3) := by decide +kernel
theorem dX10_take_8 : decode cX10_take 8 = .ok (.aload_n 0, 1) := by decide +kernel
theorem dX10_take_9 : decode cX10_take 9 = .ok (.getfield 47, 3) := by decide +kernel
theorem dX10_take_12 : decode cX10_take 12 = .ok (.iload_n 1, 1) := by decide +kernel
theorem dX10_take_13 : decode cX10_take 13 = .ok (.iconst 3, 1) := by decide +kernel
theorem dX10_take_14 : decode cX10_take 14 = .ok (.invokevirtual 166, 3) := by decide +kernel
theorem dX10_take_17 : decode cX10_take 17 = .ok (.ifCond .eq 5, 3) := by decide +kernel
theorem dX10_take_20 : decode cX10_take 20 = .ok (.iconst 0, 1) := by decide +kernel
theorem dX10_take_21 : decode cX10_take 21 = .ok (.ireturn, 1) := by decide +kernel
theorem dX10_take_22 : decode cX10_take 22 = .ok (.aload_n 0, 1) := by decide +kernel
theorem dX10_take_23 : decode cX10_take 23 = .ok (.getfield 47, 3) := by decide +kernel
theorem dX10_take_26 : decode cX10_take 26 = .ok (.iload_n 1, 1) := by decide +kernel
theorem dX10_take_27 : decode cX10_take 27 = .ok (.iconst 3, 1) := by decide +kernel
theorem dX10_take_28 : decode cX10_take 28 = .ok (.iconst 2, 1) := by decide +kernel
theorem dX10_take_29 : decode cX10_take 29 = .ok (.invokevirtual 229, 3) := by decide +kernel
theorem dX10_take_32 : decode cX10_take 32 = .ok (.aload_n 0, 1) := by decide +kernel
theorem dX10_take_33 : decode cX10_take 33 = .ok (.getfield 91, 3) := by decide +kernel
theorem dX10_take_36 : decode cX10_take 36 = .ok (.iconst 1, 1) := by decide +kernel
theorem dX10_take_37 : decode cX10_take 37 = .ok (.iload_n 1, 1) := by decide +kernel
theorem dX10_take_38 : decode cX10_take 38 = .ok (.iconst 0, 1) := by decide +kernel
theorem dX10_take_39 : decode cX10_take 39 = .ok (.iconst 0, 1) := by decide +kernel
theorem dX10_take_40 : decode cX10_take 40 = .ok (.invokevirtual 225, 3) := by decide +kernel
theorem dX10_take_43 : decode cX10_take 43 = .ok (.iconst 1, 1) := by decide +kernel
theorem dX10_take_44 : decode cX10_take 44 = .ok (.ireturn, 1) := by decide +kernel
theorem dX10_swap_0 : decode cX10_swap 0 = .ok (.iload_n 1, 1) := by decide +kernel
theorem dX10_swap_1 : decode cX10_swap 1 = .ok (.iload_n 2, 1) := by decide +kernel
theorem dX10_swap_2 : decode cX10_swap 2 = .ok (.if_icmp .eq 21, 3) := by decide +kernel
theorem dX10_swap_5 : decode cX10_swap 5 = .ok (.aload_n 0, 1) := by decide +kernel
theorem dX10_swap_6 : decode cX10_swap 6 = .ok (.iload_n 1, 1) := by decide +kernel
theorem dX10_swap_7 : decode cX10_swap 7 = .ok (.iload_n 3, 1) := by decide +kernel
theorem dX10_swap_8 : decode cX10_swap 8 = .ok (.invokevirtual 178, 3) := by decide +kernel
theorem dX10_swap_11 : decode cX10_swap 11 = .ok (.ifCond .eq 12, 3) := by decide +kernel
theorem dX10_swap_14 : decode cX10_swap 14 = .ok (.aload_n 0, 1) := by decide +kernel
theorem dX10_swap_15 : decode cX10_swap 15 = .ok (.iload_n 2, 1) := by decide +kernel
theorem dX10_swap_16 : decode cX10_swap 16 = .ok (.iload_n 3, 1) := by decide +kernel
theorem dX10_swap_17 : decode cX10_swap 17 = .ok (.invokevirtual 178, 3) := by decide +kernel
theorem dX10_swap_20 : decode cX10_swap 20 = .ok (.ifCond .ne 5, 3) := by decide +kernel
theorem dX10_swap_23 : decode cX10_swap 23 = .ok (.iconst 0, 1) := by decide +kernel
theorem dX10_swap_24 : decode cX10_swap 24 = .ok (.ireturn, 1) := by decide +kernel
theorem dX10_swap_25 : decode cX10_swap 25 = .ok (.aload_n 0, 1) := by decide +kernel
theorem dX10_swap_26 : decode cX10_swap 26 = .ok (.getfield 47, 3) := by decide +kernel
theorem dX10_swap_29 : decode cX10_swap 29 = .ok (.getfield 185, 3) := by decide +kernel
theorem dX10_swap_32 : decode cX10_swap 32 = .ok (.iload_n 1, 1) := by decide +kernel
theorem dX10_swap_33 : decode cX10_swap 33 = .ok (.iconst 5, 1) := by decide +kernel
theorem dX10_swap_34 : decode cX10_swap 34 = .ok (.imul, 1) := by decide +kernel
theorem dX10_swap_35 : decode cX10_swap 35 = .ok (.iload_n 3, 1) := by decide +kernel
theorem dX10_swap_36 : decode cX10_swap 36 = .ok (.iadd, 1) := by decide +kernel
theorem dX10_swap_37 : decode cX10_swap 37 = .ok (.iaload, 1) := by decide +kernel
theorem dX10_swap_38 : decode cX10_swap 38 = .ok (.aload_n 0, 1) := by decide +kernel
theorem dX10_swap_39 : decode cX10_swap 39 = .ok (.getfield 47, 3) := by decide +kernel
theorem dX10_swap_42 : decode cX10_swap 42 = .ok (.getfield 185, 3) := by decide +kernel
theorem dX10_swap_45 : decode cX10_swap 45 = .ok (.iload_n 2, 1) := by decide +kernel
theorem dX10_swap_46 : decode cX10_swap 46 = .ok (.iconst 5, 1) := by decide +kernel
theorem dX10_swap_47 : decode cX10_swap 47 = .ok (.imul, 1) := by decide +kernel
theorem dX10_swap_48 : decode cX10_swap 48 = .ok (.iload_n 3, 1) := by decide +kernel
theorem dX10_swap_49 : decode cX10_swap 49 = .ok (.iadd, 1) := by decide +kernel
theorem dX10_swap_50 : decode cX10_swap 50 = .ok (.iaload, 1) := by decide +kernel
theorem dX10_swap_51 : decode cX10_swap 51 = .ok (.if_icmp .eq 5, 3) := by decide +kernel
theorem dX10_swap_54 : decode cX10_swap 54 = .ok (.iconst 0, 1) := by decide +kernel
theorem dX10_swap_55 : decode cX10_swap 55 = .ok (.ireturn, 1) := by decide +kernel
theorem dX10_swap_56 : decode cX10_swap 56 = .ok (.aload_n 0, 1) := by decide +kernel
theorem dX10_swap_57 : decode cX10_swap 57 = .ok (.getfield 47, 3) := by decide +kernel
theorem dX10_swap_60 : decode cX10_swap 60 = .ok (.iload_n 1, 1) := by decide +kernel
theorem dX10_swap_61 : decode cX10_swap 61 = .ok (.iload_n 2, 1) := by decide +kernel
theorem dX10_swap_62 : decode cX10_swap 62 = .ok (.iload_n 3, 1) := by decide +kernel
theorem dX10_swap_63 : decode cX10_swap 63 = .ok (.invokevirtual 232, 3) := by decide +kernel
theorem dX10_swap_66 : decode cX10_swap 66 = .ok (.aload_n 0, 1) := by decide +kernel
theorem dX10_swap_67 : decode cX10_swap 67 = .ok (.getfield 91, 3) := by decide +kernel
theorem dX10_swap_70 : decode cX10_swap 70 = .ok (.iconst 2, 1) := by decide +kernel
theorem dX10_swap_71 : decode cX10_swap 71 = .ok (.iload_n 1, 1) := by decide +kernel
theorem dX10_swap_72 : decode cX10_swap 72 = .ok (.iload_n 2, 1) := by decide +kernel
theorem dX10_swap_73 : decode cX10_swap 73 = .ok (.iload_n 3, 1) := by decide +kernel
theorem dX10_swap_74 : decode cX10_swap 74 = .ok (.invokevirtual 225, 3) := by decide +kernel
theorem dX10_swap_77 : decode cX10_swap 77 = .ok (.iconst 1, 1) := by decide +kernel
theorem dX10_swap_78 : decode cX10_swap 78 = .ok (.ireturn, 1) := by decide +kernel
theorem dX10_lend_0 : decode cX10_lend 0 = .ok (.aload_n 0, 1) := by decide +kernel
theorem dX10_lend_1 : decode cX10_lend 1 = .ok (.iload_n 1, 1) := by decide +kernel
theorem dX10_lend_2 : decode cX10_lend 2 = .ok (.invokevirtual 119, 3) := by decide +kernel
theorem dX10_lend_5 : decode cX10_lend 5 = .ok (.ifCond .eq 30, 3) := by decide +kernel
theorem dX10_lend_8 : decode cX10_lend 8 = .ok (.iload_n 2, 1) := by decide +kernel
theorem dX10_lend_9 : decode cX10_lend 9 = .ok (.iconst 1, 1) := by decide +kernel
theorem dX10_lend_10 : decode cX10_lend 10 = .ok (.if_icmp .lt 25, 3) := by decide +kernel
theorem dX10_lend_13 : decode cX10_lend 13 = .ok (.iload_n 2, 1) := by decide +kernel
theorem dX10_lend_14 : decode cX10_lend 14 = .ok (.bipush 99, 2) := by decide +kernel
theorem dX10_lend_16 : decode cX10_lend 16 = .ok (.if_icmp .gt 19, 3) := by decide +kernel
theorem dX10_lend_19 : decode cX10_lend 19 = .ok (.aload_n 0, 1) := by decide +kernel
theorem dX10_lend_20 : decode cX10_lend 20 = .ok (.getfield 47, 3) := by decide +kernel
theorem dX10_lend_23 : decode cX10_lend 23 = .ok (.getfield 130, 3) := by decide +kernel
theorem dX10_lend_26 : decode cX10_lend 26 = .ok (.iload_n 1, 1) := by decide +kernel
theorem dX10_lend_27 : decode cX10_lend 27 = .ok (.iaload, 1) := by decide +kernel
theorem dX10_lend_28 : decode cX10_lend 28 = .ok (.iload_n 2, 1) := by decide +kernel
theorem dX10_lend_29 : decode cX10_lend 29 = .ok (.iadd, 1) := by decide +kernel
theorem dX10_lend_30 : decode cX10_lend 30 = .ok (.ldc 235, 2) := by decide +kernel
theorem dX10_lend_32 : decode cX10_lend 32 = .ok (.if_icmp .le 5, 3) := by decide +kernel
theorem dX10_lend_35 : decode cX10_lend 35 = .ok (.iconst (-1), 1) := by decide +kernel
theorem dX10_lend_36 : decode cX10_lend 36 = .ok (.ireturn, 1) := by decide +kernel
theorem dX10_lend_37 : decode cX10_lend 37 = .ok (.aload_n 0, 1) := by decide +kernel
theorem dX10_lend_38 : decode cX10_lend 38 = .ok (.getfield 47, 3) := by decide +kernel
theorem dX10_lend_41 : decode cX10_lend 41 = .ok (.getfield 130, 3) := by decide +kernel
theorem dX10_lend_44 : decode cX10_lend 44 = .ok (.iload_n 1, 1) := by decide +kernel
theorem dX10_lend_45 : decode cX10_lend 45 = .ok (.dup2, 1) := by decide +kernel
theorem dX10_lend_46 : decode cX10_lend 46 = .ok (.iaload, 1) := by decide +kernel
theorem dX10_lend_47 : decode cX10_lend 47 = .ok (.iload_n 2, 1) := by decide +kernel
theorem dX10_lend_48 : decode cX10_lend 48 = .ok (.iadd, 1) := by decide +kernel
theorem dX10_lend_49 : decode cX10_lend 49 = .ok (.iastore, 1) := by decide +kernel
theorem dX10_lend_50 : decode cX10_lend 50 = .ok (.aload_n 0, 1) := by decide +kernel
theorem dX10_lend_51 : decode cX10_lend 51 = .ok (.getfield 91, 3) := by decide +kernel
theorem dX10_lend_54 : decode cX10_lend 54 = .ok (.iconst 3, 1) := by decide +kernel
theorem dX10_lend_55 : decode cX10_lend 55 = .ok (.iload_n 1, 1) := by decide +kernel
theorem dX10_lend_56 : decode cX10_lend 56 = .ok (.iload_n 2, 1) := by decide +kernel
theorem dX10_lend_57 : decode cX10_lend 57 = .ok (.iconst 0, 1) := by decide +kernel
theorem dX10_lend_58 : decode cX10_lend 58 = .ok (.invokevirtual 225, 3) := by decide +kernel
theorem dX10_lend_61 : decode cX10_lend 61 = .ok (.aload_n 0, 1) := by decide +kernel
theorem dX10_lend_62 : decode cX10_lend 62 = .ok (.getfield 47, 3) := by decide +kernel
theorem dX10_lend_65 : decode cX10_lend 65 = .ok (.getfield 130, 3) := by decide +kernel
theorem dX10_lend_68 : decode cX10_lend 68 = .ok (.iload_n 1, 1) := by decide +kernel
theorem dX10_lend_69 : decode cX10_lend 69 = .ok (.iaload, 1) := by decide +kernel
theorem dX10_lend_70 : decode cX10_lend 70 = .ok (.ireturn, 1) := by decide +kernel
theorem dX10_isSpan_0 : decode cX10_isSpan 0 = .ok (.iload_n 0, 1) := by decide +kernel
theorem dX10_isSpan_1 : decode cX10_isSpan 1 = .ok (.ifCond .lt 13, 3) := by decide +kernel
theorem dX10_isSpan_4 : decode cX10_isSpan 4 = .ok (.iload_n 0, 1) := by decide +kernel
theorem dX10_isSpan_5 : decode cX10_isSpan 5 = .ok (.bipush 99, 2) := by decide +kernel
theorem dX10_isSpan_7 : decode cX10_isSpan 7 = .ok (.if_icmp .gt 7, 3) := by decide +kernel
theorem dX10_isSpan_10 : decode cX10_isSpan 10 = .ok (.iconst 1, 1) := by decide +kernel
theorem dX10_isSpan_11 : decode cX10_isSpan 11 = .ok (.goto 4, 3) := by decide +kernel
theorem dX10_isSpan_14 : decode cX10_isSpan 14 = .ok (.iconst 0, 1) := by decide +kernel
theorem dX10_isSpan_15 : decode cX10_isSpan 15 = .ok (.ireturn, 1) := by decide +kernel
theorem dX10_go_0 : decode cX10_go 0 = .ok (.iload_n 1, 1) := by decide +kernel
theorem dX10_go_1 : decode cX10_go 1 = .ok (.invokestatic 236, 3) := by decide +kernel
theorem dX10_go_4 : decode cX10_go 4 = .ok (.ifCond .eq 18, 3) := by decide +kernel
theorem dX10_go_7 : decode cX10_go 7 = .ok (.aload_n 0, 1) := by decide +kernel
theorem dX10_go_8 : decode cX10_go 8 = .ok (.getfield 47, 3) := by decide +kernel
theorem dX10_go_11 : decode cX10_go 11 = .ok (.getfield 215, 3) := by decide +kernel
theorem dX10_go_14 : decode cX10_go 14 = .ok (.iload_n 1, 1) := by decide +kernel
theorem dX10_go_15 : decode cX10_go 15 = .ok (.iadd, 1) := by decide +kernel
theorem dX10_go_16 : decode cX10_go 16 = .ok (.sipush 9900, 3) := by decide +kernel
theorem dX10_go_19 : decode cX10_go 19 = .ok (.if_icmp .le 5, 3) := by decide +kernel
theorem dX10_go_22 : decode cX10_go 22 = .ok (.iconst (-1), 1) := by decide +kernel
theorem dX10_go_23 : decode cX10_go 23 = .ok (.ireturn, 1) := by decide +kernel
theorem dX10_go_24 : decode cX10_go 24 = .ok (.iload_n 1, 1) := by decide +kernel
theorem dX10_go_25 : decode cX10_go 25 = .ok (.ifCond .le 30, 3) := by decide +kernel
theorem dX10_go_28 : decode cX10_go 28 = .ok (.aload_n 0, 1) := by decide +kernel
theorem dX10_go_29 : decode cX10_go 29 = .ok (.getfield 66, 3) := by decide +kernel
theorem dX10_go_32 : decode cX10_go 32 = .ok (.aload_n 0, 1) := by decide +kernel
theorem dX10_go_33 : decode cX10_go 33 = .ok (.getfield 47, 3) := by decide +kernel
theorem dX10_go_36 : decode cX10_go 36 = .ok (.iconst 0, 1) := by decide +kernel
theorem dX10_go_37 : decode cX10_go 37 = .ok (.invokevirtual 196, 3) := by decide +kernel
theorem dX10_go_40 : decode cX10_go 40 = .ok (.aload_n 0, 1) := by decide +kernel
theorem dX10_go_41 : decode cX10_go 41 = .ok (.getfield 66, 3) := by decide +kernel
theorem dX10_go_44 : decode cX10_go 44 = .ok (.iload_n 1, 1) := by decide +kernel
theorem dX10_go_45 : decode cX10_go 45 = .ok (.invokevirtual 239, 3) := by decide +kernel
theorem dX10_go_48 : decode cX10_go 48 = .ok (.aload_n 0, 1) := by decide +kernel
theorem dX10_go_49 : decode cX10_go 49 = .ok (.getfield 91, 3) := by decide +kernel
theorem dX10_go_52 : decode cX10_go 52 = .ok (.invokevirtual 111, 3) := by decide +kernel
theorem dX10_go_55 : decode cX10_go 55 = .ok (.aload_n 0, 1) := by decide +kernel
theorem dX10_go_56 : decode cX10_go 56 = .ok (.getfield 47, 3) := by decide +kernel
theorem dX10_go_59 : decode cX10_go 59 = .ok (.getfield 215, 3) := by decide +kernel
theorem dX10_go_62 : decode cX10_go 62 = .ok (.ireturn, 1) := by decide +kernel
theorem dX10_ahead_0 : decode cX10_ahead 0 = .ok (.iload_n 1, 1) := by decide +kernel
theorem dX10_ahead_1 : decode cX10_ahead 1 = .ok (.invokestatic 236, 3) := by decide +kernel
theorem dX10_ahead_4 : decode cX10_ahead 4 = .ok (.ifCond .eq 25, 3) := by decide +kernel
theorem dX10_ahead_7 : decode cX10_ahead 7 = .ok (.iload_n 2, 1) := by decide +kernel
theorem dX10_ahead_8 : decode cX10_ahead 8 = .ok (.ifCond .lt 21, 3) := by decide +kernel
theorem dX10_ahead_11 : decode cX10_ahead 11 = .ok (.iload_n 2, 1) := by decide +kernel
theorem dX10_ahead_12 : decode cX10_ahead 12 = .ok (.iconst 4, 1) := by decide +kernel
theorem dX10_ahead_13 : decode cX10_ahead 13 = .ok (.if_icmp .gt 16, 3) := by decide +kernel
theorem dX10_ahead_16 : decode cX10_ahead 16 = .ok (.iload_n 2, 1) := by decide +kernel
theorem dX10_ahead_17 : decode cX10_ahead 17 = .ok (.iconst 3, 1) := by decide +kernel
theorem dX10_ahead_18 : decode cX10_ahead 18 = .ok (.if_icmp .ne 13, 3) := by decide +kernel
theorem dX10_ahead_21 : decode cX10_ahead 21 = .ok (.aload_n 0, 1) := by decide +kernel
theorem dX10_ahead_22 : decode cX10_ahead 22 = .ok (.iload_n 3, 1) := by decide +kernel
theorem dX10_ahead_23 : decode cX10_ahead 23 = .ok (.invokevirtual 119, 3) := by decide +kernel
theorem dX10_ahead_26 : decode cX10_ahead 26 = .ok (.ifCond .ne 5, 3) := by decide +kernel
theorem dX10_ahead_29 : decode cX10_ahead 29 = .ok (.iconst (-1), 1) := by decide +kernel
theorem dX10_ahead_30 : decode cX10_ahead 30 = .ok (.ireturn, 1) := by decide +kernel
theorem dX10_ahead_31 : decode cX10_ahead 31 = .ok (.aload_n 0, 1) := by decide +kernel
theorem dX10_ahead_32 : decode cX10_ahead 32 = .ok (.getfield 58, 3) := by decide +kernel
theorem dX10_ahead_35 : decode cX10_ahead 35 = .ok (.aload_n 0, 1) := by decide +kernel
theorem dX10_ahead_36 : decode cX10_ahead 36 = .ok (.getfield 47, 3) := by decide +kernel
theorem dX10_ahead_39 : decode cX10_ahead 39 = .ok (.invokevirtual 242, 3) := by decide +kernel
theorem dX10_ahead_42 : decode cX10_ahead 42 = .ok (.aload_n 0, 1) := by decide +kernel
theorem dX10_ahead_43 : decode cX10_ahead 43 = .ok (.getfield 66, 3) := by decide +kernel
theorem dX10_ahead_46 : decode cX10_ahead 46 = .ok (.aload_n 0, 1) := by decide +kernel
theorem dX10_ahead_47 : decode cX10_ahead 47 = .ok (.getfield 58, 3) := by decide +kernel
theorem dX10_ahead_50 : decode cX10_ahead 50 = .ok (.iconst 1, 1) := by decide +kernel
theorem dX10_ahead_51 : decode cX10_ahead 51 = .ok (.invokevirtual 196, 3) := by decide +kernel
theorem dX10_ahead_54 : decode cX10_ahead 54 = .ok (.aload_n 0, 1) := by decide +kernel
theorem dX10_ahead_55 : decode cX10_ahead 55 = .ok (.getfield 66, 3) := by decide +kernel
theorem dX10_ahead_58 : decode cX10_ahead 58 = .ok (.iload_n 1, 1) := by decide +kernel
theorem dX10_ahead_59 : decode cX10_ahead 59 = .ok (.invokevirtual 239, 3) := by decide +kernel
theorem dX10_ahead_62 : decode cX10_ahead 62 = .ok (.iload_n 2, 1) := by decide +kernel
theorem dX10_ahead_63 : decode cX10_ahead 63 = .ok (.tableswitch 91 0 3 #[29, 47, 65, 81], 29) := by decide +kernel
theorem dX10_ahead_92 : decode cX10_ahead 92 = .ok (.aload_n 0, 1) := by decide +kernel
theorem dX10_ahead_93 : decode cX10_ahead 93 = .ok (.getfield 58, 3) := by decide +kernel
theorem dX10_ahead_96 : decode cX10_ahead 96 = .ok (.iconst 1, 1) := by decide +kernel
theorem dX10_ahead_97 : decode cX10_ahead 97 = .ok (.invokevirtual 245, 3) := by decide +kernel
theorem dX10_ahead_100 : decode cX10_ahead 100 = .ok (.aload_n 0, 1) := by decide +kernel
theorem dX10_ahead_101 : decode cX10_ahead 101 = .ok (.getfield 47, 3) := by decide +kernel
theorem dX10_ahead_104 : decode cX10_ahead 104 = .ok (.iconst 1, 1) := by decide +kernel
theorem dX10_ahead_105 : decode cX10_ahead 105 = .ok (.invokevirtual 245, 3) := by decide +kernel
theorem dX10_ahead_108 : decode cX10_ahead 108 = .ok (.isub, 1) := by decide +kernel
theorem dX10_ahead_109 : decode cX10_ahead 109 = .ok (.ireturn, 1) := by decide +kernel
theorem dX10_ahead_110 : decode cX10_ahead 110 = .ok (.aload_n 0, 1) := by decide +kernel
theorem dX10_ahead_111 : decode cX10_ahead 111 = .ok (.getfield 58, 3) := by decide +kernel
theorem dX10_ahead_114 : decode cX10_ahead 114 = .ok (.iconst 2, 1) := by decide +kernel
theorem dX10_ahead_115 : decode cX10_ahead 115 = .ok (.invokevirtual 245, 3) := by decide +kernel
theorem dX10_ahead_118 : decode cX10_ahead 118 = .ok (.aload_n 0, 1) := by decide +kernel
theorem dX10_ahead_119 : decode cX10_ahead 119 = .ok (.getfield 47, 3) := by decide +kernel
theorem dX10_ahead_122 : decode cX10_ahead 122 = .ok (.iconst 2, 1) := by decide +kernel
theorem dX10_ahead_123 : decode cX10_ahead 123 = .ok (.invokevirtual 245, 3) := by decide +kernel
theorem dX10_ahead_126 : decode cX10_ahead 126 = .ok (.isub, 1) := by decide +kernel
theorem dX10_ahead_127 : decode cX10_ahead 127 = .ok (.ireturn, 1) := by decide +kernel
theorem dX10_ahead_128 : decode cX10_ahead 128 = .ok (.aload_n 0, 1) := by decide +kernel
theorem dX10_ahead_129 : decode cX10_ahead 129 = .ok (.getfield 58, 3) := by decide +kernel
theorem dX10_ahead_132 : decode cX10_ahead 132 = .ok (.invokevirtual 248, 3) := by decide +kernel
theorem dX10_ahead_135 : decode cX10_ahead 135 = .ok (.aload_n 0, 1) := by decide +kernel
theorem dX10_ahead_136 : decode cX10_ahead 136 = .ok (.getfield 47, 3) := by decide +kernel
theorem dX10_ahead_139 : decode cX10_ahead 139 = .ok (.invokevirtual 248, 3) := by decide +kernel
theorem dX10_ahead_142 : decode cX10_ahead 142 = .ok (.isub, 1) := by decide +kernel
theorem dX10_ahead_143 : decode cX10_ahead 143 = .ok (.ireturn, 1) := by decide +kernel
theorem dX10_ahead_144 : decode cX10_ahead 144 = .ok (.aload_n 0, 1) := by decide +kernel
theorem dX10_ahead_145 : decode cX10_ahead 145 = .ok (.getfield 58, 3) := by decide +kernel
theorem dX10_ahead_148 : decode cX10_ahead 148 = .ok (.getfield 130, 3) := by decide +kernel
theorem dX10_ahead_151 : decode cX10_ahead 151 = .ok (.iload_n 3, 1) := by decide +kernel
theorem dX10_ahead_152 : decode cX10_ahead 152 = .ok (.iaload, 1) := by decide +kernel
theorem dX10_ahead_153 : decode cX10_ahead 153 = .ok (.ireturn, 1) := by decide +kernel
theorem dX10_ahead_154 : decode cX10_ahead 154 = .ok (.aload_n 0, 1) := by decide +kernel
theorem dX10_ahead_155 : decode cX10_ahead 155 = .ok (.getfield 58, 3) := by decide +kernel
theorem dX10_ahead_158 : decode cX10_ahead 158 = .ok (.invokevirtual 252, 3) := by decide +kernel
theorem dX10_ahead_161 : decode cX10_ahead 161 = .ok (.ireturn, 1) := by decide +kernel
theorem dX10_first_0 : decode cX10_first 0 = .ok (.aload_n 0, 1) := by decide +kernel
theorem dX10_first_1 : decode cX10_first 1 = .ok (.iload_n 1, 1) := by decide +kernel
theorem dX10_first_2 : decode cX10_first 2 = .ok (.iload_n 2, 1) := by decide +kernel
theorem dX10_first_3 : decode cX10_first 3 = .ok (.iload_n 3, 1) := by decide +kernel
theorem dX10_first_4 : decode cX10_first 4 = .ok (.invokevirtual 188, 3) := by decide +kernel
theorem dX10_first_7 : decode cX10_first 7 = .ok (.ifCond .ne 5, 3) := by decide +kernel
theorem dX10_first_10 : decode cX10_first 10 = .ok (.iconst (-1), 1) := by decide +kernel
theorem dX10_first_11 : decode cX10_first 11 = .ok (.ireturn, 1) := by decide +kernel
theorem dX10_first_12 : decode cX10_first 12 = .ok (.aload_n 0, 1) := by decide +kernel
theorem dX10_first_13 : decode cX10_first 13 = .ok (.getfield 58, 3) := by decide +kernel
theorem dX10_first_16 : decode cX10_first 16 = .ok (.aload_n 0, 1) := by decide +kernel
theorem dX10_first_17 : decode cX10_first 17 = .ok (.getfield 47, 3) := by decide +kernel
theorem dX10_first_20 : decode cX10_first 20 = .ok (.invokevirtual 242, 3) := by decide +kernel
theorem dX10_first_23 : decode cX10_first 23 = .ok (.aload_n 0, 1) := by decide +kernel
theorem dX10_first_24 : decode cX10_first 24 = .ok (.getfield 66, 3) := by decide +kernel
theorem dX10_first_27 : decode cX10_first 27 = .ok (.aload_n 0, 1) := by decide +kernel
theorem dX10_first_28 : decode cX10_first 28 = .ok (.getfield 58, 3) := by decide +kernel
theorem dX10_first_31 : decode cX10_first 31 = .ok (.iconst 1, 1) := by decide +kernel
theorem dX10_first_32 : decode cX10_first 32 = .ok (.invokevirtual 196, 3) := by decide +kernel
theorem dX10_first_35 : decode cX10_first 35 = .ok (.iconst 0, 1) := by decide +kernel
theorem dX10_first_36 : decode cX10_first 36 = .ok (.istore 4, 2) := by decide +kernel
theorem dX10_first_38 : decode cX10_first 38 = .ok (.iload 4, 2) := by decide +kernel
theorem dX10_first_40 : decode cX10_first 40 = .ok (.bipush 99, 2) := by decide +kernel
theorem dX10_first_42 : decode cX10_first 42 = .ok (.if_icmp .ge 33, 3) := by decide +kernel
theorem dX10_first_45 : decode cX10_first 45 = .ok (.aload_n 0, 1) := by decide +kernel
theorem dX10_first_46 : decode cX10_first 46 = .ok (.getfield 58, 3) := by decide +kernel
theorem dX10_first_49 : decode cX10_first 49 = .ok (.iload_n 1, 1) := by decide +kernel
theorem dX10_first_50 : decode cX10_first 50 = .ok (.iload_n 2, 1) := by decide +kernel
theorem dX10_first_51 : decode cX10_first 51 = .ok (.iload_n 3, 1) := by decide +kernel
theorem dX10_first_52 : decode cX10_first 52 = .ok (.invokevirtual 192, 3) := by decide +kernel
theorem dX10_first_55 : decode cX10_first 55 = .ok (.ifCond .ne 6, 3) := by decide +kernel
theorem dX10_first_58 : decode cX10_first 58 = .ok (.iload 4, 2) := by decide +kernel
theorem dX10_first_60 : decode cX10_first 60 = .ok (.ireturn, 1) := by decide +kernel
theorem dX10_first_61 : decode cX10_first 61 = .ok (.aload_n 0, 1) := by decide +kernel
theorem dX10_first_62 : decode cX10_first 62 = .ok (.getfield 66, 3) := by decide +kernel
theorem dX10_first_65 : decode cX10_first 65 = .ok (.iconst 1, 1) := by decide +kernel
theorem dX10_first_66 : decode cX10_first 66 = .ok (.invokevirtual 239, 3) := by decide +kernel
theorem dX10_first_69 : decode cX10_first 69 = .ok (.iinc 4 1, 3) := by decide +kernel
theorem dX10_first_72 : decode cX10_first 72 = .ok (.goto (-34), 3) := by decide +kernel
theorem dX10_first_75 : decode cX10_first 75 = .ok (.aload_n 0, 1) := by decide +kernel
theorem dX10_first_76 : decode cX10_first 76 = .ok (.getfield 58, 3) := by decide +kernel
theorem dX10_first_79 : decode cX10_first 79 = .ok (.iload_n 1, 1) := by decide +kernel
theorem dX10_first_80 : decode cX10_first 80 = .ok (.iload_n 2, 1) := by decide +kernel
theorem dX10_first_81 : decode cX10_first 81 = .ok (.iload_n 3, 1) := by decide +kernel
theorem dX10_first_82 : decode cX10_first 82 = .ok (.invokevirtual 192, 3) := by decide +kernel
theorem dX10_first_85 : decode cX10_first 85 = .ok (.ifCond .ne 8, 3) := by decide +kernel
theorem dX10_first_88 : decode cX10_first 88 = .ok (.bipush 99, 2) := by decide +kernel
theorem dX10_first_90 : decode cX10_first 90 = .ok (.goto 5, 3) := by decide +kernel
theorem dX10_first_93 : decode cX10_first 93 = .ok (.bipush (-2), 2) := by decide +kernel
theorem dX10_first_95 : decode cX10_first 95 = .ok (.ireturn, 1) := by decide +kernel
theorem dX10_isDueBefore_0 : decode cX10_isDueBefore 0 = .ok (.iconst 0, 1) := by decide +kernel
theorem dX10_isDueBefore_1 : decode cX10_isDueBefore 1 = .ok (.istore_n 2, 1) := by decide +kernel
theorem dX10_isDueBefore_2 : decode cX10_isDueBefore 2 = .ok (.iload_n 2, 1) := by decide +kernel
theorem dX10_isDueBefore_3 : decode cX10_isDueBefore 3 = .ok (.iload_n 1, 1) := by decide +kernel
theorem dX10_isDueBefore_4 : decode cX10_isDueBefore 4 = .ok (.if_icmp .ge 64, 3) := by decide +kernel
theorem dX10_isDueBefore_7 : decode cX10_isDueBefore 7 = .ok (.aload_n 0, 1) := by decide +kernel
theorem dX10_isDueBefore_8 : decode cX10_isDueBefore 8 = .ok (.getfield 47, 3) := by decide +kernel
theorem dX10_isDueBefore_11 : decode cX10_isDueBefore 11 = .ok (.iload_n 2, 1) := by decide +kernel
theorem dX10_isDueBefore_12 : decode cX10_isDueBefore 12 = .ok (.invokevirtual 259, 3) := by decide +kernel
theorem dX10_isDueBefore_15 : decode cX10_isDueBefore 15 = .ok (.ifCond .eq 47, 3) := by decide +kernel
theorem dX10_isDueBefore_18 : decode cX10_isDueBefore 18 = .ok (.aload_n 0, 1) := by decide +kernel
theorem dX10_isDueBefore_19 : decode cX10_isDueBefore 19 = .ok (.getfield 47, 3) := by decide +kernel
theorem dX10_isDueBefore_22 : decode cX10_isDueBefore 22 = .ok (.iload_n 2, 1) := by decide +kernel
theorem dX10_isDueBefore_23 : decode cX10_isDueBefore 23 = .ok (.iconst 0, 1) := by decide +kernel
theorem dX10_isDueBefore_24 : decode cX10_isDueBefore 24 = .ok (.invokevirtual 166, 3) := by decide +kernel
theorem dX10_isDueBefore_27 : decode cX10_isDueBefore 27 = .ok (.aload_n 0, 1) := by decide +kernel
theorem dX10_isDueBefore_28 : decode cX10_isDueBefore 28 = .ok (.getfield 47, 3) := by decide +kernel
theorem dX10_isDueBefore_31 : decode cX10_isDueBefore 31 = .ok (.iload_n 1, 1) := by decide +kernel
theorem dX10_isDueBefore_32 : decode cX10_isDueBefore 32 = .ok (.iconst 0, 1) := by decide +kernel
theorem dX10_isDueBefore_33 : decode cX10_isDueBefore 33 = .ok (.invokevirtual 166, 3) := by decide +kernel
theorem dX10_isDueBefore_36 : decode cX10_isDueBefore 36 = .ok (.if_icmp .ne 26, 3) := by decide +kernel
theorem dX10_isDueBefore_39 : decode cX10_isDueBefore 39 = .ok (.aload_n 0, 1) := by decide +kernel
theorem dX10_isDueBefore_40 : decode cX10_isDueBefore 40 = .ok (.getfield 47, 3) := by decide +kernel
theorem dX10_isDueBefore_43 : decode cX10_isDueBefore 43 = .ok (.iload_n 2, 1) := by decide +kernel
theorem dX10_isDueBefore_44 : decode cX10_isDueBefore 44 = .ok (.iconst 1, 1) := by decide +kernel
theorem dX10_isDueBefore_45 : decode cX10_isDueBefore 45 = .ok (.invokevirtual 166, 3) := by decide +kernel
theorem dX10_isDueBefore_48 : decode cX10_isDueBefore 48 = .ok (.aload_n 0, 1) := by decide +kernel
theorem dX10_isDueBefore_49 : decode cX10_isDueBefore 49 = .ok (.getfield 47, 3) := by decide +kernel
theorem dX10_isDueBefore_52 : decode cX10_isDueBefore 52 = .ok (.iload_n 1, 1) := by decide +kernel
theorem dX10_isDueBefore_53 : decode cX10_isDueBefore 53 = .ok (.iconst 1, 1) := by decide +kernel
theorem dX10_isDueBefore_54 : decode cX10_isDueBefore 54 = .ok (.invokevirtual 166, 3) := by decide +kernel
theorem dX10_isDueBefore_57 : decode cX10_isDueBefore 57 = .ok (.if_icmp .ne 5, 3) := by decide +kernel
theorem dX10_isDueBefore_60 : decode cX10_isDueBefore 60 = .ok (.iconst 1, 1) := by decide +kernel
theorem dX10_isDueBefore_61 : decode cX10_isDueBefore 61 = .ok (.ireturn, 1) := by decide +kernel
theorem dX10_isDueBefore_62 : decode cX10_isDueBefore 62 = .ok (.iinc 2 1, 3) := by decide +kernel
theorem dX10_isDueBefore_65 : decode cX10_isDueBefore 65 = .ok (.goto (-63), 3) := by decide +kernel
theorem dX10_isDueBefore_68 : decode cX10_isDueBefore 68 = .ok (.iconst 0, 1) := by decide +kernel
theorem dX10_isDueBefore_69 : decode cX10_isDueBefore 69 = .ok (.ireturn, 1) := by decide +kernel
theorem dX10_bestLoad_0 : decode cX10_bestLoad 0 = .ok (.iconst 0, 1) := by decide +kernel
theorem dX10_bestLoad_1 : decode cX10_bestLoad 1 = .ok (.istore_n 2, 1) := by decide +kernel
theorem dX10_bestLoad_2 : decode cX10_bestLoad 2 = .ok (.iload_n 2, 1) := by decide +kernel
theorem dX10_bestLoad_3 : decode cX10_bestLoad 3 = .ok (.bipush 30, 2) := by decide +kernel
theorem dX10_bestLoad_5 : decode cX10_bestLoad 5 = .ok (.if_icmp .gt 16, 3) := by decide +kernel
theorem dX10_bestLoad_8 : decode cX10_bestLoad 8 = .ok (.aload_n 0, 1) := by decide +kernel
theorem dX10_bestLoad_9 : decode cX10_bestLoad 9 = .ok (.getfield 70, 3) := by decide +kernel
theorem dX10_bestLoad_12 : decode cX10_bestLoad 12 = .ok (.iload_n 2, 1) := by decide +kernel
theorem dX10_bestLoad_13 : decode cX10_bestLoad 13 = .ok (.iconst 0, 1) := by decide +kernel
theorem dX10_bestLoad_14 : decode cX10_bestLoad 14 = .ok (.iastore, 1) := by decide +kernel
theorem dX10_bestLoad_15 : decode cX10_bestLoad 15 = .ok (.iinc 2 1, 3) := by decide +kernel
theorem dX10_bestLoad_18 : decode cX10_bestLoad 18 = .ok (.goto (-16), 3) := by decide +kernel
theorem dX10_bestLoad_21 : decode cX10_bestLoad 21 = .ok (.aload_n 0, 1) := by decide +kernel
theorem dX10_bestLoad_22 : decode cX10_bestLoad 22 = .ok (.getfield 47, 3) := by decide +kernel
theorem dX10_bestLoad_25 : decode cX10_bestLoad 25 = .ok (.getfield 215, 3) := by decide +kernel
theorem dX10_bestLoad_28 : decode cX10_bestLoad 28 = .ok (.iconst 1, 1) := by decide +kernel
theorem dX10_bestLoad_29 : decode cX10_bestLoad 29 = .ok (.iand, 1) := by decide +kernel
theorem dX10_bestLoad_30 : decode cX10_bestLoad 30 = .ok (.istore_n 2, 1) := by decide +kernel
theorem dX10_bestLoad_31 : decode cX10_bestLoad 31 = .ok (.iconst 0, 1) := by decide +kernel
theorem dX10_bestLoad_32 : decode cX10_bestLoad 32 = .ok (.istore_n 3, 1) := by decide +kernel
theorem dX10_bestLoad_33 : decode cX10_bestLoad 33 = .ok (.iload_n 3, 1) := by decide +kernel
theorem dX10_bestLoad_34 : decode cX10_bestLoad 34 = .ok (.aload_n 0, 1) := by decide +kernel
theorem dX10_bestLoad_35 : decode cX10_bestLoad 35 = .ok (.getfield 47, 3) := by decide +kernel
theorem dX10_bestLoad_38 : decode cX10_bestLoad 38 = .ok (.getfield 218, 3) := by decide +kernel
theorem dX10_bestLoad_41 : decode cX10_bestLoad 41 = .ok (.if_icmp .ge 148, 3) := by decide +kernel
theorem dX10_bestLoad_44 : decode cX10_bestLoad 44 = .ok (.aload_n 0, 1) := by decide +kernel
theorem dX10_bestLoad_45 : decode cX10_bestLoad 45 = .ok (.getfield 47, 3) := by decide +kernel
theorem dX10_bestLoad_48 : decode cX10_bestLoad 48 = .ok (.iload_n 3, 1) := by decide +kernel
theorem dX10_bestLoad_49 : decode cX10_bestLoad 49 = .ok (.iconst 0, 1) := by decide +kernel
theorem dX10_bestLoad_50 : decode cX10_bestLoad 50 = .ok (.invokevirtual 166, 3) := by decide +kernel
theorem dX10_bestLoad_53 : decode cX10_bestLoad 53 = .ok (.istore 4, 2) := by decide +kernel
theorem dX10_bestLoad_55 : decode cX10_bestLoad 55 = .ok (.aload_n 0, 1) := by decide +kernel
theorem dX10_bestLoad_56 : decode cX10_bestLoad 56 = .ok (.getfield 47, 3) := by decide +kernel
theorem dX10_bestLoad_59 : decode cX10_bestLoad 59 = .ok (.iload_n 3, 1) := by decide +kernel
theorem dX10_bestLoad_60 : decode cX10_bestLoad 60 = .ok (.iconst 1, 1) := by decide +kernel
theorem dX10_bestLoad_61 : decode cX10_bestLoad 61 = .ok (.invokevirtual 166, 3) := by decide +kernel
theorem dX10_bestLoad_64 : decode cX10_bestLoad 64 = .ok (.istore 5, 2) := by decide +kernel
theorem dX10_bestLoad_66 : decode cX10_bestLoad 66 = .ok (.aload_n 0, 1) := by decide +kernel
theorem dX10_bestLoad_67 : decode cX10_bestLoad 67 = .ok (.getfield 47, 3) := by decide +kernel
theorem dX10_bestLoad_70 : decode cX10_bestLoad 70 = .ok (.iload_n 3, 1) := by decide +kernel
theorem dX10_bestLoad_71 : decode cX10_bestLoad 71 = .ok (.invokevirtual 259, 3) := by decide +kernel
theorem dX10_bestLoad_74 : decode cX10_bestLoad 74 = .ok (.ifCond .eq 109, 3) := by decide +kernel
theorem dX10_bestLoad_77 : decode cX10_bestLoad 77 = .ok (.aload_n 0, 1) := by decide +kernel
theorem dX10_bestLoad_78 : decode cX10_bestLoad 78 = .ok (.getfield 47, 3) := by decide +kernel
theorem dX10_bestLoad_81 : decode cX10_bestLoad 81 = .ok (.getfield 185, 3) := by decide +kernel
theorem dX10_bestLoad_84 : decode cX10_bestLoad 84 = .ok (.iload 4, 2) := by decide +kernel
theorem dX10_bestLoad_86 : decode cX10_bestLoad 86 = .ok (.iconst 5, 1) := by decide +kernel
theorem dX10_bestLoad_87 : decode cX10_bestLoad 87 = .ok (.imul, 1) := by decide +kernel
theorem dX10_bestLoad_88 : decode cX10_bestLoad 88 = .ok (.iload 5, 2) := by decide +kernel
theorem dX10_bestLoad_90 : decode cX10_bestLoad 90 = .ok (.iadd, 1) := by decide +kernel
theorem dX10_bestLoad_91 : decode cX10_bestLoad 91 = .ok (.iaload, 1) := by decide +kernel
theorem dX10_bestLoad_92 : decode cX10_bestLoad 92 = .ok (.iload_n 2, 1) := by decide +kernel
theorem dX10_bestLoad_93 : decode cX10_bestLoad 93 = .ok (.if_icmp .ne 90, 3) := by decide +kernel
theorem dX10_bestLoad_96 : decode cX10_bestLoad 96 = .ok (.aload_n 0, 1) := by decide +kernel
theorem dX10_bestLoad_97 : decode cX10_bestLoad 97 = .ok (.iload_n 3, 1) := by decide +kernel
theorem dX10_bestLoad_98 : decode cX10_bestLoad 98 = .ok (.invokevirtual 262, 3) := by decide +kernel
theorem dX10_bestLoad_101 : decode cX10_bestLoad 101 = .ok (.ifCond .ne 82, 3) := by decide +kernel
theorem dX10_bestLoad_104 : decode cX10_bestLoad 104 = .ok (.aload_n 0, 1) := by decide +kernel
theorem dX10_bestLoad_105 : decode cX10_bestLoad 105 = .ok (.getfield 20, 3) := by decide +kernel
theorem dX10_bestLoad_108 : decode cX10_bestLoad 108 = .ok (.getfield 154, 3) := by decide +kernel
theorem dX10_bestLoad_111 : decode cX10_bestLoad 111 = .ok (.iload 5, 2) := by decide +kernel
theorem dX10_bestLoad_113 : decode cX10_bestLoad 113 = .ok (.iaload, 1) := by decide +kernel
theorem dX10_bestLoad_114 : decode cX10_bestLoad 114 = .ok (.sipush 4096, 3) := by decide +kernel
theorem dX10_bestLoad_117 : decode cX10_bestLoad 117 = .ok (.imul, 1) := by decide +kernel
theorem dX10_bestLoad_118 : decode cX10_bestLoad 118 = .ok (.iconst 1, 1) := by decide +kernel
theorem dX10_bestLoad_119 : decode cX10_bestLoad 119 = .ok (.iload_n 3, 1) := by decide +kernel
theorem dX10_bestLoad_120 : decode cX10_bestLoad 120 = .ok (.ishl, 1) := by decide +kernel
theorem dX10_bestLoad_121 : decode cX10_bestLoad 121 = .ok (.isub, 1) := by decide +kernel
theorem dX10_bestLoad_122 : decode cX10_bestLoad 122 = .ok (.istore 6, 2) := by decide +kernel
theorem dX10_bestLoad_124 : decode cX10_bestLoad 124 = .ok (.aload_n 0, 1) := by decide +kernel
theorem dX10_bestLoad_125 : decode cX10_bestLoad 125 = .ok (.getfield 20, 3) := by decide +kernel
theorem dX10_bestLoad_128 : decode cX10_bestLoad 128 = .ok (.getfield 151, 3) := by decide +kernel
theorem dX10_bestLoad_131 : decode cX10_bestLoad 131 = .ok (.iload 5, 2) := by decide +kernel
theorem dX10_bestLoad_133 : decode cX10_bestLoad 133 = .ok (.iaload, 1) := by decide +kernel
theorem dX10_bestLoad_134 : decode cX10_bestLoad 134 = .ok (.istore 7, 2) := by decide +kernel
theorem dX10_bestLoad_136 : decode cX10_bestLoad 136 = .ok (.bipush 30, 2) := by decide +kernel
theorem dX10_bestLoad_138 : decode cX10_bestLoad 138 = .ok (.istore 8, 2) := by decide +kernel
theorem dX10_bestLoad_140 : decode cX10_bestLoad 140 = .ok (.iload 8, 2) := by decide +kernel
theorem dX10_bestLoad_142 : decode cX10_bestLoad 142 = .ok (.iload 7, 2) := by decide +kernel
theorem dX10_bestLoad_144 : decode cX10_bestLoad 144 = .ok (.if_icmp .lt 39, 3) := by decide +kernel
theorem dX10_bestLoad_147 : decode cX10_bestLoad 147 = .ok (.aload_n 0, 1) := by decide +kernel
theorem dX10_bestLoad_148 : decode cX10_bestLoad 148 = .ok (.getfield 70, 3) := by decide +kernel
theorem dX10_bestLoad_151 : decode cX10_bestLoad 151 = .ok (.iload 8, 2) := by decide +kernel
theorem dX10_bestLoad_153 : decode cX10_bestLoad 153 = .ok (.aload_n 0, 1) := by decide +kernel
theorem dX10_bestLoad_154 : decode cX10_bestLoad 154 = .ok (.getfield 70, 3) := by decide +kernel
theorem dX10_bestLoad_157 : decode cX10_bestLoad 157 = .ok (.iload 8, 2) := by decide +kernel
theorem dX10_bestLoad_159 : decode cX10_bestLoad 159 = .ok (.iaload, 1) := by decide +kernel
theorem dX10_bestLoad_160 : decode cX10_bestLoad 160 = .ok (.aload_n 0, 1) := by decide +kernel
theorem dX10_bestLoad_161 : decode cX10_bestLoad 161 = .ok (.getfield 70, 3) := by decide +kernel
theorem dX10_bestLoad_164 : decode cX10_bestLoad 164 = .ok (.iload 8, 2) := by decide +kernel
theorem dX10_bestLoad_166 : decode cX10_bestLoad 166 = .ok (.iload 7, 2) := by decide +kernel
theorem dX10_bestLoad_168 : decode cX10_bestLoad 168 = .ok (.isub, 1) := by decide +kernel
theorem dX10_bestLoad_169 : decode cX10_bestLoad 169 = .ok (.iaload, 1) := by decide +kernel
theorem dX10_bestLoad_170 : decode cX10_bestLoad 170 = .ok (.iload 6, 2) := by decide +kernel
theorem dX10_bestLoad_172 : decode cX10_bestLoad 172 = .ok (.iadd, 1) := by decide +kernel
theorem dX10_bestLoad_173 : decode cX10_bestLoad 173 = .ok (.invokestatic 265, 3) := by decide +kernel
theorem dX10_bestLoad_176 : decode cX10_bestLoad 176 = .ok (.iastore, 1) := by decide +kernel
theorem dX10_bestLoad_177 : decode cX10_bestLoad 177 = .ok (.iinc 8 (-1), 3) := by decide +kernel
theorem dX10_bestLoad_180 : decode cX10_bestLoad 180 = .ok (.goto (-40), 3) := by decide +kernel
theorem dX10_bestLoad_183 : decode cX10_bestLoad 183 = .ok (.iinc 3 1, 3) := by decide +kernel
theorem dX10_bestLoad_186 : decode cX10_bestLoad 186 = .ok (.goto (-153), 3) := by decide +kernel
theorem dX10_bestLoad_189 : decode cX10_bestLoad 189 = .ok (.aload_n 0, 1) := by decide +kernel
theorem dX10_bestLoad_190 : decode cX10_bestLoad 190 = .ok (.getfield 70, 3) := by decide +kernel
theorem dX10_bestLoad_193 : decode cX10_bestLoad 193 = .ok (.aload_n 0, 1) := by decide +kernel
theorem dX10_bestLoad_194 : decode cX10_bestLoad 194 = .ok (.getfield 20, 3) := by decide +kernel
theorem dX10_bestLoad_197 : decode cX10_bestLoad 197 = .ok (.getfield 270, 3) := by decide +kernel
theorem dX10_bestLoad_200 : decode cX10_bestLoad 200 = .ok (.iaload, 1) := by decide +kernel
theorem dX10_bestLoad_201 : decode cX10_bestLoad 201 = .ok (.istore_n 3, 1) := by decide +kernel
theorem dX10_bestLoad_202 : decode cX10_bestLoad 202 = .ok (.iload_n 3, 1) := by decide +kernel
theorem dX10_bestLoad_203 : decode cX10_bestLoad 203 = .ok (.sipush 4095, 3) := by decide +kernel
theorem dX10_bestLoad_206 : decode cX10_bestLoad 206 = .ok (.iadd, 1) := by decide +kernel
theorem dX10_bestLoad_207 : decode cX10_bestLoad 207 = .ok (.sipush 4096, 3) := by decide +kernel
theorem dX10_bestLoad_210 : decode cX10_bestLoad 210 = .ok (.idiv, 1) := by decide +kernel
theorem dX10_bestLoad_211 : decode cX10_bestLoad 211 = .ok (.istore 4, 2) := by decide +kernel
theorem dX10_bestLoad_213 : decode cX10_bestLoad 213 = .ok (.iload_n 1, 1) := by decide +kernel
theorem dX10_bestLoad_214 : decode cX10_bestLoad 214 = .ok (.ifCond .eq 14, 3) := by decide +kernel
theorem dX10_bestLoad_217 : decode cX10_bestLoad 217 = .ok (.iload 4, 2) := by decide +kernel
theorem dX10_bestLoad_219 : decode cX10_bestLoad 219 = .ok (.sipush 4096, 3) := by decide +kernel
theorem dX10_bestLoad_222 : decode cX10_bestLoad 222 = .ok (.imul, 1) := by decide +kernel
theorem dX10_bestLoad_223 : decode cX10_bestLoad 223 = .ok (.iload_n 3, 1) := by decide +kernel
theorem dX10_bestLoad_224 : decode cX10_bestLoad 224 = .ok (.isub, 1) := by decide +kernel
theorem dX10_bestLoad_225 : decode cX10_bestLoad 225 = .ok (.goto 5, 3) := by decide +kernel
theorem dX10_bestLoad_228 : decode cX10_bestLoad 228 = .ok (.iload 4, 2) := by decide +kernel
theorem dX10_bestLoad_230 : decode cX10_bestLoad 230 = .ok (.ireturn, 1) := by decide +kernel
theorem dX10_load_0 : decode cX10_load 0 = .ok (.iload_n 1, 1) := by decide +kernel
theorem dX10_load_1 : decode cX10_load 1 = .ok (.ifCond .eq 10, 3) := by decide +kernel
theorem dX10_load_4 : decode cX10_load 4 = .ok (.iload_n 1, 1) := by decide +kernel
theorem dX10_load_5 : decode cX10_load 5 = .ok (.iconst 1, 1) := by decide +kernel
theorem dX10_load_6 : decode cX10_load 6 = .ok (.if_icmp .eq 5, 3) := by decide +kernel
theorem dX10_load_9 : decode cX10_load 9 = .ok (.iconst (-1), 1) := by decide +kernel
theorem dX10_load_10 : decode cX10_load 10 = .ok (.ireturn, 1) := by decide +kernel
theorem dX10_load_11 : decode cX10_load 11 = .ok (.aload_n 0, 1) := by decide +kernel
theorem dX10_load_12 : decode cX10_load 12 = .ok (.iload_n 1, 1) := by decide +kernel
theorem dX10_load_13 : decode cX10_load 13 = .ok (.ifCond .ne 7, 3) := by decide +kernel
theorem dX10_load_16 : decode cX10_load 16 = .ok (.iconst 1, 1) := by decide +kernel
theorem dX10_load_17 : decode cX10_load 17 = .ok (.goto 4, 3) := by decide +kernel
theorem dX10_load_20 : decode cX10_load 20 = .ok (.iconst 0, 1) := by decide +kernel
theorem dX10_load_21 : decode cX10_load 21 = .ok (.invokevirtual 255, 3) := by decide +kernel
theorem dX10_load_24 : decode cX10_load 24 = .ok (.ireturn, 1) := by decide +kernel
section
variable {p : Program} {l : Launch} {e : Env} {s : State} {m : MethodId} {args : Array Value} {below : List Frame} {meth : Method} {c : Code} {D : va_G} {aC : Nat → ClassId} {B : Nat}
set_option maxHeartbeats 4000000 in
set_option maxRecDepth 100000 in
theorem w6_agrees_b83 (E : g_C p s m args c cX6_agrees RX6 D aC (g_Zs (g_A B 69))) (hml : c.maxLocals = 5) (hret : meth.sig.returnType = (some .boolean)) (hlk : meth.locks = false) {F : Nat} {q0 : Int32} {a1 : Int32} {a2 : Nat} (ha2 : a2 < 69) (hYa2 : yC.1 a2 = (7, 0)) {mem : g_M} {s2 : Int32 → Option (Int32)} (hs2 : ∀ (v3 : Int32) (H : Heap) (locs : List Loc) (ls : Array Slot), g_At D aC B yC 69 mem s.heap H locs → lv_has ls 5 [(0, .ref (B + 60)), (1, .int a1), (2, .ref (B + a2)), (3, .int v3)] → s2 v3 = some q0 → W p l e (g_rm 2) s m args below meth c H locs 0 0 (g_MQ below D aC B yC 69 args s (some (.int q0)) mem) (F0 m 2 ls [])) : ∀ (v3 : Int32) (H : Heap) (locs : List Loc) (ls : Array Slot), g_At D aC B yC 69 mem s.heap H locs → lv_has ls 5 [(0, .ref (B + 60)), (1, .int a1), (2, .ref (B + a2)), (3, .int v3)] → f6_agrees_b83 F a1 a2 s2 mem v3 = some q0 → W p l e (g_rm 2) s m args below meth c H locs 0 0 (g_MQ below D aC B yC 69 args s (some (.int q0)) mem) (F0 m 83 ls []) := by
  intro v3 H locs ls hM hl he
  unfold f6_agrees_b83 at he
  have hx := E.1
  have hb := E.2.1
  have hown := E.2.2.1
  have hts := E.2.2.2.1
  obtain ⟨x1, hx1, he⟩ := g_let_ex he
  refine lv_iinc (v := x1) (lv' := [(3, .int x1), (0, .ref (B + 60)), (1, .int a1), (2, .ref (B + a2))]) hx hb dX6_agrees_83 hl (k := 3) rfl (by rw [hx1]; rfl) (by decide) rfl (fun ls hl => ?_)
  refine lv_goto (tgt := 2) hx hb dX6_agrees_86 (by decide) ?_
  exact hs2 _ _ _ _ hM (lv_sub hl [1, 2, 3, 0] rfl) he

set_option maxHeartbeats 4000000 in
set_option maxRecDepth 100000 in
theorem w6_agrees_b68 (E : g_C p s m args c cX6_agrees RX6 D aC (g_Zs (g_A B 69))) (hml : c.maxLocals = 5) (hret : meth.sig.returnType = (some .boolean)) (hlk : meth.locks = false) {F : Nat} {q0 : Int32} {a1 : Int32} {a2 : Nat} (ha2 : a2 < 69) (hYa2 : yC.1 a2 = (7, 0)) {mem : g_M} {s2 : Int32 → Option (Int32)} (hs2 : ∀ (v3 : Int32) (H : Heap) (locs : List Loc) (ls : Array Slot), g_At D aC B yC 69 mem s.heap H locs → lv_has ls 5 [(0, .ref (B + 60)), (1, .int a1), (2, .ref (B + a2)), (3, .int v3)] → s2 v3 = some q0 → W p l e (g_rm 2) s m args below meth c H locs 0 0 (g_MQ below D aC B yC 69 args s (some (.int q0)) mem) (F0 m 2 ls [])) : ∀ (v3 : Int32) (w0 : Int32) (H : Heap) (locs : List Loc) (ls : Array Slot), g_At D aC B yC 69 mem s.heap H locs → lv_has ls 5 [(0, .ref (B + 60)), (1, .int a1), (2, .ref (B + a2)), (3, .int v3)] → f6_agrees_b68 F a1 a2 s2 mem v3 w0 = some q0 → W p l e (g_rm 2) s m args below meth c H locs 0 0 (g_MQ below D aC B yC 69 args s (some (.int q0)) mem) (F0 m 68 ls [.int w0]) := by
  intro v3 w0 H locs ls hM hl he
  unfold f6_agrees_b68 at he
  have hx := E.1
  have hb := E.2.1
  have hown := E.2.2.1
  have hts := E.2.2.2.1
  refine lv_istore (lv' := [(4, .int w0), (0, .ref (B + 60)), (1, .int a1), (2, .ref (B + a2)), (3, .int v3)]) hx hb dX6_agrees_68 hl (by decide) rfl (fun ls hl => ?_)
  refine lv_iload hx hb dX6_agrees_70 (lv_at hl 0 rfl) ?_
  refine lv_aload_n hx hb dX6_agrees_72 rfl (lv_at hl 1 rfl) ?_
  refine g_getP E hM (o := 60) (Nat.le_of_ble_eq_true rfl) rfl fl_X6_28 (q := 64) rfl dX6_agrees_73 ?_
  refine lv_iload_n hx hb dX6_agrees_76 rfl (lv_at hl 4 rfl) ?_
  obtain ⟨h2, he⟩ := g_ck_some he
  refine g_zald E hM (o := 64) (Nat.le_of_ble_eq_true rfl) rfl h2 dX6_agrees_77 ?_
  refine lv_icmp_eq (tgt := 83) hx hb dX6_agrees_78 (by decide) (fun h3 => ?_) (fun h3 => ?_)
  · rw [if_pos h3] at he
    exact w6_agrees_b83 (F := F) (a1 := a1) (a2 := a2) E hml hret hlk ha2 hYa2 hs2 _ _ _ _ hM (lv_sub hl [1, 2, 3, 4] rfl) he
  · rw [if_neg h3] at he
    refine lv_iconst (v := (0 : Int32)) hx hb dX6_agrees_81 rfl ?_
    cases he
    exact g_zret E hM hret hlk (Or.inl rfl) dX6_agrees_82

set_option maxHeartbeats 4000000 in
set_option maxRecDepth 100000 in
theorem w6_agrees_b2_body (E : g_C p s m args c cX6_agrees RX6 D aC (g_Zs (g_A B 69))) (hml : c.maxLocals = 5) (hret : meth.sig.returnType = (some .boolean)) (hlk : meth.locks = false) {F : Nat} {q0 : Int32} {a1 : Int32} {a2 : Nat} (ha2 : a2 < 69) (hYa2 : yC.1 a2 = (7, 0)) {mem : g_M} {s2 : Int32 → Option (Int32)} (hs2 : ∀ (v3 : Int32) (H : Heap) (locs : List Loc) (ls : Array Slot), g_At D aC B yC 69 mem s.heap H locs → lv_has ls 5 [(0, .ref (B + 60)), (1, .int a1), (2, .ref (B + a2)), (3, .int v3)] → s2 v3 = some q0 → W p l e (g_rm 2) s m args below meth c H locs 0 0 (g_MQ below D aC B yC 69 args s (some (.int q0)) mem) (F0 m 2 ls [])) : ∀ (v3 : Int32) (H : Heap) (locs : List Loc) (ls : Array Slot), g_At D aC B yC 69 mem s.heap H locs → lv_has ls 5 [(0, .ref (B + 60)), (1, .int a1), (2, .ref (B + a2)), (3, .int v3)] → f6_agrees_b2_body F a1 a2 s2 mem v3 = some q0 → W p l e (g_rm 2) s m args below meth c H locs 0 0 (g_MQ below D aC B yC 69 args s (some (.int q0)) mem) (F0 m 2 ls []) := by
  intro v3 H locs ls hM hl he
  unfold f6_agrees_b2_body at he
  have hx := E.1
  have hb := E.2.1
  have hown := E.2.2.1
  have hts := E.2.2.2.1
  refine lv_iload_n hx hb dX6_agrees_2 rfl (lv_at hl 3 rfl) ?_
  refine lv_aload_n hx hb dX6_agrees_3 rfl (lv_at hl 0 rfl) ?_
  obtain ⟨r4, hcr4, he⟩ := g_bind he
  refine g_callV [] (rest := [.int v3]) E hml hl.1 hM cv_X6_42 (c6_limit l D aC B hcr4) (o := 60) (Nat.le_of_ble_eq_true rfl) rfl (by decide) rfl rfl (Nat.le_of_ble_eq_true rfl) dX6_agrees_4 (fun H locs hM => ?_)
  refine W.eq (g2 := F0 m 7 ls [.int r4, .int v3]) rfl ?_
  refine lv_icmp_ge (tgt := 89) hx hb dX6_agrees_7 (by decide) (fun h5 => ?_) (fun h5 => ?_)
  · rw [if_neg (Int32.not_lt.mpr h5)] at he
    refine lv_iconst (v := (1 : Int32)) hx hb dX6_agrees_89 rfl ?_
    cases he
    exact g_zret E hM hret hlk (Or.inr rfl) dX6_agrees_90
  · rw [if_pos (Int32.not_le.mp h5)] at he
    refine lv_aload_n hx hb dX6_agrees_10 rfl (lv_at hl 0 rfl) ?_
    refine g_getP E hM (o := 60) (Nat.le_of_ble_eq_true rfl) rfl fl_X6_35 (q := 66) rfl dX6_agrees_11 ?_
    refine lv_iload_n hx hb dX6_agrees_14 rfl (lv_at hl 3 rfl) ?_
    obtain ⟨h6, he⟩ := g_ck_some he
    refine g_zald E hM (o := 66) (Nat.le_of_ble_eq_true rfl) rfl h6 dX6_agrees_15 ?_
    refine lv_if_ne (tgt := 83) hx hb dX6_agrees_16 (by decide) (fun h7 => ?_) (fun h7 => ?_)
    · rw [if_neg h7] at he
      exact w6_agrees_b83 (F := F) (a1 := a1) (a2 := a2) E hml hret hlk ha2 hYa2 hs2 _ _ _ _ hM (lv_sub hl [0, 1, 2, 3] rfl) he
    · rw [if_pos h7] at he
      refine lv_aload_n hx hb dX6_agrees_19 rfl (lv_at hl 0 rfl) ?_
      refine g_getP E hM (o := 60) (Nat.le_of_ble_eq_true rfl) rfl fl_X6_32 (q := 65) rfl dX6_agrees_20 ?_
      refine lv_iload_n hx hb dX6_agrees_23 rfl (lv_at hl 3 rfl) ?_
      obtain ⟨h8, he⟩ := g_ck_some he
      refine g_iald E hM (o := 65) (Nat.le_of_ble_eq_true rfl) rfl h8 dX6_agrees_24 ?_
      refine lv_iconst (v := (-1 : Int32)) hx hb dX6_agrees_25 rfl ?_
      refine lv_icmp_ne (tgt := 83) hx hb dX6_agrees_26 (by decide) (fun h9 => ?_) (fun h9 => ?_)
      · rw [if_neg h9] at he
        exact w6_agrees_b83 (F := F) (a1 := a1) (a2 := a2) E hml hret hlk ha2 hYa2 hs2 _ _ _ _ hM (lv_sub hl [0, 1, 2, 3] rfl) he
      · rw [if_pos h9] at he
        refine lv_aload_n hx hb dX6_agrees_29 rfl (lv_at hl 0 rfl) ?_
        refine g_getP E hM (o := 60) (Nat.le_of_ble_eq_true rfl) rfl fl_X6_18 (q := 61) rfl dX6_agrees_30 ?_
        refine lv_iload_n hx hb dX6_agrees_33 rfl (lv_at hl 3 rfl) ?_
        obtain ⟨h10, he⟩ := g_ck_some he
        refine g_iald E hM (o := 61) (Nat.le_of_ble_eq_true rfl) rfl h10 dX6_agrees_34 ?_
        refine lv_iload_n hx hb dX6_agrees_35 rfl (lv_at hl 1 rfl) ?_
        refine lv_icmp_ne (tgt := 83) hx hb dX6_agrees_36 (by decide) (fun h11 => ?_) (fun h11 => ?_)
        · rw [if_neg h11] at he
          exact w6_agrees_b83 (F := F) (a1 := a1) (a2 := a2) E hml hret hlk ha2 hYa2 hs2 _ _ _ _ hM (lv_sub hl [0, 1, 2, 3] rfl) he
        · rw [if_pos h11] at he
          refine lv_aload_n hx hb dX6_agrees_39 rfl (lv_at hl 2 rfl) ?_
          refine g_getP E hM (o := a2) ha2 hYa2 fl_X6_52 (q := (a2 + 3)) (pt_7_6 a2 ha2 hYa2).1 dX6_agrees_40 ?_
          refine lv_aload_n hx hb dX6_agrees_43 rfl (lv_at hl 0 rfl) ?_
          refine g_getP E hM (o := 60) (Nat.le_of_ble_eq_true rfl) rfl fl_X6_22 (q := 62) rfl dX6_agrees_44 ?_
          refine lv_iload_n hx hb dX6_agrees_47 rfl (lv_at hl 3 rfl) ?_
          obtain ⟨h12, he⟩ := g_ck_some he
          refine g_iald E hM (o := 62) (Nat.le_of_ble_eq_true rfl) rfl h12 dX6_agrees_48 ?_
          refine lv_iconst (v := (5 : Int32)) hx hb dX6_agrees_49 rfl ?_
          refine lv_imul hx hb dX6_agrees_50 ?_
          refine lv_aload_n hx hb dX6_agrees_51 rfl (lv_at hl 0 rfl) ?_
          refine g_getP E hM (o := 60) (Nat.le_of_ble_eq_true rfl) rfl fl_X6_25 (q := 63) rfl dX6_agrees_52 ?_
          refine lv_iload_n hx hb dX6_agrees_55 rfl (lv_at hl 3 rfl) ?_
          obtain ⟨h13, he⟩ := g_ck_some he
          refine g_iald E hM (o := 63) (Nat.le_of_ble_eq_true rfl) rfl h13 dX6_agrees_56 ?_
          refine lv_iadd hx hb dX6_agrees_57 ?_
          obtain ⟨h14, he⟩ := g_ck_some he
          refine g_iald E hM (o := (a2 + 3)) (pt_7_6 a2 ha2 hYa2).2.1 (pt_7_6 a2 ha2 hYa2).2.2 h14 dX6_agrees_58 ?_
          refine lv_iconst (v := (1 : Int32)) hx hb dX6_agrees_59 rfl ?_
          refine lv_icmp_ne (tgt := 67) hx hb dX6_agrees_60 (by decide) (fun h15 => ?_) (fun h15 => ?_)
          · rw [if_neg h15] at he
            refine lv_iconst (v := (0 : Int32)) hx hb dX6_agrees_67 rfl ?_
            exact w6_agrees_b68 (F := F) (a1 := a1) (a2 := a2) E hml hret hlk ha2 hYa2 hs2 _ _ _ _ _ hM (lv_sub hl [0, 1, 2, 3] rfl) he
          · rw [if_pos h15] at he
            refine lv_iconst (v := (1 : Int32)) hx hb dX6_agrees_63 rfl ?_
            refine lv_goto (tgt := 68) hx hb dX6_agrees_64 (by decide) ?_
            exact w6_agrees_b68 (F := F) (a1 := a1) (a2 := a2) E hml hret hlk ha2 hYa2 hs2 _ _ _ _ _ hM (lv_sub hl [0, 1, 2, 3] rfl) he

set_option maxHeartbeats 4000000 in
set_option maxRecDepth 100000 in
theorem w6_agrees_b2 (E : g_C p s m args c cX6_agrees RX6 D aC (g_Zs (g_A B 69))) (hml : c.maxLocals = 5) (hret : meth.sig.returnType = (some .boolean)) (hlk : meth.locks = false) {F : Nat} {q0 : Int32} {a1 : Int32} {a2 : Nat} (ha2 : a2 < 69) (hYa2 : yC.1 a2 = (7, 0)) {mem : g_M} : ∀ (v3 : Int32) (H : Heap) (locs : List Loc) (ls : Array Slot), g_At D aC B yC 69 mem s.heap H locs → lv_has ls 5 [(0, .ref (B + 60)), (1, .int a1), (2, .ref (B + a2)), (3, .int v3)] → f6_agrees_b2 F a1 a2 mem v3 = some q0 → W p l e (g_rm 2) s m args below meth c H locs 0 0 (g_MQ below D aC B yC 69 args s (some (.int q0)) mem) (F0 m 2 ls []) := by
  have key : ∀ (nn : Nat) (x : Int32) (H : Heap) (locs : List Loc) (ls : Array Slot), g_At D aC B yC 69 mem s.heap H locs → lv_has ls 5 [(0, .ref (B + 60)), (1, .int a1), (2, .ref (B + a2)), (3, .int x)] → g_fix (fun sf x => f6_agrees_b2_body F a1 a2 (fun v3 => sf v3) mem x) nn x = some q0 → W p l e (g_rm 2) s m args below meth c H locs 0 0 (g_MQ below D aC B yC 69 args s (some (.int q0)) mem) (F0 m 2 ls []) := by
    intro nn
    induction nn with
    | zero => intro x H locs ls hM hl he; simp [g_fix] at he
    | succ nn ih =>
      intro x H locs ls hM hl he
      exact w6_agrees_b2_body (F := F) (a1 := a1) (a2 := a2) E hml hret hlk ha2 hYa2 (fun v3 H locs ls hM hl he => ih v3 H locs ls hM hl he) x H locs ls hM hl he
  intro v3 H locs ls hM hl he
  exact key F v3 H locs ls hM hl he

set_option maxHeartbeats 4000000 in
set_option maxRecDepth 100000 in
theorem c6_agrees (l : Launch) (D : va_G) (aC : Nat → ClassId) (B : Nat) {F : Nat} {a1 : Int32} {a2 : Nat} (ha2 : a2 < 69) (hYa2 : yC.1 a2 = (7, 0)) {mem : g_M} {q0 : Int32} (he : f6_agrees F a1 a2 mem = some q0) : g_Met l yX6_agrees cX6_agrees 5 (some .boolean) 2 D aC B yC 69 mem [.ref (B + 60), .int a1, .ref (B + a2)] (some (.int q0)) mem := by
  refine g_ofW (by decide) (Nat.le_of_ble_eq_true rfl) ?_
  intro p e s m args below meth c ls E hml hret hlk hM hl
  have E : g_C p s m args c cX6_agrees RX6 D aC (g_Zs (g_A B 69)) := E
  have hx := E.1
  have hb := E.2.1
  have hown := E.2.2.1
  have hts := E.2.2.2.1
  have hl : lv_has ls 5 [(0, .ref (B + 60)), (1, .int a1), (2, .ref (B + a2))] := hl
  unfold f6_agrees at he
  refine lv_iconst (v := (0 : Int32)) hx hb dX6_agrees_0 rfl ?_
  refine lv_istore_n (lv' := [(3, .int (0 : Int32)), (0, .ref (B + 60)), (1, .int a1), (2, .ref (B + a2))]) hx hb dX6_agrees_1 rfl hl (by decide) rfl (fun ls hl => ?_)
  exact w6_agrees_b2 (F := F) (a1 := a1) (a2 := a2) E hml hret hlk ha2 hYa2 _ _ _ _ hM (lv_sub hl [1, 2, 3, 0] rfl) he

set_option maxHeartbeats 4000000 in
set_option maxRecDepth 100000 in
theorem w7_giveOwn_b2_body (E : g_C p s m args c cX7_giveOwn RX7 D aC (g_Zs (g_A B 69))) (hml : c.maxLocals = 2) (hret : meth.sig.returnType = none) (hlk : meth.locks = false) {F : Nat} {q0 : g_M} {t : Nat} (ht : t < 69) (hY : yC.1 t = (7, 0)) {s2 : Int32 → g_M → Option (g_M)} (hs2 : ∀ (v1 : Int32) (mem : g_M) (H : Heap) (locs : List Loc) (ls : Array Slot), g_At D aC B yC 69 mem s.heap H locs → lv_has ls 2 [(0, .ref (B + t)), (1, .int v1)] → s2 v1 mem = some q0 → W p l e (g_rm 1) s m args below meth c H locs 0 0 (g_MQ below D aC B yC 69 args s none q0) (F0 m 2 ls [])) : ∀ (v1 : Int32) (mem : g_M) (H : Heap) (locs : List Loc) (ls : Array Slot), g_At D aC B yC 69 mem s.heap H locs → lv_has ls 2 [(0, .ref (B + t)), (1, .int v1)] → f7_giveOwn_b2_body F t s2 v1 mem = some q0 → W p l e (g_rm 1) s m args below meth c H locs 0 0 (g_MQ below D aC B yC 69 args s none q0) (F0 m 2 ls []) := by
  intro v1 mem H locs ls hM hl he
  unfold f7_giveOwn_b2_body at he
  have hx := E.1
  have hb := E.2.1
  have hown := E.2.2.1
  have hts := E.2.2.2.1
  refine lv_iload_n hx hb dX7_giveOwn_2 rfl (lv_at hl 1 rfl) ?_
  refine lv_aload_n hx hb dX7_giveOwn_3 rfl (lv_at hl 0 rfl) ?_
  refine g_getP E hM (o := t) ht hY fl_X7_25 (q := (t + 2)) (pt_7_5 t ht hY).1 dX7_giveOwn_4 ?_
  refine g_alenI (v := (25 : Int32)) E hM (o := (t + 2)) (pt_7_5 t ht hY).2.1 (pt_7_5 t ht hY).2.2 rfl dX7_giveOwn_7 ?_
  refine lv_icmp_ge (tgt := 26) hx hb dX7_giveOwn_8 (by decide) (fun h1 => ?_) (fun h1 => ?_)
  · rw [if_neg (Int32.not_lt.mpr h1)] at he
    cases he
    exact g_vret E hM hret hlk dX7_giveOwn_26
  · rw [if_pos (Int32.not_le.mp h1)] at he
    refine lv_aload_n hx hb dX7_giveOwn_11 rfl (lv_at hl 0 rfl) ?_
    refine g_getP E hM (o := t) ht hY fl_X7_25 (q := (t + 2)) (pt_7_5 t ht hY).1 dX7_giveOwn_12 ?_
    refine lv_iload_n hx hb dX7_giveOwn_15 rfl (lv_at hl 1 rfl) ?_
    refine lv_iload_n hx hb dX7_giveOwn_16 rfl (lv_at hl 1 rfl) ?_
    refine lv_iconst (v := (5 : Int32)) hx hb dX7_giveOwn_17 rfl ?_
    refine lv_idiv hx hb dX7_giveOwn_18 (by decide) ?_
    obtain ⟨h2, he⟩ := g_ck_some he
    refine g_iast E hM (o := (t + 2)) (pt_7_5 t ht hY).2.1 (pt_7_5 t ht hY).2.2 h2 dX7_giveOwn_19 (fun H locs hM => ?_)
    obtain ⟨m3, hm3, he⟩ := g_let_ex he
    rw [← hm3] at hM
    obtain ⟨x4, hx4, he⟩ := g_let_ex he
    refine lv_iinc (v := x4) (lv' := [(1, .int x4), (0, .ref (B + t))]) hx hb dX7_giveOwn_20 hl (k := 1) rfl (by rw [hx4]; rfl) (by decide) rfl (fun ls hl => ?_)
    refine lv_goto (tgt := 2) hx hb dX7_giveOwn_23 (by decide) ?_
    exact hs2 _ _ _ _ _ hM (lv_sub hl [1, 0] rfl) he

set_option maxHeartbeats 4000000 in
set_option maxRecDepth 100000 in
theorem w7_giveOwn_b2 (E : g_C p s m args c cX7_giveOwn RX7 D aC (g_Zs (g_A B 69))) (hml : c.maxLocals = 2) (hret : meth.sig.returnType = none) (hlk : meth.locks = false) {F : Nat} {q0 : g_M} {t : Nat} (ht : t < 69) (hY : yC.1 t = (7, 0)) : ∀ (v1 : Int32) (mem : g_M) (H : Heap) (locs : List Loc) (ls : Array Slot), g_At D aC B yC 69 mem s.heap H locs → lv_has ls 2 [(0, .ref (B + t)), (1, .int v1)] → f7_giveOwn_b2 F t v1 mem = some q0 → W p l e (g_rm 1) s m args below meth c H locs 0 0 (g_MQ below D aC B yC 69 args s none q0) (F0 m 2 ls []) := by
  have key : ∀ (nn : Nat) (x : Int32 × g_M) (H : Heap) (locs : List Loc) (ls : Array Slot), g_At D aC B yC 69 x.2 s.heap H locs → lv_has ls 2 [(0, .ref (B + t)), (1, .int x.1)] → g_fix (fun sf x => f7_giveOwn_b2_body F t (fun v1 mem => sf (v1, mem)) x.1 x.2) nn x = some q0 → W p l e (g_rm 1) s m args below meth c H locs 0 0 (g_MQ below D aC B yC 69 args s none q0) (F0 m 2 ls []) := by
    intro nn
    induction nn with
    | zero => intro x H locs ls hM hl he; simp [g_fix] at he
    | succ nn ih =>
      intro x H locs ls hM hl he
      exact w7_giveOwn_b2_body (F := F) (t := t) E hml hret hlk ht hY (fun v1 mem H locs ls hM hl he => ih (v1, mem) H locs ls hM hl he) x.1 x.2 H locs ls hM hl he
  intro v1 mem H locs ls hM hl he
  exact key F (v1, mem) H locs ls hM hl he

set_option maxHeartbeats 4000000 in
set_option maxRecDepth 100000 in
theorem c7_giveOwn (l : Launch) (D : va_G) (aC : Nat → ClassId) (B : Nat) {F : Nat} {t : Nat} (ht : t < 69) (hY : yC.1 t = (7, 0)) {mem : g_M} {q0 : g_M} (he : f7_giveOwn F t mem = some q0) : g_Met l yX7_giveOwn cX7_giveOwn 2 none 1 D aC B yC 69 mem [.ref (B + t)] none q0 := by
  refine g_ofW (by decide) (Nat.le_of_ble_eq_true rfl) ?_
  intro p e s m args below meth c ls E hml hret hlk hM hl
  have E : g_C p s m args c cX7_giveOwn RX7 D aC (g_Zs (g_A B 69)) := E
  have hx := E.1
  have hb := E.2.1
  have hown := E.2.2.1
  have hts := E.2.2.2.1
  have hl : lv_has ls 2 [(0, .ref (B + t))] := hl
  unfold f7_giveOwn at he
  refine lv_iconst (v := (0 : Int32)) hx hb dX7_giveOwn_0 rfl ?_
  refine lv_istore_n (lv' := [(1, .int (0 : Int32)), (0, .ref (B + t))]) hx hb dX7_giveOwn_1 rfl hl (by decide) rfl (fun ls hl => ?_)
  exact w7_giveOwn_b2 (F := F) (t := t) E hml hret hlk ht hY _ _ _ _ _ hM (lv_sub hl [1, 0] rfl) he

set_option maxHeartbeats 4000000 in
set_option maxRecDepth 100000 in
theorem w7_begin_b89_body (E : g_C p s m args c cX7_begin RX7 D aC (g_Zs (g_A B 69))) (hml : c.maxLocals = 3) (hret : meth.sig.returnType = none) (hlk : meth.locks = false) {F : Nat} {q0 : g_M} {t : Nat} {a1 : Nat} (ht : t < 69) (hY : yC.1 t = (7, 0)) (ha1 : a1 < 69) (hYa1 : yC.1 a1 = (9, 0)) {s89 : Int32 → g_M → Option (g_M)} (hs89 : ∀ (v2 : Int32) (mem : g_M) (H : Heap) (locs : List Loc) (ls : Array Slot), g_At D aC B yC 69 mem s.heap H locs → lv_has ls 3 [(0, .ref (B + t)), (2, .int v2)] → s89 v2 mem = some q0 → W p l e (g_rm 2) s m args below meth c H locs 0 0 (g_MQ below D aC B yC 69 args s none q0) (F0 m 89 ls [])) : ∀ (v2 : Int32) (mem : g_M) (H : Heap) (locs : List Loc) (ls : Array Slot), g_At D aC B yC 69 mem s.heap H locs → lv_has ls 3 [(0, .ref (B + t)), (2, .int v2)] → f7_begin_b89_body F t a1 s89 v2 mem = some q0 → W p l e (g_rm 2) s m args below meth c H locs 0 0 (g_MQ below D aC B yC 69 args s none q0) (F0 m 89 ls []) := by
  intro v2 mem H locs ls hM hl he
  unfold f7_begin_b89_body at he
  have hx := E.1
  have hb := E.2.1
  have hown := E.2.2.1
  have hts := E.2.2.2.1
  refine lv_iload_n hx hb dX7_begin_89 rfl (lv_at hl 1 rfl) ?_
  refine lv_bipush (v := (8 : Int32)) hx hb dX7_begin_90 rfl ?_
  refine lv_icmp_ge (tgt := 108) hx hb dX7_begin_92 (by decide) (fun h1 => ?_) (fun h1 => ?_)
  · rw [if_neg (Int32.not_lt.mpr h1)] at he
    refine lv_aload_n hx hb dX7_begin_108 rfl (lv_at hl 0 rfl) ?_
    obtain ⟨r5, hcr5, he⟩ := g_bind he
    refine g_callV [] (rest := []) E hml hl.1 hM cv_X7_58 (c7_giveOwn l D aC B ht hY hcr5) (o := t) ht hY (by decide) rfl rfl (Nat.le_of_ble_eq_true rfl) dX7_begin_109 (fun H locs hM => ?_)
    refine W.eq (g2 := F0 m 112 ls []) rfl ?_
    cases he
    exact g_vret E hM hret hlk dX7_begin_112
  · rw [if_pos (Int32.not_le.mp h1)] at he
    refine lv_aload_n hx hb dX7_begin_95 rfl (lv_at hl 0 rfl) ?_
    refine g_getP E hM (o := t) ht hY fl_X7_37 (q := (t + 5)) (pt_7_9 t ht hY).1 dX7_begin_96 ?_
    refine lv_iload_n hx hb dX7_begin_99 rfl (lv_at hl 1 rfl) ?_
    refine lv_iconst (v := (0 : Int32)) hx hb dX7_begin_100 rfl ?_
    obtain ⟨h2, he⟩ := g_ck_some he
    refine g_iast E hM (o := (t + 5)) (pt_7_9 t ht hY).2.1 (pt_7_9 t ht hY).2.2 h2 dX7_begin_101 (fun H locs hM => ?_)
    obtain ⟨m3, hm3, he⟩ := g_let_ex he
    rw [← hm3] at hM
    obtain ⟨x4, hx4, he⟩ := g_let_ex he
    refine lv_iinc (v := x4) (lv' := [(2, .int x4), (0, .ref (B + t))]) hx hb dX7_begin_102 hl (k := 1) rfl (by rw [hx4]; rfl) (by decide) rfl (fun ls hl => ?_)
    refine lv_goto (tgt := 89) hx hb dX7_begin_105 (by decide) ?_
    exact hs89 _ _ _ _ _ hM (lv_sub hl [1, 0] rfl) he

set_option maxHeartbeats 4000000 in
set_option maxRecDepth 100000 in
theorem w7_begin_b89 (E : g_C p s m args c cX7_begin RX7 D aC (g_Zs (g_A B 69))) (hml : c.maxLocals = 3) (hret : meth.sig.returnType = none) (hlk : meth.locks = false) {F : Nat} {q0 : g_M} {t : Nat} {a1 : Nat} (ht : t < 69) (hY : yC.1 t = (7, 0)) (ha1 : a1 < 69) (hYa1 : yC.1 a1 = (9, 0)) : ∀ (v2 : Int32) (mem : g_M) (H : Heap) (locs : List Loc) (ls : Array Slot), g_At D aC B yC 69 mem s.heap H locs → lv_has ls 3 [(0, .ref (B + t)), (2, .int v2)] → f7_begin_b89 F t a1 v2 mem = some q0 → W p l e (g_rm 2) s m args below meth c H locs 0 0 (g_MQ below D aC B yC 69 args s none q0) (F0 m 89 ls []) := by
  have key : ∀ (nn : Nat) (x : Int32 × g_M) (H : Heap) (locs : List Loc) (ls : Array Slot), g_At D aC B yC 69 x.2 s.heap H locs → lv_has ls 3 [(0, .ref (B + t)), (2, .int x.1)] → g_fix (fun sf x => f7_begin_b89_body F t a1 (fun v2 mem => sf (v2, mem)) x.1 x.2) nn x = some q0 → W p l e (g_rm 2) s m args below meth c H locs 0 0 (g_MQ below D aC B yC 69 args s none q0) (F0 m 89 ls []) := by
    intro nn
    induction nn with
    | zero => intro x H locs ls hM hl he; simp [g_fix] at he
    | succ nn ih =>
      intro x H locs ls hM hl he
      exact w7_begin_b89_body (F := F) (t := t) (a1 := a1) E hml hret hlk ht hY ha1 hYa1 (fun v2 mem H locs ls hM hl he => ih (v2, mem) H locs ls hM hl he) x.1 x.2 H locs ls hM hl he
  intro v2 mem H locs ls hM hl he
  exact key F (v2, mem) H locs ls hM hl he

set_option maxHeartbeats 4000000 in
set_option maxRecDepth 100000 in
theorem w7_begin_b65_body (E : g_C p s m args c cX7_begin RX7 D aC (g_Zs (g_A B 69))) (hml : c.maxLocals = 3) (hret : meth.sig.returnType = none) (hlk : meth.locks = false) {F : Nat} {q0 : g_M} {t : Nat} {a1 : Nat} (ht : t < 69) (hY : yC.1 t = (7, 0)) (ha1 : a1 < 69) (hYa1 : yC.1 a1 = (9, 0)) {s65 : Int32 → g_M → Option (g_M)} (hs65 : ∀ (v2 : Int32) (mem : g_M) (H : Heap) (locs : List Loc) (ls : Array Slot), g_At D aC B yC 69 mem s.heap H locs → lv_has ls 3 [(0, .ref (B + t)), (2, .int v2)] → s65 v2 mem = some q0 → W p l e (g_rm 2) s m args below meth c H locs 0 0 (g_MQ below D aC B yC 69 args s none q0) (F0 m 65 ls [])) : ∀ (v2 : Int32) (mem : g_M) (H : Heap) (locs : List Loc) (ls : Array Slot), g_At D aC B yC 69 mem s.heap H locs → lv_has ls 3 [(0, .ref (B + t)), (2, .int v2)] → f7_begin_b65_body F t a1 s65 v2 mem = some q0 → W p l e (g_rm 2) s m args below meth c H locs 0 0 (g_MQ below D aC B yC 69 args s none q0) (F0 m 65 ls []) := by
  intro v2 mem H locs ls hM hl he
  unfold f7_begin_b65_body at he
  have hx := E.1
  have hb := E.2.1
  have hown := E.2.2.1
  have hts := E.2.2.2.1
  refine lv_iload_n hx hb dX7_begin_65 rfl (lv_at hl 1 rfl) ?_
  refine lv_aload_n hx hb dX7_begin_66 rfl (lv_at hl 0 rfl) ?_
  refine g_getP E hM (o := t) ht hY fl_X7_28 (q := (t + 3)) (pt_7_6 t ht hY).1 dX7_begin_67 ?_
  refine g_alenI (v := (25 : Int32)) E hM (o := (t + 3)) (pt_7_6 t ht hY).2.1 (pt_7_6 t ht hY).2.2 rfl dX7_begin_70 ?_
  refine lv_icmp_ge (tgt := 87) hx hb dX7_begin_71 (by decide) (fun h6 => ?_) (fun h6 => ?_)
  · rw [if_neg (Int32.not_lt.mpr h6)] at he
    refine lv_iconst (v := (0 : Int32)) hx hb dX7_begin_87 rfl ?_
    refine lv_istore_n (lv' := [(2, .int (0 : Int32)), (0, .ref (B + t))]) hx hb dX7_begin_88 rfl hl (by decide) rfl (fun ls hl => ?_)
    exact w7_begin_b89 (F := F) (t := t) (a1 := a1) E hml hret hlk ht hY ha1 hYa1 _ _ _ _ _ hM (lv_sub hl [1, 0] rfl) he
  · rw [if_pos (Int32.not_le.mp h6)] at he
    refine lv_aload_n hx hb dX7_begin_74 rfl (lv_at hl 0 rfl) ?_
    refine g_getP E hM (o := t) ht hY fl_X7_28 (q := (t + 3)) (pt_7_6 t ht hY).1 dX7_begin_75 ?_
    refine lv_iload_n hx hb dX7_begin_78 rfl (lv_at hl 1 rfl) ?_
    refine lv_iconst (v := (0 : Int32)) hx hb dX7_begin_79 rfl ?_
    obtain ⟨h7, he⟩ := g_ck_some he
    refine g_iast E hM (o := (t + 3)) (pt_7_6 t ht hY).2.1 (pt_7_6 t ht hY).2.2 h7 dX7_begin_80 (fun H locs hM => ?_)
    obtain ⟨m8, hm8, he⟩ := g_let_ex he
    rw [← hm8] at hM
    obtain ⟨x9, hx9, he⟩ := g_let_ex he
    refine lv_iinc (v := x9) (lv' := [(2, .int x9), (0, .ref (B + t))]) hx hb dX7_begin_81 hl (k := 1) rfl (by rw [hx9]; rfl) (by decide) rfl (fun ls hl => ?_)
    refine lv_goto (tgt := 65) hx hb dX7_begin_84 (by decide) ?_
    exact hs65 _ _ _ _ _ hM (lv_sub hl [1, 0] rfl) he

set_option maxHeartbeats 4000000 in
set_option maxRecDepth 100000 in
theorem w7_begin_b65 (E : g_C p s m args c cX7_begin RX7 D aC (g_Zs (g_A B 69))) (hml : c.maxLocals = 3) (hret : meth.sig.returnType = none) (hlk : meth.locks = false) {F : Nat} {q0 : g_M} {t : Nat} {a1 : Nat} (ht : t < 69) (hY : yC.1 t = (7, 0)) (ha1 : a1 < 69) (hYa1 : yC.1 a1 = (9, 0)) : ∀ (v2 : Int32) (mem : g_M) (H : Heap) (locs : List Loc) (ls : Array Slot), g_At D aC B yC 69 mem s.heap H locs → lv_has ls 3 [(0, .ref (B + t)), (2, .int v2)] → f7_begin_b65 F t a1 v2 mem = some q0 → W p l e (g_rm 2) s m args below meth c H locs 0 0 (g_MQ below D aC B yC 69 args s none q0) (F0 m 65 ls []) := by
  have key : ∀ (nn : Nat) (x : Int32 × g_M) (H : Heap) (locs : List Loc) (ls : Array Slot), g_At D aC B yC 69 x.2 s.heap H locs → lv_has ls 3 [(0, .ref (B + t)), (2, .int x.1)] → g_fix (fun sf x => f7_begin_b65_body F t a1 (fun v2 mem => sf (v2, mem)) x.1 x.2) nn x = some q0 → W p l e (g_rm 2) s m args below meth c H locs 0 0 (g_MQ below D aC B yC 69 args s none q0) (F0 m 65 ls []) := by
    intro nn
    induction nn with
    | zero => intro x H locs ls hM hl he; simp [g_fix] at he
    | succ nn ih =>
      intro x H locs ls hM hl he
      exact w7_begin_b65_body (F := F) (t := t) (a1 := a1) E hml hret hlk ht hY ha1 hYa1 (fun v2 mem H locs ls hM hl he => ih (v2, mem) H locs ls hM hl he) x.1 x.2 H locs ls hM hl he
  intro v2 mem H locs ls hM hl he
  exact key F (v2, mem) H locs ls hM hl he

set_option maxHeartbeats 4000000 in
set_option maxRecDepth 100000 in
theorem c7_begin (l : Launch) (D : va_G) (aC : Nat → ClassId) (B : Nat) {F : Nat} {t : Nat} (ht : t < 69) (hY : yC.1 t = (7, 0)) {a1 : Nat} (ha1 : a1 < 69) (hYa1 : yC.1 a1 = (9, 0)) {mem : g_M} {q0 : g_M} (he : f7_begin F t a1 mem = some q0) : g_Met l yX7_begin cX7_begin 3 none 2 D aC B yC 69 mem [.ref (B + t), .ref (B + a1)] none q0 := by
  refine g_ofW (by decide) (Nat.le_of_ble_eq_true rfl) ?_
  intro p e s m args below meth c ls E hml hret hlk hM hl
  have E : g_C p s m args c cX7_begin RX7 D aC (g_Zs (g_A B 69)) := E
  have hx := E.1
  have hb := E.2.1
  have hown := E.2.2.1
  have hts := E.2.2.2.1
  have hl : lv_has ls 3 [(0, .ref (B + t)), (1, .ref (B + a1))] := hl
  unfold f7_begin at he
  refine lv_aload_n hx hb dX7_begin_0 rfl (lv_at hl 0 rfl) ?_
  refine lv_aload_n hx hb dX7_begin_1 rfl (lv_at hl 1 rfl) ?_
  refine g_putR E hM (o := t) ht hY fp_X7_40 (pn_7_0 t ht hY) dX7_begin_2 (fun H locs hM => ?_)
  obtain ⟨m10, hm10, he⟩ := g_let_ex he
  rw [← hm10] at hM
  refine lv_aload_n hx hb dX7_begin_5 rfl (lv_at hl 0 rfl) ?_
  refine lv_iconst (v := (0 : Int32)) hx hb dX7_begin_6 rfl ?_
  refine g_putI E hM (o := t) ht hY fp_X7_9 dX7_begin_7 (fun H locs hM => ?_)
  obtain ⟨m11, hm11, he⟩ := g_let_ex he
  rw [← hm11] at hM
  refine lv_aload_n hx hb dX7_begin_10 rfl (lv_at hl 0 rfl) ?_
  refine lv_aload_n hx hb dX7_begin_11 rfl (lv_at hl 1 rfl) ?_
  refine g_getI E hM (o := a1) ha1 hYa1 fl_X7_44 dX7_begin_12 ?_
  refine g_putI E hM (o := t) ht hY fp_X7_15 dX7_begin_15 (fun H locs hM => ?_)
  obtain ⟨m12, hm12, he⟩ := g_let_ex he
  rw [← hm12] at hM
  refine lv_aload_n hx hb dX7_begin_18 rfl (lv_at hl 0 rfl) ?_
  refine lv_iconst (v := (0 : Int32)) hx hb dX7_begin_19 rfl ?_
  refine g_putI E hM (o := t) ht hY fp_X7_18 dX7_begin_20 (fun H locs hM => ?_)
  obtain ⟨m13, hm13, he⟩ := g_let_ex he
  rw [← hm13] at hM
  refine lv_aload_n hx hb dX7_begin_23 rfl (lv_at hl 0 rfl) ?_
  refine lv_aload_n hx hb dX7_begin_24 rfl (lv_at hl 1 rfl) ?_
  refine g_getI E hM (o := a1) ha1 hYa1 fl_X7_49 dX7_begin_25 ?_
  refine g_putI E hM (o := t) ht hY fp_X7_31 dX7_begin_28 (fun H locs hM => ?_)
  obtain ⟨m14, hm14, he⟩ := g_let_ex he
  rw [← hm14] at hM
  refine lv_aload_n hx hb dX7_begin_31 rfl (lv_at hl 1 rfl) ?_
  refine g_getP E hM (o := a1) ha1 hYa1 fl_X7_50 (q := (a1 + 3)) (pt_9_2 a1 ha1 hYa1).1 dX7_begin_32 ?_
  refine lv_iconst (v := (0 : Int32)) hx hb dX7_begin_35 rfl ?_
  refine lv_aload_n hx hb dX7_begin_36 rfl (lv_at hl 0 rfl) ?_
  refine g_getP E hM (o := t) ht hY fl_X7_21 (q := (t + 1)) (pt_7_4 t ht hY).1 dX7_begin_37 ?_
  refine lv_iconst (v := (0 : Int32)) hx hb dX7_begin_40 rfl ?_
  refine lv_iconst (v := (5 : Int32)) hx hb dX7_begin_41 rfl ?_
  refine g_copy E (hml.trans hl.1.symm) hM mm_X7_51 kn_copy ks_copy ki_System (o1 := (a1 + 3)) (o2 := (t + 1)) (pt_9_2 a1 ha1 hYa1).2.1 (pt_9_2 a1 ha1 hYa1).2.2 (pt_7_4 t ht hY).2.1 (pt_7_4 t ht hY).2.2 (by decide) (by decide) (by decide) (by decide) (by decide) (Nat.le_of_ble_eq_true rfl) (Nat.le_of_ble_eq_true rfl) dX7_begin_42 (fun H locs hM => ?_)
  obtain ⟨m15, hm15, he⟩ := g_let_ex he
  rw [← hm15] at hM
  refine lv_aload_n hx hb dX7_begin_45 rfl (lv_at hl 1 rfl) ?_
  refine g_getP E hM (o := a1) ha1 hYa1 fl_X7_57 (q := (a1 + 7)) (pt_9_7 a1 ha1 hYa1).1 dX7_begin_46 ?_
  refine lv_iconst (v := (0 : Int32)) hx hb dX7_begin_49 rfl ?_
  refine lv_aload_n hx hb dX7_begin_50 rfl (lv_at hl 0 rfl) ?_
  refine g_getP E hM (o := t) ht hY fl_X7_34 (q := (t + 4)) (pt_7_8 t ht hY).1 dX7_begin_51 ?_
  refine lv_iconst (v := (0 : Int32)) hx hb dX7_begin_54 rfl ?_
  refine lv_aload_n hx hb dX7_begin_55 rfl (lv_at hl 0 rfl) ?_
  refine g_getP E hM (o := t) ht hY fl_X7_34 (q := (t + 4)) (pt_7_8 t ht hY).1 dX7_begin_56 ?_
  refine g_alenI (v := (48 : Int32)) E hM (o := (t + 4)) (pt_7_8 t ht hY).2.1 (pt_7_8 t ht hY).2.2 rfl dX7_begin_59 ?_
  refine g_copy E (hml.trans hl.1.symm) hM mm_X7_51 kn_copy ks_copy ki_System (o1 := (a1 + 7)) (o2 := (t + 4)) (pt_9_7 a1 ha1 hYa1).2.1 (pt_9_7 a1 ha1 hYa1).2.2 (pt_7_8 t ht hY).2.1 (pt_7_8 t ht hY).2.2 (by decide) (by decide) (by decide) (by decide) (by decide) (Nat.le_of_ble_eq_true rfl) (Nat.le_of_ble_eq_true rfl) dX7_begin_60 (fun H locs hM => ?_)
  obtain ⟨m16, hm16, he⟩ := g_let_ex he
  rw [← hm16] at hM
  refine lv_iconst (v := (0 : Int32)) hx hb dX7_begin_63 rfl ?_
  refine lv_istore_n (lv' := [(2, .int (0 : Int32)), (0, .ref (B + t)), (1, .ref (B + a1))]) hx hb dX7_begin_64 rfl hl (by decide) rfl (fun ls hl => ?_)
  exact w7_begin_b65 (F := F) (t := t) (a1 := a1) E hml hret hlk ht hY ha1 hYa1 _ _ _ _ _ hM (lv_sub hl [1, 0] rfl) he

set_option maxHeartbeats 4000000 in
set_option maxRecDepth 100000 in
theorem c7_copy (l : Launch) (D : va_G) (aC : Nat → ClassId) (B : Nat) {F : Nat} {t : Nat} (ht : t < 69) (hY : yC.1 t = (7, 0)) {a1 : Nat} (ha1 : a1 < 69) (hYa1 : yC.1 a1 = (7, 0)) {mem : g_M} {q0 : g_M} (he : f7_copy F t a1 mem = some q0) : g_Met l yX7_copy cX7_copy 2 none 2 D aC B yC 69 mem [.ref (B + t), .ref (B + a1)] none q0 := by
  refine g_ofW (by decide) (Nat.le_of_ble_eq_true rfl) ?_
  intro p e s m args below meth c ls E hml hret hlk hM hl
  have E : g_C p s m args c cX7_copy RX7 D aC (g_Zs (g_A B 69)) := E
  have hx := E.1
  have hb := E.2.1
  have hown := E.2.2.1
  have hts := E.2.2.2.1
  have hl : lv_has ls 2 [(0, .ref (B + t)), (1, .ref (B + a1))] := hl
  unfold f7_copy at he
  refine lv_aload_n hx hb dX7_copy_0 rfl (lv_at hl 0 rfl) ?_
  refine lv_aload_n hx hb dX7_copy_1 rfl (lv_at hl 1 rfl) ?_
  obtain ⟨q1, hqq1, hq1, hYq1, he⟩ := g_dr_some he
  refine g_getD E hM (o := a1) ha1 hYa1 fl_X7_40 (pn_7_0 a1 ha1 hYa1) hqq1 dX7_copy_2 ?_
  refine g_putR E hM (o := t) ht hY fp_X7_40 (pn_7_0 t ht hY) dX7_copy_5 (fun H locs hM => ?_)
  obtain ⟨m2, hm2, he⟩ := g_let_ex he
  rw [← hm2] at hM
  refine lv_aload_n hx hb dX7_copy_8 rfl (lv_at hl 0 rfl) ?_
  refine lv_aload_n hx hb dX7_copy_9 rfl (lv_at hl 1 rfl) ?_
  refine g_getI E hM (o := a1) ha1 hYa1 fl_X7_9 dX7_copy_10 ?_
  refine g_putI E hM (o := t) ht hY fp_X7_9 dX7_copy_13 (fun H locs hM => ?_)
  obtain ⟨m3, hm3, he⟩ := g_let_ex he
  rw [← hm3] at hM
  refine lv_aload_n hx hb dX7_copy_16 rfl (lv_at hl 0 rfl) ?_
  refine lv_aload_n hx hb dX7_copy_17 rfl (lv_at hl 1 rfl) ?_
  refine g_getI E hM (o := a1) ha1 hYa1 fl_X7_15 dX7_copy_18 ?_
  refine g_putI E hM (o := t) ht hY fp_X7_15 dX7_copy_21 (fun H locs hM => ?_)
  obtain ⟨m4, hm4, he⟩ := g_let_ex he
  rw [← hm4] at hM
  refine lv_aload_n hx hb dX7_copy_24 rfl (lv_at hl 0 rfl) ?_
  refine lv_aload_n hx hb dX7_copy_25 rfl (lv_at hl 1 rfl) ?_
  refine g_getI E hM (o := a1) ha1 hYa1 fl_X7_18 dX7_copy_26 ?_
  refine g_putI E hM (o := t) ht hY fp_X7_18 dX7_copy_29 (fun H locs hM => ?_)
  obtain ⟨m5, hm5, he⟩ := g_let_ex he
  rw [← hm5] at hM
  refine lv_aload_n hx hb dX7_copy_32 rfl (lv_at hl 0 rfl) ?_
  refine lv_aload_n hx hb dX7_copy_33 rfl (lv_at hl 1 rfl) ?_
  refine g_getI E hM (o := a1) ha1 hYa1 fl_X7_31 dX7_copy_34 ?_
  refine g_putI E hM (o := t) ht hY fp_X7_31 dX7_copy_37 (fun H locs hM => ?_)
  obtain ⟨m6, hm6, he⟩ := g_let_ex he
  rw [← hm6] at hM
  refine lv_aload_n hx hb dX7_copy_40 rfl (lv_at hl 1 rfl) ?_
  refine g_getP E hM (o := a1) ha1 hYa1 fl_X7_21 (q := (a1 + 1)) (pt_7_4 a1 ha1 hYa1).1 dX7_copy_41 ?_
  refine lv_iconst (v := (0 : Int32)) hx hb dX7_copy_44 rfl ?_
  refine lv_aload_n hx hb dX7_copy_45 rfl (lv_at hl 0 rfl) ?_
  refine g_getP E hM (o := t) ht hY fl_X7_21 (q := (t + 1)) (pt_7_4 t ht hY).1 dX7_copy_46 ?_
  refine lv_iconst (v := (0 : Int32)) hx hb dX7_copy_49 rfl ?_
  refine lv_aload_n hx hb dX7_copy_50 rfl (lv_at hl 0 rfl) ?_
  refine g_getP E hM (o := t) ht hY fl_X7_21 (q := (t + 1)) (pt_7_4 t ht hY).1 dX7_copy_51 ?_
  refine g_alenI (v := (5 : Int32)) E hM (o := (t + 1)) (pt_7_4 t ht hY).2.1 (pt_7_4 t ht hY).2.2 rfl dX7_copy_54 ?_
  refine g_copy E (hml.trans hl.1.symm) hM mm_X7_51 kn_copy ks_copy ki_System (o1 := (a1 + 1)) (o2 := (t + 1)) (pt_7_4 a1 ha1 hYa1).2.1 (pt_7_4 a1 ha1 hYa1).2.2 (pt_7_4 t ht hY).2.1 (pt_7_4 t ht hY).2.2 (by decide) (by decide) (by decide) (by decide) (by decide) (Nat.le_of_ble_eq_true rfl) (Nat.le_of_ble_eq_true rfl) dX7_copy_55 (fun H locs hM => ?_)
  obtain ⟨m7, hm7, he⟩ := g_let_ex he
  rw [← hm7] at hM
  refine lv_aload_n hx hb dX7_copy_58 rfl (lv_at hl 1 rfl) ?_
  refine g_getP E hM (o := a1) ha1 hYa1 fl_X7_25 (q := (a1 + 2)) (pt_7_5 a1 ha1 hYa1).1 dX7_copy_59 ?_
  refine lv_iconst (v := (0 : Int32)) hx hb dX7_copy_62 rfl ?_
  refine lv_aload_n hx hb dX7_copy_63 rfl (lv_at hl 0 rfl) ?_
  refine g_getP E hM (o := t) ht hY fl_X7_25 (q := (t + 2)) (pt_7_5 t ht hY).1 dX7_copy_64 ?_
  refine lv_iconst (v := (0 : Int32)) hx hb dX7_copy_67 rfl ?_
  refine lv_aload_n hx hb dX7_copy_68 rfl (lv_at hl 0 rfl) ?_
  refine g_getP E hM (o := t) ht hY fl_X7_25 (q := (t + 2)) (pt_7_5 t ht hY).1 dX7_copy_69 ?_
  refine g_alenI (v := (25 : Int32)) E hM (o := (t + 2)) (pt_7_5 t ht hY).2.1 (pt_7_5 t ht hY).2.2 rfl dX7_copy_72 ?_
  refine g_copy E (hml.trans hl.1.symm) hM mm_X7_51 kn_copy ks_copy ki_System (o1 := (a1 + 2)) (o2 := (t + 2)) (pt_7_5 a1 ha1 hYa1).2.1 (pt_7_5 a1 ha1 hYa1).2.2 (pt_7_5 t ht hY).2.1 (pt_7_5 t ht hY).2.2 (by decide) (by decide) (by decide) (by decide) (by decide) (Nat.le_of_ble_eq_true rfl) (Nat.le_of_ble_eq_true rfl) dX7_copy_73 (fun H locs hM => ?_)
  obtain ⟨m8, hm8, he⟩ := g_let_ex he
  rw [← hm8] at hM
  refine lv_aload_n hx hb dX7_copy_76 rfl (lv_at hl 1 rfl) ?_
  refine g_getP E hM (o := a1) ha1 hYa1 fl_X7_28 (q := (a1 + 3)) (pt_7_6 a1 ha1 hYa1).1 dX7_copy_77 ?_
  refine lv_iconst (v := (0 : Int32)) hx hb dX7_copy_80 rfl ?_
  refine lv_aload_n hx hb dX7_copy_81 rfl (lv_at hl 0 rfl) ?_
  refine g_getP E hM (o := t) ht hY fl_X7_28 (q := (t + 3)) (pt_7_6 t ht hY).1 dX7_copy_82 ?_
  refine lv_iconst (v := (0 : Int32)) hx hb dX7_copy_85 rfl ?_
  refine lv_aload_n hx hb dX7_copy_86 rfl (lv_at hl 0 rfl) ?_
  refine g_getP E hM (o := t) ht hY fl_X7_28 (q := (t + 3)) (pt_7_6 t ht hY).1 dX7_copy_87 ?_
  refine g_alenI (v := (25 : Int32)) E hM (o := (t + 3)) (pt_7_6 t ht hY).2.1 (pt_7_6 t ht hY).2.2 rfl dX7_copy_90 ?_
  refine g_copy E (hml.trans hl.1.symm) hM mm_X7_51 kn_copy ks_copy ki_System (o1 := (a1 + 3)) (o2 := (t + 3)) (pt_7_6 a1 ha1 hYa1).2.1 (pt_7_6 a1 ha1 hYa1).2.2 (pt_7_6 t ht hY).2.1 (pt_7_6 t ht hY).2.2 (by decide) (by decide) (by decide) (by decide) (by decide) (Nat.le_of_ble_eq_true rfl) (Nat.le_of_ble_eq_true rfl) dX7_copy_91 (fun H locs hM => ?_)
  obtain ⟨m9, hm9, he⟩ := g_let_ex he
  rw [← hm9] at hM
  refine lv_aload_n hx hb dX7_copy_94 rfl (lv_at hl 1 rfl) ?_
  refine g_getP E hM (o := a1) ha1 hYa1 fl_X7_34 (q := (a1 + 4)) (pt_7_8 a1 ha1 hYa1).1 dX7_copy_95 ?_
  refine lv_iconst (v := (0 : Int32)) hx hb dX7_copy_98 rfl ?_
  refine lv_aload_n hx hb dX7_copy_99 rfl (lv_at hl 0 rfl) ?_
  refine g_getP E hM (o := t) ht hY fl_X7_34 (q := (t + 4)) (pt_7_8 t ht hY).1 dX7_copy_100 ?_
  refine lv_iconst (v := (0 : Int32)) hx hb dX7_copy_103 rfl ?_
  refine lv_aload_n hx hb dX7_copy_104 rfl (lv_at hl 0 rfl) ?_
  refine g_getP E hM (o := t) ht hY fl_X7_34 (q := (t + 4)) (pt_7_8 t ht hY).1 dX7_copy_105 ?_
  refine g_alenI (v := (48 : Int32)) E hM (o := (t + 4)) (pt_7_8 t ht hY).2.1 (pt_7_8 t ht hY).2.2 rfl dX7_copy_108 ?_
  refine g_copy E (hml.trans hl.1.symm) hM mm_X7_51 kn_copy ks_copy ki_System (o1 := (a1 + 4)) (o2 := (t + 4)) (pt_7_8 a1 ha1 hYa1).2.1 (pt_7_8 a1 ha1 hYa1).2.2 (pt_7_8 t ht hY).2.1 (pt_7_8 t ht hY).2.2 (by decide) (by decide) (by decide) (by decide) (by decide) (Nat.le_of_ble_eq_true rfl) (Nat.le_of_ble_eq_true rfl) dX7_copy_109 (fun H locs hM => ?_)
  obtain ⟨m10, hm10, he⟩ := g_let_ex he
  rw [← hm10] at hM
  refine lv_aload_n hx hb dX7_copy_112 rfl (lv_at hl 1 rfl) ?_
  refine g_getP E hM (o := a1) ha1 hYa1 fl_X7_37 (q := (a1 + 5)) (pt_7_9 a1 ha1 hYa1).1 dX7_copy_113 ?_
  refine lv_iconst (v := (0 : Int32)) hx hb dX7_copy_116 rfl ?_
  refine lv_aload_n hx hb dX7_copy_117 rfl (lv_at hl 0 rfl) ?_
  refine g_getP E hM (o := t) ht hY fl_X7_37 (q := (t + 5)) (pt_7_9 t ht hY).1 dX7_copy_118 ?_
  refine lv_iconst (v := (0 : Int32)) hx hb dX7_copy_121 rfl ?_
  refine lv_aload_n hx hb dX7_copy_122 rfl (lv_at hl 0 rfl) ?_
  refine g_getP E hM (o := t) ht hY fl_X7_37 (q := (t + 5)) (pt_7_9 t ht hY).1 dX7_copy_123 ?_
  refine g_alenI (v := (8 : Int32)) E hM (o := (t + 5)) (pt_7_9 t ht hY).2.1 (pt_7_9 t ht hY).2.2 rfl dX7_copy_126 ?_
  refine g_copy E (hml.trans hl.1.symm) hM mm_X7_51 kn_copy ks_copy ki_System (o1 := (a1 + 5)) (o2 := (t + 5)) (pt_7_9 a1 ha1 hYa1).2.1 (pt_7_9 a1 ha1 hYa1).2.2 (pt_7_9 t ht hY).2.1 (pt_7_9 t ht hY).2.2 (by decide) (by decide) (by decide) (by decide) (by decide) (Nat.le_of_ble_eq_true rfl) (Nat.le_of_ble_eq_true rfl) dX7_copy_127 (fun H locs hM => ?_)
  obtain ⟨m11, hm11, he⟩ := g_let_ex he
  rw [← hm11] at hM
  cases he
  exact g_vret E hM hret hlk dX7_copy_130

set_option maxHeartbeats 4000000 in
set_option maxRecDepth 100000 in
theorem c7_putSending (l : Launch) (D : va_G) (aC : Nat → ClassId) (B : Nat) {F : Nat} {t : Nat} (ht : t < 69) (hY : yC.1 t = (7, 0)) {a1 : Int32} {a2 : Int32} {a3 : Int32} {mem : g_M} {q0 : g_M} (he : f7_putSending F t a1 a2 a3 mem = some q0) : g_Met l yX7_putSending cX7_putSending 4 none 2 D aC B yC 69 mem [.ref (B + t), .int a1, .int a2, .int a3] none q0 := by
  refine g_ofW (by decide) (Nat.le_of_ble_eq_true rfl) ?_
  intro p e s m args below meth c ls E hml hret hlk hM hl
  have E : g_C p s m args c cX7_putSending RX7 D aC (g_Zs (g_A B 69)) := E
  have hx := E.1
  have hb := E.2.1
  have hown := E.2.2.1
  have hts := E.2.2.2.1
  have hl : lv_has ls 4 [(0, .ref (B + t)), (1, .int a1), (2, .int a2), (3, .int a3)] := hl
  unfold f7_putSending at he
  refine lv_aload_n hx hb dX7_putSending_0 rfl (lv_at hl 0 rfl) ?_
  refine lv_aload_n hx hb dX7_putSending_1 rfl (lv_at hl 0 rfl) ?_
  refine g_getI E hM (o := t) ht hY fl_X7_31 dX7_putSending_2 ?_
  refine lv_iconst (v := (0 : Int32)) hx hb dX7_putSending_5 rfl ?_
  refine lv_iload_n hx hb dX7_putSending_6 rfl (lv_at hl 1 rfl) ?_
  obtain ⟨r1, hcr1, he⟩ := g_bind he
  refine g_callV [.int (mem.1 t 7), .int (0 : Int32), .int a1] (rest := []) E hml hl.1 hM cv_X7_61 (c7_setSending l D aC B ht hY hcr1) (o := t) ht hY (by decide) rfl rfl (Nat.le_of_ble_eq_true rfl) dX7_putSending_7 (fun H locs hM => ?_)
  refine W.eq (g2 := F0 m 10 ls []) rfl ?_
  refine lv_aload_n hx hb dX7_putSending_10 rfl (lv_at hl 0 rfl) ?_
  refine lv_aload_n hx hb dX7_putSending_11 rfl (lv_at hl 0 rfl) ?_
  refine g_getI E hM (o := t) ht hY fl_X7_31 dX7_putSending_12 ?_
  refine lv_iconst (v := (1 : Int32)) hx hb dX7_putSending_15 rfl ?_
  refine lv_iload_n hx hb dX7_putSending_16 rfl (lv_at hl 2 rfl) ?_
  obtain ⟨r2, hcr2, he⟩ := g_bind he
  refine g_callV [.int (r1.1 t 7), .int (1 : Int32), .int a2] (rest := []) E hml hl.1 hM cv_X7_61 (c7_setSending l D aC B ht hY hcr2) (o := t) ht hY (by decide) rfl rfl (Nat.le_of_ble_eq_true rfl) dX7_putSending_17 (fun H locs hM => ?_)
  refine W.eq (g2 := F0 m 20 ls []) rfl ?_
  refine lv_aload_n hx hb dX7_putSending_20 rfl (lv_at hl 0 rfl) ?_
  refine lv_aload_n hx hb dX7_putSending_21 rfl (lv_at hl 0 rfl) ?_
  refine g_getI E hM (o := t) ht hY fl_X7_31 dX7_putSending_22 ?_
  refine lv_iconst (v := (2 : Int32)) hx hb dX7_putSending_25 rfl ?_
  refine lv_iload_n hx hb dX7_putSending_26 rfl (lv_at hl 3 rfl) ?_
  obtain ⟨r3, hcr3, he⟩ := g_bind he
  refine g_callV [.int (r2.1 t 7), .int (2 : Int32), .int a3] (rest := []) E hml hl.1 hM cv_X7_61 (c7_setSending l D aC B ht hY hcr3) (o := t) ht hY (by decide) rfl rfl (Nat.le_of_ble_eq_true rfl) dX7_putSending_27 (fun H locs hM => ?_)
  refine W.eq (g2 := F0 m 30 ls []) rfl ?_
  refine lv_aload_n hx hb dX7_putSending_30 rfl (lv_at hl 0 rfl) ?_
  refine lv_aload_n hx hb dX7_putSending_31 rfl (lv_at hl 0 rfl) ?_
  refine g_getI E hM (o := t) ht hY fl_X7_31 dX7_putSending_32 ?_
  refine lv_iconst (v := (3 : Int32)) hx hb dX7_putSending_35 rfl ?_
  refine lv_iconst (v := (0 : Int32)) hx hb dX7_putSending_36 rfl ?_
  obtain ⟨r4, hcr4, he⟩ := g_bind he
  refine g_callV [.int (r3.1 t 7), .int (3 : Int32), .int (0 : Int32)] (rest := []) E hml hl.1 hM cv_X7_61 (c7_setSending l D aC B ht hY hcr4) (o := t) ht hY (by decide) rfl rfl (Nat.le_of_ble_eq_true rfl) dX7_putSending_37 (fun H locs hM => ?_)
  refine W.eq (g2 := F0 m 40 ls []) rfl ?_
  refine lv_aload_n hx hb dX7_putSending_40 rfl (lv_at hl 0 rfl) ?_
  refine lv_dup hx hb dX7_putSending_41 rfl ?_
  refine g_getI E hM (o := t) ht hY fl_X7_31 dX7_putSending_42 ?_
  refine lv_iconst (v := (1 : Int32)) hx hb dX7_putSending_45 rfl ?_
  refine lv_iadd hx hb dX7_putSending_46 ?_
  refine g_putI E hM (o := t) ht hY fp_X7_31 dX7_putSending_47 (fun H locs hM => ?_)
  obtain ⟨m5, hm5, he⟩ := g_let_ex he
  rw [← hm5] at hM
  cases he
  exact g_vret E hM hret hlk dX7_putSending_50

set_option maxHeartbeats 4000000 in
set_option maxRecDepth 100000 in
theorem w7_dueSendings_b26 (E : g_C p s m args c cX7_dueSendings RX7 D aC (g_Zs (g_A B 69))) (hml : c.maxLocals = 3) (hret : meth.sig.returnType = (some .int)) (hlk : meth.locks = false) {F : Nat} {q0 : Int32} {t : Nat} (ht : t < 69) (hY : yC.1 t = (7, 0)) {mem : g_M} {s4 : Int32 → Int32 → Option (Int32)} (hs4 : ∀ (v1 : Int32) (v2 : Int32) (H : Heap) (locs : List Loc) (ls : Array Slot), g_At D aC B yC 69 mem s.heap H locs → lv_has ls 3 [(0, .ref (B + t)), (1, .int v1), (2, .int v2)] → s4 v1 v2 = some q0 → W p l e (g_rm 3) s m args below meth c H locs 0 0 (g_MQ below D aC B yC 69 args s (some (.int q0)) mem) (F0 m 4 ls [])) : ∀ (v1 : Int32) (v2 : Int32) (H : Heap) (locs : List Loc) (ls : Array Slot), g_At D aC B yC 69 mem s.heap H locs → lv_has ls 3 [(0, .ref (B + t)), (1, .int v1), (2, .int v2)] → f7_dueSendings_b26 F t s4 mem v1 v2 = some q0 → W p l e (g_rm 3) s m args below meth c H locs 0 0 (g_MQ below D aC B yC 69 args s (some (.int q0)) mem) (F0 m 26 ls []) := by
  intro v1 v2 H locs ls hM hl he
  unfold f7_dueSendings_b26 at he
  have hx := E.1
  have hb := E.2.1
  have hown := E.2.2.1
  have hts := E.2.2.2.1
  obtain ⟨x1, hx1, he⟩ := g_let_ex he
  refine lv_iinc (v := x1) (lv' := [(2, .int x1), (0, .ref (B + t)), (1, .int v1)]) hx hb dX7_dueSendings_26 hl (k := 2) rfl (by rw [hx1]; rfl) (by decide) rfl (fun ls hl => ?_)
  refine lv_goto (tgt := 4) hx hb dX7_dueSendings_29 (by decide) ?_
  exact hs4 _ _ _ _ _ hM (lv_sub hl [1, 2, 0] rfl) he

set_option maxHeartbeats 4000000 in
set_option maxRecDepth 100000 in
theorem w7_dueSendings_b4_body (E : g_C p s m args c cX7_dueSendings RX7 D aC (g_Zs (g_A B 69))) (hml : c.maxLocals = 3) (hret : meth.sig.returnType = (some .int)) (hlk : meth.locks = false) {F : Nat} {q0 : Int32} {t : Nat} (ht : t < 69) (hY : yC.1 t = (7, 0)) {mem : g_M} {s4 : Int32 → Int32 → Option (Int32)} (hs4 : ∀ (v1 : Int32) (v2 : Int32) (H : Heap) (locs : List Loc) (ls : Array Slot), g_At D aC B yC 69 mem s.heap H locs → lv_has ls 3 [(0, .ref (B + t)), (1, .int v1), (2, .int v2)] → s4 v1 v2 = some q0 → W p l e (g_rm 3) s m args below meth c H locs 0 0 (g_MQ below D aC B yC 69 args s (some (.int q0)) mem) (F0 m 4 ls [])) : ∀ (v1 : Int32) (v2 : Int32) (H : Heap) (locs : List Loc) (ls : Array Slot), g_At D aC B yC 69 mem s.heap H locs → lv_has ls 3 [(0, .ref (B + t)), (1, .int v1), (2, .int v2)] → f7_dueSendings_b4_body F t s4 mem v1 v2 = some q0 → W p l e (g_rm 3) s m args below meth c H locs 0 0 (g_MQ below D aC B yC 69 args s (some (.int q0)) mem) (F0 m 4 ls []) := by
  intro v1 v2 H locs ls hM hl he
  unfold f7_dueSendings_b4_body at he
  have hx := E.1
  have hb := E.2.1
  have hown := E.2.2.1
  have hts := E.2.2.2.1
  refine lv_iload_n hx hb dX7_dueSendings_4 rfl (lv_at hl 2 rfl) ?_
  refine lv_aload_n hx hb dX7_dueSendings_5 rfl (lv_at hl 0 rfl) ?_
  refine g_getI E hM (o := t) ht hY fl_X7_31 dX7_dueSendings_6 ?_
  refine lv_icmp_ge (tgt := 32) hx hb dX7_dueSendings_9 (by decide) (fun h2 => ?_) (fun h2 => ?_)
  · rw [if_neg (Int32.not_lt.mpr h2)] at he
    refine lv_iload_n hx hb dX7_dueSendings_32 rfl (lv_at hl 1 rfl) ?_
    cases he
    exact g_iret E hM hret hlk dX7_dueSendings_33
  · rw [if_pos (Int32.not_le.mp h2)] at he
    refine lv_aload_n hx hb dX7_dueSendings_12 rfl (lv_at hl 0 rfl) ?_
    refine lv_iload_n hx hb dX7_dueSendings_13 rfl (lv_at hl 2 rfl) ?_
    obtain ⟨r3, hcr3, he⟩ := g_bind he
    refine g_callV [.int v2] (rest := []) E hml hl.1 hM cv_X7_69 (c7_isDue l D aC B ht hY hcr3) (o := t) ht hY (by decide) rfl rfl (Nat.le_of_ble_eq_true rfl) dX7_dueSendings_14 (fun H locs hM => ?_)
    refine W.eq (g2 := F0 m 17 ls [.int r3]) rfl ?_
    refine lv_if_eq (tgt := 26) hx hb dX7_dueSendings_17 (by decide) (fun h4 => ?_) (fun h4 => ?_)
    · rw [if_pos h4] at he
      exact w7_dueSendings_b26 (F := F) (t := t) E hml hret hlk ht hY hs4 _ _ _ _ _ hM (lv_sub hl [0, 1, 2] rfl) he
    · rw [if_neg h4] at he
      refine lv_iload_n hx hb dX7_dueSendings_20 rfl (lv_at hl 1 rfl) ?_
      refine lv_iconst (v := (1 : Int32)) hx hb dX7_dueSendings_21 rfl ?_
      refine lv_iload_n hx hb dX7_dueSendings_22 rfl (lv_at hl 2 rfl) ?_
      refine lv_ishl hx hb dX7_dueSendings_23 ?_
      refine lv_ior hx hb dX7_dueSendings_24 ?_
      obtain ⟨x5, hx5, he⟩ := g_let_ex he
      refine g_topI hx5 ?_
      refine lv_istore_n (lv' := [(1, .int x5), (0, .ref (B + t)), (2, .int v2)]) hx hb dX7_dueSendings_25 rfl hl (by decide) rfl (fun ls hl => ?_)
      exact w7_dueSendings_b26 (F := F) (t := t) E hml hret hlk ht hY hs4 _ _ _ _ _ hM (lv_sub hl [1, 0, 2] rfl) he

set_option maxHeartbeats 4000000 in
set_option maxRecDepth 100000 in
theorem w7_dueSendings_b4 (E : g_C p s m args c cX7_dueSendings RX7 D aC (g_Zs (g_A B 69))) (hml : c.maxLocals = 3) (hret : meth.sig.returnType = (some .int)) (hlk : meth.locks = false) {F : Nat} {q0 : Int32} {t : Nat} (ht : t < 69) (hY : yC.1 t = (7, 0)) {mem : g_M} : ∀ (v1 : Int32) (v2 : Int32) (H : Heap) (locs : List Loc) (ls : Array Slot), g_At D aC B yC 69 mem s.heap H locs → lv_has ls 3 [(0, .ref (B + t)), (1, .int v1), (2, .int v2)] → f7_dueSendings_b4 F t mem v1 v2 = some q0 → W p l e (g_rm 3) s m args below meth c H locs 0 0 (g_MQ below D aC B yC 69 args s (some (.int q0)) mem) (F0 m 4 ls []) := by
  have key : ∀ (nn : Nat) (x : Int32 × Int32) (H : Heap) (locs : List Loc) (ls : Array Slot), g_At D aC B yC 69 mem s.heap H locs → lv_has ls 3 [(0, .ref (B + t)), (1, .int x.1), (2, .int x.2)] → g_fix (fun sf x => f7_dueSendings_b4_body F t (fun v1 v2 => sf (v1, v2)) mem x.1 x.2) nn x = some q0 → W p l e (g_rm 3) s m args below meth c H locs 0 0 (g_MQ below D aC B yC 69 args s (some (.int q0)) mem) (F0 m 4 ls []) := by
    intro nn
    induction nn with
    | zero => intro x H locs ls hM hl he; simp [g_fix] at he
    | succ nn ih =>
      intro x H locs ls hM hl he
      exact w7_dueSendings_b4_body (F := F) (t := t) E hml hret hlk ht hY (fun v1 v2 H locs ls hM hl he => ih (v1, v2) H locs ls hM hl he) x.1 x.2 H locs ls hM hl he
  intro v1 v2 H locs ls hM hl he
  exact key F (v1, v2) H locs ls hM hl he

set_option maxHeartbeats 4000000 in
set_option maxRecDepth 100000 in
theorem c7_dueSendings (l : Launch) (D : va_G) (aC : Nat → ClassId) (B : Nat) {F : Nat} {t : Nat} (ht : t < 69) (hY : yC.1 t = (7, 0)) {mem : g_M} {q0 : Int32} (he : f7_dueSendings F t mem = some q0) : g_Met l yX7_dueSendings cX7_dueSendings 3 (some .int) 3 D aC B yC 69 mem [.ref (B + t)] (some (.int q0)) mem := by
  refine g_ofW (by decide) (Nat.le_of_ble_eq_true rfl) ?_
  intro p e s m args below meth c ls E hml hret hlk hM hl
  have E : g_C p s m args c cX7_dueSendings RX7 D aC (g_Zs (g_A B 69)) := E
  have hx := E.1
  have hb := E.2.1
  have hown := E.2.2.1
  have hts := E.2.2.2.1
  have hl : lv_has ls 3 [(0, .ref (B + t))] := hl
  unfold f7_dueSendings at he
  refine lv_iconst (v := (0 : Int32)) hx hb dX7_dueSendings_0 rfl ?_
  refine lv_istore_n (lv' := [(1, .int (0 : Int32)), (0, .ref (B + t))]) hx hb dX7_dueSendings_1 rfl hl (by decide) rfl (fun ls hl => ?_)
  refine lv_iconst (v := (0 : Int32)) hx hb dX7_dueSendings_2 rfl ?_
  refine lv_istore_n (lv' := [(2, .int (0 : Int32)), (1, .int (0 : Int32)), (0, .ref (B + t))]) hx hb dX7_dueSendings_3 rfl hl (by decide) rfl (fun ls hl => ?_)
  exact w7_dueSendings_b4 (F := F) (t := t) E hml hret hlk ht hY _ _ _ _ _ hM (lv_sub hl [2, 1, 0] rfl) he

set_option maxHeartbeats 4000000 in
set_option maxRecDepth 100000 in
theorem w7_sendingsGone_b28 (E : g_C p s m args c cX7_sendingsGone RX7 D aC (g_Zs (g_A B 69))) (hml : c.maxLocals = 3) (hret : meth.sig.returnType = (some .int)) (hlk : meth.locks = false) {F : Nat} {q0 : Int32} {t : Nat} (ht : t < 69) (hY : yC.1 t = (7, 0)) {mem : g_M} {s4 : Int32 → Int32 → Option (Int32)} (hs4 : ∀ (v1 : Int32) (v2 : Int32) (H : Heap) (locs : List Loc) (ls : Array Slot), g_At D aC B yC 69 mem s.heap H locs → lv_has ls 3 [(0, .ref (B + t)), (1, .int v1), (2, .int v2)] → s4 v1 v2 = some q0 → W p l e (g_rm 2) s m args below meth c H locs 0 0 (g_MQ below D aC B yC 69 args s (some (.int q0)) mem) (F0 m 4 ls [])) : ∀ (v2 : Int32) (w0 : Int32) (w1 : Int32) (H : Heap) (locs : List Loc) (ls : Array Slot), g_At D aC B yC 69 mem s.heap H locs → lv_has ls 3 [(0, .ref (B + t)), (2, .int v2)] → f7_sendingsGone_b28 F t s4 mem v2 w0 w1 = some q0 → W p l e (g_rm 2) s m args below meth c H locs 0 0 (g_MQ below D aC B yC 69 args s (some (.int q0)) mem) (F0 m 28 ls [.int w1, .int w0]) := by
  intro v2 w0 w1 H locs ls hM hl he
  unfold f7_sendingsGone_b28 at he
  have hx := E.1
  have hb := E.2.1
  have hown := E.2.2.1
  have hts := E.2.2.2.1
  refine lv_iadd hx hb dX7_sendingsGone_28 ?_
  obtain ⟨x1, hx1, he⟩ := g_let_ex he
  refine g_topI hx1 ?_
  refine lv_istore_n (lv' := [(1, .int x1), (0, .ref (B + t)), (2, .int v2)]) hx hb dX7_sendingsGone_29 rfl hl (by decide) rfl (fun ls hl => ?_)
  obtain ⟨x2, hx2, he⟩ := g_let_ex he
  refine lv_iinc (v := x2) (lv' := [(2, .int x2), (1, .int x1), (0, .ref (B + t))]) hx hb dX7_sendingsGone_30 hl (k := 2) rfl (by rw [hx2]; rfl) (by decide) rfl (fun ls hl => ?_)
  refine lv_goto (tgt := 4) hx hb dX7_sendingsGone_33 (by decide) ?_
  exact hs4 _ _ _ _ _ hM (lv_sub hl [2, 1, 0] rfl) he

set_option maxHeartbeats 4000000 in
set_option maxRecDepth 100000 in
theorem w7_sendingsGone_b4_body (E : g_C p s m args c cX7_sendingsGone RX7 D aC (g_Zs (g_A B 69))) (hml : c.maxLocals = 3) (hret : meth.sig.returnType = (some .int)) (hlk : meth.locks = false) {F : Nat} {q0 : Int32} {t : Nat} (ht : t < 69) (hY : yC.1 t = (7, 0)) {mem : g_M} {s4 : Int32 → Int32 → Option (Int32)} (hs4 : ∀ (v1 : Int32) (v2 : Int32) (H : Heap) (locs : List Loc) (ls : Array Slot), g_At D aC B yC 69 mem s.heap H locs → lv_has ls 3 [(0, .ref (B + t)), (1, .int v1), (2, .int v2)] → s4 v1 v2 = some q0 → W p l e (g_rm 2) s m args below meth c H locs 0 0 (g_MQ below D aC B yC 69 args s (some (.int q0)) mem) (F0 m 4 ls [])) : ∀ (v1 : Int32) (v2 : Int32) (H : Heap) (locs : List Loc) (ls : Array Slot), g_At D aC B yC 69 mem s.heap H locs → lv_has ls 3 [(0, .ref (B + t)), (1, .int v1), (2, .int v2)] → f7_sendingsGone_b4_body F t s4 mem v1 v2 = some q0 → W p l e (g_rm 2) s m args below meth c H locs 0 0 (g_MQ below D aC B yC 69 args s (some (.int q0)) mem) (F0 m 4 ls []) := by
  intro v1 v2 H locs ls hM hl he
  unfold f7_sendingsGone_b4_body at he
  have hx := E.1
  have hb := E.2.1
  have hown := E.2.2.1
  have hts := E.2.2.2.1
  refine lv_iload_n hx hb dX7_sendingsGone_4 rfl (lv_at hl 2 rfl) ?_
  refine lv_aload_n hx hb dX7_sendingsGone_5 rfl (lv_at hl 0 rfl) ?_
  refine g_getI E hM (o := t) ht hY fl_X7_31 dX7_sendingsGone_6 ?_
  refine lv_icmp_ge (tgt := 36) hx hb dX7_sendingsGone_9 (by decide) (fun h3 => ?_) (fun h3 => ?_)
  · rw [if_neg (Int32.not_lt.mpr h3)] at he
    refine lv_iload_n hx hb dX7_sendingsGone_36 rfl (lv_at hl 1 rfl) ?_
    cases he
    exact g_iret E hM hret hlk dX7_sendingsGone_37
  · rw [if_pos (Int32.not_le.mp h3)] at he
    refine lv_iload_n hx hb dX7_sendingsGone_12 rfl (lv_at hl 1 rfl) ?_
    refine lv_aload_n hx hb dX7_sendingsGone_13 rfl (lv_at hl 0 rfl) ?_
    refine lv_iload_n hx hb dX7_sendingsGone_14 rfl (lv_at hl 2 rfl) ?_
    refine lv_iconst (v := (3 : Int32)) hx hb dX7_sendingsGone_15 rfl ?_
    obtain ⟨r4, hcr4, he⟩ := g_bind he
    refine g_callV [.int v2, .int (3 : Int32)] (rest := [.int v1]) E hml hl.1 hM cv_X7_65 (c7_sendingAt l D aC B ht hY hcr4) (o := t) ht hY (by decide) rfl rfl (Nat.le_of_ble_eq_true rfl) dX7_sendingsGone_16 (fun H locs hM => ?_)
    refine W.eq (g2 := F0 m 19 ls [.int r4, .int v1]) rfl ?_
    refine lv_iconst (v := (1 : Int32)) hx hb dX7_sendingsGone_19 rfl ?_
    refine lv_icmp_ne (tgt := 27) hx hb dX7_sendingsGone_20 (by decide) (fun h5 => ?_) (fun h5 => ?_)
    · rw [if_neg h5] at he
      refine lv_iconst (v := (0 : Int32)) hx hb dX7_sendingsGone_27 rfl ?_
      exact w7_sendingsGone_b28 (F := F) (t := t) E hml hret hlk ht hY hs4 _ _ _ _ _ _ hM (lv_sub hl [0, 2] rfl) he
    · rw [if_pos h5] at he
      refine lv_iconst (v := (1 : Int32)) hx hb dX7_sendingsGone_23 rfl ?_
      refine lv_goto (tgt := 28) hx hb dX7_sendingsGone_24 (by decide) ?_
      exact w7_sendingsGone_b28 (F := F) (t := t) E hml hret hlk ht hY hs4 _ _ _ _ _ _ hM (lv_sub hl [0, 2] rfl) he

set_option maxHeartbeats 4000000 in
set_option maxRecDepth 100000 in
theorem w7_sendingsGone_b4 (E : g_C p s m args c cX7_sendingsGone RX7 D aC (g_Zs (g_A B 69))) (hml : c.maxLocals = 3) (hret : meth.sig.returnType = (some .int)) (hlk : meth.locks = false) {F : Nat} {q0 : Int32} {t : Nat} (ht : t < 69) (hY : yC.1 t = (7, 0)) {mem : g_M} : ∀ (v1 : Int32) (v2 : Int32) (H : Heap) (locs : List Loc) (ls : Array Slot), g_At D aC B yC 69 mem s.heap H locs → lv_has ls 3 [(0, .ref (B + t)), (1, .int v1), (2, .int v2)] → f7_sendingsGone_b4 F t mem v1 v2 = some q0 → W p l e (g_rm 2) s m args below meth c H locs 0 0 (g_MQ below D aC B yC 69 args s (some (.int q0)) mem) (F0 m 4 ls []) := by
  have key : ∀ (nn : Nat) (x : Int32 × Int32) (H : Heap) (locs : List Loc) (ls : Array Slot), g_At D aC B yC 69 mem s.heap H locs → lv_has ls 3 [(0, .ref (B + t)), (1, .int x.1), (2, .int x.2)] → g_fix (fun sf x => f7_sendingsGone_b4_body F t (fun v1 v2 => sf (v1, v2)) mem x.1 x.2) nn x = some q0 → W p l e (g_rm 2) s m args below meth c H locs 0 0 (g_MQ below D aC B yC 69 args s (some (.int q0)) mem) (F0 m 4 ls []) := by
    intro nn
    induction nn with
    | zero => intro x H locs ls hM hl he; simp [g_fix] at he
    | succ nn ih =>
      intro x H locs ls hM hl he
      exact w7_sendingsGone_b4_body (F := F) (t := t) E hml hret hlk ht hY (fun v1 v2 H locs ls hM hl he => ih (v1, v2) H locs ls hM hl he) x.1 x.2 H locs ls hM hl he
  intro v1 v2 H locs ls hM hl he
  exact key F (v1, v2) H locs ls hM hl he

set_option maxHeartbeats 4000000 in
set_option maxRecDepth 100000 in
theorem c7_sendingsGone (l : Launch) (D : va_G) (aC : Nat → ClassId) (B : Nat) {F : Nat} {t : Nat} (ht : t < 69) (hY : yC.1 t = (7, 0)) {mem : g_M} {q0 : Int32} (he : f7_sendingsGone F t mem = some q0) : g_Met l yX7_sendingsGone cX7_sendingsGone 3 (some .int) 2 D aC B yC 69 mem [.ref (B + t)] (some (.int q0)) mem := by
  refine g_ofW (by decide) (Nat.le_of_ble_eq_true rfl) ?_
  intro p e s m args below meth c ls E hml hret hlk hM hl
  have E : g_C p s m args c cX7_sendingsGone RX7 D aC (g_Zs (g_A B 69)) := E
  have hx := E.1
  have hb := E.2.1
  have hown := E.2.2.1
  have hts := E.2.2.2.1
  have hl : lv_has ls 3 [(0, .ref (B + t))] := hl
  unfold f7_sendingsGone at he
  refine lv_iconst (v := (0 : Int32)) hx hb dX7_sendingsGone_0 rfl ?_
  refine lv_istore_n (lv' := [(1, .int (0 : Int32)), (0, .ref (B + t))]) hx hb dX7_sendingsGone_1 rfl hl (by decide) rfl (fun ls hl => ?_)
  refine lv_iconst (v := (0 : Int32)) hx hb dX7_sendingsGone_2 rfl ?_
  refine lv_istore_n (lv' := [(2, .int (0 : Int32)), (1, .int (0 : Int32)), (0, .ref (B + t))]) hx hb dX7_sendingsGone_3 rfl hl (by decide) rfl (fun ls hl => ?_)
  exact w7_sendingsGone_b4 (F := F) (t := t) E hml hret hlk ht hY _ _ _ _ _ hM (lv_sub hl [2, 1, 0] rfl) he

set_option maxHeartbeats 4000000 in
set_option maxRecDepth 100000 in
theorem w7_ownSorts_b37 (E : g_C p s m args c cX7_ownSorts RX7 D aC (g_Zs (g_A B 69))) (hml : c.maxLocals = 4) (hret : meth.sig.returnType = (some .int)) (hlk : meth.locks = false) {F : Nat} {q0 : Int32} {t : Nat} {a1 : Int32} (ht : t < 69) (hY : yC.1 t = (7, 0)) {mem : g_M} {s4 : Int32 → Int32 → Option (Int32)} (hs4 : ∀ (v2 : Int32) (v3 : Int32) (H : Heap) (locs : List Loc) (ls : Array Slot), g_At D aC B yC 69 mem s.heap H locs → lv_has ls 4 [(0, .ref (B + t)), (1, .int a1), (2, .int v2), (3, .int v3)] → s4 v2 v3 = some q0 → W p l e (g_rm 1) s m args below meth c H locs 0 0 (g_MQ below D aC B yC 69 args s (some (.int q0)) mem) (F0 m 4 ls [])) : ∀ (v2 : Int32) (v3 : Int32) (H : Heap) (locs : List Loc) (ls : Array Slot), g_At D aC B yC 69 mem s.heap H locs → lv_has ls 4 [(0, .ref (B + t)), (1, .int a1), (2, .int v2), (3, .int v3)] → f7_ownSorts_b37 F t a1 s4 mem v2 v3 = some q0 → W p l e (g_rm 1) s m args below meth c H locs 0 0 (g_MQ below D aC B yC 69 args s (some (.int q0)) mem) (F0 m 37 ls []) := by
  intro v2 v3 H locs ls hM hl he
  unfold f7_ownSorts_b37 at he
  have hx := E.1
  have hb := E.2.1
  have hown := E.2.2.1
  have hts := E.2.2.2.1
  obtain ⟨x1, hx1, he⟩ := g_let_ex he
  refine lv_iinc (v := x1) (lv' := [(3, .int x1), (0, .ref (B + t)), (1, .int a1), (2, .int v2)]) hx hb dX7_ownSorts_37 hl (k := 3) rfl (by rw [hx1]; rfl) (by decide) rfl (fun ls hl => ?_)
  refine lv_goto (tgt := 4) hx hb dX7_ownSorts_40 (by decide) ?_
  exact hs4 _ _ _ _ _ hM (lv_sub hl [1, 2, 3, 0] rfl) he

set_option maxHeartbeats 4000000 in
set_option maxRecDepth 100000 in
theorem w7_ownSorts_b4_body (E : g_C p s m args c cX7_ownSorts RX7 D aC (g_Zs (g_A B 69))) (hml : c.maxLocals = 4) (hret : meth.sig.returnType = (some .int)) (hlk : meth.locks = false) {F : Nat} {q0 : Int32} {t : Nat} {a1 : Int32} (ht : t < 69) (hY : yC.1 t = (7, 0)) {mem : g_M} {s4 : Int32 → Int32 → Option (Int32)} (hs4 : ∀ (v2 : Int32) (v3 : Int32) (H : Heap) (locs : List Loc) (ls : Array Slot), g_At D aC B yC 69 mem s.heap H locs → lv_has ls 4 [(0, .ref (B + t)), (1, .int a1), (2, .int v2), (3, .int v3)] → s4 v2 v3 = some q0 → W p l e (g_rm 1) s m args below meth c H locs 0 0 (g_MQ below D aC B yC 69 args s (some (.int q0)) mem) (F0 m 4 ls [])) : ∀ (v2 : Int32) (v3 : Int32) (H : Heap) (locs : List Loc) (ls : Array Slot), g_At D aC B yC 69 mem s.heap H locs → lv_has ls 4 [(0, .ref (B + t)), (1, .int a1), (2, .int v2), (3, .int v3)] → f7_ownSorts_b4_body F t a1 s4 mem v2 v3 = some q0 → W p l e (g_rm 1) s m args below meth c H locs 0 0 (g_MQ below D aC B yC 69 args s (some (.int q0)) mem) (F0 m 4 ls []) := by
  intro v2 v3 H locs ls hM hl he
  unfold f7_ownSorts_b4_body at he
  have hx := E.1
  have hb := E.2.1
  have hown := E.2.2.1
  have hts := E.2.2.2.1
  refine lv_iload_n hx hb dX7_ownSorts_4 rfl (lv_at hl 3 rfl) ?_
  refine lv_aload_n hx hb dX7_ownSorts_5 rfl (lv_at hl 0 rfl) ?_
  obtain ⟨q2, hqq2, hq2, hYq2, he⟩ := g_dr_some he
  refine g_getD E hM (o := t) ht hY fl_X7_40 (pn_7_0 t ht hY) hqq2 dX7_ownSorts_6 ?_
  refine g_getP E hM (o := q2) hq2 hYq2 fl_X7_73 (q := (q2 + 1)) (pt_9_0 q2 hq2 hYq2).1 dX7_ownSorts_9 ?_
  refine lv_iconst (v := (1 : Int32)) hx hb dX7_ownSorts_12 rfl ?_
  obtain ⟨h3, he⟩ := g_ck_some he
  refine g_iald E hM (o := (q2 + 1)) (pt_9_0 q2 hq2 hYq2).2.1 (pt_9_0 q2 hq2 hYq2).2.2 h3 dX7_ownSorts_13 ?_
  refine lv_icmp_ge (tgt := 43) hx hb dX7_ownSorts_14 (by decide) (fun h4 => ?_) (fun h4 => ?_)
  · rw [if_neg (Int32.not_lt.mpr h4)] at he
    refine lv_iload_n hx hb dX7_ownSorts_43 rfl (lv_at hl 2 rfl) ?_
    cases he
    exact g_iret E hM hret hlk dX7_ownSorts_44
  · rw [if_pos (Int32.not_le.mp h4)] at he
    refine lv_aload_n hx hb dX7_ownSorts_17 rfl (lv_at hl 0 rfl) ?_
    refine g_getP E hM (o := t) ht hY fl_X7_25 (q := (t + 2)) (pt_7_5 t ht hY).1 dX7_ownSorts_18 ?_
    refine lv_iload_n hx hb dX7_ownSorts_21 rfl (lv_at hl 1 rfl) ?_
    refine lv_iconst (v := (5 : Int32)) hx hb dX7_ownSorts_22 rfl ?_
    refine lv_imul hx hb dX7_ownSorts_23 ?_
    refine lv_iload_n hx hb dX7_ownSorts_24 rfl (lv_at hl 3 rfl) ?_
    refine lv_iadd hx hb dX7_ownSorts_25 ?_
    obtain ⟨h5, he⟩ := g_ck_some he
    refine g_iald E hM (o := (t + 2)) (pt_7_5 t ht hY).2.1 (pt_7_5 t ht hY).2.2 h5 dX7_ownSorts_26 ?_
    refine lv_iload_n hx hb dX7_ownSorts_27 rfl (lv_at hl 1 rfl) ?_
    refine lv_icmp_ne (tgt := 37) hx hb dX7_ownSorts_28 (by decide) (fun h6 => ?_) (fun h6 => ?_)
    · rw [if_neg h6] at he
      exact w7_ownSorts_b37 (F := F) (t := t) (a1 := a1) E hml hret hlk ht hY hs4 _ _ _ _ _ hM (lv_sub hl [0, 1, 2, 3] rfl) he
    · rw [if_pos h6] at he
      refine lv_iload_n hx hb dX7_ownSorts_31 rfl (lv_at hl 2 rfl) ?_
      refine lv_iconst (v := (1 : Int32)) hx hb dX7_ownSorts_32 rfl ?_
      refine lv_iload_n hx hb dX7_ownSorts_33 rfl (lv_at hl 3 rfl) ?_
      refine lv_ishl hx hb dX7_ownSorts_34 ?_
      refine lv_ior hx hb dX7_ownSorts_35 ?_
      obtain ⟨x7, hx7, he⟩ := g_let_ex he
      refine g_topI hx7 ?_
      refine lv_istore_n (lv' := [(2, .int x7), (0, .ref (B + t)), (1, .int a1), (3, .int v3)]) hx hb dX7_ownSorts_36 rfl hl (by decide) rfl (fun ls hl => ?_)
      exact w7_ownSorts_b37 (F := F) (t := t) (a1 := a1) E hml hret hlk ht hY hs4 _ _ _ _ _ hM (lv_sub hl [1, 2, 0, 3] rfl) he

set_option maxHeartbeats 4000000 in
set_option maxRecDepth 100000 in
theorem w7_ownSorts_b4 (E : g_C p s m args c cX7_ownSorts RX7 D aC (g_Zs (g_A B 69))) (hml : c.maxLocals = 4) (hret : meth.sig.returnType = (some .int)) (hlk : meth.locks = false) {F : Nat} {q0 : Int32} {t : Nat} {a1 : Int32} (ht : t < 69) (hY : yC.1 t = (7, 0)) {mem : g_M} : ∀ (v2 : Int32) (v3 : Int32) (H : Heap) (locs : List Loc) (ls : Array Slot), g_At D aC B yC 69 mem s.heap H locs → lv_has ls 4 [(0, .ref (B + t)), (1, .int a1), (2, .int v2), (3, .int v3)] → f7_ownSorts_b4 F t a1 mem v2 v3 = some q0 → W p l e (g_rm 1) s m args below meth c H locs 0 0 (g_MQ below D aC B yC 69 args s (some (.int q0)) mem) (F0 m 4 ls []) := by
  have key : ∀ (nn : Nat) (x : Int32 × Int32) (H : Heap) (locs : List Loc) (ls : Array Slot), g_At D aC B yC 69 mem s.heap H locs → lv_has ls 4 [(0, .ref (B + t)), (1, .int a1), (2, .int x.1), (3, .int x.2)] → g_fix (fun sf x => f7_ownSorts_b4_body F t a1 (fun v2 v3 => sf (v2, v3)) mem x.1 x.2) nn x = some q0 → W p l e (g_rm 1) s m args below meth c H locs 0 0 (g_MQ below D aC B yC 69 args s (some (.int q0)) mem) (F0 m 4 ls []) := by
    intro nn
    induction nn with
    | zero => intro x H locs ls hM hl he; simp [g_fix] at he
    | succ nn ih =>
      intro x H locs ls hM hl he
      exact w7_ownSorts_b4_body (F := F) (t := t) (a1 := a1) E hml hret hlk ht hY (fun v2 v3 H locs ls hM hl he => ih (v2, v3) H locs ls hM hl he) x.1 x.2 H locs ls hM hl he
  intro v2 v3 H locs ls hM hl he
  exact key F (v2, v3) H locs ls hM hl he

set_option maxHeartbeats 4000000 in
set_option maxRecDepth 100000 in
theorem c7_ownSorts (l : Launch) (D : va_G) (aC : Nat → ClassId) (B : Nat) {F : Nat} {t : Nat} (ht : t < 69) (hY : yC.1 t = (7, 0)) {a1 : Int32} {mem : g_M} {q0 : Int32} (he : f7_ownSorts F t a1 mem = some q0) : g_Met l yX7_ownSorts cX7_ownSorts 4 (some .int) 1 D aC B yC 69 mem [.ref (B + t), .int a1] (some (.int q0)) mem := by
  refine g_ofW (by decide) (Nat.le_of_ble_eq_true rfl) ?_
  intro p e s m args below meth c ls E hml hret hlk hM hl
  have E : g_C p s m args c cX7_ownSorts RX7 D aC (g_Zs (g_A B 69)) := E
  have hx := E.1
  have hb := E.2.1
  have hown := E.2.2.1
  have hts := E.2.2.2.1
  have hl : lv_has ls 4 [(0, .ref (B + t)), (1, .int a1)] := hl
  unfold f7_ownSorts at he
  refine lv_iconst (v := (0 : Int32)) hx hb dX7_ownSorts_0 rfl ?_
  refine lv_istore_n (lv' := [(2, .int (0 : Int32)), (0, .ref (B + t)), (1, .int a1)]) hx hb dX7_ownSorts_1 rfl hl (by decide) rfl (fun ls hl => ?_)
  refine lv_iconst (v := (0 : Int32)) hx hb dX7_ownSorts_2 rfl ?_
  refine lv_istore_n (lv' := [(3, .int (0 : Int32)), (2, .int (0 : Int32)), (0, .ref (B + t)), (1, .int a1)]) hx hb dX7_ownSorts_3 rfl hl (by decide) rfl (fun ls hl => ?_)
  exact w7_ownSorts_b4 (F := F) (t := t) (a1 := a1) E hml hret hlk ht hY _ _ _ _ _ hM (lv_sub hl [2, 3, 1, 0] rfl) he

set_option maxHeartbeats 4000000 in
set_option maxRecDepth 100000 in
theorem w7_wantsOf_b48 (E : g_C p s m args c cX7_wantsOf RX7 D aC (g_Zs (g_A B 69))) (hml : c.maxLocals = 5) (hret : meth.sig.returnType = (some .int)) (hlk : meth.locks = false) {F : Nat} {q0 : Int32} {t : Nat} {a1 : Int32} {a2 : Int32} (ht : t < 69) (hY : yC.1 t = (7, 0)) {mem : g_M} {s5 : Int32 → Int32 → Option (Int32)} (hs5 : ∀ (v3 : Int32) (v4 : Int32) (H : Heap) (locs : List Loc) (ls : Array Slot), g_At D aC B yC 69 mem s.heap H locs → lv_has ls 5 [(0, .ref (B + t)), (1, .int a1), (2, .int a2), (3, .int v3), (4, .int v4)] → s5 v3 v4 = some q0 → W p l e (g_rm 2) s m args below meth c H locs 0 0 (g_MQ below D aC B yC 69 args s (some (.int q0)) mem) (F0 m 5 ls [])) : ∀ (v4 : Int32) (w0 : Int32) (w1 : Int32) (H : Heap) (locs : List Loc) (ls : Array Slot), g_At D aC B yC 69 mem s.heap H locs → lv_has ls 5 [(0, .ref (B + t)), (1, .int a1), (2, .int a2), (4, .int v4)] → f7_wantsOf_b48 F t a1 a2 s5 mem v4 w0 w1 = some q0 → W p l e (g_rm 2) s m args below meth c H locs 0 0 (g_MQ below D aC B yC 69 args s (some (.int q0)) mem) (F0 m 48 ls [.int w1, .int w0]) := by
  intro v4 w0 w1 H locs ls hM hl he
  unfold f7_wantsOf_b48 at he
  have hx := E.1
  have hb := E.2.1
  have hown := E.2.2.1
  have hts := E.2.2.2.1
  refine lv_iadd hx hb dX7_wantsOf_48 ?_
  obtain ⟨x1, hx1, he⟩ := g_let_ex he
  refine g_topI hx1 ?_
  refine lv_istore_n (lv' := [(3, .int x1), (0, .ref (B + t)), (1, .int a1), (2, .int a2), (4, .int v4)]) hx hb dX7_wantsOf_49 rfl hl (by decide) rfl (fun ls hl => ?_)
  obtain ⟨x2, hx2, he⟩ := g_let_ex he
  refine lv_iinc (v := x2) (lv' := [(4, .int x2), (3, .int x1), (0, .ref (B + t)), (1, .int a1), (2, .int a2)]) hx hb dX7_wantsOf_50 hl (k := 4) rfl (by rw [hx2]; rfl) (by decide) rfl (fun ls hl => ?_)
  refine lv_goto (tgt := 5) hx hb dX7_wantsOf_53 (by decide) ?_
  exact hs5 _ _ _ _ _ hM (lv_sub hl [2, 3, 4, 1, 0] rfl) he

set_option maxHeartbeats 4000000 in
set_option maxRecDepth 100000 in
theorem w7_wantsOf_b47 (E : g_C p s m args c cX7_wantsOf RX7 D aC (g_Zs (g_A B 69))) (hml : c.maxLocals = 5) (hret : meth.sig.returnType = (some .int)) (hlk : meth.locks = false) {F : Nat} {q0 : Int32} {t : Nat} {a1 : Int32} {a2 : Int32} (ht : t < 69) (hY : yC.1 t = (7, 0)) {mem : g_M} {s5 : Int32 → Int32 → Option (Int32)} (hs5 : ∀ (v3 : Int32) (v4 : Int32) (H : Heap) (locs : List Loc) (ls : Array Slot), g_At D aC B yC 69 mem s.heap H locs → lv_has ls 5 [(0, .ref (B + t)), (1, .int a1), (2, .int a2), (3, .int v3), (4, .int v4)] → s5 v3 v4 = some q0 → W p l e (g_rm 2) s m args below meth c H locs 0 0 (g_MQ below D aC B yC 69 args s (some (.int q0)) mem) (F0 m 5 ls [])) : ∀ (v4 : Int32) (w0 : Int32) (H : Heap) (locs : List Loc) (ls : Array Slot), g_At D aC B yC 69 mem s.heap H locs → lv_has ls 5 [(0, .ref (B + t)), (1, .int a1), (2, .int a2), (4, .int v4)] → f7_wantsOf_b47 F t a1 a2 s5 mem v4 w0 = some q0 → W p l e (g_rm 2) s m args below meth c H locs 0 0 (g_MQ below D aC B yC 69 args s (some (.int q0)) mem) (F0 m 47 ls [.int w0]) := by
  intro v4 w0 H locs ls hM hl he
  unfold f7_wantsOf_b47 at he
  have hx := E.1
  have hb := E.2.1
  have hown := E.2.2.1
  have hts := E.2.2.2.1
  refine lv_iconst (v := (0 : Int32)) hx hb dX7_wantsOf_47 rfl ?_
  exact w7_wantsOf_b48 (F := F) (t := t) (a1 := a1) (a2 := a2) E hml hret hlk ht hY hs5 _ _ _ _ _ _ hM (lv_sub hl [0, 1, 2, 3] rfl) he

set_option maxHeartbeats 4000000 in
set_option maxRecDepth 100000 in
theorem w7_wantsOf_b5_body (E : g_C p s m args c cX7_wantsOf RX7 D aC (g_Zs (g_A B 69))) (hml : c.maxLocals = 5) (hret : meth.sig.returnType = (some .int)) (hlk : meth.locks = false) {F : Nat} {q0 : Int32} {t : Nat} {a1 : Int32} {a2 : Int32} (ht : t < 69) (hY : yC.1 t = (7, 0)) {mem : g_M} {s5 : Int32 → Int32 → Option (Int32)} (hs5 : ∀ (v3 : Int32) (v4 : Int32) (H : Heap) (locs : List Loc) (ls : Array Slot), g_At D aC B yC 69 mem s.heap H locs → lv_has ls 5 [(0, .ref (B + t)), (1, .int a1), (2, .int a2), (3, .int v3), (4, .int v4)] → s5 v3 v4 = some q0 → W p l e (g_rm 2) s m args below meth c H locs 0 0 (g_MQ below D aC B yC 69 args s (some (.int q0)) mem) (F0 m 5 ls [])) : ∀ (v3 : Int32) (v4 : Int32) (H : Heap) (locs : List Loc) (ls : Array Slot), g_At D aC B yC 69 mem s.heap H locs → lv_has ls 5 [(0, .ref (B + t)), (1, .int a1), (2, .int a2), (3, .int v3), (4, .int v4)] → f7_wantsOf_b5_body F t a1 a2 s5 mem v3 v4 = some q0 → W p l e (g_rm 2) s m args below meth c H locs 0 0 (g_MQ below D aC B yC 69 args s (some (.int q0)) mem) (F0 m 5 ls []) := by
  intro v3 v4 H locs ls hM hl he
  unfold f7_wantsOf_b5_body at he
  have hx := E.1
  have hb := E.2.1
  have hown := E.2.2.1
  have hts := E.2.2.2.1
  refine lv_iload hx hb dX7_wantsOf_5 (lv_at hl 4 rfl) ?_
  refine lv_aload_n hx hb dX7_wantsOf_7 rfl (lv_at hl 0 rfl) ?_
  obtain ⟨q3, hqq3, hq3, hYq3, he⟩ := g_dr_some he
  refine g_getD E hM (o := t) ht hY fl_X7_40 (pn_7_0 t ht hY) hqq3 dX7_wantsOf_8 ?_
  refine g_getI E hM (o := q3) hq3 hYq3 fl_X7_88 dX7_wantsOf_11 ?_
  refine lv_icmp_ge (tgt := 56) hx hb dX7_wantsOf_14 (by decide) (fun h4 => ?_) (fun h4 => ?_)
  · rw [if_neg (Int32.not_lt.mpr h4)] at he
    refine lv_iload_n hx hb dX7_wantsOf_56 rfl (lv_at hl 3 rfl) ?_
    cases he
    exact g_iret E hM hret hlk dX7_wantsOf_57
  · rw [if_pos (Int32.not_le.mp h4)] at he
    refine lv_iload_n hx hb dX7_wantsOf_17 rfl (lv_at hl 3 rfl) ?_
    refine lv_aload_n hx hb dX7_wantsOf_18 rfl (lv_at hl 0 rfl) ?_
    obtain ⟨q5, hqq5, hq5, hYq5, he⟩ := g_dr_some he
    refine g_getD E hM (o := t) ht hY fl_X7_40 (pn_7_0 t ht hY) hqq5 dX7_wantsOf_19 ?_
    refine lv_iload hx hb dX7_wantsOf_22 (lv_at hl 4 rfl) ?_
    refine lv_iconst (v := (0 : Int32)) hx hb dX7_wantsOf_24 rfl ?_
    obtain ⟨r6, hcr6, he⟩ := g_bind he
    refine g_callV [.int v4, .int (0 : Int32)] (rest := [.int v3]) E hml hl.1 hM cv_X7_91 (c9_wantAt l D aC B hq5 hYq5 hcr6) (o := q5) hq5 hYq5 (by decide) rfl rfl (Nat.le_of_ble_eq_true rfl) dX7_wantsOf_25 (fun H locs hM => ?_)
    refine W.eq (g2 := F0 m 28 ls [.int r6, .int v3]) rfl ?_
    refine lv_iload_n hx hb dX7_wantsOf_28 rfl (lv_at hl 1 rfl) ?_
    refine lv_icmp_ne (tgt := 47) hx hb dX7_wantsOf_29 (by decide) (fun h7 => ?_) (fun h7 => ?_)
    · rw [if_neg h7] at he
      exact w7_wantsOf_b47 (F := F) (t := t) (a1 := a1) (a2 := a2) E hml hret hlk ht hY hs5 _ _ _ _ _ hM (lv_sub hl [0, 1, 2, 4] rfl) he
    · rw [if_pos h7] at he
      refine lv_aload_n hx hb dX7_wantsOf_32 rfl (lv_at hl 0 rfl) ?_
      refine g_getP E hM (o := t) ht hY fl_X7_37 (q := (t + 5)) (pt_7_9 t ht hY).1 dX7_wantsOf_33 ?_
      refine lv_iload hx hb dX7_wantsOf_36 (lv_at hl 4 rfl) ?_
      obtain ⟨h8, he⟩ := g_ck_some he
      refine g_iald E hM (o := (t + 5)) (pt_7_9 t ht hY).2.1 (pt_7_9 t ht hY).2.2 h8 dX7_wantsOf_38 ?_
      refine lv_iload_n hx hb dX7_wantsOf_39 rfl (lv_at hl 2 rfl) ?_
      refine lv_icmp_ne (tgt := 47) hx hb dX7_wantsOf_40 (by decide) (fun h9 => ?_) (fun h9 => ?_)
      · rw [if_neg h9] at he
        exact w7_wantsOf_b47 (F := F) (t := t) (a1 := a1) (a2 := a2) E hml hret hlk ht hY hs5 _ _ _ _ _ hM (lv_sub hl [0, 1, 2, 4] rfl) he
      · rw [if_pos h9] at he
        refine lv_iconst (v := (1 : Int32)) hx hb dX7_wantsOf_43 rfl ?_
        refine lv_goto (tgt := 48) hx hb dX7_wantsOf_44 (by decide) ?_
        exact w7_wantsOf_b48 (F := F) (t := t) (a1 := a1) (a2 := a2) E hml hret hlk ht hY hs5 _ _ _ _ _ _ hM (lv_sub hl [0, 1, 2, 4] rfl) he

set_option maxHeartbeats 4000000 in
set_option maxRecDepth 100000 in
theorem w7_wantsOf_b5 (E : g_C p s m args c cX7_wantsOf RX7 D aC (g_Zs (g_A B 69))) (hml : c.maxLocals = 5) (hret : meth.sig.returnType = (some .int)) (hlk : meth.locks = false) {F : Nat} {q0 : Int32} {t : Nat} {a1 : Int32} {a2 : Int32} (ht : t < 69) (hY : yC.1 t = (7, 0)) {mem : g_M} : ∀ (v3 : Int32) (v4 : Int32) (H : Heap) (locs : List Loc) (ls : Array Slot), g_At D aC B yC 69 mem s.heap H locs → lv_has ls 5 [(0, .ref (B + t)), (1, .int a1), (2, .int a2), (3, .int v3), (4, .int v4)] → f7_wantsOf_b5 F t a1 a2 mem v3 v4 = some q0 → W p l e (g_rm 2) s m args below meth c H locs 0 0 (g_MQ below D aC B yC 69 args s (some (.int q0)) mem) (F0 m 5 ls []) := by
  have key : ∀ (nn : Nat) (x : Int32 × Int32) (H : Heap) (locs : List Loc) (ls : Array Slot), g_At D aC B yC 69 mem s.heap H locs → lv_has ls 5 [(0, .ref (B + t)), (1, .int a1), (2, .int a2), (3, .int x.1), (4, .int x.2)] → g_fix (fun sf x => f7_wantsOf_b5_body F t a1 a2 (fun v3 v4 => sf (v3, v4)) mem x.1 x.2) nn x = some q0 → W p l e (g_rm 2) s m args below meth c H locs 0 0 (g_MQ below D aC B yC 69 args s (some (.int q0)) mem) (F0 m 5 ls []) := by
    intro nn
    induction nn with
    | zero => intro x H locs ls hM hl he; simp [g_fix] at he
    | succ nn ih =>
      intro x H locs ls hM hl he
      exact w7_wantsOf_b5_body (F := F) (t := t) (a1 := a1) (a2 := a2) E hml hret hlk ht hY (fun v3 v4 H locs ls hM hl he => ih (v3, v4) H locs ls hM hl he) x.1 x.2 H locs ls hM hl he
  intro v3 v4 H locs ls hM hl he
  exact key F (v3, v4) H locs ls hM hl he

set_option maxHeartbeats 4000000 in
set_option maxRecDepth 100000 in
theorem c7_wantsOf (l : Launch) (D : va_G) (aC : Nat → ClassId) (B : Nat) {F : Nat} {t : Nat} (ht : t < 69) (hY : yC.1 t = (7, 0)) {a1 : Int32} {a2 : Int32} {mem : g_M} {q0 : Int32} (he : f7_wantsOf F t a1 a2 mem = some q0) : g_Met l yX7_wantsOf cX7_wantsOf 5 (some .int) 2 D aC B yC 69 mem [.ref (B + t), .int a1, .int a2] (some (.int q0)) mem := by
  refine g_ofW (by decide) (Nat.le_of_ble_eq_true rfl) ?_
  intro p e s m args below meth c ls E hml hret hlk hM hl
  have E : g_C p s m args c cX7_wantsOf RX7 D aC (g_Zs (g_A B 69)) := E
  have hx := E.1
  have hb := E.2.1
  have hown := E.2.2.1
  have hts := E.2.2.2.1
  have hl : lv_has ls 5 [(0, .ref (B + t)), (1, .int a1), (2, .int a2)] := hl
  unfold f7_wantsOf at he
  refine lv_iconst (v := (0 : Int32)) hx hb dX7_wantsOf_0 rfl ?_
  refine lv_istore_n (lv' := [(3, .int (0 : Int32)), (0, .ref (B + t)), (1, .int a1), (2, .int a2)]) hx hb dX7_wantsOf_1 rfl hl (by decide) rfl (fun ls hl => ?_)
  refine lv_iconst (v := (0 : Int32)) hx hb dX7_wantsOf_2 rfl ?_
  refine lv_istore (lv' := [(4, .int (0 : Int32)), (3, .int (0 : Int32)), (0, .ref (B + t)), (1, .int a1), (2, .int a2)]) hx hb dX7_wantsOf_3 hl (by decide) rfl (fun ls hl => ?_)
  exact w7_wantsOf_b5 (F := F) (t := t) (a1 := a1) (a2 := a2) E hml hret hlk ht hY _ _ _ _ _ hM (lv_sub hl [2, 3, 4, 1, 0] rfl) he

set_option maxHeartbeats 4000000 in
set_option maxRecDepth 100000 in
theorem w7_wantsThatAre_b31 (E : g_C p s m args c cX7_wantsThatAre RX7 D aC (g_Zs (g_A B 69))) (hml : c.maxLocals = 4) (hret : meth.sig.returnType = (some .int)) (hlk : meth.locks = false) {F : Nat} {q0 : Int32} {t : Nat} {a1 : Int32} (ht : t < 69) (hY : yC.1 t = (7, 0)) {mem : g_M} {s4 : Int32 → Int32 → Option (Int32)} (hs4 : ∀ (v2 : Int32) (v3 : Int32) (H : Heap) (locs : List Loc) (ls : Array Slot), g_At D aC B yC 69 mem s.heap H locs → lv_has ls 4 [(0, .ref (B + t)), (1, .int a1), (2, .int v2), (3, .int v3)] → s4 v2 v3 = some q0 → W p l e (g_rm 1) s m args below meth c H locs 0 0 (g_MQ below D aC B yC 69 args s (some (.int q0)) mem) (F0 m 4 ls [])) : ∀ (v3 : Int32) (w0 : Int32) (w1 : Int32) (H : Heap) (locs : List Loc) (ls : Array Slot), g_At D aC B yC 69 mem s.heap H locs → lv_has ls 4 [(0, .ref (B + t)), (1, .int a1), (3, .int v3)] → f7_wantsThatAre_b31 F t a1 s4 mem v3 w0 w1 = some q0 → W p l e (g_rm 1) s m args below meth c H locs 0 0 (g_MQ below D aC B yC 69 args s (some (.int q0)) mem) (F0 m 31 ls [.int w1, .int w0]) := by
  intro v3 w0 w1 H locs ls hM hl he
  unfold f7_wantsThatAre_b31 at he
  have hx := E.1
  have hb := E.2.1
  have hown := E.2.2.1
  have hts := E.2.2.2.1
  refine lv_iadd hx hb dX7_wantsThatAre_31 ?_
  obtain ⟨x1, hx1, he⟩ := g_let_ex he
  refine g_topI hx1 ?_
  refine lv_istore_n (lv' := [(2, .int x1), (0, .ref (B + t)), (1, .int a1), (3, .int v3)]) hx hb dX7_wantsThatAre_32 rfl hl (by decide) rfl (fun ls hl => ?_)
  obtain ⟨x2, hx2, he⟩ := g_let_ex he
  refine lv_iinc (v := x2) (lv' := [(3, .int x2), (2, .int x1), (0, .ref (B + t)), (1, .int a1)]) hx hb dX7_wantsThatAre_33 hl (k := 3) rfl (by rw [hx2]; rfl) (by decide) rfl (fun ls hl => ?_)
  refine lv_goto (tgt := 4) hx hb dX7_wantsThatAre_36 (by decide) ?_
  exact hs4 _ _ _ _ _ hM (lv_sub hl [2, 3, 1, 0] rfl) he

set_option maxHeartbeats 4000000 in
set_option maxRecDepth 100000 in
theorem w7_wantsThatAre_b4_body (E : g_C p s m args c cX7_wantsThatAre RX7 D aC (g_Zs (g_A B 69))) (hml : c.maxLocals = 4) (hret : meth.sig.returnType = (some .int)) (hlk : meth.locks = false) {F : Nat} {q0 : Int32} {t : Nat} {a1 : Int32} (ht : t < 69) (hY : yC.1 t = (7, 0)) {mem : g_M} {s4 : Int32 → Int32 → Option (Int32)} (hs4 : ∀ (v2 : Int32) (v3 : Int32) (H : Heap) (locs : List Loc) (ls : Array Slot), g_At D aC B yC 69 mem s.heap H locs → lv_has ls 4 [(0, .ref (B + t)), (1, .int a1), (2, .int v2), (3, .int v3)] → s4 v2 v3 = some q0 → W p l e (g_rm 1) s m args below meth c H locs 0 0 (g_MQ below D aC B yC 69 args s (some (.int q0)) mem) (F0 m 4 ls [])) : ∀ (v2 : Int32) (v3 : Int32) (H : Heap) (locs : List Loc) (ls : Array Slot), g_At D aC B yC 69 mem s.heap H locs → lv_has ls 4 [(0, .ref (B + t)), (1, .int a1), (2, .int v2), (3, .int v3)] → f7_wantsThatAre_b4_body F t a1 s4 mem v2 v3 = some q0 → W p l e (g_rm 1) s m args below meth c H locs 0 0 (g_MQ below D aC B yC 69 args s (some (.int q0)) mem) (F0 m 4 ls []) := by
  intro v2 v3 H locs ls hM hl he
  unfold f7_wantsThatAre_b4_body at he
  have hx := E.1
  have hb := E.2.1
  have hown := E.2.2.1
  have hts := E.2.2.2.1
  refine lv_iload_n hx hb dX7_wantsThatAre_4 rfl (lv_at hl 3 rfl) ?_
  refine lv_aload_n hx hb dX7_wantsThatAre_5 rfl (lv_at hl 0 rfl) ?_
  obtain ⟨q3, hqq3, hq3, hYq3, he⟩ := g_dr_some he
  refine g_getD E hM (o := t) ht hY fl_X7_40 (pn_7_0 t ht hY) hqq3 dX7_wantsThatAre_6 ?_
  refine g_getI E hM (o := q3) hq3 hYq3 fl_X7_88 dX7_wantsThatAre_9 ?_
  refine lv_icmp_ge (tgt := 39) hx hb dX7_wantsThatAre_12 (by decide) (fun h4 => ?_) (fun h4 => ?_)
  · rw [if_neg (Int32.not_lt.mpr h4)] at he
    refine lv_iload_n hx hb dX7_wantsThatAre_39 rfl (lv_at hl 2 rfl) ?_
    cases he
    exact g_iret E hM hret hlk dX7_wantsThatAre_40
  · rw [if_pos (Int32.not_le.mp h4)] at he
    refine lv_iload_n hx hb dX7_wantsThatAre_15 rfl (lv_at hl 2 rfl) ?_
    refine lv_aload_n hx hb dX7_wantsThatAre_16 rfl (lv_at hl 0 rfl) ?_
    refine g_getP E hM (o := t) ht hY fl_X7_37 (q := (t + 5)) (pt_7_9 t ht hY).1 dX7_wantsThatAre_17 ?_
    refine lv_iload_n hx hb dX7_wantsThatAre_20 rfl (lv_at hl 3 rfl) ?_
    obtain ⟨h5, he⟩ := g_ck_some he
    refine g_iald E hM (o := (t + 5)) (pt_7_9 t ht hY).2.1 (pt_7_9 t ht hY).2.2 h5 dX7_wantsThatAre_21 ?_
    refine lv_iload_n hx hb dX7_wantsThatAre_22 rfl (lv_at hl 1 rfl) ?_
    refine lv_icmp_ne (tgt := 30) hx hb dX7_wantsThatAre_23 (by decide) (fun h6 => ?_) (fun h6 => ?_)
    · rw [if_neg h6] at he
      refine lv_iconst (v := (0 : Int32)) hx hb dX7_wantsThatAre_30 rfl ?_
      exact w7_wantsThatAre_b31 (F := F) (t := t) (a1 := a1) E hml hret hlk ht hY hs4 _ _ _ _ _ _ hM (lv_sub hl [0, 1, 3] rfl) he
    · rw [if_pos h6] at he
      refine lv_iconst (v := (1 : Int32)) hx hb dX7_wantsThatAre_26 rfl ?_
      refine lv_goto (tgt := 31) hx hb dX7_wantsThatAre_27 (by decide) ?_
      exact w7_wantsThatAre_b31 (F := F) (t := t) (a1 := a1) E hml hret hlk ht hY hs4 _ _ _ _ _ _ hM (lv_sub hl [0, 1, 3] rfl) he

set_option maxHeartbeats 4000000 in
set_option maxRecDepth 100000 in
theorem w7_wantsThatAre_b4 (E : g_C p s m args c cX7_wantsThatAre RX7 D aC (g_Zs (g_A B 69))) (hml : c.maxLocals = 4) (hret : meth.sig.returnType = (some .int)) (hlk : meth.locks = false) {F : Nat} {q0 : Int32} {t : Nat} {a1 : Int32} (ht : t < 69) (hY : yC.1 t = (7, 0)) {mem : g_M} : ∀ (v2 : Int32) (v3 : Int32) (H : Heap) (locs : List Loc) (ls : Array Slot), g_At D aC B yC 69 mem s.heap H locs → lv_has ls 4 [(0, .ref (B + t)), (1, .int a1), (2, .int v2), (3, .int v3)] → f7_wantsThatAre_b4 F t a1 mem v2 v3 = some q0 → W p l e (g_rm 1) s m args below meth c H locs 0 0 (g_MQ below D aC B yC 69 args s (some (.int q0)) mem) (F0 m 4 ls []) := by
  have key : ∀ (nn : Nat) (x : Int32 × Int32) (H : Heap) (locs : List Loc) (ls : Array Slot), g_At D aC B yC 69 mem s.heap H locs → lv_has ls 4 [(0, .ref (B + t)), (1, .int a1), (2, .int x.1), (3, .int x.2)] → g_fix (fun sf x => f7_wantsThatAre_b4_body F t a1 (fun v2 v3 => sf (v2, v3)) mem x.1 x.2) nn x = some q0 → W p l e (g_rm 1) s m args below meth c H locs 0 0 (g_MQ below D aC B yC 69 args s (some (.int q0)) mem) (F0 m 4 ls []) := by
    intro nn
    induction nn with
    | zero => intro x H locs ls hM hl he; simp [g_fix] at he
    | succ nn ih =>
      intro x H locs ls hM hl he
      exact w7_wantsThatAre_b4_body (F := F) (t := t) (a1 := a1) E hml hret hlk ht hY (fun v2 v3 H locs ls hM hl he => ih (v2, v3) H locs ls hM hl he) x.1 x.2 H locs ls hM hl he
  intro v2 v3 H locs ls hM hl he
  exact key F (v2, v3) H locs ls hM hl he

set_option maxHeartbeats 4000000 in
set_option maxRecDepth 100000 in
theorem c7_wantsThatAre (l : Launch) (D : va_G) (aC : Nat → ClassId) (B : Nat) {F : Nat} {t : Nat} (ht : t < 69) (hY : yC.1 t = (7, 0)) {a1 : Int32} {mem : g_M} {q0 : Int32} (he : f7_wantsThatAre F t a1 mem = some q0) : g_Met l yX7_wantsThatAre cX7_wantsThatAre 4 (some .int) 1 D aC B yC 69 mem [.ref (B + t), .int a1] (some (.int q0)) mem := by
  refine g_ofW (by decide) (Nat.le_of_ble_eq_true rfl) ?_
  intro p e s m args below meth c ls E hml hret hlk hM hl
  have E : g_C p s m args c cX7_wantsThatAre RX7 D aC (g_Zs (g_A B 69)) := E
  have hx := E.1
  have hb := E.2.1
  have hown := E.2.2.1
  have hts := E.2.2.2.1
  have hl : lv_has ls 4 [(0, .ref (B + t)), (1, .int a1)] := hl
  unfold f7_wantsThatAre at he
  refine lv_iconst (v := (0 : Int32)) hx hb dX7_wantsThatAre_0 rfl ?_
  refine lv_istore_n (lv' := [(2, .int (0 : Int32)), (0, .ref (B + t)), (1, .int a1)]) hx hb dX7_wantsThatAre_1 rfl hl (by decide) rfl (fun ls hl => ?_)
  refine lv_iconst (v := (0 : Int32)) hx hb dX7_wantsThatAre_2 rfl ?_
  refine lv_istore_n (lv' := [(3, .int (0 : Int32)), (2, .int (0 : Int32)), (0, .ref (B + t)), (1, .int a1)]) hx hb dX7_wantsThatAre_3 rfl hl (by decide) rfl (fun ls hl => ?_)
  exact w7_wantsThatAre_b4 (F := F) (t := t) (a1 := a1) E hml hret hlk ht hY _ _ _ _ _ hM (lv_sub hl [2, 3, 1, 0] rfl) he

set_option maxHeartbeats 4000000 in
set_option maxRecDepth 100000 in
theorem w7_allPence_b4_body (E : g_C p s m args c cX7_allPence RX7 D aC (g_Zs (g_A B 69))) (hml : c.maxLocals = 3) (hret : meth.sig.returnType = (some .int)) (hlk : meth.locks = false) {F : Nat} {q0 : Int32} {t : Nat} (ht : t < 69) (hY : yC.1 t = (7, 0)) {mem : g_M} {s4 : Int32 → Int32 → Option (Int32)} (hs4 : ∀ (v1 : Int32) (v2 : Int32) (H : Heap) (locs : List Loc) (ls : Array Slot), g_At D aC B yC 69 mem s.heap H locs → lv_has ls 3 [(0, .ref (B + t)), (1, .int v1), (2, .int v2)] → s4 v1 v2 = some q0 → W p l e (g_rm 1) s m args below meth c H locs 0 0 (g_MQ below D aC B yC 69 args s (some (.int q0)) mem) (F0 m 4 ls [])) : ∀ (v1 : Int32) (v2 : Int32) (H : Heap) (locs : List Loc) (ls : Array Slot), g_At D aC B yC 69 mem s.heap H locs → lv_has ls 3 [(0, .ref (B + t)), (1, .int v1), (2, .int v2)] → f7_allPence_b4_body F t s4 mem v1 v2 = some q0 → W p l e (g_rm 1) s m args below meth c H locs 0 0 (g_MQ below D aC B yC 69 args s (some (.int q0)) mem) (F0 m 4 ls []) := by
  intro v1 v2 H locs ls hM hl he
  unfold f7_allPence_b4_body at he
  have hx := E.1
  have hb := E.2.1
  have hown := E.2.2.1
  have hts := E.2.2.2.1
  refine lv_iload_n hx hb dX7_allPence_4 rfl (lv_at hl 2 rfl) ?_
  refine lv_aload_n hx hb dX7_allPence_5 rfl (lv_at hl 0 rfl) ?_
  obtain ⟨q1, hqq1, hq1, hYq1, he⟩ := g_dr_some he
  refine g_getD E hM (o := t) ht hY fl_X7_40 (pn_7_0 t ht hY) hqq1 dX7_allPence_6 ?_
  refine g_getP E hM (o := q1) hq1 hYq1 fl_X7_73 (q := (q1 + 1)) (pt_9_0 q1 hq1 hYq1).1 dX7_allPence_9 ?_
  refine lv_iconst (v := (0 : Int32)) hx hb dX7_allPence_12 rfl ?_
  obtain ⟨h2, he⟩ := g_ck_some he
  refine g_iald E hM (o := (q1 + 1)) (pt_9_0 q1 hq1 hYq1).2.1 (pt_9_0 q1 hq1 hYq1).2.2 h2 dX7_allPence_13 ?_
  refine lv_icmp_ge (tgt := 32) hx hb dX7_allPence_14 (by decide) (fun h3 => ?_) (fun h3 => ?_)
  · rw [if_neg (Int32.not_lt.mpr h3)] at he
    refine lv_iload_n hx hb dX7_allPence_32 rfl (lv_at hl 1 rfl) ?_
    cases he
    exact g_iret E hM hret hlk dX7_allPence_33
  · rw [if_pos (Int32.not_le.mp h3)] at he
    refine lv_iload_n hx hb dX7_allPence_17 rfl (lv_at hl 1 rfl) ?_
    refine lv_aload_n hx hb dX7_allPence_18 rfl (lv_at hl 0 rfl) ?_
    refine g_getP E hM (o := t) ht hY fl_X7_21 (q := (t + 1)) (pt_7_4 t ht hY).1 dX7_allPence_19 ?_
    refine lv_iload_n hx hb dX7_allPence_22 rfl (lv_at hl 2 rfl) ?_
    obtain ⟨h4, he⟩ := g_ck_some he
    refine g_iald E hM (o := (t + 1)) (pt_7_4 t ht hY).2.1 (pt_7_4 t ht hY).2.2 h4 dX7_allPence_23 ?_
    refine lv_iadd hx hb dX7_allPence_24 ?_
    obtain ⟨x5, hx5, he⟩ := g_let_ex he
    refine g_topI hx5 ?_
    refine lv_istore_n (lv' := [(1, .int x5), (0, .ref (B + t)), (2, .int v2)]) hx hb dX7_allPence_25 rfl hl (by decide) rfl (fun ls hl => ?_)
    obtain ⟨x6, hx6, he⟩ := g_let_ex he
    refine lv_iinc (v := x6) (lv' := [(2, .int x6), (1, .int x5), (0, .ref (B + t))]) hx hb dX7_allPence_26 hl (k := 2) rfl (by rw [hx6]; rfl) (by decide) rfl (fun ls hl => ?_)
    refine lv_goto (tgt := 4) hx hb dX7_allPence_29 (by decide) ?_
    exact hs4 _ _ _ _ _ hM (lv_sub hl [2, 1, 0] rfl) he

set_option maxHeartbeats 4000000 in
set_option maxRecDepth 100000 in
theorem w7_allPence_b4 (E : g_C p s m args c cX7_allPence RX7 D aC (g_Zs (g_A B 69))) (hml : c.maxLocals = 3) (hret : meth.sig.returnType = (some .int)) (hlk : meth.locks = false) {F : Nat} {q0 : Int32} {t : Nat} (ht : t < 69) (hY : yC.1 t = (7, 0)) {mem : g_M} : ∀ (v1 : Int32) (v2 : Int32) (H : Heap) (locs : List Loc) (ls : Array Slot), g_At D aC B yC 69 mem s.heap H locs → lv_has ls 3 [(0, .ref (B + t)), (1, .int v1), (2, .int v2)] → f7_allPence_b4 F t mem v1 v2 = some q0 → W p l e (g_rm 1) s m args below meth c H locs 0 0 (g_MQ below D aC B yC 69 args s (some (.int q0)) mem) (F0 m 4 ls []) := by
  have key : ∀ (nn : Nat) (x : Int32 × Int32) (H : Heap) (locs : List Loc) (ls : Array Slot), g_At D aC B yC 69 mem s.heap H locs → lv_has ls 3 [(0, .ref (B + t)), (1, .int x.1), (2, .int x.2)] → g_fix (fun sf x => f7_allPence_b4_body F t (fun v1 v2 => sf (v1, v2)) mem x.1 x.2) nn x = some q0 → W p l e (g_rm 1) s m args below meth c H locs 0 0 (g_MQ below D aC B yC 69 args s (some (.int q0)) mem) (F0 m 4 ls []) := by
    intro nn
    induction nn with
    | zero => intro x H locs ls hM hl he; simp [g_fix] at he
    | succ nn ih =>
      intro x H locs ls hM hl he
      exact w7_allPence_b4_body (F := F) (t := t) E hml hret hlk ht hY (fun v1 v2 H locs ls hM hl he => ih (v1, v2) H locs ls hM hl he) x.1 x.2 H locs ls hM hl he
  intro v1 v2 H locs ls hM hl he
  exact key F (v1, v2) H locs ls hM hl he

set_option maxHeartbeats 4000000 in
set_option maxRecDepth 100000 in
theorem c7_allPence (l : Launch) (D : va_G) (aC : Nat → ClassId) (B : Nat) {F : Nat} {t : Nat} (ht : t < 69) (hY : yC.1 t = (7, 0)) {mem : g_M} {q0 : Int32} (he : f7_allPence F t mem = some q0) : g_Met l yX7_allPence cX7_allPence 3 (some .int) 1 D aC B yC 69 mem [.ref (B + t)] (some (.int q0)) mem := by
  refine g_ofW (by decide) (Nat.le_of_ble_eq_true rfl) ?_
  intro p e s m args below meth c ls E hml hret hlk hM hl
  have E : g_C p s m args c cX7_allPence RX7 D aC (g_Zs (g_A B 69)) := E
  have hx := E.1
  have hb := E.2.1
  have hown := E.2.2.1
  have hts := E.2.2.2.1
  have hl : lv_has ls 3 [(0, .ref (B + t))] := hl
  unfold f7_allPence at he
  refine lv_iconst (v := (0 : Int32)) hx hb dX7_allPence_0 rfl ?_
  refine lv_istore_n (lv' := [(1, .int (0 : Int32)), (0, .ref (B + t))]) hx hb dX7_allPence_1 rfl hl (by decide) rfl (fun ls hl => ?_)
  refine lv_iconst (v := (0 : Int32)) hx hb dX7_allPence_2 rfl ?_
  refine lv_istore_n (lv' := [(2, .int (0 : Int32)), (1, .int (0 : Int32)), (0, .ref (B + t))]) hx hb dX7_allPence_3 rfl hl (by decide) rfl (fun ls hl => ?_)
  exact w7_allPence_b4 (F := F) (t := t) E hml hret hlk ht hY _ _ _ _ _ hM (lv_sub hl [2, 1, 0] rfl) he

set_option maxHeartbeats 4000000 in
set_option maxRecDepth 100000 in
theorem w7_mixed_b22_body (E : g_C p s m args c cX7_mixed RX7 D aC (g_Zs (g_A B 69))) (hml : c.maxLocals = 3) (hret : meth.sig.returnType = (some .int)) (hlk : meth.locks = false) {F : Nat} {q0 : Int32} {t : Nat} (ht : t < 69) (hY : yC.1 t = (7, 0)) {mem : g_M} {s22 : Int32 → Int32 → Option (Int32)} (hs22 : ∀ (v1 : Int32) (v2 : Int32) (H : Heap) (locs : List Loc) (ls : Array Slot), g_At D aC B yC 69 mem s.heap H locs → lv_has ls 3 [(0, .ref (B + t)), (1, .int v1), (2, .int v2)] → s22 v1 v2 = some q0 → W p l e (g_rm 2) s m args below meth c H locs 0 0 (g_MQ below D aC B yC 69 args s (some (.int q0)) mem) (F0 m 22 ls [])) : ∀ (v1 : Int32) (v2 : Int32) (H : Heap) (locs : List Loc) (ls : Array Slot), g_At D aC B yC 69 mem s.heap H locs → lv_has ls 3 [(0, .ref (B + t)), (1, .int v1), (2, .int v2)] → f7_mixed_b22_body F t s22 mem v1 v2 = some q0 → W p l e (g_rm 2) s m args below meth c H locs 0 0 (g_MQ below D aC B yC 69 args s (some (.int q0)) mem) (F0 m 22 ls []) := by
  intro v1 v2 H locs ls hM hl he
  unfold f7_mixed_b22_body at he
  have hx := E.1
  have hb := E.2.1
  have hown := E.2.2.1
  have hts := E.2.2.2.1
  refine lv_iload_n hx hb dX7_mixed_22 rfl (lv_at hl 2 rfl) ?_
  refine lv_aload_n hx hb dX7_mixed_23 rfl (lv_at hl 0 rfl) ?_
  obtain ⟨q1, hqq1, hq1, hYq1, he⟩ := g_dr_some he
  refine g_getD E hM (o := t) ht hY fl_X7_40 (pn_7_0 t ht hY) hqq1 dX7_mixed_24 ?_
  refine g_getP E hM (o := q1) hq1 hYq1 fl_X7_73 (q := (q1 + 1)) (pt_9_0 q1 hq1 hYq1).1 dX7_mixed_27 ?_
  refine lv_iconst (v := (0 : Int32)) hx hb dX7_mixed_30 rfl ?_
  obtain ⟨h2, he⟩ := g_ck_some he
  refine g_iald E hM (o := (q1 + 1)) (pt_9_0 q1 hq1 hYq1).2.1 (pt_9_0 q1 hq1 hYq1).2.2 h2 dX7_mixed_31 ?_
  refine lv_icmp_ge (tgt := 52) hx hb dX7_mixed_32 (by decide) (fun h3 => ?_) (fun h3 => ?_)
  · rw [if_neg (Int32.not_lt.mpr h3)] at he
    refine lv_iload_n hx hb dX7_mixed_52 rfl (lv_at hl 1 rfl) ?_
    cases he
    exact g_iret E hM hret hlk dX7_mixed_53
  · rw [if_pos (Int32.not_le.mp h3)] at he
    refine lv_iload_n hx hb dX7_mixed_35 rfl (lv_at hl 1 rfl) ?_
    refine lv_aload_n hx hb dX7_mixed_36 rfl (lv_at hl 0 rfl) ?_
    refine lv_iload_n hx hb dX7_mixed_37 rfl (lv_at hl 2 rfl) ?_
    obtain ⟨r4, hcr4, he⟩ := g_bind he
    refine g_callV [.int v2] (rest := [.int v1]) E hml hl.1 hM cv_X7_94 (c7_ownSorts l D aC B ht hY hcr4) (o := t) ht hY (by decide) rfl rfl (Nat.le_of_ble_eq_true rfl) dX7_mixed_38 (fun H locs hM => ?_)
    refine W.eq (g2 := F0 m 41 ls [.int r4, .int v1]) rfl ?_
    obtain ⟨r5, hcr5, he⟩ := g_bind he
    refine g_callS [.int r4] (rest := [.int v1]) E hml hl.1 hM cs_X7_79 (cjbc l D aC B hcr5) (by decide) rfl rfl (Nat.le_of_ble_eq_true rfl) dX7_mixed_41 (fun H locs hM => ?_)
    refine W.eq (g2 := F0 m 44 ls [.int r5, .int v1]) rfl ?_
    refine lv_isub hx hb dX7_mixed_44 ?_
    obtain ⟨x6, hx6, he⟩ := g_let_ex he
    refine g_topI hx6 ?_
    refine lv_istore_n (lv' := [(1, .int x6), (0, .ref (B + t)), (2, .int v2)]) hx hb dX7_mixed_45 rfl hl (by decide) rfl (fun ls hl => ?_)
    obtain ⟨x7, hx7, he⟩ := g_let_ex he
    refine lv_iinc (v := x7) (lv' := [(2, .int x7), (1, .int x6), (0, .ref (B + t))]) hx hb dX7_mixed_46 hl (k := 2) rfl (by rw [hx7]; rfl) (by decide) rfl (fun ls hl => ?_)
    refine lv_goto (tgt := 22) hx hb dX7_mixed_49 (by decide) ?_
    exact hs22 _ _ _ _ _ hM (lv_sub hl [2, 1, 0] rfl) he

set_option maxHeartbeats 4000000 in
set_option maxRecDepth 100000 in
theorem w7_mixed_b22 (E : g_C p s m args c cX7_mixed RX7 D aC (g_Zs (g_A B 69))) (hml : c.maxLocals = 3) (hret : meth.sig.returnType = (some .int)) (hlk : meth.locks = false) {F : Nat} {q0 : Int32} {t : Nat} (ht : t < 69) (hY : yC.1 t = (7, 0)) {mem : g_M} : ∀ (v1 : Int32) (v2 : Int32) (H : Heap) (locs : List Loc) (ls : Array Slot), g_At D aC B yC 69 mem s.heap H locs → lv_has ls 3 [(0, .ref (B + t)), (1, .int v1), (2, .int v2)] → f7_mixed_b22 F t mem v1 v2 = some q0 → W p l e (g_rm 2) s m args below meth c H locs 0 0 (g_MQ below D aC B yC 69 args s (some (.int q0)) mem) (F0 m 22 ls []) := by
  have key : ∀ (nn : Nat) (x : Int32 × Int32) (H : Heap) (locs : List Loc) (ls : Array Slot), g_At D aC B yC 69 mem s.heap H locs → lv_has ls 3 [(0, .ref (B + t)), (1, .int x.1), (2, .int x.2)] → g_fix (fun sf x => f7_mixed_b22_body F t (fun v1 v2 => sf (v1, v2)) mem x.1 x.2) nn x = some q0 → W p l e (g_rm 2) s m args below meth c H locs 0 0 (g_MQ below D aC B yC 69 args s (some (.int q0)) mem) (F0 m 22 ls []) := by
    intro nn
    induction nn with
    | zero => intro x H locs ls hM hl he; simp [g_fix] at he
    | succ nn ih =>
      intro x H locs ls hM hl he
      exact w7_mixed_b22_body (F := F) (t := t) E hml hret hlk ht hY (fun v1 v2 H locs ls hM hl he => ih (v1, v2) H locs ls hM hl he) x.1 x.2 H locs ls hM hl he
  intro v1 v2 H locs ls hM hl he
  exact key F (v1, v2) H locs ls hM hl he

set_option maxHeartbeats 4000000 in
set_option maxRecDepth 100000 in
theorem c7_mixed (l : Launch) (D : va_G) (aC : Nat → ClassId) (B : Nat) {F : Nat} {t : Nat} (ht : t < 69) (hY : yC.1 t = (7, 0)) {mem : g_M} {q0 : Int32} (he : f7_mixed F t mem = some q0) : g_Met l yX7_mixed cX7_mixed 3 (some .int) 2 D aC B yC 69 mem [.ref (B + t)] (some (.int q0)) mem := by
  refine g_ofW (by decide) (Nat.le_of_ble_eq_true rfl) ?_
  intro p e s m args below meth c ls E hml hret hlk hM hl
  have E : g_C p s m args c cX7_mixed RX7 D aC (g_Zs (g_A B 69)) := E
  have hx := E.1
  have hb := E.2.1
  have hown := E.2.2.1
  have hts := E.2.2.2.1
  have hl : lv_has ls 3 [(0, .ref (B + t))] := hl
  unfold f7_mixed at he
  refine lv_aload_n hx hb dX7_mixed_0 rfl (lv_at hl 0 rfl) ?_
  obtain ⟨q8, hqq8, hq8, hYq8, he⟩ := g_dr_some he
  refine g_getD E hM (o := t) ht hY fl_X7_40 (pn_7_0 t ht hY) hqq8 dX7_mixed_1 ?_
  refine g_getP E hM (o := q8) hq8 hYq8 fl_X7_73 (q := (q8 + 1)) (pt_9_0 q8 hq8 hYq8).1 dX7_mixed_4 ?_
  refine lv_iconst (v := (0 : Int32)) hx hb dX7_mixed_7 rfl ?_
  obtain ⟨h9, he⟩ := g_ck_some he
  refine g_iald E hM (o := (q8 + 1)) (pt_9_0 q8 hq8 hYq8).2.1 (pt_9_0 q8 hq8 hYq8).2.2 h9 dX7_mixed_8 ?_
  refine lv_aload_n hx hb dX7_mixed_9 rfl (lv_at hl 0 rfl) ?_
  obtain ⟨q10, hqq10, hq10, hYq10, he⟩ := g_dr_some he
  refine g_getD E hM (o := t) ht hY fl_X7_40 (pn_7_0 t ht hY) hqq10 dX7_mixed_10 ?_
  refine g_getP E hM (o := q10) hq10 hYq10 fl_X7_73 (q := (q10 + 1)) (pt_9_0 q10 hq10 hYq10).1 dX7_mixed_13 ?_
  refine lv_iconst (v := (1 : Int32)) hx hb dX7_mixed_16 rfl ?_
  obtain ⟨h11, he⟩ := g_ck_some he
  refine g_iald E hM (o := (q10 + 1)) (pt_9_0 q10 hq10 hYq10).2.1 (pt_9_0 q10 hq10 hYq10).2.2 h11 dX7_mixed_17 ?_
  refine lv_imul hx hb dX7_mixed_18 ?_
  obtain ⟨x12, hx12, he⟩ := g_let_ex he
  refine g_topI hx12 ?_
  refine lv_istore_n (lv' := [(1, .int x12), (0, .ref (B + t))]) hx hb dX7_mixed_19 rfl hl (by decide) rfl (fun ls hl => ?_)
  refine lv_iconst (v := (0 : Int32)) hx hb dX7_mixed_20 rfl ?_
  refine lv_istore_n (lv' := [(2, .int (0 : Int32)), (1, .int x12), (0, .ref (B + t))]) hx hb dX7_mixed_21 rfl hl (by decide) rfl (fun ls hl => ?_)
  exact w7_mixed_b22 (F := F) (t := t) E hml hret hlk ht hY _ _ _ _ _ hM (lv_sub hl [2, 1, 0] rfl) he

set_option maxHeartbeats 4000000 in
set_option maxRecDepth 100000 in
theorem w7_holderOf_b2_body (E : g_C p s m args c cX7_holderOf RX7 D aC (g_Zs (g_A B 69))) (hml : c.maxLocals = 4) (hret : meth.sig.returnType = (some .int)) (hlk : meth.locks = false) {F : Nat} {q0 : Int32} {t : Nat} {a1 : Int32} {a2 : Int32} (ht : t < 69) (hY : yC.1 t = (7, 0)) {mem : g_M} {s2 : Int32 → Option (Int32)} (hs2 : ∀ (v3 : Int32) (H : Heap) (locs : List Loc) (ls : Array Slot), g_At D aC B yC 69 mem s.heap H locs → lv_has ls 4 [(0, .ref (B + t)), (1, .int a1), (2, .int a2), (3, .int v3)] → s2 v3 = some q0 → W p l e (g_rm 1) s m args below meth c H locs 0 0 (g_MQ below D aC B yC 69 args s (some (.int q0)) mem) (F0 m 2 ls [])) : ∀ (v3 : Int32) (H : Heap) (locs : List Loc) (ls : Array Slot), g_At D aC B yC 69 mem s.heap H locs → lv_has ls 4 [(0, .ref (B + t)), (1, .int a1), (2, .int a2), (3, .int v3)] → f7_holderOf_b2_body F t a1 a2 s2 mem v3 = some q0 → W p l e (g_rm 1) s m args below meth c H locs 0 0 (g_MQ below D aC B yC 69 args s (some (.int q0)) mem) (F0 m 2 ls []) := by
  intro v3 H locs ls hM hl he
  unfold f7_holderOf_b2_body at he
  have hx := E.1
  have hb := E.2.1
  have hown := E.2.2.1
  have hts := E.2.2.2.1
  refine lv_iload_n hx hb dX7_holderOf_2 rfl (lv_at hl 3 rfl) ?_
  refine lv_aload_n hx hb dX7_holderOf_3 rfl (lv_at hl 0 rfl) ?_
  obtain ⟨q1, hqq1, hq1, hYq1, he⟩ := g_dr_some he
  refine g_getD E hM (o := t) ht hY fl_X7_40 (pn_7_0 t ht hY) hqq1 dX7_holderOf_4 ?_
  refine g_getP E hM (o := q1) hq1 hYq1 fl_X7_73 (q := (q1 + 1)) (pt_9_0 q1 hq1 hYq1).1 dX7_holderOf_7 ?_
  refine lv_iconst (v := (0 : Int32)) hx hb dX7_holderOf_10 rfl ?_
  obtain ⟨h2, he⟩ := g_ck_some he
  refine g_iald E hM (o := (q1 + 1)) (pt_9_0 q1 hq1 hYq1).2.1 (pt_9_0 q1 hq1 hYq1).2.2 h2 dX7_holderOf_11 ?_
  refine lv_icmp_ge (tgt := 37) hx hb dX7_holderOf_12 (by decide) (fun h3 => ?_) (fun h3 => ?_)
  · rw [if_neg (Int32.not_lt.mpr h3)] at he
    refine lv_iconst (v := (-1 : Int32)) hx hb dX7_holderOf_37 rfl ?_
    cases he
    exact g_iret E hM hret hlk dX7_holderOf_38
  · rw [if_pos (Int32.not_le.mp h3)] at he
    refine lv_aload_n hx hb dX7_holderOf_15 rfl (lv_at hl 0 rfl) ?_
    refine g_getP E hM (o := t) ht hY fl_X7_25 (q := (t + 2)) (pt_7_5 t ht hY).1 dX7_holderOf_16 ?_
    refine lv_iload_n hx hb dX7_holderOf_19 rfl (lv_at hl 3 rfl) ?_
    refine lv_iconst (v := (5 : Int32)) hx hb dX7_holderOf_20 rfl ?_
    refine lv_imul hx hb dX7_holderOf_21 ?_
    refine lv_iload_n hx hb dX7_holderOf_22 rfl (lv_at hl 2 rfl) ?_
    refine lv_iadd hx hb dX7_holderOf_23 ?_
    obtain ⟨h4, he⟩ := g_ck_some he
    refine g_iald E hM (o := (t + 2)) (pt_7_5 t ht hY).2.1 (pt_7_5 t ht hY).2.2 h4 dX7_holderOf_24 ?_
    refine lv_iload_n hx hb dX7_holderOf_25 rfl (lv_at hl 1 rfl) ?_
    refine lv_icmp_ne (tgt := 31) hx hb dX7_holderOf_26 (by decide) (fun h5 => ?_) (fun h5 => ?_)
    · rw [if_neg h5] at he
      obtain ⟨x6, hx6, he⟩ := g_let_ex he
      refine lv_iinc (v := x6) (lv' := [(3, .int x6), (0, .ref (B + t)), (1, .int a1), (2, .int a2)]) hx hb dX7_holderOf_31 hl (k := 3) rfl (by rw [hx6]; rfl) (by decide) rfl (fun ls hl => ?_)
      refine lv_goto (tgt := 2) hx hb dX7_holderOf_34 (by decide) ?_
      exact hs2 _ _ _ _ hM (lv_sub hl [1, 2, 3, 0] rfl) he
    · rw [if_pos h5] at he
      refine lv_iload_n hx hb dX7_holderOf_29 rfl (lv_at hl 3 rfl) ?_
      cases he
      exact g_iret E hM hret hlk dX7_holderOf_30

set_option maxHeartbeats 4000000 in
set_option maxRecDepth 100000 in
theorem w7_holderOf_b2 (E : g_C p s m args c cX7_holderOf RX7 D aC (g_Zs (g_A B 69))) (hml : c.maxLocals = 4) (hret : meth.sig.returnType = (some .int)) (hlk : meth.locks = false) {F : Nat} {q0 : Int32} {t : Nat} {a1 : Int32} {a2 : Int32} (ht : t < 69) (hY : yC.1 t = (7, 0)) {mem : g_M} : ∀ (v3 : Int32) (H : Heap) (locs : List Loc) (ls : Array Slot), g_At D aC B yC 69 mem s.heap H locs → lv_has ls 4 [(0, .ref (B + t)), (1, .int a1), (2, .int a2), (3, .int v3)] → f7_holderOf_b2 F t a1 a2 mem v3 = some q0 → W p l e (g_rm 1) s m args below meth c H locs 0 0 (g_MQ below D aC B yC 69 args s (some (.int q0)) mem) (F0 m 2 ls []) := by
  have key : ∀ (nn : Nat) (x : Int32) (H : Heap) (locs : List Loc) (ls : Array Slot), g_At D aC B yC 69 mem s.heap H locs → lv_has ls 4 [(0, .ref (B + t)), (1, .int a1), (2, .int a2), (3, .int x)] → g_fix (fun sf x => f7_holderOf_b2_body F t a1 a2 (fun v3 => sf v3) mem x) nn x = some q0 → W p l e (g_rm 1) s m args below meth c H locs 0 0 (g_MQ below D aC B yC 69 args s (some (.int q0)) mem) (F0 m 2 ls []) := by
    intro nn
    induction nn with
    | zero => intro x H locs ls hM hl he; simp [g_fix] at he
    | succ nn ih =>
      intro x H locs ls hM hl he
      exact w7_holderOf_b2_body (F := F) (t := t) (a1 := a1) (a2 := a2) E hml hret hlk ht hY (fun v3 H locs ls hM hl he => ih v3 H locs ls hM hl he) x H locs ls hM hl he
  intro v3 H locs ls hM hl he
  exact key F v3 H locs ls hM hl he

set_option maxHeartbeats 4000000 in
set_option maxRecDepth 100000 in
theorem c7_holderOf (l : Launch) (D : va_G) (aC : Nat → ClassId) (B : Nat) {F : Nat} {t : Nat} (ht : t < 69) (hY : yC.1 t = (7, 0)) {a1 : Int32} {a2 : Int32} {mem : g_M} {q0 : Int32} (he : f7_holderOf F t a1 a2 mem = some q0) : g_Met l yX7_holderOf cX7_holderOf 4 (some .int) 1 D aC B yC 69 mem [.ref (B + t), .int a1, .int a2] (some (.int q0)) mem := by
  refine g_ofW (by decide) (Nat.le_of_ble_eq_true rfl) ?_
  intro p e s m args below meth c ls E hml hret hlk hM hl
  have E : g_C p s m args c cX7_holderOf RX7 D aC (g_Zs (g_A B 69)) := E
  have hx := E.1
  have hb := E.2.1
  have hown := E.2.2.1
  have hts := E.2.2.2.1
  have hl : lv_has ls 4 [(0, .ref (B + t)), (1, .int a1), (2, .int a2)] := hl
  unfold f7_holderOf at he
  refine lv_iconst (v := (0 : Int32)) hx hb dX7_holderOf_0 rfl ?_
  refine lv_istore_n (lv' := [(3, .int (0 : Int32)), (0, .ref (B + t)), (1, .int a1), (2, .int a2)]) hx hb dX7_holderOf_1 rfl hl (by decide) rfl (fun ls hl => ?_)
  exact w7_holderOf_b2 (F := F) (t := t) (a1 := a1) (a2 := a2) E hml hret hlk ht hY _ _ _ _ hM (lv_sub hl [1, 2, 3, 0] rfl) he

set_option maxHeartbeats 4000000 in
set_option maxRecDepth 100000 in
theorem w7_lost_b43 (E : g_C p s m args c cX7_lost RX7 D aC (g_Zs (g_A B 69))) (hml : c.maxLocals = 3) (hret : meth.sig.returnType = (some .int)) (hlk : meth.locks = false) {F : Nat} {q0 : Int32} {t : Nat} (ht : t < 69) (hY : yC.1 t = (7, 0)) {mem : g_M} {s4 : Int32 → Int32 → Option (Int32)} (hs4 : ∀ (v1 : Int32) (v2 : Int32) (H : Heap) (locs : List Loc) (ls : Array Slot), g_At D aC B yC 69 mem s.heap H locs → lv_has ls 3 [(0, .ref (B + t)), (1, .int v1), (2, .int v2)] → s4 v1 v2 = some q0 → W p l e (g_rm 2) s m args below meth c H locs 0 0 (g_MQ below D aC B yC 69 args s (some (.int q0)) mem) (F0 m 4 ls [])) : ∀ (v1 : Int32) (v2 : Int32) (H : Heap) (locs : List Loc) (ls : Array Slot), g_At D aC B yC 69 mem s.heap H locs → lv_has ls 3 [(0, .ref (B + t)), (1, .int v1), (2, .int v2)] → f7_lost_b43 F t s4 mem v1 v2 = some q0 → W p l e (g_rm 2) s m args below meth c H locs 0 0 (g_MQ below D aC B yC 69 args s (some (.int q0)) mem) (F0 m 43 ls []) := by
  intro v1 v2 H locs ls hM hl he
  unfold f7_lost_b43 at he
  have hx := E.1
  have hb := E.2.1
  have hown := E.2.2.1
  have hts := E.2.2.2.1
  obtain ⟨x1, hx1, he⟩ := g_let_ex he
  refine lv_iinc (v := x1) (lv' := [(2, .int x1), (0, .ref (B + t)), (1, .int v1)]) hx hb dX7_lost_43 hl (k := 2) rfl (by rw [hx1]; rfl) (by decide) rfl (fun ls hl => ?_)
  refine lv_goto (tgt := 4) hx hb dX7_lost_46 (by decide) ?_
  exact hs4 _ _ _ _ _ hM (lv_sub hl [1, 2, 0] rfl) he

set_option maxHeartbeats 4000000 in
set_option maxRecDepth 100000 in
theorem w7_lost_b4_body (E : g_C p s m args c cX7_lost RX7 D aC (g_Zs (g_A B 69))) (hml : c.maxLocals = 3) (hret : meth.sig.returnType = (some .int)) (hlk : meth.locks = false) {F : Nat} {q0 : Int32} {t : Nat} (ht : t < 69) (hY : yC.1 t = (7, 0)) {mem : g_M} {s4 : Int32 → Int32 → Option (Int32)} (hs4 : ∀ (v1 : Int32) (v2 : Int32) (H : Heap) (locs : List Loc) (ls : Array Slot), g_At D aC B yC 69 mem s.heap H locs → lv_has ls 3 [(0, .ref (B + t)), (1, .int v1), (2, .int v2)] → s4 v1 v2 = some q0 → W p l e (g_rm 2) s m args below meth c H locs 0 0 (g_MQ below D aC B yC 69 args s (some (.int q0)) mem) (F0 m 4 ls [])) : ∀ (v1 : Int32) (v2 : Int32) (H : Heap) (locs : List Loc) (ls : Array Slot), g_At D aC B yC 69 mem s.heap H locs → lv_has ls 3 [(0, .ref (B + t)), (1, .int v1), (2, .int v2)] → f7_lost_b4_body F t s4 mem v1 v2 = some q0 → W p l e (g_rm 2) s m args below meth c H locs 0 0 (g_MQ below D aC B yC 69 args s (some (.int q0)) mem) (F0 m 4 ls []) := by
  intro v1 v2 H locs ls hM hl he
  unfold f7_lost_b4_body at he
  have hx := E.1
  have hb := E.2.1
  have hown := E.2.2.1
  have hts := E.2.2.2.1
  refine lv_iload_n hx hb dX7_lost_4 rfl (lv_at hl 2 rfl) ?_
  refine lv_aload_n hx hb dX7_lost_5 rfl (lv_at hl 0 rfl) ?_
  obtain ⟨q2, hqq2, hq2, hYq2, he⟩ := g_dr_some he
  refine g_getD E hM (o := t) ht hY fl_X7_40 (pn_7_0 t ht hY) hqq2 dX7_lost_6 ?_
  refine g_getP E hM (o := q2) hq2 hYq2 fl_X7_73 (q := (q2 + 1)) (pt_9_0 q2 hq2 hYq2).1 dX7_lost_9 ?_
  refine lv_iconst (v := (0 : Int32)) hx hb dX7_lost_12 rfl ?_
  obtain ⟨h3, he⟩ := g_ck_some he
  refine g_iald E hM (o := (q2 + 1)) (pt_9_0 q2 hq2 hYq2).2.1 (pt_9_0 q2 hq2 hYq2).2.2 h3 dX7_lost_13 ?_
  refine lv_icmp_ge (tgt := 49) hx hb dX7_lost_14 (by decide) (fun h4 => ?_) (fun h4 => ?_)
  · rw [if_neg (Int32.not_lt.mpr h4)] at he
    refine lv_iload_n hx hb dX7_lost_49 rfl (lv_at hl 1 rfl) ?_
    cases he
    exact g_iret E hM hret hlk dX7_lost_50
  · rw [if_pos (Int32.not_le.mp h4)] at he
    refine lv_aload_n hx hb dX7_lost_17 rfl (lv_at hl 0 rfl) ?_
    obtain ⟨q5, hqq5, hq5, hYq5, he⟩ := g_dr_some he
    refine g_getD E hM (o := t) ht hY fl_X7_40 (pn_7_0 t ht hY) hqq5 dX7_lost_18 ?_
    refine g_getP E hM (o := q5) hq5 hYq5 fl_X7_73 (q := (q5 + 1)) (pt_9_0 q5 hq5 hYq5).1 dX7_lost_21 ?_
    refine lv_iconst (v := (1 : Int32)) hx hb dX7_lost_24 rfl ?_
    obtain ⟨h6, he⟩ := g_ck_some he
    refine g_iald E hM (o := (q5 + 1)) (pt_9_0 q5 hq5 hYq5).2.1 (pt_9_0 q5 hq5 hYq5).2.2 h6 dX7_lost_25 ?_
    refine lv_if_le (tgt := 43) hx hb dX7_lost_26 (by decide) (fun h7 => ?_) (fun h7 => ?_)
    · rw [if_neg (Int32.not_lt.mpr h7)] at he
      exact w7_lost_b43 (F := F) (t := t) E hml hret hlk ht hY hs4 _ _ _ _ _ hM (lv_sub hl [0, 1, 2] rfl) he
    · rw [if_pos (Int32.not_le.mp h7)] at he
      refine lv_aload_n hx hb dX7_lost_29 rfl (lv_at hl 0 rfl) ?_
      refine lv_iload_n hx hb dX7_lost_30 rfl (lv_at hl 2 rfl) ?_
      obtain ⟨r8, hcr8, he⟩ := g_bind he
      refine g_callV [.int v2] (rest := []) E hml hl.1 hM cv_X7_94 (c7_ownSorts l D aC B ht hY hcr8) (o := t) ht hY (by decide) rfl rfl (Nat.le_of_ble_eq_true rfl) dX7_lost_31 (fun H locs hM => ?_)
      refine W.eq (g2 := F0 m 34 ls [.int r8]) rfl ?_
      refine lv_if_ne (tgt := 43) hx hb dX7_lost_34 (by decide) (fun h9 => ?_) (fun h9 => ?_)
      · rw [if_neg h9] at he
        exact w7_lost_b43 (F := F) (t := t) E hml hret hlk ht hY hs4 _ _ _ _ _ hM (lv_sub hl [0, 1, 2] rfl) he
      · rw [if_pos h9] at he
        refine lv_iload_n hx hb dX7_lost_37 rfl (lv_at hl 1 rfl) ?_
        refine lv_iconst (v := (1 : Int32)) hx hb dX7_lost_38 rfl ?_
        refine lv_iload_n hx hb dX7_lost_39 rfl (lv_at hl 2 rfl) ?_
        refine lv_ishl hx hb dX7_lost_40 ?_
        refine lv_ior hx hb dX7_lost_41 ?_
        obtain ⟨x10, hx10, he⟩ := g_let_ex he
        refine g_topI hx10 ?_
        refine lv_istore_n (lv' := [(1, .int x10), (0, .ref (B + t)), (2, .int v2)]) hx hb dX7_lost_42 rfl hl (by decide) rfl (fun ls hl => ?_)
        exact w7_lost_b43 (F := F) (t := t) E hml hret hlk ht hY hs4 _ _ _ _ _ hM (lv_sub hl [1, 0, 2] rfl) he

set_option maxHeartbeats 4000000 in
set_option maxRecDepth 100000 in
theorem w7_lost_b4 (E : g_C p s m args c cX7_lost RX7 D aC (g_Zs (g_A B 69))) (hml : c.maxLocals = 3) (hret : meth.sig.returnType = (some .int)) (hlk : meth.locks = false) {F : Nat} {q0 : Int32} {t : Nat} (ht : t < 69) (hY : yC.1 t = (7, 0)) {mem : g_M} : ∀ (v1 : Int32) (v2 : Int32) (H : Heap) (locs : List Loc) (ls : Array Slot), g_At D aC B yC 69 mem s.heap H locs → lv_has ls 3 [(0, .ref (B + t)), (1, .int v1), (2, .int v2)] → f7_lost_b4 F t mem v1 v2 = some q0 → W p l e (g_rm 2) s m args below meth c H locs 0 0 (g_MQ below D aC B yC 69 args s (some (.int q0)) mem) (F0 m 4 ls []) := by
  have key : ∀ (nn : Nat) (x : Int32 × Int32) (H : Heap) (locs : List Loc) (ls : Array Slot), g_At D aC B yC 69 mem s.heap H locs → lv_has ls 3 [(0, .ref (B + t)), (1, .int x.1), (2, .int x.2)] → g_fix (fun sf x => f7_lost_b4_body F t (fun v1 v2 => sf (v1, v2)) mem x.1 x.2) nn x = some q0 → W p l e (g_rm 2) s m args below meth c H locs 0 0 (g_MQ below D aC B yC 69 args s (some (.int q0)) mem) (F0 m 4 ls []) := by
    intro nn
    induction nn with
    | zero => intro x H locs ls hM hl he; simp [g_fix] at he
    | succ nn ih =>
      intro x H locs ls hM hl he
      exact w7_lost_b4_body (F := F) (t := t) E hml hret hlk ht hY (fun v1 v2 H locs ls hM hl he => ih (v1, v2) H locs ls hM hl he) x.1 x.2 H locs ls hM hl he
  intro v1 v2 H locs ls hM hl he
  exact key F (v1, v2) H locs ls hM hl he

set_option maxHeartbeats 4000000 in
set_option maxRecDepth 100000 in
theorem c7_lost (l : Launch) (D : va_G) (aC : Nat → ClassId) (B : Nat) {F : Nat} {t : Nat} (ht : t < 69) (hY : yC.1 t = (7, 0)) {mem : g_M} {q0 : Int32} (he : f7_lost F t mem = some q0) : g_Met l yX7_lost cX7_lost 3 (some .int) 2 D aC B yC 69 mem [.ref (B + t)] (some (.int q0)) mem := by
  refine g_ofW (by decide) (Nat.le_of_ble_eq_true rfl) ?_
  intro p e s m args below meth c ls E hml hret hlk hM hl
  have E : g_C p s m args c cX7_lost RX7 D aC (g_Zs (g_A B 69)) := E
  have hx := E.1
  have hb := E.2.1
  have hown := E.2.2.1
  have hts := E.2.2.2.1
  have hl : lv_has ls 3 [(0, .ref (B + t))] := hl
  unfold f7_lost at he
  refine lv_iconst (v := (0 : Int32)) hx hb dX7_lost_0 rfl ?_
  refine lv_istore_n (lv' := [(1, .int (0 : Int32)), (0, .ref (B + t))]) hx hb dX7_lost_1 rfl hl (by decide) rfl (fun ls hl => ?_)
  refine lv_iconst (v := (0 : Int32)) hx hb dX7_lost_2 rfl ?_
  refine lv_istore_n (lv' := [(2, .int (0 : Int32)), (1, .int (0 : Int32)), (0, .ref (B + t))]) hx hb dX7_lost_3 rfl hl (by decide) rfl (fun ls hl => ?_)
  exact w7_lost_b4 (F := F) (t := t) E hml hret hlk ht hY _ _ _ _ _ hM (lv_sub hl [2, 1, 0] rfl) he

set_option maxHeartbeats 4000000 in
set_option maxRecDepth 100000 in
theorem w7_halves_b41 (E : g_C p s m args c cX7_halves RX7 D aC (g_Zs (g_A B 69))) (hml : c.maxLocals = 3) (hret : meth.sig.returnType = (some .int)) (hlk : meth.locks = false) {F : Nat} {q0 : Int32} {t : Nat} (ht : t < 69) (hY : yC.1 t = (7, 0)) {mem : g_M} {s4 : Int32 → Int32 → Option (Int32)} (hs4 : ∀ (v1 : Int32) (v2 : Int32) (H : Heap) (locs : List Loc) (ls : Array Slot), g_At D aC B yC 69 mem s.heap H locs → lv_has ls 3 [(0, .ref (B + t)), (1, .int v1), (2, .int v2)] → s4 v1 v2 = some q0 → W p l e (g_rm 2) s m args below meth c H locs 0 0 (g_MQ below D aC B yC 69 args s (some (.int q0)) mem) (F0 m 4 ls [])) : ∀ (v1 : Int32) (v2 : Int32) (H : Heap) (locs : List Loc) (ls : Array Slot), g_At D aC B yC 69 mem s.heap H locs → lv_has ls 3 [(0, .ref (B + t)), (1, .int v1), (2, .int v2)] → f7_halves_b41 F t s4 mem v1 v2 = some q0 → W p l e (g_rm 2) s m args below meth c H locs 0 0 (g_MQ below D aC B yC 69 args s (some (.int q0)) mem) (F0 m 41 ls []) := by
  intro v1 v2 H locs ls hM hl he
  unfold f7_halves_b41 at he
  have hx := E.1
  have hb := E.2.1
  have hown := E.2.2.1
  have hts := E.2.2.2.1
  obtain ⟨x1, hx1, he⟩ := g_let_ex he
  refine lv_iinc (v := x1) (lv' := [(2, .int x1), (0, .ref (B + t)), (1, .int v1)]) hx hb dX7_halves_41 hl (k := 2) rfl (by rw [hx1]; rfl) (by decide) rfl (fun ls hl => ?_)
  refine lv_goto (tgt := 4) hx hb dX7_halves_44 (by decide) ?_
  exact hs4 _ _ _ _ _ hM (lv_sub hl [1, 2, 0] rfl) he

set_option maxHeartbeats 4000000 in
set_option maxRecDepth 100000 in
theorem w7_halves_b4_body (E : g_C p s m args c cX7_halves RX7 D aC (g_Zs (g_A B 69))) (hml : c.maxLocals = 3) (hret : meth.sig.returnType = (some .int)) (hlk : meth.locks = false) {F : Nat} {q0 : Int32} {t : Nat} (ht : t < 69) (hY : yC.1 t = (7, 0)) {mem : g_M} {s4 : Int32 → Int32 → Option (Int32)} (hs4 : ∀ (v1 : Int32) (v2 : Int32) (H : Heap) (locs : List Loc) (ls : Array Slot), g_At D aC B yC 69 mem s.heap H locs → lv_has ls 3 [(0, .ref (B + t)), (1, .int v1), (2, .int v2)] → s4 v1 v2 = some q0 → W p l e (g_rm 2) s m args below meth c H locs 0 0 (g_MQ below D aC B yC 69 args s (some (.int q0)) mem) (F0 m 4 ls [])) : ∀ (v1 : Int32) (v2 : Int32) (H : Heap) (locs : List Loc) (ls : Array Slot), g_At D aC B yC 69 mem s.heap H locs → lv_has ls 3 [(0, .ref (B + t)), (1, .int v1), (2, .int v2)] → f7_halves_b4_body F t s4 mem v1 v2 = some q0 → W p l e (g_rm 2) s m args below meth c H locs 0 0 (g_MQ below D aC B yC 69 args s (some (.int q0)) mem) (F0 m 4 ls []) := by
  intro v1 v2 H locs ls hM hl he
  unfold f7_halves_b4_body at he
  have hx := E.1
  have hb := E.2.1
  have hown := E.2.2.1
  have hts := E.2.2.2.1
  refine lv_iload_n hx hb dX7_halves_4 rfl (lv_at hl 2 rfl) ?_
  refine lv_aload_n hx hb dX7_halves_5 rfl (lv_at hl 0 rfl) ?_
  obtain ⟨q2, hqq2, hq2, hYq2, he⟩ := g_dr_some he
  refine g_getD E hM (o := t) ht hY fl_X7_40 (pn_7_0 t ht hY) hqq2 dX7_halves_6 ?_
  refine g_getP E hM (o := q2) hq2 hYq2 fl_X7_73 (q := (q2 + 1)) (pt_9_0 q2 hq2 hYq2).1 dX7_halves_9 ?_
  refine lv_iconst (v := (0 : Int32)) hx hb dX7_halves_12 rfl ?_
  obtain ⟨h3, he⟩ := g_ck_some he
  refine g_iald E hM (o := (q2 + 1)) (pt_9_0 q2 hq2 hYq2).2.1 (pt_9_0 q2 hq2 hYq2).2.2 h3 dX7_halves_13 ?_
  refine lv_icmp_ge (tgt := 47) hx hb dX7_halves_14 (by decide) (fun h4 => ?_) (fun h4 => ?_)
  · rw [if_neg (Int32.not_lt.mpr h4)] at he
    refine lv_iload_n hx hb dX7_halves_47 rfl (lv_at hl 1 rfl) ?_
    cases he
    exact g_iret E hM hret hlk dX7_halves_48
  · rw [if_pos (Int32.not_le.mp h4)] at he
    refine lv_aload_n hx hb dX7_halves_17 rfl (lv_at hl 0 rfl) ?_
    refine lv_iload_n hx hb dX7_halves_18 rfl (lv_at hl 2 rfl) ?_
    refine lv_iconst (v := (0 : Int32)) hx hb dX7_halves_19 rfl ?_
    obtain ⟨r5, hcr5, he⟩ := g_bind he
    refine g_callV [.int v2, .int (0 : Int32)] (rest := []) E hml hl.1 hM cv_X7_76 (c7_sortsAt l D aC B ht hY hcr5) (o := t) ht hY (by decide) rfl rfl (Nat.le_of_ble_eq_true rfl) dX7_halves_20 (fun H locs hM => ?_)
    refine W.eq (g2 := F0 m 23 ls [.int r5]) rfl ?_
    refine lv_if_eq (tgt := 41) hx hb dX7_halves_23 (by decide) (fun h6 => ?_) (fun h6 => ?_)
    · rw [if_pos h6] at he
      exact w7_halves_b41 (F := F) (t := t) E hml hret hlk ht hY hs4 _ _ _ _ _ hM (lv_sub hl [0, 1, 2] rfl) he
    · rw [if_neg h6] at he
      refine lv_aload_n hx hb dX7_halves_26 rfl (lv_at hl 0 rfl) ?_
      refine lv_iload_n hx hb dX7_halves_27 rfl (lv_at hl 2 rfl) ?_
      refine lv_iconst (v := (1 : Int32)) hx hb dX7_halves_28 rfl ?_
      obtain ⟨r7, hcr7, he⟩ := g_bind he
      refine g_callV [.int v2, .int (1 : Int32)] (rest := []) E hml hl.1 hM cv_X7_76 (c7_sortsAt l D aC B ht hY hcr7) (o := t) ht hY (by decide) rfl rfl (Nat.le_of_ble_eq_true rfl) dX7_halves_29 (fun H locs hM => ?_)
      refine W.eq (g2 := F0 m 32 ls [.int r7]) rfl ?_
      refine lv_if_eq (tgt := 41) hx hb dX7_halves_32 (by decide) (fun h8 => ?_) (fun h8 => ?_)
      · rw [if_pos h8] at he
        exact w7_halves_b41 (F := F) (t := t) E hml hret hlk ht hY hs4 _ _ _ _ _ hM (lv_sub hl [0, 1, 2] rfl) he
      · rw [if_neg h8] at he
        refine lv_iload_n hx hb dX7_halves_35 rfl (lv_at hl 1 rfl) ?_
        refine lv_iconst (v := (1 : Int32)) hx hb dX7_halves_36 rfl ?_
        refine lv_iload_n hx hb dX7_halves_37 rfl (lv_at hl 2 rfl) ?_
        refine lv_ishl hx hb dX7_halves_38 ?_
        refine lv_ior hx hb dX7_halves_39 ?_
        obtain ⟨x9, hx9, he⟩ := g_let_ex he
        refine g_topI hx9 ?_
        refine lv_istore_n (lv' := [(1, .int x9), (0, .ref (B + t)), (2, .int v2)]) hx hb dX7_halves_40 rfl hl (by decide) rfl (fun ls hl => ?_)
        exact w7_halves_b41 (F := F) (t := t) E hml hret hlk ht hY hs4 _ _ _ _ _ hM (lv_sub hl [1, 0, 2] rfl) he

set_option maxHeartbeats 4000000 in
set_option maxRecDepth 100000 in
theorem w7_halves_b4 (E : g_C p s m args c cX7_halves RX7 D aC (g_Zs (g_A B 69))) (hml : c.maxLocals = 3) (hret : meth.sig.returnType = (some .int)) (hlk : meth.locks = false) {F : Nat} {q0 : Int32} {t : Nat} (ht : t < 69) (hY : yC.1 t = (7, 0)) {mem : g_M} : ∀ (v1 : Int32) (v2 : Int32) (H : Heap) (locs : List Loc) (ls : Array Slot), g_At D aC B yC 69 mem s.heap H locs → lv_has ls 3 [(0, .ref (B + t)), (1, .int v1), (2, .int v2)] → f7_halves_b4 F t mem v1 v2 = some q0 → W p l e (g_rm 2) s m args below meth c H locs 0 0 (g_MQ below D aC B yC 69 args s (some (.int q0)) mem) (F0 m 4 ls []) := by
  have key : ∀ (nn : Nat) (x : Int32 × Int32) (H : Heap) (locs : List Loc) (ls : Array Slot), g_At D aC B yC 69 mem s.heap H locs → lv_has ls 3 [(0, .ref (B + t)), (1, .int x.1), (2, .int x.2)] → g_fix (fun sf x => f7_halves_b4_body F t (fun v1 v2 => sf (v1, v2)) mem x.1 x.2) nn x = some q0 → W p l e (g_rm 2) s m args below meth c H locs 0 0 (g_MQ below D aC B yC 69 args s (some (.int q0)) mem) (F0 m 4 ls []) := by
    intro nn
    induction nn with
    | zero => intro x H locs ls hM hl he; simp [g_fix] at he
    | succ nn ih =>
      intro x H locs ls hM hl he
      exact w7_halves_b4_body (F := F) (t := t) E hml hret hlk ht hY (fun v1 v2 H locs ls hM hl he => ih (v1, v2) H locs ls hM hl he) x.1 x.2 H locs ls hM hl he
  intro v1 v2 H locs ls hM hl he
  exact key F (v1, v2) H locs ls hM hl he

set_option maxHeartbeats 4000000 in
set_option maxRecDepth 100000 in
theorem c7_halves (l : Launch) (D : va_G) (aC : Nat → ClassId) (B : Nat) {F : Nat} {t : Nat} (ht : t < 69) (hY : yC.1 t = (7, 0)) {mem : g_M} {q0 : Int32} (he : f7_halves F t mem = some q0) : g_Met l yX7_halves cX7_halves 3 (some .int) 2 D aC B yC 69 mem [.ref (B + t)] (some (.int q0)) mem := by
  refine g_ofW (by decide) (Nat.le_of_ble_eq_true rfl) ?_
  intro p e s m args below meth c ls E hml hret hlk hM hl
  have E : g_C p s m args c cX7_halves RX7 D aC (g_Zs (g_A B 69)) := E
  have hx := E.1
  have hb := E.2.1
  have hown := E.2.2.1
  have hts := E.2.2.2.1
  have hl : lv_has ls 3 [(0, .ref (B + t))] := hl
  unfold f7_halves at he
  refine lv_iconst (v := (0 : Int32)) hx hb dX7_halves_0 rfl ?_
  refine lv_istore_n (lv' := [(1, .int (0 : Int32)), (0, .ref (B + t))]) hx hb dX7_halves_1 rfl hl (by decide) rfl (fun ls hl => ?_)
  refine lv_iconst (v := (0 : Int32)) hx hb dX7_halves_2 rfl ?_
  refine lv_istore_n (lv' := [(2, .int (0 : Int32)), (1, .int (0 : Int32)), (0, .ref (B + t))]) hx hb dX7_halves_3 rfl hl (by decide) rfl (fun ls hl => ?_)
  exact w7_halves_b4 (F := F) (t := t) E hml hret hlk ht hY _ _ _ _ _ hM (lv_sub hl [2, 1, 0] rfl) he

set_option maxHeartbeats 4000000 in
set_option maxRecDepth 100000 in
theorem w7_rings_b88 (E : g_C p s m args c cX7_rings RX7 D aC (g_Zs (g_A B 69))) (hml : c.maxLocals = 8) (hret : meth.sig.returnType = (some .int)) (hlk : meth.locks = false) {F : Nat} {q0 : Int32} {t : Nat} {a1 : Int32} (ht : t < 69) (hY : yC.1 t = (7, 0)) {mem : g_M} {s18 : Int32 → Int32 → Int32 → Int32 → Option (Int32)} (hs18 : ∀ (v2 : Int32) (v3 : Int32) (v4 : Int32) (v5 : Int32) (H : Heap) (locs : List Loc) (ls : Array Slot), g_At D aC B yC 69 mem s.heap H locs → lv_has ls 8 [(0, .ref (B + t)), (1, .int a1), (2, .int v2), (3, .int v3), (4, .int v4), (5, .int v5)] → s18 v2 v3 v4 v5 = some q0 → W p l e (g_rm 1) s m args below meth c H locs 0 0 (g_MQ below D aC B yC 69 args s (some (.int q0)) mem) (F0 m 18 ls [])) : ∀ (v2 : Int32) (v3 : Int32) (v4 : Int32) (v5 : Int32) (H : Heap) (locs : List Loc) (ls : Array Slot), g_At D aC B yC 69 mem s.heap H locs → lv_has ls 8 [(0, .ref (B + t)), (1, .int a1), (2, .int v2), (3, .int v3), (4, .int v4), (5, .int v5)] → f7_rings_b88 F t a1 s18 mem v2 v3 v4 v5 = some q0 → W p l e (g_rm 1) s m args below meth c H locs 0 0 (g_MQ below D aC B yC 69 args s (some (.int q0)) mem) (F0 m 88 ls []) := by
  intro v2 v3 v4 v5 H locs ls hM hl he
  unfold f7_rings_b88 at he
  have hx := E.1
  have hb := E.2.1
  have hown := E.2.2.1
  have hts := E.2.2.2.1
  obtain ⟨x1, hx1, he⟩ := g_let_ex he
  refine lv_iinc (v := x1) (lv' := [(5, .int x1), (0, .ref (B + t)), (1, .int a1), (2, .int v2), (3, .int v3), (4, .int v4)]) hx hb dX7_rings_88 hl (k := 5) rfl (by rw [hx1]; rfl) (by decide) rfl (fun ls hl => ?_)
  refine lv_goto (tgt := 18) hx hb dX7_rings_91 (by decide) ?_
  exact hs18 _ _ _ _ _ _ _ hM (lv_sub hl [1, 2, 3, 4, 5, 0] rfl) he

set_option maxHeartbeats 4000000 in
set_option maxRecDepth 100000 in
theorem w7_rings_b44_body (E : g_C p s m args c cX7_rings RX7 D aC (g_Zs (g_A B 69))) (hml : c.maxLocals = 8) (hret : meth.sig.returnType = (some .int)) (hlk : meth.locks = false) {F : Nat} {q0 : Int32} {t : Nat} {a1 : Int32} (ht : t < 69) (hY : yC.1 t = (7, 0)) {mem : g_M} {s18 : Int32 → Int32 → Int32 → Int32 → Option (Int32)} (hs18 : ∀ (v2 : Int32) (v3 : Int32) (v4 : Int32) (v5 : Int32) (H : Heap) (locs : List Loc) (ls : Array Slot), g_At D aC B yC 69 mem s.heap H locs → lv_has ls 8 [(0, .ref (B + t)), (1, .int a1), (2, .int v2), (3, .int v3), (4, .int v4), (5, .int v5)] → s18 v2 v3 v4 v5 = some q0 → W p l e (g_rm 1) s m args below meth c H locs 0 0 (g_MQ below D aC B yC 69 args s (some (.int q0)) mem) (F0 m 18 ls [])) {s44 : Int32 → Int32 → Int32 → Int32 → Int32 → Int32 → Option (Int32)} (hs44 : ∀ (v2 : Int32) (v3 : Int32) (v4 : Int32) (v5 : Int32) (v6 : Int32) (v7 : Int32) (H : Heap) (locs : List Loc) (ls : Array Slot), g_At D aC B yC 69 mem s.heap H locs → lv_has ls 8 [(0, .ref (B + t)), (1, .int a1), (2, .int v2), (3, .int v3), (4, .int v4), (5, .int v5), (6, .int v6), (7, .int v7)] → s44 v2 v3 v4 v5 v6 v7 = some q0 → W p l e (g_rm 1) s m args below meth c H locs 0 0 (g_MQ below D aC B yC 69 args s (some (.int q0)) mem) (F0 m 44 ls [])) : ∀ (v2 : Int32) (v3 : Int32) (v4 : Int32) (v5 : Int32) (v6 : Int32) (v7 : Int32) (H : Heap) (locs : List Loc) (ls : Array Slot), g_At D aC B yC 69 mem s.heap H locs → lv_has ls 8 [(0, .ref (B + t)), (1, .int a1), (2, .int v2), (3, .int v3), (4, .int v4), (5, .int v5), (6, .int v6), (7, .int v7)] → f7_rings_b44_body F t a1 s18 s44 mem v2 v3 v4 v5 v6 v7 = some q0 → W p l e (g_rm 1) s m args below meth c H locs 0 0 (g_MQ below D aC B yC 69 args s (some (.int q0)) mem) (F0 m 44 ls []) := by
  intro v2 v3 v4 v5 v6 v7 H locs ls hM hl he
  unfold f7_rings_b44_body at he
  have hx := E.1
  have hb := E.2.1
  have hown := E.2.2.1
  have hts := E.2.2.2.1
  refine lv_iload hx hb dX7_rings_44 (lv_at hl 7 rfl) ?_
  refine lv_iload_n hx hb dX7_rings_46 rfl (lv_at hl 2 rfl) ?_
  refine lv_icmp_ge (tgt := 88) hx hb dX7_rings_47 (by decide) (fun h2 => ?_) (fun h2 => ?_)
  · rw [if_neg (Int32.not_lt.mpr h2)] at he
    exact w7_rings_b88 (F := F) (t := t) (a1 := a1) E hml hret hlk ht hY hs18 _ _ _ _ _ _ _ hM (lv_sub hl [0, 1, 2, 3, 4, 5] rfl) he
  · rw [if_pos (Int32.not_le.mp h2)] at he
    refine lv_iload hx hb dX7_rings_50 (lv_at hl 4 rfl) ?_
    refine lv_iload hx hb dX7_rings_52 (lv_at hl 6 rfl) ?_
    refine lv_ishr hx hb dX7_rings_54 ?_
    refine lv_iconst (v := (1 : Int32)) hx hb dX7_rings_55 rfl ?_
    refine lv_iand hx hb dX7_rings_56 ?_
    refine lv_if_ne (tgt := 88) hx hb dX7_rings_57 (by decide) (fun h3 => ?_) (fun h3 => ?_)
    · rw [if_neg h3] at he
      exact w7_rings_b88 (F := F) (t := t) (a1 := a1) E hml hret hlk ht hY hs18 _ _ _ _ _ _ _ hM (lv_sub hl [0, 1, 2, 3, 4, 5] rfl) he
    · rw [if_pos h3] at he
      refine lv_iload hx hb dX7_rings_60 (lv_at hl 4 rfl) ?_
      refine lv_iconst (v := (1 : Int32)) hx hb dX7_rings_62 rfl ?_
      refine lv_iload hx hb dX7_rings_63 (lv_at hl 6 rfl) ?_
      refine lv_ishl hx hb dX7_rings_65 ?_
      refine lv_ior hx hb dX7_rings_66 ?_
      obtain ⟨x4, hx4, he⟩ := g_let_ex he
      refine g_topI hx4 ?_
      refine lv_istore (lv' := [(4, .int x4), (0, .ref (B + t)), (1, .int a1), (2, .int v2), (3, .int v3), (5, .int v5), (6, .int v6), (7, .int v7)]) hx hb dX7_rings_67 hl (by decide) rfl (fun ls hl => ?_)
      refine lv_aload_n hx hb dX7_rings_69 rfl (lv_at hl 1 rfl) ?_
      refine g_getP E hM (o := t) ht hY fl_X7_25 (q := (t + 2)) (pt_7_5 t ht hY).1 dX7_rings_70 ?_
      refine lv_iload hx hb dX7_rings_73 (lv_at hl 6 rfl) ?_
      refine lv_iconst (v := (5 : Int32)) hx hb dX7_rings_75 rfl ?_
      refine lv_imul hx hb dX7_rings_76 ?_
      refine lv_iload_n hx hb dX7_rings_77 rfl (lv_at hl 2 rfl) ?_
      refine lv_iadd hx hb dX7_rings_78 ?_
      obtain ⟨h5, he⟩ := g_ck_some he
      refine g_iald E hM (o := (t + 2)) (pt_7_5 t ht hY).2.1 (pt_7_5 t ht hY).2.2 h5 dX7_rings_79 ?_
      obtain ⟨x6, hx6, he⟩ := g_let_ex he
      refine g_topI hx6 ?_
      refine lv_istore (lv' := [(6, .int x6), (4, .int x4), (0, .ref (B + t)), (1, .int a1), (2, .int v2), (3, .int v3), (5, .int v5), (7, .int v7)]) hx hb dX7_rings_80 hl (by decide) rfl (fun ls hl => ?_)
      obtain ⟨x7, hx7, he⟩ := g_let_ex he
      refine lv_iinc (v := x7) (lv' := [(7, .int x7), (6, .int x6), (4, .int x4), (0, .ref (B + t)), (1, .int a1), (2, .int v2), (3, .int v3), (5, .int v5)]) hx hb dX7_rings_82 hl (k := 7) rfl (by rw [hx7]; rfl) (by decide) rfl (fun ls hl => ?_)
      refine lv_goto (tgt := 44) hx hb dX7_rings_85 (by decide) ?_
      exact hs44 _ _ _ _ _ _ _ _ _ hM (lv_sub hl [3, 4, 5, 6, 2, 7, 1, 0] rfl) he

set_option maxHeartbeats 4000000 in
set_option maxRecDepth 100000 in
theorem w7_rings_b44 (E : g_C p s m args c cX7_rings RX7 D aC (g_Zs (g_A B 69))) (hml : c.maxLocals = 8) (hret : meth.sig.returnType = (some .int)) (hlk : meth.locks = false) {F : Nat} {q0 : Int32} {t : Nat} {a1 : Int32} (ht : t < 69) (hY : yC.1 t = (7, 0)) {mem : g_M} {s18 : Int32 → Int32 → Int32 → Int32 → Option (Int32)} (hs18 : ∀ (v2 : Int32) (v3 : Int32) (v4 : Int32) (v5 : Int32) (H : Heap) (locs : List Loc) (ls : Array Slot), g_At D aC B yC 69 mem s.heap H locs → lv_has ls 8 [(0, .ref (B + t)), (1, .int a1), (2, .int v2), (3, .int v3), (4, .int v4), (5, .int v5)] → s18 v2 v3 v4 v5 = some q0 → W p l e (g_rm 1) s m args below meth c H locs 0 0 (g_MQ below D aC B yC 69 args s (some (.int q0)) mem) (F0 m 18 ls [])) : ∀ (v2 : Int32) (v3 : Int32) (v4 : Int32) (v5 : Int32) (v6 : Int32) (v7 : Int32) (H : Heap) (locs : List Loc) (ls : Array Slot), g_At D aC B yC 69 mem s.heap H locs → lv_has ls 8 [(0, .ref (B + t)), (1, .int a1), (2, .int v2), (3, .int v3), (4, .int v4), (5, .int v5), (6, .int v6), (7, .int v7)] → f7_rings_b44 F t a1 s18 mem v2 v3 v4 v5 v6 v7 = some q0 → W p l e (g_rm 1) s m args below meth c H locs 0 0 (g_MQ below D aC B yC 69 args s (some (.int q0)) mem) (F0 m 44 ls []) := by
  have key : ∀ (nn : Nat) (x : Int32 × Int32 × Int32 × Int32 × Int32 × Int32) (H : Heap) (locs : List Loc) (ls : Array Slot), g_At D aC B yC 69 mem s.heap H locs → lv_has ls 8 [(0, .ref (B + t)), (1, .int a1), (2, .int x.1), (3, .int x.2.1), (4, .int x.2.2.1), (5, .int x.2.2.2.1), (6, .int x.2.2.2.2.1), (7, .int x.2.2.2.2.2)] → g_fix (fun sf x => f7_rings_b44_body F t a1 s18 (fun v2 v3 v4 v5 v6 v7 => sf (v2, v3, v4, v5, v6, v7)) mem x.1 x.2.1 x.2.2.1 x.2.2.2.1 x.2.2.2.2.1 x.2.2.2.2.2) nn x = some q0 → W p l e (g_rm 1) s m args below meth c H locs 0 0 (g_MQ below D aC B yC 69 args s (some (.int q0)) mem) (F0 m 44 ls []) := by
    intro nn
    induction nn with
    | zero => intro x H locs ls hM hl he; simp [g_fix] at he
    | succ nn ih =>
      intro x H locs ls hM hl he
      exact w7_rings_b44_body (F := F) (t := t) (a1 := a1) E hml hret hlk ht hY hs18 (fun v2 v3 v4 v5 v6 v7 H locs ls hM hl he => ih (v2, v3, v4, v5, v6, v7) H locs ls hM hl he) x.1 x.2.1 x.2.2.1 x.2.2.2.1 x.2.2.2.2.1 x.2.2.2.2.2 H locs ls hM hl he
  intro v2 v3 v4 v5 v6 v7 H locs ls hM hl he
  exact key F (v2, v3, v4, v5, v6, v7) H locs ls hM hl he

set_option maxHeartbeats 4000000 in
set_option maxRecDepth 100000 in
theorem w7_rings_b37 (E : g_C p s m args c cX7_rings RX7 D aC (g_Zs (g_A B 69))) (hml : c.maxLocals = 8) (hret : meth.sig.returnType = (some .int)) (hlk : meth.locks = false) {F : Nat} {q0 : Int32} {t : Nat} {a1 : Int32} (ht : t < 69) (hY : yC.1 t = (7, 0)) {mem : g_M} {s18 : Int32 → Int32 → Int32 → Int32 → Option (Int32)} (hs18 : ∀ (v2 : Int32) (v3 : Int32) (v4 : Int32) (v5 : Int32) (H : Heap) (locs : List Loc) (ls : Array Slot), g_At D aC B yC 69 mem s.heap H locs → lv_has ls 8 [(0, .ref (B + t)), (1, .int a1), (2, .int v2), (3, .int v3), (4, .int v4), (5, .int v5)] → s18 v2 v3 v4 v5 = some q0 → W p l e (g_rm 1) s m args below meth c H locs 0 0 (g_MQ below D aC B yC 69 args s (some (.int q0)) mem) (F0 m 18 ls [])) : ∀ (v2 : Int32) (v3 : Int32) (v4 : Int32) (v5 : Int32) (H : Heap) (locs : List Loc) (ls : Array Slot), g_At D aC B yC 69 mem s.heap H locs → lv_has ls 8 [(0, .ref (B + t)), (1, .int a1), (2, .int v2), (3, .int v3), (4, .int v4), (5, .int v5)] → f7_rings_b37 F t a1 s18 mem v2 v3 v4 v5 = some q0 → W p l e (g_rm 1) s m args below meth c H locs 0 0 (g_MQ below D aC B yC 69 args s (some (.int q0)) mem) (F0 m 37 ls []) := by
  intro v2 v3 v4 v5 H locs ls hM hl he
  unfold f7_rings_b37 at he
  have hx := E.1
  have hb := E.2.1
  have hown := E.2.2.1
  have hts := E.2.2.2.1
  refine lv_iload hx hb dX7_rings_37 (lv_at hl 5 rfl) ?_
  refine lv_istore (lv' := [(6, .int v5), (0, .ref (B + t)), (1, .int a1), (2, .int v2), (3, .int v3), (4, .int v4), (5, .int v5)]) hx hb dX7_rings_39 hl (by decide) rfl (fun ls hl => ?_)
  refine lv_iconst (v := (0 : Int32)) hx hb dX7_rings_41 rfl ?_
  refine lv_istore (lv' := [(7, .int (0 : Int32)), (6, .int v5), (0, .ref (B + t)), (1, .int a1), (2, .int v2), (3, .int v3), (4, .int v4), (5, .int v5)]) hx hb dX7_rings_42 hl (by decide) rfl (fun ls hl => ?_)
  exact w7_rings_b44 (F := F) (t := t) (a1 := a1) E hml hret hlk ht hY hs18 _ _ _ _ _ _ _ _ _ hM (lv_sub hl [2, 3, 4, 5, 6, 7, 1, 0] rfl) he

set_option maxHeartbeats 4000000 in
set_option maxRecDepth 100000 in
theorem w7_rings_b18_body (E : g_C p s m args c cX7_rings RX7 D aC (g_Zs (g_A B 69))) (hml : c.maxLocals = 8) (hret : meth.sig.returnType = (some .int)) (hlk : meth.locks = false) {F : Nat} {q0 : Int32} {t : Nat} {a1 : Int32} (ht : t < 69) (hY : yC.1 t = (7, 0)) {mem : g_M} {s18 : Int32 → Int32 → Int32 → Int32 → Option (Int32)} (hs18 : ∀ (v2 : Int32) (v3 : Int32) (v4 : Int32) (v5 : Int32) (H : Heap) (locs : List Loc) (ls : Array Slot), g_At D aC B yC 69 mem s.heap H locs → lv_has ls 8 [(0, .ref (B + t)), (1, .int a1), (2, .int v2), (3, .int v3), (4, .int v4), (5, .int v5)] → s18 v2 v3 v4 v5 = some q0 → W p l e (g_rm 1) s m args below meth c H locs 0 0 (g_MQ below D aC B yC 69 args s (some (.int q0)) mem) (F0 m 18 ls [])) : ∀ (v2 : Int32) (v3 : Int32) (v4 : Int32) (v5 : Int32) (H : Heap) (locs : List Loc) (ls : Array Slot), g_At D aC B yC 69 mem s.heap H locs → lv_has ls 8 [(0, .ref (B + t)), (1, .int a1), (2, .int v2), (3, .int v3), (4, .int v4), (5, .int v5)] → f7_rings_b18_body F t a1 s18 mem v2 v3 v4 v5 = some q0 → W p l e (g_rm 1) s m args below meth c H locs 0 0 (g_MQ below D aC B yC 69 args s (some (.int q0)) mem) (F0 m 18 ls []) := by
  intro v2 v3 v4 v5 H locs ls hM hl he
  unfold f7_rings_b18_body at he
  have hx := E.1
  have hb := E.2.1
  have hown := E.2.2.1
  have hts := E.2.2.2.1
  refine lv_iload hx hb dX7_rings_18 (lv_at hl 5 rfl) ?_
  refine lv_iload_n hx hb dX7_rings_20 rfl (lv_at hl 2 rfl) ?_
  refine lv_icmp_ge (tgt := 94) hx hb dX7_rings_21 (by decide) (fun h8 => ?_) (fun h8 => ?_)
  · rw [if_neg (Int32.not_lt.mpr h8)] at he
    refine lv_iload_n hx hb dX7_rings_94 rfl (lv_at hl 3 rfl) ?_
    cases he
    exact g_iret E hM hret hlk dX7_rings_95
  · rw [if_pos (Int32.not_le.mp h8)] at he
    refine lv_iload hx hb dX7_rings_24 (lv_at hl 4 rfl) ?_
    refine lv_iload hx hb dX7_rings_26 (lv_at hl 5 rfl) ?_
    refine lv_ishr hx hb dX7_rings_28 ?_
    refine lv_iconst (v := (1 : Int32)) hx hb dX7_rings_29 rfl ?_
    refine lv_iand hx hb dX7_rings_30 ?_
    refine lv_if_ne (tgt := 37) hx hb dX7_rings_31 (by decide) (fun h9 => ?_) (fun h9 => ?_)
    · rw [if_neg h9] at he
      exact w7_rings_b37 (F := F) (t := t) (a1 := a1) E hml hret hlk ht hY hs18 _ _ _ _ _ _ _ hM (lv_sub hl [0, 1, 2, 3, 4, 5] rfl) he
    · rw [if_pos h9] at he
      obtain ⟨x10, hx10, he⟩ := g_let_ex he
      refine lv_iinc (v := x10) (lv' := [(3, .int x10), (0, .ref (B + t)), (1, .int a1), (2, .int v2), (4, .int v4), (5, .int v5)]) hx hb dX7_rings_34 hl (k := 3) rfl (by rw [hx10]; rfl) (by decide) rfl (fun ls hl => ?_)
      exact w7_rings_b37 (F := F) (t := t) (a1 := a1) E hml hret hlk ht hY hs18 _ _ _ _ _ _ _ hM (lv_sub hl [1, 2, 3, 0, 4, 5] rfl) he

set_option maxHeartbeats 4000000 in
set_option maxRecDepth 100000 in
theorem w7_rings_b18 (E : g_C p s m args c cX7_rings RX7 D aC (g_Zs (g_A B 69))) (hml : c.maxLocals = 8) (hret : meth.sig.returnType = (some .int)) (hlk : meth.locks = false) {F : Nat} {q0 : Int32} {t : Nat} {a1 : Int32} (ht : t < 69) (hY : yC.1 t = (7, 0)) {mem : g_M} : ∀ (v2 : Int32) (v3 : Int32) (v4 : Int32) (v5 : Int32) (H : Heap) (locs : List Loc) (ls : Array Slot), g_At D aC B yC 69 mem s.heap H locs → lv_has ls 8 [(0, .ref (B + t)), (1, .int a1), (2, .int v2), (3, .int v3), (4, .int v4), (5, .int v5)] → f7_rings_b18 F t a1 mem v2 v3 v4 v5 = some q0 → W p l e (g_rm 1) s m args below meth c H locs 0 0 (g_MQ below D aC B yC 69 args s (some (.int q0)) mem) (F0 m 18 ls []) := by
  have key : ∀ (nn : Nat) (x : Int32 × Int32 × Int32 × Int32) (H : Heap) (locs : List Loc) (ls : Array Slot), g_At D aC B yC 69 mem s.heap H locs → lv_has ls 8 [(0, .ref (B + t)), (1, .int a1), (2, .int x.1), (3, .int x.2.1), (4, .int x.2.2.1), (5, .int x.2.2.2)] → g_fix (fun sf x => f7_rings_b18_body F t a1 (fun v2 v3 v4 v5 => sf (v2, v3, v4, v5)) mem x.1 x.2.1 x.2.2.1 x.2.2.2) nn x = some q0 → W p l e (g_rm 1) s m args below meth c H locs 0 0 (g_MQ below D aC B yC 69 args s (some (.int q0)) mem) (F0 m 18 ls []) := by
    intro nn
    induction nn with
    | zero => intro x H locs ls hM hl he; simp [g_fix] at he
    | succ nn ih =>
      intro x H locs ls hM hl he
      exact w7_rings_b18_body (F := F) (t := t) (a1 := a1) E hml hret hlk ht hY (fun v2 v3 v4 v5 H locs ls hM hl he => ih (v2, v3, v4, v5) H locs ls hM hl he) x.1 x.2.1 x.2.2.1 x.2.2.2 H locs ls hM hl he
  intro v2 v3 v4 v5 H locs ls hM hl he
  exact key F (v2, v3, v4, v5) H locs ls hM hl he

set_option maxHeartbeats 4000000 in
set_option maxRecDepth 100000 in
theorem c7_rings (l : Launch) (D : va_G) (aC : Nat → ClassId) (B : Nat) {F : Nat} {t : Nat} (ht : t < 69) (hY : yC.1 t = (7, 0)) {a1 : Int32} {mem : g_M} {q0 : Int32} (he : f7_rings F t a1 mem = some q0) : g_Met l yX7_rings cX7_rings 8 (some .int) 1 D aC B yC 69 mem [.ref (B + t), .int a1] (some (.int q0)) mem := by
  refine g_ofW (by decide) (Nat.le_of_ble_eq_true rfl) ?_
  intro p e s m args below meth c ls E hml hret hlk hM hl
  have E : g_C p s m args c cX7_rings RX7 D aC (g_Zs (g_A B 69)) := E
  have hx := E.1
  have hb := E.2.1
  have hown := E.2.2.1
  have hts := E.2.2.2.1
  have hl : lv_has ls 8 [(0, .ref (B + t)), (1, .int a1)] := hl
  unfold f7_rings at he
  refine lv_aload_n hx hb dX7_rings_0 rfl (lv_at hl 0 rfl) ?_
  obtain ⟨q11, hqq11, hq11, hYq11, he⟩ := g_dr_some he
  refine g_getD E hM (o := t) ht hY fl_X7_40 (pn_7_0 t ht hY) hqq11 dX7_rings_1 ?_
  refine g_getP E hM (o := q11) hq11 hYq11 fl_X7_73 (q := (q11 + 1)) (pt_9_0 q11 hq11 hYq11).1 dX7_rings_4 ?_
  refine lv_iconst (v := (0 : Int32)) hx hb dX7_rings_7 rfl ?_
  obtain ⟨h12, he⟩ := g_ck_some he
  refine g_iald E hM (o := (q11 + 1)) (pt_9_0 q11 hq11 hYq11).2.1 (pt_9_0 q11 hq11 hYq11).2.2 h12 dX7_rings_8 ?_
  obtain ⟨x13, hx13, he⟩ := g_let_ex he
  refine g_topI hx13 ?_
  refine lv_istore_n (lv' := [(2, .int x13), (0, .ref (B + t)), (1, .int a1)]) hx hb dX7_rings_9 rfl hl (by decide) rfl (fun ls hl => ?_)
  refine lv_iconst (v := (0 : Int32)) hx hb dX7_rings_10 rfl ?_
  refine lv_istore_n (lv' := [(3, .int (0 : Int32)), (2, .int x13), (0, .ref (B + t)), (1, .int a1)]) hx hb dX7_rings_11 rfl hl (by decide) rfl (fun ls hl => ?_)
  refine lv_iconst (v := (0 : Int32)) hx hb dX7_rings_12 rfl ?_
  refine lv_istore (lv' := [(4, .int (0 : Int32)), (3, .int (0 : Int32)), (2, .int x13), (0, .ref (B + t)), (1, .int a1)]) hx hb dX7_rings_13 hl (by decide) rfl (fun ls hl => ?_)
  refine lv_iconst (v := (0 : Int32)) hx hb dX7_rings_15 rfl ?_
  refine lv_istore (lv' := [(5, .int (0 : Int32)), (4, .int (0 : Int32)), (3, .int (0 : Int32)), (2, .int x13), (0, .ref (B + t)), (1, .int a1)]) hx hb dX7_rings_16 hl (by decide) rfl (fun ls hl => ?_)
  exact w7_rings_b18 (F := F) (t := t) (a1 := a1) E hml hret hlk ht hY _ _ _ _ _ _ _ hM (lv_sub hl [4, 5, 3, 2, 1, 0] rfl) he

set_option maxHeartbeats 4000000 in
set_option maxRecDepth 100000 in
theorem w10_putFour_b3_body (E : g_C p s m args c cX10_putFour RX10 D aC (g_Zs (g_A B 69))) (hml : c.maxLocals = 3) (hret : meth.sig.returnType = none) (hlk : meth.locks = false) {F : Nat} {q0 : g_M} {a1 : Int32} {s3 : Int32 → g_M → Option (g_M)} (hs3 : ∀ (v2 : Int32) (mem : g_M) (H : Heap) (locs : List Loc) (ls : Array Slot), g_At D aC B yC 69 mem s.heap H locs → lv_has ls 3 [(0, .ref (B + 0)), (1, .int a1), (2, .int v2)] → s3 v2 mem = some q0 → W p l e (g_rm 1) s m args below meth c H locs 0 0 (g_MQ below D aC B yC 69 args s none q0) (F0 m 3 ls [])) : ∀ (v2 : Int32) (mem : g_M) (H : Heap) (locs : List Loc) (ls : Array Slot), g_At D aC B yC 69 mem s.heap H locs → lv_has ls 3 [(0, .ref (B + 0)), (1, .int a1), (2, .int v2)] → f10_putFour_b3_body F a1 s3 v2 mem = some q0 → W p l e (g_rm 1) s m args below meth c H locs 0 0 (g_MQ below D aC B yC 69 args s none q0) (F0 m 3 ls []) := by
  intro v2 mem H locs ls hM hl he
  unfold f10_putFour_b3_body at he
  have hx := E.1
  have hb := E.2.1
  have hown := E.2.2.1
  have hts := E.2.2.2.1
  refine lv_iload_n hx hb dX10_putFour_3 rfl (lv_at hl 2 rfl) ?_
  refine lv_if_lt (tgt := 46) hx hb dX10_putFour_4 (by decide) (fun h1 => ?_) (fun h1 => ?_)
  · rw [if_neg (Int32.not_le.mpr h1)] at he
    cases he
    exact g_vret E hM hret hlk dX10_putFour_46
  · rw [if_pos (Int32.not_lt.mp h1)] at he
    refine lv_aload_n hx hb dX10_putFour_7 rfl (lv_at hl 0 rfl) ?_
    refine g_getI E hM (o := 0) (Nat.le_of_ble_eq_true rfl) rfl fl_X10_13 dX10_putFour_8 ?_
    refine lv_sipush (v := (700 : Int32)) hx hb dX10_putFour_11 rfl ?_
    refine lv_icmp_ge (tgt := 46) hx hb dX10_putFour_14 (by decide) (fun h2 => ?_) (fun h2 => ?_)
    · rw [if_neg (Int32.not_lt.mpr h2)] at he
      cases he
      exact g_vret E hM hret hlk dX10_putFour_46
    · rw [if_pos (Int32.not_le.mp h2)] at he
      refine lv_aload_n hx hb dX10_putFour_17 rfl (lv_at hl 0 rfl) ?_
      refine g_getP E hM (o := 0) (Nat.le_of_ble_eq_true rfl) rfl fl_X10_9 (q := 1) rfl dX10_putFour_18 ?_
      refine lv_aload_n hx hb dX10_putFour_21 rfl (lv_at hl 0 rfl) ?_
      refine g_getI E hM (o := 0) (Nat.le_of_ble_eq_true rfl) rfl fl_X10_13 dX10_putFour_22 ?_
      refine lv_iload_n hx hb dX10_putFour_25 rfl (lv_at hl 1 rfl) ?_
      refine lv_iload_n hx hb dX10_putFour_26 rfl (lv_at hl 2 rfl) ?_
      refine lv_ishr hx hb dX10_putFour_27 ?_
      refine lv_i2b hx hb dX10_putFour_28 rfl ?_
      obtain ⟨h3, he⟩ := g_ck_some he
      refine g_bast E hM (o := 1) (Nat.le_of_ble_eq_true rfl) rfl h3 dX10_putFour_29 (fun H locs hM => ?_)
      obtain ⟨m4, hm4, he⟩ := g_let_ex he
      rw [← hm4] at hM
      refine lv_aload_n hx hb dX10_putFour_30 rfl (lv_at hl 0 rfl) ?_
      refine lv_dup hx hb dX10_putFour_31 rfl ?_
      refine g_getI E hM (o := 0) (Nat.le_of_ble_eq_true rfl) rfl fl_X10_13 dX10_putFour_32 ?_
      refine lv_iconst (v := (1 : Int32)) hx hb dX10_putFour_35 rfl ?_
      refine lv_iadd hx hb dX10_putFour_36 ?_
      refine g_putI E hM (o := 0) (Nat.le_of_ble_eq_true rfl) rfl fp_X10_13 dX10_putFour_37 (fun H locs hM => ?_)
      obtain ⟨m5, hm5, he⟩ := g_let_ex he
      rw [← hm5] at hM
      obtain ⟨x6, hx6, he⟩ := g_let_ex he
      refine lv_iinc (v := x6) (lv' := [(2, .int x6), (0, .ref (B + 0)), (1, .int a1)]) hx hb dX10_putFour_40 hl (k := 2) rfl (by rw [hx6]; rfl) (by decide) rfl (fun ls hl => ?_)
      refine lv_goto (tgt := 3) hx hb dX10_putFour_43 (by decide) ?_
      exact hs3 _ _ _ _ _ hM (lv_sub hl [1, 2, 0] rfl) he

set_option maxHeartbeats 4000000 in
set_option maxRecDepth 100000 in
theorem w10_putFour_b3 (E : g_C p s m args c cX10_putFour RX10 D aC (g_Zs (g_A B 69))) (hml : c.maxLocals = 3) (hret : meth.sig.returnType = none) (hlk : meth.locks = false) {F : Nat} {q0 : g_M} {a1 : Int32} : ∀ (v2 : Int32) (mem : g_M) (H : Heap) (locs : List Loc) (ls : Array Slot), g_At D aC B yC 69 mem s.heap H locs → lv_has ls 3 [(0, .ref (B + 0)), (1, .int a1), (2, .int v2)] → f10_putFour_b3 F a1 v2 mem = some q0 → W p l e (g_rm 1) s m args below meth c H locs 0 0 (g_MQ below D aC B yC 69 args s none q0) (F0 m 3 ls []) := by
  have key : ∀ (nn : Nat) (x : Int32 × g_M) (H : Heap) (locs : List Loc) (ls : Array Slot), g_At D aC B yC 69 x.2 s.heap H locs → lv_has ls 3 [(0, .ref (B + 0)), (1, .int a1), (2, .int x.1)] → g_fix (fun sf x => f10_putFour_b3_body F a1 (fun v2 mem => sf (v2, mem)) x.1 x.2) nn x = some q0 → W p l e (g_rm 1) s m args below meth c H locs 0 0 (g_MQ below D aC B yC 69 args s none q0) (F0 m 3 ls []) := by
    intro nn
    induction nn with
    | zero => intro x H locs ls hM hl he; simp [g_fix] at he
    | succ nn ih =>
      intro x H locs ls hM hl he
      exact w10_putFour_b3_body (F := F) (a1 := a1) E hml hret hlk (fun v2 mem H locs ls hM hl he => ih (v2, mem) H locs ls hM hl he) x.1 x.2 H locs ls hM hl he
  intro v2 mem H locs ls hM hl he
  exact key F (v2, mem) H locs ls hM hl he

set_option maxHeartbeats 4000000 in
set_option maxRecDepth 100000 in
theorem c10_putFour (l : Launch) (D : va_G) (aC : Nat → ClassId) (B : Nat) {F : Nat} {a1 : Int32} {mem : g_M} {q0 : g_M} (he : f10_putFour F a1 mem = some q0) : g_Met l yX10_putFour cX10_putFour 3 none 1 D aC B yC 69 mem [.ref (B + 0), .int a1] none q0 := by
  refine g_ofW (by decide) (Nat.le_of_ble_eq_true rfl) ?_
  intro p e s m args below meth c ls E hml hret hlk hM hl
  have E : g_C p s m args c cX10_putFour RX10 D aC (g_Zs (g_A B 69)) := E
  have hx := E.1
  have hb := E.2.1
  have hown := E.2.2.1
  have hts := E.2.2.2.1
  have hl : lv_has ls 3 [(0, .ref (B + 0)), (1, .int a1)] := hl
  unfold f10_putFour at he
  refine lv_bipush (v := (24 : Int32)) hx hb dX10_putFour_0 rfl ?_
  refine lv_istore_n (lv' := [(2, .int (24 : Int32)), (0, .ref (B + 0)), (1, .int a1)]) hx hb dX10_putFour_2 rfl hl (by decide) rfl (fun ls hl => ?_)
  exact w10_putFour_b3 (F := F) (a1 := a1) E hml hret hlk _ _ _ _ _ hM (lv_sub hl [1, 2, 0] rfl) he

set_option maxHeartbeats 4000000 in
set_option maxRecDepth 100000 in
theorem c10_feed (l : Launch) (D : va_G) (aC : Nat → ClassId) (B : Nat) {F : Nat} {a1 : Int32} {a2 : Int32} {a3 : Int32} {a4 : Int32} {a5 : Int32} {mem : g_M} {q0 : Int32 × g_M} (he : f10_feed F a1 a2 a3 a4 a5 mem = some q0) : g_Met l yX10_feed cX10_feed 6 (some .int) 2 D aC B yC 69 mem [.ref (B + 0), .int a1, .int a2, .int a3, .int a4, .int a5] (some (.int q0.1)) q0.2 := by
  refine g_ofW (by decide) (Nat.le_of_ble_eq_true rfl) ?_
  intro p e s m args below meth c ls E hml hret hlk hM hl
  have E : g_C p s m args c cX10_feed RX10 D aC (g_Zs (g_A B 69)) := E
  have hx := E.1
  have hb := E.2.1
  have hown := E.2.2.1
  have hts := E.2.2.2.1
  have hl : lv_has ls 6 [(0, .ref (B + 0)), (1, .int a1), (2, .int a2), (3, .int a3), (4, .int a4), (5, .int a5)] := hl
  unfold f10_feed at he
  refine lv_aload_n hx hb dX10_feed_0 rfl (lv_at hl 0 rfl) ?_
  refine g_getI E hM (o := 0) (Nat.le_of_ble_eq_true rfl) rfl fl_X10_13 dX10_feed_1 ?_
  refine lv_bipush (v := (20 : Int32)) hx hb dX10_feed_4 rfl ?_
  refine lv_iadd hx hb dX10_feed_6 ?_
  refine lv_sipush (v := (700 : Int32)) hx hb dX10_feed_7 rfl ?_
  refine lv_icmp_le (tgt := 15) hx hb dX10_feed_10 (by decide) (fun h1 => ?_) (fun h1 => ?_)
  · rw [if_neg (Int32.not_lt.mpr h1)] at he
    refine lv_aload_n hx hb dX10_feed_15 rfl (lv_at hl 0 rfl) ?_
    refine lv_iload_n hx hb dX10_feed_16 rfl (lv_at hl 1 rfl) ?_
    obtain ⟨r2, hcr2, he⟩ := g_bind he
    refine g_callV [.int a1] (rest := []) E hml hl.1 hM cv_X10_95 (c10_putFour l D aC B hcr2) (o := 0) (Nat.le_of_ble_eq_true rfl) rfl (by decide) rfl rfl (Nat.le_of_ble_eq_true rfl) dX10_feed_17 (fun H locs hM => ?_)
    refine W.eq (g2 := F0 m 20 ls []) rfl ?_
    refine lv_aload_n hx hb dX10_feed_20 rfl (lv_at hl 0 rfl) ?_
    refine lv_iload_n hx hb dX10_feed_21 rfl (lv_at hl 2 rfl) ?_
    obtain ⟨r3, hcr3, he⟩ := g_bind he
    refine g_callV [.int a2] (rest := []) E hml hl.1 hM cv_X10_95 (c10_putFour l D aC B hcr3) (o := 0) (Nat.le_of_ble_eq_true rfl) rfl (by decide) rfl rfl (Nat.le_of_ble_eq_true rfl) dX10_feed_22 (fun H locs hM => ?_)
    refine W.eq (g2 := F0 m 25 ls []) rfl ?_
    refine lv_aload_n hx hb dX10_feed_25 rfl (lv_at hl 0 rfl) ?_
    refine lv_iload_n hx hb dX10_feed_26 rfl (lv_at hl 3 rfl) ?_
    obtain ⟨r4, hcr4, he⟩ := g_bind he
    refine g_callV [.int a3] (rest := []) E hml hl.1 hM cv_X10_95 (c10_putFour l D aC B hcr4) (o := 0) (Nat.le_of_ble_eq_true rfl) rfl (by decide) rfl rfl (Nat.le_of_ble_eq_true rfl) dX10_feed_27 (fun H locs hM => ?_)
    refine W.eq (g2 := F0 m 30 ls []) rfl ?_
    refine lv_aload_n hx hb dX10_feed_30 rfl (lv_at hl 0 rfl) ?_
    refine lv_iload hx hb dX10_feed_31 (lv_at hl 4 rfl) ?_
    obtain ⟨r5, hcr5, he⟩ := g_bind he
    refine g_callV [.int a4] (rest := []) E hml hl.1 hM cv_X10_95 (c10_putFour l D aC B hcr5) (o := 0) (Nat.le_of_ble_eq_true rfl) rfl (by decide) rfl rfl (Nat.le_of_ble_eq_true rfl) dX10_feed_33 (fun H locs hM => ?_)
    refine W.eq (g2 := F0 m 36 ls []) rfl ?_
    refine lv_aload_n hx hb dX10_feed_36 rfl (lv_at hl 0 rfl) ?_
    refine lv_iload hx hb dX10_feed_37 (lv_at hl 5 rfl) ?_
    obtain ⟨r6, hcr6, he⟩ := g_bind he
    refine g_callV [.int a5] (rest := []) E hml hl.1 hM cv_X10_95 (c10_putFour l D aC B hcr6) (o := 0) (Nat.le_of_ble_eq_true rfl) rfl (by decide) rfl rfl (Nat.le_of_ble_eq_true rfl) dX10_feed_39 (fun H locs hM => ?_)
    refine W.eq (g2 := F0 m 42 ls []) rfl ?_
    refine lv_aload_n hx hb dX10_feed_42 rfl (lv_at hl 0 rfl) ?_
    refine g_getI E hM (o := 0) (Nat.le_of_ble_eq_true rfl) rfl fl_X10_13 dX10_feed_43 ?_
    cases he
    exact g_iret E hM hret hlk dX10_feed_46
  · rw [if_pos (Int32.not_le.mp h1)] at he
    refine lv_iconst (v := (-1 : Int32)) hx hb dX10_feed_13 rfl ?_
    cases he
    exact g_iret E hM hret hlk dX10_feed_14

set_option maxHeartbeats 4000000 in
set_option maxRecDepth 100000 in
theorem c10_text (l : Launch) (D : va_G) (aC : Nat → ClassId) (B : Nat) {F : Nat} {a1 : Int32} {mem : g_M} {q0 : Int32 × g_M} (he : f10_text F a1 mem = some q0) : g_Met l yX10_text cX10_text 4 (some .int) 8 D aC B yC 69 mem [.ref (B + 0), .int a1] (some (.int q0.1)) q0.2 := by
  refine g_ofW (by decide) (Nat.le_of_ble_eq_true rfl) ?_
  intro p e s m args below meth c ls E hml hret hlk hM hl
  have E : g_C p s m args c cX10_text RX10 D aC (g_Zs (g_A B 69)) := E
  have hx := E.1
  have hb := E.2.1
  have hown := E.2.2.1
  have hts := E.2.2.2.1
  have hl : lv_has ls 4 [(0, .ref (B + 0)), (1, .int a1)] := hl
  unfold f10_text at he
  refine lv_iload_n hx hb dX10_text_0 rfl (lv_at hl 1 rfl) ?_
  refine lv_if_lt (tgt := 12) hx hb dX10_text_1 (by decide) (fun h1 => ?_) (fun h1 => ?_)
  · rw [if_neg (Int32.not_le.mpr h1)] at he
    refine lv_bipush (v := (-2 : Int32)) hx hb dX10_text_12 rfl ?_
    cases he
    exact g_iret E hM hret hlk dX10_text_14
  · rw [if_pos (Int32.not_lt.mp h1)] at he
    refine lv_iload_n hx hb dX10_text_4 rfl (lv_at hl 1 rfl) ?_
    refine lv_aload_n hx hb dX10_text_5 rfl (lv_at hl 0 rfl) ?_
    refine g_getI E hM (o := 0) (Nat.le_of_ble_eq_true rfl) rfl fl_X10_13 dX10_text_6 ?_
    refine lv_icmp_le (tgt := 15) hx hb dX10_text_9 (by decide) (fun h2 => ?_) (fun h2 => ?_)
    · rw [if_neg (Int32.not_lt.mpr h2)] at he
      refine lv_aload_n hx hb dX10_text_15 rfl (lv_at hl 0 rfl) ?_
      refine g_getP E hM (o := 0) (Nat.le_of_ble_eq_true rfl) rfl fl_X10_32 (q := 30) rfl dX10_text_16 ?_
      refine lv_iload_n hx hb dX10_text_19 rfl (lv_at hl 1 rfl) ?_
      refine lv_aload_n hx hb dX10_text_20 rfl (lv_at hl 0 rfl) ?_
      obtain ⟨q3, hqq3, hq3, hYq3, he⟩ := g_dr_some he
      refine g_getD E hM (o := 0) (Nat.le_of_ble_eq_true rfl) rfl fl_X10_24 rfl hqq3 dX10_text_21 ?_
      obtain ⟨r4, hcr4, he⟩ := g_bind he
      refine g_callV [.int a1, .ref (B + q3)] (rest := []) E hml hl.1 hM cv_X10_99 (c5_reads l D aC B hq3 hYq3 hcr4) (o := 30) (Nat.le_of_ble_eq_true rfl) rfl (by decide) rfl rfl (Nat.le_of_ble_eq_true rfl) dX10_text_24 (fun H locs hM => ?_)
      refine W.eq (g2 := F0 m 27 ls [.int r4.1]) rfl ?_
      obtain ⟨x5, hx5, he⟩ := g_let_ex he
      refine g_topI hx5 ?_
      refine lv_istore_n (lv' := [(2, .int x5), (0, .ref (B + 0)), (1, .int a1)]) hx hb dX10_text_27 rfl hl (by decide) rfl (fun ls hl => ?_)
      refine lv_aload_n hx hb dX10_text_28 rfl (lv_at hl 1 rfl) ?_
      refine lv_iconst (v := (0 : Int32)) hx hb dX10_text_29 rfl ?_
      refine g_putI E hM (o := 0) (Nat.le_of_ble_eq_true rfl) rfl fp_X10_13 dX10_text_30 (fun H locs hM => ?_)
      obtain ⟨m6, hm6, he⟩ := g_let_ex he
      rw [← hm6] at hM
      refine lv_aload_n hx hb dX10_text_33 rfl (lv_at hl 1 rfl) ?_
      refine lv_aload_n hx hb dX10_text_34 rfl (lv_at hl 1 rfl) ?_
      refine g_getP E hM (o := 0) (Nat.le_of_ble_eq_true rfl) rfl fl_X10_32 (q := 30) rfl dX10_text_35 ?_
      refine g_getI E hM (o := 30) (Nat.le_of_ble_eq_true rfl) rfl fl_X10_103 dX10_text_38 ?_
      refine g_putI E hM (o := 0) (Nat.le_of_ble_eq_true rfl) rfl fp_X10_36 dX10_text_41 (fun H locs hM => ?_)
      obtain ⟨m7, hm7, he⟩ := g_let_ex he
      rw [← hm7] at hM
      refine lv_aload_n hx hb dX10_text_44 rfl (lv_at hl 1 rfl) ?_
      refine lv_aload_n hx hb dX10_text_45 rfl (lv_at hl 1 rfl) ?_
      refine g_getP E hM (o := 0) (Nat.le_of_ble_eq_true rfl) rfl fl_X10_32 (q := 30) rfl dX10_text_46 ?_
      refine g_getI E hM (o := 30) (Nat.le_of_ble_eq_true rfl) rfl fl_X10_104 dX10_text_49 ?_
      refine g_putI E hM (o := 0) (Nat.le_of_ble_eq_true rfl) rfl fp_X10_39 dX10_text_52 (fun H locs hM => ?_)
      obtain ⟨m8, hm8, he⟩ := g_let_ex he
      rw [← hm8] at hM
      refine lv_iload_n hx hb dX10_text_55 rfl (lv_at hl 0 rfl) ?_
      refine lv_if_ne (tgt := 61) hx hb dX10_text_56 (by decide) (fun h9 => ?_) (fun h9 => ?_)
      · rw [if_neg h9] at he
        refine lv_aload_n hx hb dX10_text_61 rfl (lv_at hl 1 rfl) ?_
        obtain ⟨q10, hqq10, hq10, hYq10, he⟩ := g_dr_some he
        refine g_getD E hM (o := 0) (Nat.le_of_ble_eq_true rfl) rfl fl_X10_20 rfl hqq10 dX10_text_62 ?_
        refine lv_astore_n (lv' := [(3, .ref (B + q10)), (2, .int x5), (0, .ref (B + 0)), (1, .int a1)]) hx hb dX10_text_65 rfl hl (by decide) rfl (fun ls hl => ?_)
        refine lv_aload_n hx hb dX10_text_66 rfl (lv_at hl 2 rfl) ?_
        refine lv_aload_n hx hb dX10_text_67 rfl (lv_at hl 2 rfl) ?_
        obtain ⟨q11, hqq11, hq11, hYq11, he⟩ := g_dr_some he
        refine g_getD E hM (o := 0) (Nat.le_of_ble_eq_true rfl) rfl fl_X10_24 rfl hqq11 dX10_text_68 ?_
        refine g_putR E hM (o := 0) (Nat.le_of_ble_eq_true rfl) rfl fp_X10_20 rfl dX10_text_71 (fun H locs hM => ?_)
        obtain ⟨m12, hm12, he⟩ := g_let_ex he
        rw [← hm12] at hM
        refine lv_aload_n hx hb dX10_text_74 rfl (lv_at hl 2 rfl) ?_
        refine lv_aload_n hx hb dX10_text_75 rfl (lv_at hl 0 rfl) ?_
        refine g_putR E hM (o := 0) (Nat.le_of_ble_eq_true rfl) rfl fp_X10_24 rfl dX10_text_76 (fun H locs hM => ?_)
        obtain ⟨m13, hm13, he⟩ := g_let_ex he
        rw [← hm13] at hM
        refine lv_aload_n hx hb dX10_text_79 rfl (lv_at hl 2 rfl) ?_
        refine g_getP E hM (o := 0) (Nat.le_of_ble_eq_true rfl) rfl fl_X10_47 (q := 35) rfl dX10_text_80 ?_
        refine lv_aload_n hx hb dX10_text_83 rfl (lv_at hl 2 rfl) ?_
        obtain ⟨q14, hqq14, hq14, hYq14, he⟩ := g_dr_some he
        refine g_getD E hM (o := 0) (Nat.le_of_ble_eq_true rfl) rfl fl_X10_20 rfl hqq14 dX10_text_84 ?_
        obtain ⟨r15, hcr15, he⟩ := g_bind he
        refine g_callV [.ref (B + q14)] (rest := []) E hml hl.1 hM cv_X10_105 (c7_begin l D aC B (Nat.le_of_ble_eq_true rfl) rfl hq14 hYq14 hcr15) (o := 35) (Nat.le_of_ble_eq_true rfl) rfl (by decide) rfl rfl (Nat.le_of_ble_eq_true rfl) dX10_text_87 (fun H locs hM => ?_)
        refine W.eq (g2 := F0 m 90 ls []) rfl ?_
        refine lv_aload_n hx hb dX10_text_90 rfl (lv_at hl 2 rfl) ?_
        refine lv_iconst (v := (0 : Int32)) hx hb dX10_text_91 rfl ?_
        refine g_putZ E hM (o := 0) (Nat.le_of_ble_eq_true rfl) rfl fp_X10_54 (Or.inl rfl) dX10_text_92 (fun H locs hM => ?_)
        obtain ⟨m16, hm16, he⟩ := g_let_ex he
        rw [← hm16] at hM
        refine lv_aload_n hx hb dX10_text_95 rfl (lv_at hl 2 rfl) ?_
        refine g_getP E hM (o := 0) (Nat.le_of_ble_eq_true rfl) rfl fl_X10_84 (q := 60) rfl dX10_text_96 ?_
        obtain ⟨r17, hcr17, he⟩ := g_bind he
        refine g_callV [] (rest := []) E hml hl.1 hM cv_X10_108 (c6_clear l D aC B hcr17) (o := 60) (Nat.le_of_ble_eq_true rfl) rfl (by decide) rfl rfl (Nat.le_of_ble_eq_true rfl) dX10_text_99 (fun H locs hM => ?_)
        refine W.eq (g2 := F0 m 102 ls []) rfl ?_
        refine lv_aload_n hx hb dX10_text_102 rfl (lv_at hl 2 rfl) ?_
        refine g_getP E hM (o := 0) (Nat.le_of_ble_eq_true rfl) rfl fl_X10_91 (q := 67) rfl dX10_text_103 ?_
        obtain ⟨r18, hcr18, he⟩ := g_bind he
        refine g_callV [] (rest := []) E hml hl.1 hM cv_X10_111 (c3_clear l D aC B hcr18) (o := 67) (Nat.le_of_ble_eq_true rfl) rfl (by decide) rfl rfl (Nat.le_of_ble_eq_true rfl) dX10_text_106 (fun H locs hM => ?_)
        refine W.eq (g2 := F0 m 109 ls []) rfl ?_
        refine lv_aload_n hx hb dX10_text_109 rfl (lv_at hl 2 rfl) ?_
        refine g_getP E hM (o := 0) (Nat.le_of_ble_eq_true rfl) rfl fl_X10_32 (q := 30) rfl dX10_text_110 ?_
        refine g_getI E hM (o := 30) (Nat.le_of_ble_eq_true rfl) rfl fl_X10_112 dX10_text_113 ?_
        cases he
        exact g_iret E hM hret hlk dX10_text_116
      · rw [if_pos h9] at he
        refine lv_iconst (v := (-1 : Int32)) hx hb dX10_text_59 rfl ?_
        cases he
        exact g_iret E hM hret hlk dX10_text_60
    · rw [if_pos (Int32.not_le.mp h2)] at he
      refine lv_bipush (v := (-2 : Int32)) hx hb dX10_text_12 rfl ?_
      cases he
      exact g_iret E hM hret hlk dX10_text_14

set_option maxHeartbeats 4000000 in
set_option maxRecDepth 100000 in
theorem c10_fault (l : Launch) (D : va_G) (aC : Nat → ClassId) (B : Nat) {F : Nat} {a1 : Int32} {mem : g_M} {q0 : Int32} (he : f10_fault F a1 mem = some q0) : g_Met l yX10_fault cX10_fault 2 (some .int) 1 D aC B yC 69 mem [.ref (B + 0), .int a1] (some (.int q0)) mem := by
  refine g_ofW (by decide) (Nat.le_of_ble_eq_true rfl) ?_
  intro p e s m args below meth c ls E hml hret hlk hM hl
  have E : g_C p s m args c cX10_fault RX10 D aC (g_Zs (g_A B 69)) := E
  have hx := E.1
  have hb := E.2.1
  have hown := E.2.2.1
  have hts := E.2.2.2.1
  have hl : lv_has ls 2 [(0, .ref (B + 0)), (1, .int a1)] := hl
  unfold f10_fault at he
  refine lv_iload_n hx hb dX10_fault_0 rfl (lv_at hl 1 rfl) ?_
  refine lv_if_ne (tgt := 9) hx hb dX10_fault_1 (by decide) (fun h1 => ?_) (fun h1 => ?_)
  · rw [if_neg h1] at he
    refine lv_iload_n hx hb dX10_fault_9 rfl (lv_at hl 1 rfl) ?_
    refine lv_iconst (v := (1 : Int32)) hx hb dX10_fault_10 rfl ?_
    refine lv_icmp_ne (tgt := 21) hx hb dX10_fault_11 (by decide) (fun h2 => ?_) (fun h2 => ?_)
    · rw [if_neg h2] at he
      refine lv_iconst (v := (-1 : Int32)) hx hb dX10_fault_21 rfl ?_
      cases he
      exact g_iret E hM hret hlk dX10_fault_22
    · rw [if_pos h2] at he
      refine lv_aload_n hx hb dX10_fault_14 rfl (lv_at hl 0 rfl) ?_
      refine g_getI E hM (o := 0) (Nat.le_of_ble_eq_true rfl) rfl fl_X10_39 dX10_fault_15 ?_
      refine lv_goto (tgt := 22) hx hb dX10_fault_18 (by decide) ?_
      cases he
      exact g_iret E hM hret hlk dX10_fault_22
  · rw [if_pos h1] at he
    refine lv_aload_n hx hb dX10_fault_4 rfl (lv_at hl 0 rfl) ?_
    refine g_getI E hM (o := 0) (Nat.le_of_ble_eq_true rfl) rfl fl_X10_36 dX10_fault_5 ?_
    cases he
    exact g_iret E hM hret hlk dX10_fault_8

set_option maxHeartbeats 4000000 in
set_option maxRecDepth 100000 in
theorem c10_named (l : Launch) (D : va_G) (aC : Nat → ClassId) (B : Nat) {F : Nat} {a1 : Int32} {a2 : Int32} {mem : g_M} {q0 : Int32} (he : f10_named F a1 a2 mem = some q0) : g_Met l yX10_named cX10_named 3 (some .int) 2 D aC B yC 69 mem [.ref (B + 0), .int a1, .int a2] (some (.int q0)) mem := by
  refine g_ofW (by decide) (Nat.le_of_ble_eq_true rfl) ?_
  intro p e s m args below meth c ls E hml hret hlk hM hl
  have E : g_C p s m args c cX10_named RX10 D aC (g_Zs (g_A B 69)) := E
  have hx := E.1
  have hb := E.2.1
  have hown := E.2.2.1
  have hts := E.2.2.2.1
  have hl : lv_has ls 3 [(0, .ref (B + 0)), (1, .int a1), (2, .int a2)] := hl
  unfold f10_named at he
  refine lv_iload_n hx hb dX10_named_0 rfl (lv_at hl 1 rfl) ?_
  refine lv_if_lt (tgt := 9) hx hb dX10_named_1 (by decide) (fun h1 => ?_) (fun h1 => ?_)
  · rw [if_neg (Int32.not_le.mpr h1)] at he
    refine lv_iconst (v := (-1 : Int32)) hx hb dX10_named_9 rfl ?_
    cases he
    exact g_iret E hM hret hlk dX10_named_10
  · rw [if_pos (Int32.not_lt.mp h1)] at he
    refine lv_iload_n hx hb dX10_named_4 rfl (lv_at hl 1 rfl) ?_
    refine lv_iconst (v := (2 : Int32)) hx hb dX10_named_5 rfl ?_
    refine lv_icmp_le (tgt := 11) hx hb dX10_named_6 (by decide) (fun h2 => ?_) (fun h2 => ?_)
    · rw [if_neg (Int32.not_lt.mpr h2)] at he
      refine lv_aload_n hx hb dX10_named_11 rfl (lv_at hl 0 rfl) ?_
      obtain ⟨q3, hqq3, hq3, hYq3, he⟩ := g_dr_some he
      refine g_getD E hM (o := 0) (Nat.le_of_ble_eq_true rfl) rfl fl_X10_20 rfl hqq3 dX10_named_12 ?_
      refine lv_iload_n hx hb dX10_named_15 rfl (lv_at hl 1 rfl) ?_
      refine lv_iload_n hx hb dX10_named_16 rfl (lv_at hl 2 rfl) ?_
      obtain ⟨r4, hcr4, he⟩ := g_bind he
      refine g_callV [.int a1, .int a2] (rest := []) E hml hl.1 hM cv_X10_115 (c9_find l D aC B hq3 hYq3 hcr4) (o := q3) hq3 hYq3 (by decide) rfl rfl (Nat.le_of_ble_eq_true rfl) dX10_named_17 (fun H locs hM => ?_)
      refine W.eq (g2 := F0 m 20 ls [.int r4]) rfl ?_
      cases he
      exact g_iret E hM hret hlk dX10_named_20
    · rw [if_pos (Int32.not_le.mp h2)] at he
      refine lv_iconst (v := (-1 : Int32)) hx hb dX10_named_9 rfl ?_
      cases he
      exact g_iret E hM hret hlk dX10_named_10

set_option maxHeartbeats 4000000 in
set_option maxRecDepth 100000 in
theorem c10_isSort (l : Launch) (D : va_G) (aC : Nat → ClassId) (B : Nat) {F : Nat} {a1 : Int32} {mem : g_M} {q0 : Int32} (he : f10_isSort F a1 mem = some q0) : g_Met l yX10_isSort cX10_isSort 2 (some .boolean) 1 D aC B yC 69 mem [.ref (B + 0), .int a1] (some (.int q0)) mem := by
  refine g_ofW (by decide) (Nat.le_of_ble_eq_true rfl) ?_
  intro p e s m args below meth c ls E hml hret hlk hM hl
  have E : g_C p s m args c cX10_isSort RX10 D aC (g_Zs (g_A B 69)) := E
  have hx := E.1
  have hb := E.2.1
  have hown := E.2.2.1
  have hts := E.2.2.2.1
  have hl : lv_has ls 2 [(0, .ref (B + 0)), (1, .int a1)] := hl
  unfold f10_isSort at he
  refine lv_iload_n hx hb dX10_isSort_0 rfl (lv_at hl 1 rfl) ?_
  refine lv_if_lt (tgt := 21) hx hb dX10_isSort_1 (by decide) (fun h1 => ?_) (fun h1 => ?_)
  · rw [if_neg (Int32.not_le.mpr h1)] at he
    refine lv_iconst (v := (0 : Int32)) hx hb dX10_isSort_21 rfl ?_
    cases he
    exact g_zret E hM hret hlk (Or.inl rfl) dX10_isSort_22
  · rw [if_pos (Int32.not_lt.mp h1)] at he
    refine lv_iload_n hx hb dX10_isSort_4 rfl (lv_at hl 1 rfl) ?_
    refine lv_aload_n hx hb dX10_isSort_5 rfl (lv_at hl 0 rfl) ?_
    obtain ⟨q2, hqq2, hq2, hYq2, he⟩ := g_dr_some he
    refine g_getD E hM (o := 0) (Nat.le_of_ble_eq_true rfl) rfl fl_X10_20 rfl hqq2 dX10_isSort_6 ?_
    refine g_getP E hM (o := q2) hq2 hYq2 fl_X10_302 (q := (q2 + 1)) (pt_9_0 q2 hq2 hYq2).1 dX10_isSort_9 ?_
    refine lv_iconst (v := (1 : Int32)) hx hb dX10_isSort_12 rfl ?_
    obtain ⟨h3, he⟩ := g_ck_some he
    refine g_iald E hM (o := (q2 + 1)) (pt_9_0 q2 hq2 hYq2).2.1 (pt_9_0 q2 hq2 hYq2).2.2 h3 dX10_isSort_13 ?_
    refine lv_icmp_ge (tgt := 21) hx hb dX10_isSort_14 (by decide) (fun h4 => ?_) (fun h4 => ?_)
    · rw [if_neg (Int32.not_lt.mpr h4)] at he
      refine lv_iconst (v := (0 : Int32)) hx hb dX10_isSort_21 rfl ?_
      cases he
      exact g_zret E hM hret hlk (Or.inl rfl) dX10_isSort_22
    · rw [if_pos (Int32.not_le.mp h4)] at he
      refine lv_iconst (v := (1 : Int32)) hx hb dX10_isSort_17 rfl ?_
      refine lv_goto (tgt := 22) hx hb dX10_isSort_18 (by decide) ?_
      cases he
      exact g_zret E hM hret hlk (Or.inr rfl) dX10_isSort_22

set_option maxHeartbeats 4000000 in
set_option maxRecDepth 100000 in
theorem c10_sort (l : Launch) (D : va_G) (aC : Nat → ClassId) (B : Nat) {F : Nat} {a1 : Int32} {a2 : Int32} {mem : g_M} {q0 : Int32} (he : f10_sort F a1 a2 mem = some q0) : g_Met l yX10_sort cX10_sort 3 (some .int) 2 D aC B yC 69 mem [.ref (B + 0), .int a1, .int a2] (some (.int q0)) mem := by
  refine g_ofW (by decide) (Nat.le_of_ble_eq_true rfl) ?_
  intro p e s m args below meth c ls E hml hret hlk hM hl
  have E : g_C p s m args c cX10_sort RX10 D aC (g_Zs (g_A B 69)) := E
  have hx := E.1
  have hb := E.2.1
  have hown := E.2.2.1
  have hts := E.2.2.2.1
  have hl : lv_has ls 3 [(0, .ref (B + 0)), (1, .int a1), (2, .int a2)] := hl
  unfold f10_sort at he
  refine lv_aload_n hx hb dX10_sort_0 rfl (lv_at hl 0 rfl) ?_
  refine lv_iload_n hx hb dX10_sort_1 rfl (lv_at hl 1 rfl) ?_
  obtain ⟨r1, hcr1, he⟩ := g_bind he
  refine g_callV [.int a1] (rest := []) E hml hl.1 hM cv_X10_148 (c10_isSort l D aC B hcr1) (o := 0) (Nat.le_of_ble_eq_true rfl) rfl (by decide) rfl rfl (Nat.le_of_ble_eq_true rfl) dX10_sort_2 (fun H locs hM => ?_)
  refine W.eq (g2 := F0 m 5 ls [.int r1]) rfl ?_
  refine lv_if_ne (tgt := 10) hx hb dX10_sort_5 (by decide) (fun h2 => ?_) (fun h2 => ?_)
  · rw [if_neg h2] at he
    refine lv_iload_n hx hb dX10_sort_10 rfl (lv_at hl 2 rfl) ?_
    refine lv_if_ne (tgt := 24) hx hb dX10_sort_11 (by decide) (fun h3 => ?_) (fun h3 => ?_)
    · rw [if_neg h3] at he
      refine lv_iload_n hx hb dX10_sort_24 rfl (lv_at hl 2 rfl) ?_
      refine lv_iconst (v := (1 : Int32)) hx hb dX10_sort_25 rfl ?_
      refine lv_icmp_ne (tgt := 41) hx hb dX10_sort_26 (by decide) (fun h6 => ?_) (fun h6 => ?_)
      · rw [if_neg h6] at he
        refine lv_iconst (v := (-1 : Int32)) hx hb dX10_sort_41 rfl ?_
        cases he
        exact g_iret E hM hret hlk dX10_sort_42
      · rw [if_pos h6] at he
        refine lv_aload_n hx hb dX10_sort_29 rfl (lv_at hl 0 rfl) ?_
        obtain ⟨q7, hqq7, hq7, hYq7, he⟩ := g_dr_some he
        refine g_getD E hM (o := 0) (Nat.le_of_ble_eq_true rfl) rfl fl_X10_20 rfl hqq7 dX10_sort_30 ?_
        refine g_getP E hM (o := q7) hq7 hYq7 fl_X10_154 (q := (q7 + 5)) (pt_9_4 q7 hq7 hYq7).1 dX10_sort_33 ?_
        refine lv_iload_n hx hb dX10_sort_36 rfl (lv_at hl 1 rfl) ?_
        obtain ⟨h8, he⟩ := g_ck_some he
        refine g_iald E hM (o := (q7 + 5)) (pt_9_4 q7 hq7 hYq7).2.1 (pt_9_4 q7 hq7 hYq7).2.2 h8 dX10_sort_37 ?_
        refine lv_goto (tgt := 42) hx hb dX10_sort_38 (by decide) ?_
        cases he
        exact g_iret E hM hret hlk dX10_sort_42
    · rw [if_pos h3] at he
      refine lv_aload_n hx hb dX10_sort_14 rfl (lv_at hl 0 rfl) ?_
      obtain ⟨q4, hqq4, hq4, hYq4, he⟩ := g_dr_some he
      refine g_getD E hM (o := 0) (Nat.le_of_ble_eq_true rfl) rfl fl_X10_20 rfl hqq4 dX10_sort_15 ?_
      refine g_getP E hM (o := q4) hq4 hYq4 fl_X10_151 (q := (q4 + 4)) (pt_9_3 q4 hq4 hYq4).1 dX10_sort_18 ?_
      refine lv_iload_n hx hb dX10_sort_21 rfl (lv_at hl 1 rfl) ?_
      obtain ⟨h5, he⟩ := g_ck_some he
      refine g_iald E hM (o := (q4 + 4)) (pt_9_3 q4 hq4 hYq4).2.1 (pt_9_3 q4 hq4 hYq4).2.2 h5 dX10_sort_22 ?_
      cases he
      exact g_iret E hM hret hlk dX10_sort_23
  · rw [if_pos h2] at he
    refine lv_iconst (v := (-1 : Int32)) hx hb dX10_sort_8 rfl ?_
    cases he
    exact g_iret E hM hret hlk dX10_sort_9

set_option maxHeartbeats 4000000 in
set_option maxRecDepth 100000 in
theorem c10_isDeed (l : Launch) (D : va_G) (aC : Nat → ClassId) (B : Nat) {F : Nat} {a1 : Int32} {mem : g_M} {q0 : Int32} (he : f10_isDeed F a1 mem = some q0) : g_Met l yX10_isDeed cX10_isDeed 2 (some .boolean) 1 D aC B yC 69 mem [.ref (B + 0), .int a1] (some (.int q0)) mem := by
  refine g_ofW (by decide) (Nat.le_of_ble_eq_true rfl) ?_
  intro p e s m args below meth c ls E hml hret hlk hM hl
  have E : g_C p s m args c cX10_isDeed RX10 D aC (g_Zs (g_A B 69)) := E
  have hx := E.1
  have hb := E.2.1
  have hown := E.2.2.1
  have hts := E.2.2.2.1
  have hl : lv_has ls 2 [(0, .ref (B + 0)), (1, .int a1)] := hl
  unfold f10_isDeed at he
  refine lv_iload_n hx hb dX10_isDeed_0 rfl (lv_at hl 1 rfl) ?_
  refine lv_if_lt (tgt := 21) hx hb dX10_isDeed_1 (by decide) (fun h1 => ?_) (fun h1 => ?_)
  · rw [if_neg (Int32.not_le.mpr h1)] at he
    refine lv_iconst (v := (0 : Int32)) hx hb dX10_isDeed_21 rfl ?_
    cases he
    exact g_zret E hM hret hlk (Or.inl rfl) dX10_isDeed_22
  · rw [if_pos (Int32.not_lt.mp h1)] at he
    refine lv_iload_n hx hb dX10_isDeed_4 rfl (lv_at hl 1 rfl) ?_
    refine lv_aload_n hx hb dX10_isDeed_5 rfl (lv_at hl 0 rfl) ?_
    obtain ⟨q2, hqq2, hq2, hYq2, he⟩ := g_dr_some he
    refine g_getD E hM (o := 0) (Nat.le_of_ble_eq_true rfl) rfl fl_X10_20 rfl hqq2 dX10_isDeed_6 ?_
    refine g_getP E hM (o := q2) hq2 hYq2 fl_X10_302 (q := (q2 + 1)) (pt_9_0 q2 hq2 hYq2).1 dX10_isDeed_9 ?_
    refine lv_iconst (v := (2 : Int32)) hx hb dX10_isDeed_12 rfl ?_
    obtain ⟨h3, he⟩ := g_ck_some he
    refine g_iald E hM (o := (q2 + 1)) (pt_9_0 q2 hq2 hYq2).2.1 (pt_9_0 q2 hq2 hYq2).2.2 h3 dX10_isDeed_13 ?_
    refine lv_icmp_ge (tgt := 21) hx hb dX10_isDeed_14 (by decide) (fun h4 => ?_) (fun h4 => ?_)
    · rw [if_neg (Int32.not_lt.mpr h4)] at he
      refine lv_iconst (v := (0 : Int32)) hx hb dX10_isDeed_21 rfl ?_
      cases he
      exact g_zret E hM hret hlk (Or.inl rfl) dX10_isDeed_22
    · rw [if_pos (Int32.not_le.mp h4)] at he
      refine lv_iconst (v := (1 : Int32)) hx hb dX10_isDeed_17 rfl ?_
      refine lv_goto (tgt := 22) hx hb dX10_isDeed_18 (by decide) ?_
      cases he
      exact g_zret E hM hret hlk (Or.inr rfl) dX10_isDeed_22

set_option maxHeartbeats 4000000 in
set_option maxRecDepth 100000 in
theorem c10_deed (l : Launch) (D : va_G) (aC : Nat → ClassId) (B : Nat) {F : Nat} {a1 : Int32} {mem : g_M} {q0 : Int32} (he : f10_deed F a1 mem = some q0) : g_Met l yX10_deed cX10_deed 2 (some .int) 2 D aC B yC 69 mem [.ref (B + 0), .int a1] (some (.int q0)) mem := by
  refine g_ofW (by decide) (Nat.le_of_ble_eq_true rfl) ?_
  intro p e s m args below meth c ls E hml hret hlk hM hl
  have E : g_C p s m args c cX10_deed RX10 D aC (g_Zs (g_A B 69)) := E
  have hx := E.1
  have hb := E.2.1
  have hown := E.2.2.1
  have hts := E.2.2.2.1
  have hl : lv_has ls 2 [(0, .ref (B + 0)), (1, .int a1)] := hl
  unfold f10_deed at he
  refine lv_aload_n hx hb dX10_deed_0 rfl (lv_at hl 0 rfl) ?_
  refine lv_iload_n hx hb dX10_deed_1 rfl (lv_at hl 1 rfl) ?_
  obtain ⟨r1, hcr1, he⟩ := g_bind he
  refine g_callV [.int a1] (rest := []) E hml hl.1 hM cv_X10_157 (c10_isDeed l D aC B hcr1) (o := 0) (Nat.le_of_ble_eq_true rfl) rfl (by decide) rfl rfl (Nat.le_of_ble_eq_true rfl) dX10_deed_2 (fun H locs hM => ?_)
  refine W.eq (g2 := F0 m 5 ls [.int r1]) rfl ?_
  refine lv_if_eq (tgt := 20) hx hb dX10_deed_5 (by decide) (fun h2 => ?_) (fun h2 => ?_)
  · rw [if_pos h2] at he
    refine lv_iconst (v := (-1 : Int32)) hx hb dX10_deed_20 rfl ?_
    cases he
    exact g_iret E hM hret hlk dX10_deed_21
  · rw [if_neg h2] at he
    refine lv_aload_n hx hb dX10_deed_8 rfl (lv_at hl 0 rfl) ?_
    obtain ⟨q3, hqq3, hq3, hYq3, he⟩ := g_dr_some he
    refine g_getD E hM (o := 0) (Nat.le_of_ble_eq_true rfl) rfl fl_X10_20 rfl hqq3 dX10_deed_9 ?_
    refine g_getP E hM (o := q3) hq3 hYq3 fl_X10_160 (q := (q3 + 6)) (pt_9_5 q3 hq3 hYq3).1 dX10_deed_12 ?_
    refine lv_iload_n hx hb dX10_deed_15 rfl (lv_at hl 1 rfl) ?_
    obtain ⟨h4, he⟩ := g_ck_some he
    refine g_iald E hM (o := (q3 + 6)) (pt_9_5 q3 hq3 hYq3).2.1 (pt_9_5 q3 hq3 hYq3).2.2 h4 dX10_deed_16 ?_
    refine lv_goto (tgt := 21) hx hb dX10_deed_17 (by decide) ?_
    cases he
    exact g_iret E hM hret hlk dX10_deed_21

set_option maxHeartbeats 4000000 in
set_option maxRecDepth 100000 in
theorem c10_isSending (l : Launch) (D : va_G) (aC : Nat → ClassId) (B : Nat) {F : Nat} {a1 : Int32} {mem : g_M} {q0 : Int32} (he : f10_isSending F a1 mem = some q0) : g_Met l yX10_isSending cX10_isSending 2 (some .boolean) 1 D aC B yC 69 mem [.ref (B + 0), .int a1] (some (.int q0)) mem := by
  refine g_ofW (by decide) (Nat.le_of_ble_eq_true rfl) ?_
  intro p e s m args below meth c ls E hml hret hlk hM hl
  have E : g_C p s m args c cX10_isSending RX10 D aC (g_Zs (g_A B 69)) := E
  have hx := E.1
  have hb := E.2.1
  have hown := E.2.2.1
  have hts := E.2.2.2.1
  have hl : lv_has ls 2 [(0, .ref (B + 0)), (1, .int a1)] := hl
  unfold f10_isSending at he
  refine lv_iload_n hx hb dX10_isSending_0 rfl (lv_at hl 1 rfl) ?_
  refine lv_if_lt (tgt := 19) hx hb dX10_isSending_1 (by decide) (fun h1 => ?_) (fun h1 => ?_)
  · rw [if_neg (Int32.not_le.mpr h1)] at he
    refine lv_iconst (v := (0 : Int32)) hx hb dX10_isSending_19 rfl ?_
    cases he
    exact g_zret E hM hret hlk (Or.inl rfl) dX10_isSending_20
  · rw [if_pos (Int32.not_lt.mp h1)] at he
    refine lv_iload_n hx hb dX10_isSending_4 rfl (lv_at hl 1 rfl) ?_
    refine lv_aload_n hx hb dX10_isSending_5 rfl (lv_at hl 0 rfl) ?_
    refine g_getP E hM (o := 0) (Nat.le_of_ble_eq_true rfl) rfl fl_X10_47 (q := 35) rfl dX10_isSending_6 ?_
    refine g_getI E hM (o := 35) (Nat.le_of_ble_eq_true rfl) rfl fl_X10_218 dX10_isSending_9 ?_
    refine lv_icmp_ge (tgt := 19) hx hb dX10_isSending_12 (by decide) (fun h2 => ?_) (fun h2 => ?_)
    · rw [if_neg (Int32.not_lt.mpr h2)] at he
      refine lv_iconst (v := (0 : Int32)) hx hb dX10_isSending_19 rfl ?_
      cases he
      exact g_zret E hM hret hlk (Or.inl rfl) dX10_isSending_20
    · rw [if_pos (Int32.not_le.mp h2)] at he
      refine lv_iconst (v := (1 : Int32)) hx hb dX10_isSending_15 rfl ?_
      refine lv_goto (tgt := 20) hx hb dX10_isSending_16 (by decide) ?_
      cases he
      exact g_zret E hM hret hlk (Or.inr rfl) dX10_isSending_20

set_option maxHeartbeats 4000000 in
set_option maxRecDepth 100000 in
theorem c10_sending (l : Launch) (D : va_G) (aC : Nat → ClassId) (B : Nat) {F : Nat} {a1 : Int32} {a2 : Int32} {mem : g_M} {q0 : Int32} (he : f10_sending F a1 a2 mem = some q0) : g_Met l yX10_sending cX10_sending 3 (some .int) 2 D aC B yC 69 mem [.ref (B + 0), .int a1, .int a2] (some (.int q0)) mem := by
  refine g_ofW (by decide) (Nat.le_of_ble_eq_true rfl) ?_
  intro p e s m args below meth c ls E hml hret hlk hM hl
  have E : g_C p s m args c cX10_sending RX10 D aC (g_Zs (g_A B 69)) := E
  have hx := E.1
  have hb := E.2.1
  have hown := E.2.2.1
  have hts := E.2.2.2.1
  have hl : lv_has ls 3 [(0, .ref (B + 0)), (1, .int a1), (2, .int a2)] := hl
  unfold f10_sending at he
  refine lv_aload_n hx hb dX10_sending_0 rfl (lv_at hl 0 rfl) ?_
  refine lv_iload_n hx hb dX10_sending_1 rfl (lv_at hl 1 rfl) ?_
  obtain ⟨r1, hcr1, he⟩ := g_bind he
  refine g_callV [.int a1] (rest := []) E hml hl.1 hM cv_X10_163 (c10_isSending l D aC B hcr1) (o := 0) (Nat.le_of_ble_eq_true rfl) rfl (by decide) rfl rfl (Nat.le_of_ble_eq_true rfl) dX10_sending_2 (fun H locs hM => ?_)
  refine W.eq (g2 := F0 m 5 ls [.int r1]) rfl ?_
  refine lv_if_eq (tgt := 17) hx hb dX10_sending_5 (by decide) (fun h2 => ?_) (fun h2 => ?_)
  · rw [if_pos h2] at he
    refine lv_iconst (v := (-1 : Int32)) hx hb dX10_sending_17 rfl ?_
    cases he
    exact g_iret E hM hret hlk dX10_sending_18
  · rw [if_neg h2] at he
    refine lv_iload_n hx hb dX10_sending_8 rfl (lv_at hl 2 rfl) ?_
    refine lv_if_lt (tgt := 17) hx hb dX10_sending_9 (by decide) (fun h3 => ?_) (fun h3 => ?_)
    · rw [if_neg (Int32.not_le.mpr h3)] at he
      refine lv_iconst (v := (-1 : Int32)) hx hb dX10_sending_17 rfl ?_
      cases he
      exact g_iret E hM hret hlk dX10_sending_18
    · rw [if_pos (Int32.not_lt.mp h3)] at he
      refine lv_iload_n hx hb dX10_sending_12 rfl (lv_at hl 2 rfl) ?_
      refine lv_iconst (v := (4 : Int32)) hx hb dX10_sending_13 rfl ?_
      refine lv_icmp_lt (tgt := 19) hx hb dX10_sending_14 (by decide) (fun h4 => ?_) (fun h4 => ?_)
      · rw [if_neg (Int32.not_le.mpr h4)] at he
        refine lv_aload_n hx hb dX10_sending_19 rfl (lv_at hl 0 rfl) ?_
        refine g_getP E hM (o := 0) (Nat.le_of_ble_eq_true rfl) rfl fl_X10_47 (q := 35) rfl dX10_sending_20 ?_
        refine lv_iload_n hx hb dX10_sending_23 rfl (lv_at hl 1 rfl) ?_
        refine lv_iload_n hx hb dX10_sending_24 rfl (lv_at hl 2 rfl) ?_
        obtain ⟨r5, hcr5, he⟩ := g_bind he
        refine g_callV [.int a1, .int a2] (rest := []) E hml hl.1 hM cv_X10_166 (c7_sendingAt l D aC B (Nat.le_of_ble_eq_true rfl) rfl hcr5) (o := 35) (Nat.le_of_ble_eq_true rfl) rfl (by decide) rfl rfl (Nat.le_of_ble_eq_true rfl) dX10_sending_25 (fun H locs hM => ?_)
        refine W.eq (g2 := F0 m 28 ls [.int r5]) rfl ?_
        cases he
        exact g_iret E hM hret hlk dX10_sending_28
      · rw [if_pos (Int32.not_lt.mp h4)] at he
        refine lv_iconst (v := (-1 : Int32)) hx hb dX10_sending_17 rfl ?_
        cases he
        exact g_iret E hM hret hlk dX10_sending_18

set_option maxHeartbeats 4000000 in
set_option maxRecDepth 100000 in
theorem c10_isWant (l : Launch) (D : va_G) (aC : Nat → ClassId) (B : Nat) {F : Nat} {a1 : Int32} {mem : g_M} {q0 : Int32} (he : f10_isWant F a1 mem = some q0) : g_Met l yX10_isWant cX10_isWant 2 (some .boolean) 1 D aC B yC 69 mem [.ref (B + 0), .int a1] (some (.int q0)) mem := by
  refine g_ofW (by decide) (Nat.le_of_ble_eq_true rfl) ?_
  intro p e s m args below meth c ls E hml hret hlk hM hl
  have E : g_C p s m args c cX10_isWant RX10 D aC (g_Zs (g_A B 69)) := E
  have hx := E.1
  have hb := E.2.1
  have hown := E.2.2.1
  have hts := E.2.2.2.1
  have hl : lv_has ls 2 [(0, .ref (B + 0)), (1, .int a1)] := hl
  unfold f10_isWant at he
  refine lv_iload_n hx hb dX10_isWant_0 rfl (lv_at hl 1 rfl) ?_
  refine lv_if_lt (tgt := 19) hx hb dX10_isWant_1 (by decide) (fun h1 => ?_) (fun h1 => ?_)
  · rw [if_neg (Int32.not_le.mpr h1)] at he
    refine lv_iconst (v := (0 : Int32)) hx hb dX10_isWant_19 rfl ?_
    cases he
    exact g_zret E hM hret hlk (Or.inl rfl) dX10_isWant_20
  · rw [if_pos (Int32.not_lt.mp h1)] at he
    refine lv_iload_n hx hb dX10_isWant_4 rfl (lv_at hl 1 rfl) ?_
    refine lv_aload_n hx hb dX10_isWant_5 rfl (lv_at hl 0 rfl) ?_
    obtain ⟨q2, hqq2, hq2, hYq2, he⟩ := g_dr_some he
    refine g_getD E hM (o := 0) (Nat.le_of_ble_eq_true rfl) rfl fl_X10_20 rfl hqq2 dX10_isWant_6 ?_
    refine g_getI E hM (o := q2) hq2 hYq2 fl_X10_377 dX10_isWant_9 ?_
    refine lv_icmp_ge (tgt := 19) hx hb dX10_isWant_12 (by decide) (fun h3 => ?_) (fun h3 => ?_)
    · rw [if_neg (Int32.not_lt.mpr h3)] at he
      refine lv_iconst (v := (0 : Int32)) hx hb dX10_isWant_19 rfl ?_
      cases he
      exact g_zret E hM hret hlk (Or.inl rfl) dX10_isWant_20
    · rw [if_pos (Int32.not_le.mp h3)] at he
      refine lv_iconst (v := (1 : Int32)) hx hb dX10_isWant_15 rfl ?_
      refine lv_goto (tgt := 20) hx hb dX10_isWant_16 (by decide) ?_
      cases he
      exact g_zret E hM hret hlk (Or.inr rfl) dX10_isWant_20

set_option maxHeartbeats 4000000 in
set_option maxRecDepth 100000 in
theorem c10_want (l : Launch) (D : va_G) (aC : Nat → ClassId) (B : Nat) {F : Nat} {a1 : Int32} {a2 : Int32} {mem : g_M} {q0 : Int32} (he : f10_want F a1 a2 mem = some q0) : g_Met l yX10_want cX10_want 3 (some .int) 2 D aC B yC 69 mem [.ref (B + 0), .int a1, .int a2] (some (.int q0)) mem := by
  refine g_ofW (by decide) (Nat.le_of_ble_eq_true rfl) ?_
  intro p e s m args below meth c ls E hml hret hlk hM hl
  have E : g_C p s m args c cX10_want RX10 D aC (g_Zs (g_A B 69)) := E
  have hx := E.1
  have hb := E.2.1
  have hown := E.2.2.1
  have hts := E.2.2.2.1
  have hl : lv_has ls 3 [(0, .ref (B + 0)), (1, .int a1), (2, .int a2)] := hl
  unfold f10_want at he
  refine lv_aload_n hx hb dX10_want_0 rfl (lv_at hl 0 rfl) ?_
  refine lv_iload_n hx hb dX10_want_1 rfl (lv_at hl 1 rfl) ?_
  obtain ⟨r1, hcr1, he⟩ := g_bind he
  refine g_callV [.int a1] (rest := []) E hml hl.1 hM cv_X10_169 (c10_isWant l D aC B hcr1) (o := 0) (Nat.le_of_ble_eq_true rfl) rfl (by decide) rfl rfl (Nat.le_of_ble_eq_true rfl) dX10_want_2 (fun H locs hM => ?_)
  refine W.eq (g2 := F0 m 5 ls [.int r1]) rfl ?_
  refine lv_if_eq (tgt := 17) hx hb dX10_want_5 (by decide) (fun h2 => ?_) (fun h2 => ?_)
  · rw [if_pos h2] at he
    refine lv_iconst (v := (-1 : Int32)) hx hb dX10_want_17 rfl ?_
    cases he
    exact g_iret E hM hret hlk dX10_want_18
  · rw [if_neg h2] at he
    refine lv_iload_n hx hb dX10_want_8 rfl (lv_at hl 2 rfl) ?_
    refine lv_if_lt (tgt := 17) hx hb dX10_want_9 (by decide) (fun h3 => ?_) (fun h3 => ?_)
    · rw [if_neg (Int32.not_le.mpr h3)] at he
      refine lv_iconst (v := (-1 : Int32)) hx hb dX10_want_17 rfl ?_
      cases he
      exact g_iret E hM hret hlk dX10_want_18
    · rw [if_pos (Int32.not_lt.mp h3)] at he
      refine lv_iload_n hx hb dX10_want_12 rfl (lv_at hl 2 rfl) ?_
      refine lv_iconst (v := (5 : Int32)) hx hb dX10_want_13 rfl ?_
      refine lv_icmp_le (tgt := 19) hx hb dX10_want_14 (by decide) (fun h4 => ?_) (fun h4 => ?_)
      · rw [if_neg (Int32.not_lt.mpr h4)] at he
        refine lv_iload_n hx hb dX10_want_19 rfl (lv_at hl 2 rfl) ?_
        refine lv_iconst (v := (5 : Int32)) hx hb dX10_want_20 rfl ?_
        refine lv_icmp_ne (tgt := 36) hx hb dX10_want_21 (by decide) (fun h5 => ?_) (fun h5 => ?_)
        · rw [if_neg h5] at he
          refine lv_aload_n hx hb dX10_want_36 rfl (lv_at hl 0 rfl) ?_
          obtain ⟨q7, hqq7, hq7, hYq7, he⟩ := g_dr_some he
          refine g_getD E hM (o := 0) (Nat.le_of_ble_eq_true rfl) rfl fl_X10_20 rfl hqq7 dX10_want_37 ?_
          refine lv_iload_n hx hb dX10_want_40 rfl (lv_at hl 1 rfl) ?_
          refine lv_iload_n hx hb dX10_want_41 rfl (lv_at hl 2 rfl) ?_
          obtain ⟨r8, hcr8, he⟩ := g_bind he
          refine g_callV [.int a1, .int a2] (rest := []) E hml hl.1 hM cv_X10_175 (c9_wantAt l D aC B hq7 hYq7 hcr8) (o := q7) hq7 hYq7 (by decide) rfl rfl (Nat.le_of_ble_eq_true rfl) dX10_want_42 (fun H locs hM => ?_)
          refine W.eq (g2 := F0 m 45 ls [.int r8]) rfl ?_
          cases he
          exact g_iret E hM hret hlk dX10_want_45
        · rw [if_pos h5] at he
          refine lv_aload_n hx hb dX10_want_24 rfl (lv_at hl 0 rfl) ?_
          refine g_getP E hM (o := 0) (Nat.le_of_ble_eq_true rfl) rfl fl_X10_47 (q := 35) rfl dX10_want_25 ?_
          refine g_getP E hM (o := 35) (Nat.le_of_ble_eq_true rfl) rfl fl_X10_172 (q := 40) rfl dX10_want_28 ?_
          refine lv_iload_n hx hb dX10_want_31 rfl (lv_at hl 1 rfl) ?_
          obtain ⟨h6, he⟩ := g_ck_some he
          refine g_iald E hM (o := 40) (Nat.le_of_ble_eq_true rfl) rfl h6 dX10_want_32 ?_
          refine lv_goto (tgt := 45) hx hb dX10_want_33 (by decide) ?_
          cases he
          exact g_iret E hM hret hlk dX10_want_45
      · rw [if_pos (Int32.not_le.mp h4)] at he
        refine lv_iconst (v := (-1 : Int32)) hx hb dX10_want_17 rfl ?_
        cases he
        exact g_iret E hM hret hlk dX10_want_18

set_option maxHeartbeats 4000000 in
set_option maxRecDepth 100000 in
theorem c10_isMan (l : Launch) (D : va_G) (aC : Nat → ClassId) (B : Nat) {F : Nat} {a1 : Int32} {mem : g_M} {q0 : Int32} (he : f10_isMan F a1 mem = some q0) : g_Met l yX10_isMan cX10_isMan 2 (some .boolean) 1 D aC B yC 69 mem [.ref (B + 0), .int a1] (some (.int q0)) mem := by
  refine g_ofW (by decide) (Nat.le_of_ble_eq_true rfl) ?_
  intro p e s m args below meth c ls E hml hret hlk hM hl
  have E : g_C p s m args c cX10_isMan RX10 D aC (g_Zs (g_A B 69)) := E
  have hx := E.1
  have hb := E.2.1
  have hown := E.2.2.1
  have hts := E.2.2.2.1
  have hl : lv_has ls 2 [(0, .ref (B + 0)), (1, .int a1)] := hl
  unfold f10_isMan at he
  refine lv_iload_n hx hb dX10_isMan_0 rfl (lv_at hl 1 rfl) ?_
  refine lv_if_lt (tgt := 21) hx hb dX10_isMan_1 (by decide) (fun h1 => ?_) (fun h1 => ?_)
  · rw [if_neg (Int32.not_le.mpr h1)] at he
    refine lv_iconst (v := (0 : Int32)) hx hb dX10_isMan_21 rfl ?_
    cases he
    exact g_zret E hM hret hlk (Or.inl rfl) dX10_isMan_22
  · rw [if_pos (Int32.not_lt.mp h1)] at he
    refine lv_iload_n hx hb dX10_isMan_4 rfl (lv_at hl 1 rfl) ?_
    refine lv_aload_n hx hb dX10_isMan_5 rfl (lv_at hl 0 rfl) ?_
    obtain ⟨q2, hqq2, hq2, hYq2, he⟩ := g_dr_some he
    refine g_getD E hM (o := 0) (Nat.le_of_ble_eq_true rfl) rfl fl_X10_20 rfl hqq2 dX10_isMan_6 ?_
    refine g_getP E hM (o := q2) hq2 hYq2 fl_X10_302 (q := (q2 + 1)) (pt_9_0 q2 hq2 hYq2).1 dX10_isMan_9 ?_
    refine lv_iconst (v := (0 : Int32)) hx hb dX10_isMan_12 rfl ?_
    obtain ⟨h3, he⟩ := g_ck_some he
    refine g_iald E hM (o := (q2 + 1)) (pt_9_0 q2 hq2 hYq2).2.1 (pt_9_0 q2 hq2 hYq2).2.2 h3 dX10_isMan_13 ?_
    refine lv_icmp_ge (tgt := 21) hx hb dX10_isMan_14 (by decide) (fun h4 => ?_) (fun h4 => ?_)
    · rw [if_neg (Int32.not_lt.mpr h4)] at he
      refine lv_iconst (v := (0 : Int32)) hx hb dX10_isMan_21 rfl ?_
      cases he
      exact g_zret E hM hret hlk (Or.inl rfl) dX10_isMan_22
    · rw [if_pos (Int32.not_le.mp h4)] at he
      refine lv_iconst (v := (1 : Int32)) hx hb dX10_isMan_17 rfl ?_
      refine lv_goto (tgt := 22) hx hb dX10_isMan_18 (by decide) ?_
      cases he
      exact g_zret E hM hret hlk (Or.inr rfl) dX10_isMan_22

set_option maxHeartbeats 4000000 in
set_option maxRecDepth 100000 in
theorem c10_isPart (l : Launch) (D : va_G) (aC : Nat → ClassId) (B : Nat) {F : Nat} {a1 : Int32} {a2 : Int32} {mem : g_M} {q0 : Int32} (he : f10_isPart F a1 a2 mem = some q0) : g_Met l yX10_isPart cX10_isPart 3 (some .boolean) 2 D aC B yC 69 mem [.ref (B + 0), .int a1, .int a2] (some (.int q0)) mem := by
  refine g_ofW (by decide) (Nat.le_of_ble_eq_true rfl) ?_
  intro p e s m args below meth c ls E hml hret hlk hM hl
  have E : g_C p s m args c cX10_isPart RX10 D aC (g_Zs (g_A B 69)) := E
  have hx := E.1
  have hb := E.2.1
  have hown := E.2.2.1
  have hts := E.2.2.2.1
  have hl : lv_has ls 3 [(0, .ref (B + 0)), (1, .int a1), (2, .int a2)] := hl
  unfold f10_isPart at he
  refine lv_aload_n hx hb dX10_isPart_0 rfl (lv_at hl 0 rfl) ?_
  refine lv_iload_n hx hb dX10_isPart_1 rfl (lv_at hl 1 rfl) ?_
  obtain ⟨r1, hcr1, he⟩ := g_bind he
  refine g_callV [.int a1] (rest := []) E hml hl.1 hM cv_X10_119 (c10_isMan l D aC B hcr1) (o := 0) (Nat.le_of_ble_eq_true rfl) rfl (by decide) rfl rfl (Nat.le_of_ble_eq_true rfl) dX10_isPart_2 (fun H locs hM => ?_)
  refine W.eq (g2 := F0 m 5 ls [.int r1]) rfl ?_
  refine lv_if_eq (tgt := 20) hx hb dX10_isPart_5 (by decide) (fun h2 => ?_) (fun h2 => ?_)
  · rw [if_pos h2] at he
    refine lv_iconst (v := (0 : Int32)) hx hb dX10_isPart_20 rfl ?_
    cases he
    exact g_zret E hM hret hlk (Or.inl rfl) dX10_isPart_21
  · rw [if_neg h2] at he
    refine lv_aload_n hx hb dX10_isPart_8 rfl (lv_at hl 0 rfl) ?_
    refine lv_iload_n hx hb dX10_isPart_9 rfl (lv_at hl 2 rfl) ?_
    obtain ⟨r3, hcr3, he⟩ := g_bind he
    refine g_callV [.int a2] (rest := []) E hml hl.1 hM cv_X10_148 (c10_isSort l D aC B hcr3) (o := 0) (Nat.le_of_ble_eq_true rfl) rfl (by decide) rfl rfl (Nat.le_of_ble_eq_true rfl) dX10_isPart_10 (fun H locs hM => ?_)
    refine W.eq (g2 := F0 m 13 ls [.int r3]) rfl ?_
    refine lv_if_eq (tgt := 20) hx hb dX10_isPart_13 (by decide) (fun h4 => ?_) (fun h4 => ?_)
    · rw [if_pos h4] at he
      refine lv_iconst (v := (0 : Int32)) hx hb dX10_isPart_20 rfl ?_
      cases he
      exact g_zret E hM hret hlk (Or.inl rfl) dX10_isPart_21
    · rw [if_neg h4] at he
      refine lv_iconst (v := (1 : Int32)) hx hb dX10_isPart_16 rfl ?_
      refine lv_goto (tgt := 21) hx hb dX10_isPart_17 (by decide) ?_
      cases he
      exact g_zret E hM hret hlk (Or.inr rfl) dX10_isPart_21

set_option maxHeartbeats 4000000 in
set_option maxRecDepth 100000 in
theorem c10_holds (l : Launch) (D : va_G) (aC : Nat → ClassId) (B : Nat) {F : Nat} {a1 : Int32} {a2 : Int32} {mem : g_M} {q0 : Int32} (he : f10_holds F a1 a2 mem = some q0) : g_Met l yX10_holds cX10_holds 3 (some .int) 3 D aC B yC 69 mem [.ref (B + 0), .int a1, .int a2] (some (.int q0)) mem := by
  refine g_ofW (by decide) (Nat.le_of_ble_eq_true rfl) ?_
  intro p e s m args below meth c ls E hml hret hlk hM hl
  have E : g_C p s m args c cX10_holds RX10 D aC (g_Zs (g_A B 69)) := E
  have hx := E.1
  have hb := E.2.1
  have hown := E.2.2.1
  have hts := E.2.2.2.1
  have hl : lv_has ls 3 [(0, .ref (B + 0)), (1, .int a1), (2, .int a2)] := hl
  unfold f10_holds at he
  refine lv_aload_n hx hb dX10_holds_0 rfl (lv_at hl 0 rfl) ?_
  refine lv_iload_n hx hb dX10_holds_1 rfl (lv_at hl 1 rfl) ?_
  refine lv_iload_n hx hb dX10_holds_2 rfl (lv_at hl 2 rfl) ?_
  obtain ⟨r1, hcr1, he⟩ := g_bind he
  refine g_callV [.int a1, .int a2] (rest := []) E hml hl.1 hM cv_X10_178 (c10_isPart l D aC B hcr1) (o := 0) (Nat.le_of_ble_eq_true rfl) rfl (by decide) rfl rfl (Nat.le_of_ble_eq_true rfl) dX10_holds_3 (fun H locs hM => ?_)
  refine W.eq (g2 := F0 m 6 ls [.int r1]) rfl ?_
  refine lv_if_eq (tgt := 25) hx hb dX10_holds_6 (by decide) (fun h2 => ?_) (fun h2 => ?_)
  · rw [if_pos h2] at he
    refine lv_iconst (v := (-1 : Int32)) hx hb dX10_holds_25 rfl ?_
    cases he
    exact g_iret E hM hret hlk dX10_holds_26
  · rw [if_neg h2] at he
    refine lv_aload_n hx hb dX10_holds_9 rfl (lv_at hl 0 rfl) ?_
    refine g_getP E hM (o := 0) (Nat.le_of_ble_eq_true rfl) rfl fl_X10_47 (q := 35) rfl dX10_holds_10 ?_
    refine g_getP E hM (o := 35) (Nat.le_of_ble_eq_true rfl) rfl fl_X10_182 (q := 37) rfl dX10_holds_13 ?_
    refine lv_iload_n hx hb dX10_holds_16 rfl (lv_at hl 1 rfl) ?_
    refine lv_iconst (v := (5 : Int32)) hx hb dX10_holds_17 rfl ?_
    refine lv_imul hx hb dX10_holds_18 ?_
    refine lv_iload_n hx hb dX10_holds_19 rfl (lv_at hl 2 rfl) ?_
    refine lv_iadd hx hb dX10_holds_20 ?_
    obtain ⟨h3, he⟩ := g_ck_some he
    refine g_iald E hM (o := 37) (Nat.le_of_ble_eq_true rfl) rfl h3 dX10_holds_21 ?_
    refine lv_goto (tgt := 26) hx hb dX10_holds_22 (by decide) ?_
    cases he
    exact g_iret E hM hret hlk dX10_holds_26

set_option maxHeartbeats 4000000 in
set_option maxRecDepth 100000 in
theorem c10_port (l : Launch) (D : va_G) (aC : Nat → ClassId) (B : Nat) {F : Nat} {a1 : Int32} {a2 : Int32} {mem : g_M} {q0 : Int32} (he : f10_port F a1 a2 mem = some q0) : g_Met l yX10_port cX10_port 3 (some .int) 3 D aC B yC 69 mem [.ref (B + 0), .int a1, .int a2] (some (.int q0)) mem := by
  refine g_ofW (by decide) (Nat.le_of_ble_eq_true rfl) ?_
  intro p e s m args below meth c ls E hml hret hlk hM hl
  have E : g_C p s m args c cX10_port RX10 D aC (g_Zs (g_A B 69)) := E
  have hx := E.1
  have hb := E.2.1
  have hown := E.2.2.1
  have hts := E.2.2.2.1
  have hl : lv_has ls 3 [(0, .ref (B + 0)), (1, .int a1), (2, .int a2)] := hl
  unfold f10_port at he
  refine lv_aload_n hx hb dX10_port_0 rfl (lv_at hl 0 rfl) ?_
  refine lv_iload_n hx hb dX10_port_1 rfl (lv_at hl 1 rfl) ?_
  refine lv_iload_n hx hb dX10_port_2 rfl (lv_at hl 2 rfl) ?_
  obtain ⟨r1, hcr1, he⟩ := g_bind he
  refine g_callV [.int a1, .int a2] (rest := []) E hml hl.1 hM cv_X10_178 (c10_isPart l D aC B hcr1) (o := 0) (Nat.le_of_ble_eq_true rfl) rfl (by decide) rfl rfl (Nat.le_of_ble_eq_true rfl) dX10_port_3 (fun H locs hM => ?_)
  refine W.eq (g2 := F0 m 6 ls [.int r1]) rfl ?_
  refine lv_if_eq (tgt := 25) hx hb dX10_port_6 (by decide) (fun h2 => ?_) (fun h2 => ?_)
  · rw [if_pos h2] at he
    refine lv_iconst (v := (-1 : Int32)) hx hb dX10_port_25 rfl ?_
    cases he
    exact g_iret E hM hret hlk dX10_port_26
  · rw [if_neg h2] at he
    refine lv_aload_n hx hb dX10_port_9 rfl (lv_at hl 0 rfl) ?_
    refine g_getP E hM (o := 0) (Nat.le_of_ble_eq_true rfl) rfl fl_X10_47 (q := 35) rfl dX10_port_10 ?_
    refine g_getP E hM (o := 35) (Nat.le_of_ble_eq_true rfl) rfl fl_X10_185 (q := 38) rfl dX10_port_13 ?_
    refine lv_iload_n hx hb dX10_port_16 rfl (lv_at hl 1 rfl) ?_
    refine lv_iconst (v := (5 : Int32)) hx hb dX10_port_17 rfl ?_
    refine lv_imul hx hb dX10_port_18 ?_
    refine lv_iload_n hx hb dX10_port_19 rfl (lv_at hl 2 rfl) ?_
    refine lv_iadd hx hb dX10_port_20 ?_
    obtain ⟨h3, he⟩ := g_ck_some he
    refine g_iald E hM (o := 38) (Nat.le_of_ble_eq_true rfl) rfl h3 dX10_port_21 ?_
    refine lv_goto (tgt := 26) hx hb dX10_port_22 (by decide) ?_
    cases he
    exact g_iret E hM hret hlk dX10_port_26

set_option maxHeartbeats 4000000 in
set_option maxRecDepth 100000 in
theorem w10_isPort_b9 (E : g_C p s m args c cX10_isPort RX10 D aC (g_Zs (g_A B 69))) (hml : c.maxLocals = 1) (hret : meth.sig.returnType = (some .boolean)) (hlk : meth.locks = false) {F : Nat} {q0 : Int32} {a0 : Int32} {mem : g_M} : ∀ (H : Heap) (locs : List Loc) (ls : Array Slot), g_At D aC B yC 69 mem s.heap H locs → lv_has ls 1 [] → f10_isPort_b9 F a0 mem = some q0 → W p l e (g_rm 1) s m args below meth c H locs 0 0 (g_MQ below D aC B yC 69 args s (some (.int q0)) mem) (F0 m 9 ls []) := by
  intro H locs ls hM hl he
  unfold f10_isPort_b9 at he
  have hx := E.1
  have hb := E.2.1
  have hown := E.2.2.1
  have hts := E.2.2.2.1
  refine lv_iconst (v := (1 : Int32)) hx hb dX10_isPort_9 rfl ?_
  refine lv_goto (tgt := 14) hx hb dX10_isPort_10 (by decide) ?_
  cases he
  exact g_zret E hM hret hlk (Or.inr rfl) dX10_isPort_14

set_option maxHeartbeats 4000000 in
set_option maxRecDepth 100000 in
theorem c10_isPort (l : Launch) (D : va_G) (aC : Nat → ClassId) (B : Nat) {F : Nat} {a0 : Int32} {mem : g_M} {q0 : Int32} (he : f10_isPort F a0 mem = some q0) : g_Met l yX10_isPort cX10_isPort 1 (some .boolean) 1 D aC B yC 69 mem [.int a0] (some (.int q0)) mem := by
  refine g_ofW (by decide) (Nat.le_of_ble_eq_true rfl) ?_
  intro p e s m args below meth c ls E hml hret hlk hM hl
  have E : g_C p s m args c cX10_isPort RX10 D aC (g_Zs (g_A B 69)) := E
  have hx := E.1
  have hb := E.2.1
  have hown := E.2.2.1
  have hts := E.2.2.2.1
  have hl : lv_has ls 1 [(0, .int a0)] := hl
  unfold f10_isPort at he
  refine lv_iload_n hx hb dX10_isPort_0 rfl (lv_at hl 0 rfl) ?_
  refine lv_if_eq (tgt := 9) hx hb dX10_isPort_1 (by decide) (fun h1 => ?_) (fun h1 => ?_)
  · rw [if_pos h1] at he
    exact w10_isPort_b9 (F := F) (a0 := a0) E hml hret hlk _ _ _ hM (lv_sub hl [] rfl) he
  · rw [if_neg h1] at he
    refine lv_iload_n hx hb dX10_isPort_4 rfl (lv_at hl 0 rfl) ?_
    refine lv_iconst (v := (1 : Int32)) hx hb dX10_isPort_5 rfl ?_
    refine lv_icmp_ne (tgt := 13) hx hb dX10_isPort_6 (by decide) (fun h2 => ?_) (fun h2 => ?_)
    · rw [if_neg h2] at he
      refine lv_iconst (v := (0 : Int32)) hx hb dX10_isPort_13 rfl ?_
      cases he
      exact g_zret E hM hret hlk (Or.inl rfl) dX10_isPort_14
    · rw [if_pos h2] at he
      exact w10_isPort_b9 (F := F) (a0 := a0) E hml hret hlk _ _ _ hM (lv_sub hl [] rfl) he

set_option maxHeartbeats 4000000 in
set_option maxRecDepth 100000 in
theorem c10_isTask (l : Launch) (D : va_G) (aC : Nat → ClassId) (B : Nat) {F : Nat} {a1 : Int32} {a2 : Int32} {a3 : Int32} {mem : g_M} {q0 : Int32} (he : f10_isTask F a1 a2 a3 mem = some q0) : g_Met l yX10_isTask cX10_isTask 4 (some .boolean) 2 D aC B yC 69 mem [.ref (B + 0), .int a1, .int a2, .int a3] (some (.int q0)) mem := by
  refine g_ofW (by decide) (Nat.le_of_ble_eq_true rfl) ?_
  intro p e s m args below meth c ls E hml hret hlk hM hl
  have E : g_C p s m args c cX10_isTask RX10 D aC (g_Zs (g_A B 69)) := E
  have hx := E.1
  have hb := E.2.1
  have hown := E.2.2.1
  have hts := E.2.2.2.1
  have hl : lv_has ls 4 [(0, .ref (B + 0)), (1, .int a1), (2, .int a2), (3, .int a3)] := hl
  unfold f10_isTask at he
  refine lv_aload_n hx hb dX10_isTask_0 rfl (lv_at hl 0 rfl) ?_
  refine lv_iload_n hx hb dX10_isTask_1 rfl (lv_at hl 1 rfl) ?_
  obtain ⟨r1, hcr1, he⟩ := g_bind he
  refine g_callV [.int a1] (rest := []) E hml hl.1 hM cv_X10_119 (c10_isMan l D aC B hcr1) (o := 0) (Nat.le_of_ble_eq_true rfl) rfl (by decide) rfl rfl (Nat.le_of_ble_eq_true rfl) dX10_isTask_2 (fun H locs hM => ?_)
  refine W.eq (g2 := F0 m 5 ls [.int r1]) rfl ?_
  refine lv_if_eq (tgt := 27) hx hb dX10_isTask_5 (by decide) (fun h2 => ?_) (fun h2 => ?_)
  · rw [if_pos h2] at he
    refine lv_iconst (v := (0 : Int32)) hx hb dX10_isTask_27 rfl ?_
    cases he
    exact g_zret E hM hret hlk (Or.inl rfl) dX10_isTask_28
  · rw [if_neg h2] at he
    refine lv_aload_n hx hb dX10_isTask_8 rfl (lv_at hl 0 rfl) ?_
    refine lv_iload_n hx hb dX10_isTask_9 rfl (lv_at hl 2 rfl) ?_
    obtain ⟨r3, hcr3, he⟩ := g_bind he
    refine g_callV [.int a2] (rest := []) E hml hl.1 hM cv_X10_157 (c10_isDeed l D aC B hcr3) (o := 0) (Nat.le_of_ble_eq_true rfl) rfl (by decide) rfl rfl (Nat.le_of_ble_eq_true rfl) dX10_isTask_10 (fun H locs hM => ?_)
    refine W.eq (g2 := F0 m 13 ls [.int r3]) rfl ?_
    refine lv_if_eq (tgt := 27) hx hb dX10_isTask_13 (by decide) (fun h4 => ?_) (fun h4 => ?_)
    · rw [if_pos h4] at he
      refine lv_iconst (v := (0 : Int32)) hx hb dX10_isTask_27 rfl ?_
      cases he
      exact g_zret E hM hret hlk (Or.inl rfl) dX10_isTask_28
    · rw [if_neg h4] at he
      refine lv_iload_n hx hb dX10_isTask_16 rfl (lv_at hl 3 rfl) ?_
      obtain ⟨r5, hcr5, he⟩ := g_bind he
      refine g_callS [.int a3] (rest := []) E hml hl.1 hM cs_X10_308 (c10_isPort l D aC B hcr5) (by decide) rfl rfl (Nat.le_of_ble_eq_true rfl) dX10_isTask_17 (fun H locs hM => ?_)
      refine W.eq (g2 := F0 m 20 ls [.int r5]) rfl ?_
      refine lv_if_eq (tgt := 27) hx hb dX10_isTask_20 (by decide) (fun h6 => ?_) (fun h6 => ?_)
      · rw [if_pos h6] at he
        refine lv_iconst (v := (0 : Int32)) hx hb dX10_isTask_27 rfl ?_
        cases he
        exact g_zret E hM hret hlk (Or.inl rfl) dX10_isTask_28
      · rw [if_neg h6] at he
        refine lv_iconst (v := (1 : Int32)) hx hb dX10_isTask_23 rfl ?_
        refine lv_goto (tgt := 28) hx hb dX10_isTask_24 (by decide) ?_
        cases he
        exact g_zret E hM hret hlk (Or.inr rfl) dX10_isTask_28

set_option maxHeartbeats 4000000 in
set_option maxRecDepth 100000 in
theorem c10_can (l : Launch) (D : va_G) (aC : Nat → ClassId) (B : Nat) {F : Nat} {a1 : Int32} {a2 : Int32} {a3 : Int32} {mem : g_M} {q0 : Int32} (he : f10_can F a1 a2 a3 mem = some q0) : g_Met l yX10_can cX10_can 4 (some .int) 3 D aC B yC 69 mem [.ref (B + 0), .int a1, .int a2, .int a3] (some (.int q0)) mem := by
  refine g_ofW (by decide) (Nat.le_of_ble_eq_true rfl) ?_
  intro p e s m args below meth c ls E hml hret hlk hM hl
  have E : g_C p s m args c cX10_can RX10 D aC (g_Zs (g_A B 69)) := E
  have hx := E.1
  have hb := E.2.1
  have hown := E.2.2.1
  have hts := E.2.2.2.1
  have hl : lv_has ls 4 [(0, .ref (B + 0)), (1, .int a1), (2, .int a2), (3, .int a3)] := hl
  unfold f10_can at he
  refine lv_aload_n hx hb dX10_can_0 rfl (lv_at hl 0 rfl) ?_
  refine lv_iload_n hx hb dX10_can_1 rfl (lv_at hl 1 rfl) ?_
  refine lv_iload_n hx hb dX10_can_2 rfl (lv_at hl 2 rfl) ?_
  refine lv_iload_n hx hb dX10_can_3 rfl (lv_at hl 3 rfl) ?_
  obtain ⟨r1, hcr1, he⟩ := g_bind he
  refine g_callV [.int a1, .int a2, .int a3] (rest := []) E hml hl.1 hM cv_X10_188 (c10_isTask l D aC B hcr1) (o := 0) (Nat.le_of_ble_eq_true rfl) rfl (by decide) rfl rfl (Nat.le_of_ble_eq_true rfl) dX10_can_4 (fun H locs hM => ?_)
  refine W.eq (g2 := F0 m 7 ls [.int r1]) rfl ?_
  refine lv_if_ne (tgt := 12) hx hb dX10_can_7 (by decide) (fun h2 => ?_) (fun h2 => ?_)
  · rw [if_neg h2] at he
    refine lv_aload_n hx hb dX10_can_12 rfl (lv_at hl 0 rfl) ?_
    refine g_getP E hM (o := 0) (Nat.le_of_ble_eq_true rfl) rfl fl_X10_47 (q := 35) rfl dX10_can_13 ?_
    refine lv_iload_n hx hb dX10_can_16 rfl (lv_at hl 1 rfl) ?_
    refine lv_iload_n hx hb dX10_can_17 rfl (lv_at hl 2 rfl) ?_
    refine lv_iload_n hx hb dX10_can_18 rfl (lv_at hl 3 rfl) ?_
    obtain ⟨r3, hcr3, he⟩ := g_bind he
    refine g_callV [.int a1, .int a2, .int a3] (rest := []) E hml hl.1 hM cv_X10_192 (c7_lacks l D aC B (Nat.le_of_ble_eq_true rfl) rfl hcr3) (o := 35) (Nat.le_of_ble_eq_true rfl) rfl (by decide) rfl rfl (Nat.le_of_ble_eq_true rfl) dX10_can_19 (fun H locs hM => ?_)
    refine W.eq (g2 := F0 m 22 ls [.int r3]) rfl ?_
    refine lv_if_ne (tgt := 29) hx hb dX10_can_22 (by decide) (fun h4 => ?_) (fun h4 => ?_)
    · rw [if_neg h4] at he
      refine lv_iconst (v := (0 : Int32)) hx hb dX10_can_29 rfl ?_
      cases he
      exact g_iret E hM hret hlk dX10_can_30
    · rw [if_pos h4] at he
      refine lv_iconst (v := (1 : Int32)) hx hb dX10_can_25 rfl ?_
      refine lv_goto (tgt := 30) hx hb dX10_can_26 (by decide) ?_
      cases he
      exact g_iret E hM hret hlk dX10_can_30
  · rw [if_pos h2] at he
    refine lv_iconst (v := (-1 : Int32)) hx hb dX10_can_10 rfl ?_
    cases he
    exact g_iret E hM hret hlk dX10_can_11

set_option maxHeartbeats 4000000 in
set_option maxRecDepth 100000 in
theorem w10_law_b66 (E : g_C p s m args c cX10_law RX10 D aC (g_Zs (g_A B 69))) (hml : c.maxLocals = 4) (hret : meth.sig.returnType = (some .long)) (hlk : meth.locks = false) {F : Nat} {q0 : Int64 × g_M} {a1 : Int32} {a2 : Int32} {a3 : Int32} : ∀ (mem : g_M) (H : Heap) (locs : List Loc) (ls : Array Slot), g_At D aC B yC 69 mem s.heap H locs → lv_has ls 4 [(0, .ref (B + 0)), (1, .int a1), (3, .int a3)] → f10_law_b66 F a1 a2 a3 mem = some q0 → W p l e (g_rm 5) s m args below meth c H locs 0 0 (g_MQ below D aC B yC 69 args s (some (.long q0.1)) q0.2) (F0 m 66 ls []) := by
  intro mem H locs ls hM hl he
  unfold f10_law_b66 at he
  have hx := E.1
  have hb := E.2.1
  have hown := E.2.2.1
  have hts := E.2.2.2.1
  refine lv_iload_n hx hb dX10_law_66 rfl (lv_at hl 1 rfl) ?_
  refine lv_iconst (v := (2 : Int32)) hx hb dX10_law_67 rfl ?_
  refine lv_icmp_ne (tgt := 88) hx hb dX10_law_68 (by decide) (fun h1 => ?_) (fun h1 => ?_)
  · rw [if_neg h1] at he
    refine lv_ldc2 (v := (-9223372036854775808 : Int64)) hx hb hown (hts _ kc_X10_213) dX10_law_88 ?_
    cases he
    exact g_lret E hM hret hlk dX10_law_91
  · rw [if_pos h1] at he
    refine lv_aload_n hx hb dX10_law_71 rfl (lv_at hl 0 rfl) ?_
    refine lv_iload_n hx hb dX10_law_72 rfl (lv_at hl 2 rfl) ?_
    obtain ⟨r2, hcr2, he⟩ := g_bind he
    refine g_callV [.int a3] (rest := []) E hml hl.1 hM cv_X10_148 (c10_isSort l D aC B hcr2) (o := 0) (Nat.le_of_ble_eq_true rfl) rfl (by decide) rfl rfl (Nat.le_of_ble_eq_true rfl) dX10_law_73 (fun H locs hM => ?_)
    refine W.eq (g2 := F0 m 76 ls [.int r2]) rfl ?_
    refine lv_if_eq (tgt := 88) hx hb dX10_law_76 (by decide) (fun h3 => ?_) (fun h3 => ?_)
    · rw [if_pos h3] at he
      refine lv_ldc2 (v := (-9223372036854775808 : Int64)) hx hb hown (hts _ kc_X10_213) dX10_law_88 ?_
      cases he
      exact g_lret E hM hret hlk dX10_law_91
    · rw [if_neg h3] at he
      refine lv_aload_n hx hb dX10_law_79 rfl (lv_at hl 0 rfl) ?_
      refine g_getP E hM (o := 0) (Nat.le_of_ble_eq_true rfl) rfl fl_X10_66 (q := 53) rfl dX10_law_80 ?_
      refine lv_iload_n hx hb dX10_law_83 rfl (lv_at hl 2 rfl) ?_
      obtain ⟨r4, hcr4, he⟩ := g_bind he
      refine g_callV [.int a3] (rest := []) E hml hl.1 hM cv_X10_207 (c0_mixLaw l D aC B hcr4) (o := 53) (Nat.le_of_ble_eq_true rfl) rfl (by decide) rfl rfl (Nat.le_of_ble_eq_true rfl) dX10_law_84 (fun H locs hM => ?_)
      refine W.eq (g2 := F0 m 87 ls [.long r4.1]) rfl ?_
      cases he
      exact g_lret E hM hret hlk dX10_law_87

set_option maxHeartbeats 4000000 in
set_option maxRecDepth 100000 in
theorem w10_law_b35 (E : g_C p s m args c cX10_law RX10 D aC (g_Zs (g_A B 69))) (hml : c.maxLocals = 4) (hret : meth.sig.returnType = (some .long)) (hlk : meth.locks = false) {F : Nat} {q0 : Int64 × g_M} {a1 : Int32} {a2 : Int32} {a3 : Int32} : ∀ (mem : g_M) (H : Heap) (locs : List Loc) (ls : Array Slot), g_At D aC B yC 69 mem s.heap H locs → lv_has ls 4 [(0, .ref (B + 0)), (1, .int a1), (2, .int a2), (3, .int a3)] → f10_law_b35 F a1 a2 a3 mem = some q0 → W p l e (g_rm 5) s m args below meth c H locs 0 0 (g_MQ below D aC B yC 69 args s (some (.long q0.1)) q0.2) (F0 m 35 ls []) := by
  intro mem H locs ls hM hl he
  unfold f10_law_b35 at he
  have hx := E.1
  have hb := E.2.1
  have hown := E.2.2.1
  have hts := E.2.2.2.1
  refine lv_iload_n hx hb dX10_law_35 rfl (lv_at hl 1 rfl) ?_
  refine lv_iconst (v := (1 : Int32)) hx hb dX10_law_36 rfl ?_
  refine lv_icmp_ne (tgt := 66) hx hb dX10_law_37 (by decide) (fun h5 => ?_) (fun h5 => ?_)
  · rw [if_neg h5] at he
    exact w10_law_b66 (F := F) (a1 := a1) (a2 := a2) (a3 := a3) E hml hret hlk _ _ _ _ hM (lv_sub hl [0, 1, 3] rfl) he
  · rw [if_pos h5] at he
    refine lv_aload_n hx hb dX10_law_40 rfl (lv_at hl 0 rfl) ?_
    refine lv_iload_n hx hb dX10_law_41 rfl (lv_at hl 2 rfl) ?_
    obtain ⟨r6, hcr6, he⟩ := g_bind he
    refine g_callV [.int a2] (rest := []) E hml hl.1 hM cv_X10_119 (c10_isMan l D aC B hcr6) (o := 0) (Nat.le_of_ble_eq_true rfl) rfl (by decide) rfl rfl (Nat.le_of_ble_eq_true rfl) dX10_law_42 (fun H locs hM => ?_)
    refine W.eq (g2 := F0 m 45 ls [.int r6]) rfl ?_
    refine lv_if_eq (tgt := 66) hx hb dX10_law_45 (by decide) (fun h7 => ?_) (fun h7 => ?_)
    · rw [if_pos h7] at he
      exact w10_law_b66 (F := F) (a1 := a1) (a2 := a2) (a3 := a3) E hml hret hlk _ _ _ _ hM (lv_sub hl [0, 1, 3] rfl) he
    · rw [if_neg h7] at he
      refine lv_aload_n hx hb dX10_law_48 rfl (lv_at hl 0 rfl) ?_
      refine lv_iload_n hx hb dX10_law_49 rfl (lv_at hl 3 rfl) ?_
      obtain ⟨r8, hcr8, he⟩ := g_bind he
      refine g_callV [.int a3] (rest := []) E hml hl.1 hM cv_X10_169 (c10_isWant l D aC B hcr8) (o := 0) (Nat.le_of_ble_eq_true rfl) rfl (by decide) rfl rfl (Nat.le_of_ble_eq_true rfl) dX10_law_50 (fun H locs hM => ?_)
      refine W.eq (g2 := F0 m 53 ls [.int r8]) rfl ?_
      refine lv_if_eq (tgt := 66) hx hb dX10_law_53 (by decide) (fun h9 => ?_) (fun h9 => ?_)
      · rw [if_pos h9] at he
        exact w10_law_b66 (F := F) (a1 := a1) (a2 := a2) (a3 := a3) E hml hret hlk _ _ _ _ hM (lv_sub hl [0, 1, 3] rfl) he
      · rw [if_neg h9] at he
        refine lv_aload_n hx hb dX10_law_56 rfl (lv_at hl 0 rfl) ?_
        refine g_getP E hM (o := 0) (Nat.le_of_ble_eq_true rfl) rfl fl_X10_66 (q := 53) rfl dX10_law_57 ?_
        refine lv_iload_n hx hb dX10_law_60 rfl (lv_at hl 2 rfl) ?_
        refine lv_iload_n hx hb dX10_law_61 rfl (lv_at hl 3 rfl) ?_
        obtain ⟨r10, hcr10, he⟩ := g_bind he
        refine g_callV [.int a2, .int a3] (rest := []) E hml hl.1 hM cv_X10_204 (c0_gainLaw l D aC B hcr10) (o := 53) (Nat.le_of_ble_eq_true rfl) rfl (by decide) rfl rfl (Nat.le_of_ble_eq_true rfl) dX10_law_62 (fun H locs hM => ?_)
        refine W.eq (g2 := F0 m 65 ls [.long r10.1]) rfl ?_
        cases he
        exact g_lret E hM hret hlk dX10_law_65

set_option maxHeartbeats 4000000 in
set_option maxRecDepth 100000 in
theorem c10_law (l : Launch) (D : va_G) (aC : Nat → ClassId) (B : Nat) {F : Nat} {a1 : Int32} {a2 : Int32} {a3 : Int32} {mem : g_M} {q0 : Int64 × g_M} (he : f10_law F a1 a2 a3 mem = some q0) : g_Met l yX10_law cX10_law 4 (some .long) 5 D aC B yC 69 mem [.ref (B + 0), .int a1, .int a2, .int a3] (some (.long q0.1)) q0.2 := by
  refine g_ofW (by decide) (Nat.le_of_ble_eq_true rfl) ?_
  intro p e s m args below meth c ls E hml hret hlk hM hl
  have E : g_C p s m args c cX10_law RX10 D aC (g_Zs (g_A B 69)) := E
  have hx := E.1
  have hb := E.2.1
  have hown := E.2.2.1
  have hts := E.2.2.2.1
  have hl : lv_has ls 4 [(0, .ref (B + 0)), (1, .int a1), (2, .int a2), (3, .int a3)] := hl
  unfold f10_law at he
  refine lv_aload_n hx hb dX10_law_0 rfl (lv_at hl 0 rfl) ?_
  refine g_getP E hM (o := 0) (Nat.le_of_ble_eq_true rfl) rfl fl_X10_66 (q := 53) rfl dX10_law_1 ?_
  refine lv_aload_n hx hb dX10_law_4 rfl (lv_at hl 0 rfl) ?_
  refine g_getP E hM (o := 0) (Nat.le_of_ble_eq_true rfl) rfl fl_X10_47 (q := 35) rfl dX10_law_5 ?_
  refine lv_iconst (v := (0 : Int32)) hx hb dX10_law_8 rfl ?_
  obtain ⟨r11, hcr11, he⟩ := g_bind he
  refine g_callV [.ref (B + 35), .int (0 : Int32)] (rest := []) E hml hl.1 hM cv_X10_196 (c0_start l D aC B (Nat.le_of_ble_eq_true rfl) rfl hcr11) (o := 53) (Nat.le_of_ble_eq_true rfl) rfl (by decide) rfl rfl (Nat.le_of_ble_eq_true rfl) dX10_law_9 (fun H locs hM => ?_)
  refine W.eq (g2 := F0 m 12 ls []) rfl ?_
  refine lv_iload_n hx hb dX10_law_12 rfl (lv_at hl 1 rfl) ?_
  refine lv_if_ne (tgt := 35) hx hb dX10_law_13 (by decide) (fun h12 => ?_) (fun h12 => ?_)
  · rw [if_neg h12] at he
    exact w10_law_b35 (F := F) (a1 := a1) (a2 := a2) (a3 := a3) E hml hret hlk _ _ _ _ hM (lv_sub hl [0, 1, 2, 3] rfl) he
  · rw [if_pos h12] at he
    refine lv_aload_n hx hb dX10_law_16 rfl (lv_at hl 0 rfl) ?_
    refine lv_iload_n hx hb dX10_law_17 rfl (lv_at hl 2 rfl) ?_
    refine lv_iload_n hx hb dX10_law_18 rfl (lv_at hl 3 rfl) ?_
    obtain ⟨r13, hcr13, he⟩ := g_bind he
    refine g_callV [.int a2, .int a3] (rest := []) E hml hl.1 hM cv_X10_178 (c10_isPart l D aC B hcr13) (o := 0) (Nat.le_of_ble_eq_true rfl) rfl (by decide) rfl rfl (Nat.le_of_ble_eq_true rfl) dX10_law_19 (fun H locs hM => ?_)
    refine W.eq (g2 := F0 m 22 ls [.int r13]) rfl ?_
    refine lv_if_eq (tgt := 35) hx hb dX10_law_22 (by decide) (fun h14 => ?_) (fun h14 => ?_)
    · rw [if_pos h14] at he
      exact w10_law_b35 (F := F) (a1 := a1) (a2 := a2) (a3 := a3) E hml hret hlk _ _ _ _ hM (lv_sub hl [0, 1, 2, 3] rfl) he
    · rw [if_neg h14] at he
      refine lv_aload_n hx hb dX10_law_25 rfl (lv_at hl 0 rfl) ?_
      refine g_getP E hM (o := 0) (Nat.le_of_ble_eq_true rfl) rfl fl_X10_66 (q := 53) rfl dX10_law_26 ?_
      refine lv_iload_n hx hb dX10_law_29 rfl (lv_at hl 2 rfl) ?_
      refine lv_iload_n hx hb dX10_law_30 rfl (lv_at hl 3 rfl) ?_
      obtain ⟨r15, hcr15, he⟩ := g_bind he
      refine g_callV [.int a2, .int a3] (rest := []) E hml hl.1 hM cv_X10_200 (c0_fareLaw l D aC B hcr15) (o := 53) (Nat.le_of_ble_eq_true rfl) rfl (by decide) rfl rfl (Nat.le_of_ble_eq_true rfl) dX10_law_31 (fun H locs hM => ?_)
      refine W.eq (g2 := F0 m 34 ls [.long r15.1]) rfl ?_
      cases he
      exact g_lret E hM hret hlk dX10_law_34

set_option maxHeartbeats 4000000 in
set_option maxRecDepth 100000 in
theorem c10_send (l : Launch) (D : va_G) (aC : Nat → ClassId) (B : Nat) {F : Nat} {a1 : Int32} {a2 : Int32} {a3 : Int32} {mem : g_M} {q0 : Int32 × g_M} (he : f10_send F a1 a2 a3 mem = some q0) : g_Met l yX10_send cX10_send 4 (some .int) 3 D aC B yC 69 mem [.ref (B + 0), .int a1, .int a2, .int a3] (some (.int q0.1)) q0.2 := by
  refine g_ofW (by decide) (Nat.le_of_ble_eq_true rfl) ?_
  intro p e s m args below meth c ls E hml hret hlk hM hl
  have E : g_C p s m args c cX10_send RX10 D aC (g_Zs (g_A B 69)) := E
  have hx := E.1
  have hb := E.2.1
  have hown := E.2.2.1
  have hts := E.2.2.2.1
  have hl : lv_has ls 4 [(0, .ref (B + 0)), (1, .int a1), (2, .int a2), (3, .int a3)] := hl
  unfold f10_send at he
  refine lv_aload_n hx hb dX10_send_0 rfl (lv_at hl 0 rfl) ?_
  refine lv_iload_n hx hb dX10_send_1 rfl (lv_at hl 1 rfl) ?_
  refine lv_iload_n hx hb dX10_send_2 rfl (lv_at hl 2 rfl) ?_
  obtain ⟨r1, hcr1, he⟩ := g_bind he
  refine g_callV [.int a1, .int a2] (rest := []) E hml hl.1 hM cv_X10_178 (c10_isPart l D aC B hcr1) (o := 0) (Nat.le_of_ble_eq_true rfl) rfl (by decide) rfl rfl (Nat.le_of_ble_eq_true rfl) dX10_send_3 (fun H locs hM => ?_)
  refine W.eq (g2 := F0 m 6 ls [.int r1]) rfl ?_
  refine lv_if_eq (tgt := 39) hx hb dX10_send_6 (by decide) (fun h2 => ?_) (fun h2 => ?_)
  · rw [if_pos h2] at he
    refine lv_iconst (v := (-1 : Int32)) hx hb dX10_send_39 rfl ?_
    cases he
    exact g_iret E hM hret hlk dX10_send_40
  · rw [if_neg h2] at he
    refine lv_iload_n hx hb dX10_send_9 rfl (lv_at hl 3 rfl) ?_
    refine lv_aload_n hx hb dX10_send_10 rfl (lv_at hl 0 rfl) ?_
    refine g_getP E hM (o := 0) (Nat.le_of_ble_eq_true rfl) rfl fl_X10_47 (q := 35) rfl dX10_send_11 ?_
    refine g_getI E hM (o := 35) (Nat.le_of_ble_eq_true rfl) rfl fl_X10_215 dX10_send_14 ?_
    refine lv_icmp_lt (tgt := 39) hx hb dX10_send_17 (by decide) (fun h3 => ?_) (fun h3 => ?_)
    · rw [if_neg (Int32.not_le.mpr h3)] at he
      refine lv_iconst (v := (-1 : Int32)) hx hb dX10_send_39 rfl ?_
      cases he
      exact g_iret E hM hret hlk dX10_send_40
    · rw [if_pos (Int32.not_lt.mp h3)] at he
      refine lv_iload_n hx hb dX10_send_20 rfl (lv_at hl 3 rfl) ?_
      refine lv_sipush (v := (9999 : Int32)) hx hb dX10_send_21 rfl ?_
      refine lv_icmp_gt (tgt := 39) hx hb dX10_send_24 (by decide) (fun h4 => ?_) (fun h4 => ?_)
      · rw [if_neg (Int32.not_le.mpr h4)] at he
        refine lv_iconst (v := (-1 : Int32)) hx hb dX10_send_39 rfl ?_
        cases he
        exact g_iret E hM hret hlk dX10_send_40
      · rw [if_pos (Int32.not_lt.mp h4)] at he
        refine lv_aload_n hx hb dX10_send_27 rfl (lv_at hl 0 rfl) ?_
        refine g_getP E hM (o := 0) (Nat.le_of_ble_eq_true rfl) rfl fl_X10_47 (q := 35) rfl dX10_send_28 ?_
        refine g_getI E hM (o := 35) (Nat.le_of_ble_eq_true rfl) rfl fl_X10_218 dX10_send_31 ?_
        refine lv_bipush (v := (12 : Int32)) hx hb dX10_send_34 rfl ?_
        refine lv_icmp_lt (tgt := 41) hx hb dX10_send_36 (by decide) (fun h5 => ?_) (fun h5 => ?_)
        · rw [if_neg (Int32.not_le.mpr h5)] at he
          refine lv_aload_n hx hb dX10_send_41 rfl (lv_at hl 0 rfl) ?_
          refine g_getP E hM (o := 0) (Nat.le_of_ble_eq_true rfl) rfl fl_X10_47 (q := 35) rfl dX10_send_42 ?_
          refine lv_iload_n hx hb dX10_send_45 rfl (lv_at hl 1 rfl) ?_
          refine lv_iload_n hx hb dX10_send_46 rfl (lv_at hl 2 rfl) ?_
          refine lv_iload_n hx hb dX10_send_47 rfl (lv_at hl 3 rfl) ?_
          obtain ⟨r6, hcr6, he⟩ := g_bind he
          refine g_callV [.int a1, .int a2, .int a3] (rest := []) E hml hl.1 hM cv_X10_221 (c7_putSending l D aC B (Nat.le_of_ble_eq_true rfl) rfl hcr6) (o := 35) (Nat.le_of_ble_eq_true rfl) rfl (by decide) rfl rfl (Nat.le_of_ble_eq_true rfl) dX10_send_48 (fun H locs hM => ?_)
          refine W.eq (g2 := F0 m 51 ls []) rfl ?_
          refine lv_aload_n hx hb dX10_send_51 rfl (lv_at hl 0 rfl) ?_
          refine g_getP E hM (o := 0) (Nat.le_of_ble_eq_true rfl) rfl fl_X10_91 (q := 67) rfl dX10_send_52 ?_
          refine lv_iconst (v := (0 : Int32)) hx hb dX10_send_55 rfl ?_
          refine lv_iconst (v := (0 : Int32)) hx hb dX10_send_56 rfl ?_
          refine lv_iconst (v := (0 : Int32)) hx hb dX10_send_57 rfl ?_
          refine lv_iconst (v := (0 : Int32)) hx hb dX10_send_58 rfl ?_
          obtain ⟨r7, hcr7, he⟩ := g_bind he
          refine g_callV [.int (0 : Int32), .int (0 : Int32), .int (0 : Int32), .int (0 : Int32)] (rest := []) E hml hl.1 hM cv_X10_225 (c3_note l D aC B hcr7) (o := 67) (Nat.le_of_ble_eq_true rfl) rfl (by decide) rfl rfl (Nat.le_of_ble_eq_true rfl) dX10_send_59 (fun H locs hM => ?_)
          refine W.eq (g2 := F0 m 62 ls []) rfl ?_
          refine lv_aload_n hx hb dX10_send_62 rfl (lv_at hl 0 rfl) ?_
          refine g_getP E hM (o := 0) (Nat.le_of_ble_eq_true rfl) rfl fl_X10_47 (q := 35) rfl dX10_send_63 ?_
          refine g_getI E hM (o := 35) (Nat.le_of_ble_eq_true rfl) rfl fl_X10_218 dX10_send_66 ?_
          refine lv_iconst (v := (1 : Int32)) hx hb dX10_send_69 rfl ?_
          refine lv_isub hx hb dX10_send_70 ?_
          cases he
          exact g_iret E hM hret hlk dX10_send_71
        · rw [if_pos (Int32.not_lt.mp h5)] at he
          refine lv_iconst (v := (-1 : Int32)) hx hb dX10_send_39 rfl ?_
          cases he
          exact g_iret E hM hret hlk dX10_send_40

set_option maxHeartbeats 4000000 in
set_option maxRecDepth 100000 in
theorem c10_take (l : Launch) (D : va_G) (aC : Nat → ClassId) (B : Nat) {F : Nat} {a1 : Int32} {mem : g_M} {q0 : Int32 × g_M} (he : f10_take F a1 mem = some q0) : g_Met l yX10_take cX10_take 2 (some .boolean) 3 D aC B yC 69 mem [.ref (B + 0), .int a1] (some (.int q0.1)) q0.2 := by
  refine g_ofW (by decide) (Nat.le_of_ble_eq_true rfl) ?_
  intro p e s m args below meth c ls E hml hret hlk hM hl
  have E : g_C p s m args c cX10_take RX10 D aC (g_Zs (g_A B 69)) := E
  have hx := E.1
  have hb := E.2.1
  have hown := E.2.2.1
  have hts := E.2.2.2.1
  have hl : lv_has ls 2 [(0, .ref (B + 0)), (1, .int a1)] := hl
  unfold f10_take at he
  refine lv_aload_n hx hb dX10_take_0 rfl (lv_at hl 0 rfl) ?_
  refine lv_iload_n hx hb dX10_take_1 rfl (lv_at hl 1 rfl) ?_
  obtain ⟨r1, hcr1, he⟩ := g_bind he
  refine g_callV [.int a1] (rest := []) E hml hl.1 hM cv_X10_163 (c10_isSending l D aC B hcr1) (o := 0) (Nat.le_of_ble_eq_true rfl) rfl (by decide) rfl rfl (Nat.le_of_ble_eq_true rfl) dX10_take_2 (fun H locs hM => ?_)
  refine W.eq (g2 := F0 m 5 ls [.int r1]) rfl ?_
  refine lv_if_eq (tgt := 20) hx hb dX10_take_5 (by decide) (fun h2 => ?_) (fun h2 => ?_)
  · rw [if_pos h2] at he
    refine lv_iconst (v := (0 : Int32)) hx hb dX10_take_20 rfl ?_
    cases he
    exact g_zret E hM hret hlk (Or.inl rfl) dX10_take_21
  · rw [if_neg h2] at he
    refine lv_aload_n hx hb dX10_take_8 rfl (lv_at hl 0 rfl) ?_
    refine g_getP E hM (o := 0) (Nat.le_of_ble_eq_true rfl) rfl fl_X10_47 (q := 35) rfl dX10_take_9 ?_
    refine lv_iload_n hx hb dX10_take_12 rfl (lv_at hl 1 rfl) ?_
    refine lv_iconst (v := (3 : Int32)) hx hb dX10_take_13 rfl ?_
    obtain ⟨r3, hcr3, he⟩ := g_bind he
    refine g_callV [.int a1, .int (3 : Int32)] (rest := []) E hml hl.1 hM cv_X10_166 (c7_sendingAt l D aC B (Nat.le_of_ble_eq_true rfl) rfl hcr3) (o := 35) (Nat.le_of_ble_eq_true rfl) rfl (by decide) rfl rfl (Nat.le_of_ble_eq_true rfl) dX10_take_14 (fun H locs hM => ?_)
    refine W.eq (g2 := F0 m 17 ls [.int r3]) rfl ?_
    refine lv_if_eq (tgt := 22) hx hb dX10_take_17 (by decide) (fun h4 => ?_) (fun h4 => ?_)
    · rw [if_pos h4] at he
      refine lv_aload_n hx hb dX10_take_22 rfl (lv_at hl 0 rfl) ?_
      refine g_getP E hM (o := 0) (Nat.le_of_ble_eq_true rfl) rfl fl_X10_47 (q := 35) rfl dX10_take_23 ?_
      refine lv_iload_n hx hb dX10_take_26 rfl (lv_at hl 1 rfl) ?_
      refine lv_iconst (v := (3 : Int32)) hx hb dX10_take_27 rfl ?_
      refine lv_iconst (v := (2 : Int32)) hx hb dX10_take_28 rfl ?_
      obtain ⟨r5, hcr5, he⟩ := g_bind he
      refine g_callV [.int a1, .int (3 : Int32), .int (2 : Int32)] (rest := []) E hml hl.1 hM cv_X10_229 (c7_setSending l D aC B (Nat.le_of_ble_eq_true rfl) rfl hcr5) (o := 35) (Nat.le_of_ble_eq_true rfl) rfl (by decide) rfl rfl (Nat.le_of_ble_eq_true rfl) dX10_take_29 (fun H locs hM => ?_)
      refine W.eq (g2 := F0 m 32 ls []) rfl ?_
      refine lv_aload_n hx hb dX10_take_32 rfl (lv_at hl 0 rfl) ?_
      refine g_getP E hM (o := 0) (Nat.le_of_ble_eq_true rfl) rfl fl_X10_91 (q := 67) rfl dX10_take_33 ?_
      refine lv_iconst (v := (1 : Int32)) hx hb dX10_take_36 rfl ?_
      refine lv_iload_n hx hb dX10_take_37 rfl (lv_at hl 1 rfl) ?_
      refine lv_iconst (v := (0 : Int32)) hx hb dX10_take_38 rfl ?_
      refine lv_iconst (v := (0 : Int32)) hx hb dX10_take_39 rfl ?_
      obtain ⟨r6, hcr6, he⟩ := g_bind he
      refine g_callV [.int (1 : Int32), .int a1, .int (0 : Int32), .int (0 : Int32)] (rest := []) E hml hl.1 hM cv_X10_225 (c3_note l D aC B hcr6) (o := 67) (Nat.le_of_ble_eq_true rfl) rfl (by decide) rfl rfl (Nat.le_of_ble_eq_true rfl) dX10_take_40 (fun H locs hM => ?_)
      refine W.eq (g2 := F0 m 43 ls []) rfl ?_
      refine lv_iconst (v := (1 : Int32)) hx hb dX10_take_43 rfl ?_
      cases he
      exact g_zret E hM hret hlk (Or.inr rfl) dX10_take_44
    · rw [if_neg h4] at he
      refine lv_iconst (v := (0 : Int32)) hx hb dX10_take_20 rfl ?_
      cases he
      exact g_zret E hM hret hlk (Or.inl rfl) dX10_take_21

set_option maxHeartbeats 4000000 in
set_option maxRecDepth 100000 in
theorem c10_swap (l : Launch) (D : va_G) (aC : Nat → ClassId) (B : Nat) {F : Nat} {a1 : Int32} {a2 : Int32} {a3 : Int32} {mem : g_M} {q0 : Int32 × g_M} (he : f10_swap F a1 a2 a3 mem = some q0) : g_Met l yX10_swap cX10_swap 4 (some .boolean) 3 D aC B yC 69 mem [.ref (B + 0), .int a1, .int a2, .int a3] (some (.int q0.1)) q0.2 := by
  refine g_ofW (by decide) (Nat.le_of_ble_eq_true rfl) ?_
  intro p e s m args below meth c ls E hml hret hlk hM hl
  have E : g_C p s m args c cX10_swap RX10 D aC (g_Zs (g_A B 69)) := E
  have hx := E.1
  have hb := E.2.1
  have hown := E.2.2.1
  have hts := E.2.2.2.1
  have hl : lv_has ls 4 [(0, .ref (B + 0)), (1, .int a1), (2, .int a2), (3, .int a3)] := hl
  unfold f10_swap at he
  refine lv_iload_n hx hb dX10_swap_0 rfl (lv_at hl 1 rfl) ?_
  refine lv_iload_n hx hb dX10_swap_1 rfl (lv_at hl 2 rfl) ?_
  refine lv_icmp_eq (tgt := 23) hx hb dX10_swap_2 (by decide) (fun h1 => ?_) (fun h1 => ?_)
  · rw [if_pos h1] at he
    refine lv_iconst (v := (0 : Int32)) hx hb dX10_swap_23 rfl ?_
    cases he
    exact g_zret E hM hret hlk (Or.inl rfl) dX10_swap_24
  · rw [if_neg h1] at he
    refine lv_aload_n hx hb dX10_swap_5 rfl (lv_at hl 0 rfl) ?_
    refine lv_iload_n hx hb dX10_swap_6 rfl (lv_at hl 1 rfl) ?_
    refine lv_iload_n hx hb dX10_swap_7 rfl (lv_at hl 3 rfl) ?_
    obtain ⟨r2, hcr2, he⟩ := g_bind he
    refine g_callV [.int a1, .int a3] (rest := []) E hml hl.1 hM cv_X10_178 (c10_isPart l D aC B hcr2) (o := 0) (Nat.le_of_ble_eq_true rfl) rfl (by decide) rfl rfl (Nat.le_of_ble_eq_true rfl) dX10_swap_8 (fun H locs hM => ?_)
    refine W.eq (g2 := F0 m 11 ls [.int r2]) rfl ?_
    refine lv_if_eq (tgt := 23) hx hb dX10_swap_11 (by decide) (fun h3 => ?_) (fun h3 => ?_)
    · rw [if_pos h3] at he
      refine lv_iconst (v := (0 : Int32)) hx hb dX10_swap_23 rfl ?_
      cases he
      exact g_zret E hM hret hlk (Or.inl rfl) dX10_swap_24
    · rw [if_neg h3] at he
      refine lv_aload_n hx hb dX10_swap_14 rfl (lv_at hl 0 rfl) ?_
      refine lv_iload_n hx hb dX10_swap_15 rfl (lv_at hl 2 rfl) ?_
      refine lv_iload_n hx hb dX10_swap_16 rfl (lv_at hl 3 rfl) ?_
      obtain ⟨r4, hcr4, he⟩ := g_bind he
      refine g_callV [.int a2, .int a3] (rest := []) E hml hl.1 hM cv_X10_178 (c10_isPart l D aC B hcr4) (o := 0) (Nat.le_of_ble_eq_true rfl) rfl (by decide) rfl rfl (Nat.le_of_ble_eq_true rfl) dX10_swap_17 (fun H locs hM => ?_)
      refine W.eq (g2 := F0 m 20 ls [.int r4]) rfl ?_
      refine lv_if_ne (tgt := 25) hx hb dX10_swap_20 (by decide) (fun h5 => ?_) (fun h5 => ?_)
      · rw [if_neg h5] at he
        refine lv_aload_n hx hb dX10_swap_25 rfl (lv_at hl 0 rfl) ?_
        refine g_getP E hM (o := 0) (Nat.le_of_ble_eq_true rfl) rfl fl_X10_47 (q := 35) rfl dX10_swap_26 ?_
        refine g_getP E hM (o := 35) (Nat.le_of_ble_eq_true rfl) rfl fl_X10_185 (q := 38) rfl dX10_swap_29 ?_
        refine lv_iload_n hx hb dX10_swap_32 rfl (lv_at hl 1 rfl) ?_
        refine lv_iconst (v := (5 : Int32)) hx hb dX10_swap_33 rfl ?_
        refine lv_imul hx hb dX10_swap_34 ?_
        refine lv_iload_n hx hb dX10_swap_35 rfl (lv_at hl 3 rfl) ?_
        refine lv_iadd hx hb dX10_swap_36 ?_
        obtain ⟨h6, he⟩ := g_ck_some he
        refine g_iald E hM (o := 38) (Nat.le_of_ble_eq_true rfl) rfl h6 dX10_swap_37 ?_
        refine lv_aload_n hx hb dX10_swap_38 rfl (lv_at hl 0 rfl) ?_
        refine g_getP E hM (o := 0) (Nat.le_of_ble_eq_true rfl) rfl fl_X10_47 (q := 35) rfl dX10_swap_39 ?_
        refine g_getP E hM (o := 35) (Nat.le_of_ble_eq_true rfl) rfl fl_X10_185 (q := 38) rfl dX10_swap_42 ?_
        refine lv_iload_n hx hb dX10_swap_45 rfl (lv_at hl 2 rfl) ?_
        refine lv_iconst (v := (5 : Int32)) hx hb dX10_swap_46 rfl ?_
        refine lv_imul hx hb dX10_swap_47 ?_
        refine lv_iload_n hx hb dX10_swap_48 rfl (lv_at hl 3 rfl) ?_
        refine lv_iadd hx hb dX10_swap_49 ?_
        obtain ⟨h7, he⟩ := g_ck_some he
        refine g_iald E hM (o := 38) (Nat.le_of_ble_eq_true rfl) rfl h7 dX10_swap_50 ?_
        refine lv_icmp_eq (tgt := 56) hx hb dX10_swap_51 (by decide) (fun h8 => ?_) (fun h8 => ?_)
        · rw [if_pos h8] at he
          refine lv_aload_n hx hb dX10_swap_56 rfl (lv_at hl 0 rfl) ?_
          refine g_getP E hM (o := 0) (Nat.le_of_ble_eq_true rfl) rfl fl_X10_47 (q := 35) rfl dX10_swap_57 ?_
          refine lv_iload_n hx hb dX10_swap_60 rfl (lv_at hl 1 rfl) ?_
          refine lv_iload_n hx hb dX10_swap_61 rfl (lv_at hl 2 rfl) ?_
          refine lv_iload_n hx hb dX10_swap_62 rfl (lv_at hl 3 rfl) ?_
          obtain ⟨r9, hcr9, he⟩ := g_bind he
          refine g_callV [.int a1, .int a2, .int a3] (rest := []) E hml hl.1 hM cv_X10_232 (c7_exchange l D aC B (Nat.le_of_ble_eq_true rfl) rfl hcr9) (o := 35) (Nat.le_of_ble_eq_true rfl) rfl (by decide) rfl rfl (Nat.le_of_ble_eq_true rfl) dX10_swap_63 (fun H locs hM => ?_)
          refine W.eq (g2 := F0 m 66 ls []) rfl ?_
          refine lv_aload_n hx hb dX10_swap_66 rfl (lv_at hl 0 rfl) ?_
          refine g_getP E hM (o := 0) (Nat.le_of_ble_eq_true rfl) rfl fl_X10_91 (q := 67) rfl dX10_swap_67 ?_
          refine lv_iconst (v := (2 : Int32)) hx hb dX10_swap_70 rfl ?_
          refine lv_iload_n hx hb dX10_swap_71 rfl (lv_at hl 1 rfl) ?_
          refine lv_iload_n hx hb dX10_swap_72 rfl (lv_at hl 2 rfl) ?_
          refine lv_iload_n hx hb dX10_swap_73 rfl (lv_at hl 3 rfl) ?_
          obtain ⟨r10, hcr10, he⟩ := g_bind he
          refine g_callV [.int (2 : Int32), .int a1, .int a2, .int a3] (rest := []) E hml hl.1 hM cv_X10_225 (c3_note l D aC B hcr10) (o := 67) (Nat.le_of_ble_eq_true rfl) rfl (by decide) rfl rfl (Nat.le_of_ble_eq_true rfl) dX10_swap_74 (fun H locs hM => ?_)
          refine W.eq (g2 := F0 m 77 ls []) rfl ?_
          refine lv_iconst (v := (1 : Int32)) hx hb dX10_swap_77 rfl ?_
          cases he
          exact g_zret E hM hret hlk (Or.inr rfl) dX10_swap_78
        · rw [if_neg h8] at he
          refine lv_iconst (v := (0 : Int32)) hx hb dX10_swap_54 rfl ?_
          cases he
          exact g_zret E hM hret hlk (Or.inl rfl) dX10_swap_55
      · rw [if_pos h5] at he
        refine lv_iconst (v := (0 : Int32)) hx hb dX10_swap_23 rfl ?_
        cases he
        exact g_zret E hM hret hlk (Or.inl rfl) dX10_swap_24

set_option maxHeartbeats 4000000 in
set_option maxRecDepth 100000 in
theorem c10_lend (l : Launch) (D : va_G) (aC : Nat → ClassId) (B : Nat) {F : Nat} {a1 : Int32} {a2 : Int32} {mem : g_M} {q0 : Int32 × g_M} (he : f10_lend F a1 a2 mem = some q0) : g_Met l yX10_lend cX10_lend 3 (some .int) 3 D aC B yC 69 mem [.ref (B + 0), .int a1, .int a2] (some (.int q0.1)) q0.2 := by
  refine g_ofW (by decide) (Nat.le_of_ble_eq_true rfl) ?_
  intro p e s m args below meth c ls E hml hret hlk hM hl
  have E : g_C p s m args c cX10_lend RX10 D aC (g_Zs (g_A B 69)) := E
  have hx := E.1
  have hb := E.2.1
  have hown := E.2.2.1
  have hts := E.2.2.2.1
  have hl : lv_has ls 3 [(0, .ref (B + 0)), (1, .int a1), (2, .int a2)] := hl
  unfold f10_lend at he
  refine lv_aload_n hx hb dX10_lend_0 rfl (lv_at hl 0 rfl) ?_
  refine lv_iload_n hx hb dX10_lend_1 rfl (lv_at hl 1 rfl) ?_
  obtain ⟨r1, hcr1, he⟩ := g_bind he
  refine g_callV [.int a1] (rest := []) E hml hl.1 hM cv_X10_119 (c10_isMan l D aC B hcr1) (o := 0) (Nat.le_of_ble_eq_true rfl) rfl (by decide) rfl rfl (Nat.le_of_ble_eq_true rfl) dX10_lend_2 (fun H locs hM => ?_)
  refine W.eq (g2 := F0 m 5 ls [.int r1]) rfl ?_
  refine lv_if_eq (tgt := 35) hx hb dX10_lend_5 (by decide) (fun h2 => ?_) (fun h2 => ?_)
  · rw [if_pos h2] at he
    refine lv_iconst (v := (-1 : Int32)) hx hb dX10_lend_35 rfl ?_
    cases he
    exact g_iret E hM hret hlk dX10_lend_36
  · rw [if_neg h2] at he
    refine lv_iload_n hx hb dX10_lend_8 rfl (lv_at hl 2 rfl) ?_
    refine lv_iconst (v := (1 : Int32)) hx hb dX10_lend_9 rfl ?_
    refine lv_icmp_lt (tgt := 35) hx hb dX10_lend_10 (by decide) (fun h3 => ?_) (fun h3 => ?_)
    · rw [if_neg (Int32.not_le.mpr h3)] at he
      refine lv_iconst (v := (-1 : Int32)) hx hb dX10_lend_35 rfl ?_
      cases he
      exact g_iret E hM hret hlk dX10_lend_36
    · rw [if_pos (Int32.not_lt.mp h3)] at he
      refine lv_iload_n hx hb dX10_lend_13 rfl (lv_at hl 2 rfl) ?_
      refine lv_bipush (v := (99 : Int32)) hx hb dX10_lend_14 rfl ?_
      refine lv_icmp_gt (tgt := 35) hx hb dX10_lend_16 (by decide) (fun h4 => ?_) (fun h4 => ?_)
      · rw [if_neg (Int32.not_le.mpr h4)] at he
        refine lv_iconst (v := (-1 : Int32)) hx hb dX10_lend_35 rfl ?_
        cases he
        exact g_iret E hM hret hlk dX10_lend_36
      · rw [if_pos (Int32.not_lt.mp h4)] at he
        refine lv_aload_n hx hb dX10_lend_19 rfl (lv_at hl 0 rfl) ?_
        refine g_getP E hM (o := 0) (Nat.le_of_ble_eq_true rfl) rfl fl_X10_47 (q := 35) rfl dX10_lend_20 ?_
        refine g_getP E hM (o := 35) (Nat.le_of_ble_eq_true rfl) rfl fl_X10_130 (q := 36) rfl dX10_lend_23 ?_
        refine lv_iload_n hx hb dX10_lend_26 rfl (lv_at hl 1 rfl) ?_
        obtain ⟨h5, he⟩ := g_ck_some he
        refine g_iald E hM (o := 36) (Nat.le_of_ble_eq_true rfl) rfl h5 dX10_lend_27 ?_
        refine lv_iload_n hx hb dX10_lend_28 rfl (lv_at hl 2 rfl) ?_
        refine lv_iadd hx hb dX10_lend_29 ?_
        refine lv_ldc (v := (99999 : Int32)) hx hb hown (hts _ kc_X10_235) dX10_lend_30 ?_
        refine lv_icmp_le (tgt := 37) hx hb dX10_lend_32 (by decide) (fun h6 => ?_) (fun h6 => ?_)
        · rw [if_neg (Int32.not_lt.mpr h6)] at he
          refine lv_aload_n hx hb dX10_lend_37 rfl (lv_at hl 0 rfl) ?_
          refine g_getP E hM (o := 0) (Nat.le_of_ble_eq_true rfl) rfl fl_X10_47 (q := 35) rfl dX10_lend_38 ?_
          refine g_getP E hM (o := 35) (Nat.le_of_ble_eq_true rfl) rfl fl_X10_130 (q := 36) rfl dX10_lend_41 ?_
          refine lv_iload_n hx hb dX10_lend_44 rfl (lv_at hl 1 rfl) ?_
          refine lv_dup2_11 hx hb dX10_lend_45 rfl rfl ?_
          obtain ⟨h7, he⟩ := g_ck_some he
          refine g_iald E hM (o := 36) (Nat.le_of_ble_eq_true rfl) rfl h7 dX10_lend_46 ?_
          refine lv_iload_n hx hb dX10_lend_47 rfl (lv_at hl 2 rfl) ?_
          refine lv_iadd hx hb dX10_lend_48 ?_
          obtain ⟨h8, he⟩ := g_ck_some he
          refine g_iast E hM (o := 36) (Nat.le_of_ble_eq_true rfl) rfl h8 dX10_lend_49 (fun H locs hM => ?_)
          obtain ⟨m9, hm9, he⟩ := g_let_ex he
          rw [← hm9] at hM
          refine lv_aload_n hx hb dX10_lend_50 rfl (lv_at hl 0 rfl) ?_
          refine g_getP E hM (o := 0) (Nat.le_of_ble_eq_true rfl) rfl fl_X10_91 (q := 67) rfl dX10_lend_51 ?_
          refine lv_iconst (v := (3 : Int32)) hx hb dX10_lend_54 rfl ?_
          refine lv_iload_n hx hb dX10_lend_55 rfl (lv_at hl 1 rfl) ?_
          refine lv_iload_n hx hb dX10_lend_56 rfl (lv_at hl 2 rfl) ?_
          refine lv_iconst (v := (0 : Int32)) hx hb dX10_lend_57 rfl ?_
          obtain ⟨r10, hcr10, he⟩ := g_bind he
          refine g_callV [.int (3 : Int32), .int a1, .int a2, .int (0 : Int32)] (rest := []) E hml hl.1 hM cv_X10_225 (c3_note l D aC B hcr10) (o := 67) (Nat.le_of_ble_eq_true rfl) rfl (by decide) rfl rfl (Nat.le_of_ble_eq_true rfl) dX10_lend_58 (fun H locs hM => ?_)
          refine W.eq (g2 := F0 m 61 ls []) rfl ?_
          refine lv_aload_n hx hb dX10_lend_61 rfl (lv_at hl 0 rfl) ?_
          refine g_getP E hM (o := 0) (Nat.le_of_ble_eq_true rfl) rfl fl_X10_47 (q := 35) rfl dX10_lend_62 ?_
          refine g_getP E hM (o := 35) (Nat.le_of_ble_eq_true rfl) rfl fl_X10_130 (q := 36) rfl dX10_lend_65 ?_
          refine lv_iload_n hx hb dX10_lend_68 rfl (lv_at hl 1 rfl) ?_
          obtain ⟨h11, he⟩ := g_ck_some he
          refine g_iald E hM (o := 36) (Nat.le_of_ble_eq_true rfl) rfl h11 dX10_lend_69 ?_
          cases he
          exact g_iret E hM hret hlk dX10_lend_70
        · rw [if_pos (Int32.not_le.mp h6)] at he
          refine lv_iconst (v := (-1 : Int32)) hx hb dX10_lend_35 rfl ?_
          cases he
          exact g_iret E hM hret hlk dX10_lend_36

set_option maxHeartbeats 4000000 in
set_option maxRecDepth 100000 in
theorem c10_isSpan (l : Launch) (D : va_G) (aC : Nat → ClassId) (B : Nat) {F : Nat} {a0 : Int32} {mem : g_M} {q0 : Int32} (he : f10_isSpan F a0 mem = some q0) : g_Met l yX10_isSpan cX10_isSpan 1 (some .boolean) 1 D aC B yC 69 mem [.int a0] (some (.int q0)) mem := by
  refine g_ofW (by decide) (Nat.le_of_ble_eq_true rfl) ?_
  intro p e s m args below meth c ls E hml hret hlk hM hl
  have E : g_C p s m args c cX10_isSpan RX10 D aC (g_Zs (g_A B 69)) := E
  have hx := E.1
  have hb := E.2.1
  have hown := E.2.2.1
  have hts := E.2.2.2.1
  have hl : lv_has ls 1 [(0, .int a0)] := hl
  unfold f10_isSpan at he
  refine lv_iload_n hx hb dX10_isSpan_0 rfl (lv_at hl 0 rfl) ?_
  refine lv_if_lt (tgt := 14) hx hb dX10_isSpan_1 (by decide) (fun h1 => ?_) (fun h1 => ?_)
  · rw [if_neg (Int32.not_le.mpr h1)] at he
    refine lv_iconst (v := (0 : Int32)) hx hb dX10_isSpan_14 rfl ?_
    cases he
    exact g_zret E hM hret hlk (Or.inl rfl) dX10_isSpan_15
  · rw [if_pos (Int32.not_lt.mp h1)] at he
    refine lv_iload_n hx hb dX10_isSpan_4 rfl (lv_at hl 0 rfl) ?_
    refine lv_bipush (v := (99 : Int32)) hx hb dX10_isSpan_5 rfl ?_
    refine lv_icmp_gt (tgt := 14) hx hb dX10_isSpan_7 (by decide) (fun h2 => ?_) (fun h2 => ?_)
    · rw [if_neg (Int32.not_le.mpr h2)] at he
      refine lv_iconst (v := (0 : Int32)) hx hb dX10_isSpan_14 rfl ?_
      cases he
      exact g_zret E hM hret hlk (Or.inl rfl) dX10_isSpan_15
    · rw [if_pos (Int32.not_lt.mp h2)] at he
      refine lv_iconst (v := (1 : Int32)) hx hb dX10_isSpan_10 rfl ?_
      refine lv_goto (tgt := 15) hx hb dX10_isSpan_11 (by decide) ?_
      cases he
      exact g_zret E hM hret hlk (Or.inr rfl) dX10_isSpan_15

set_option maxHeartbeats 4000000 in
set_option maxRecDepth 100000 in
theorem w10_go_b55 (E : g_C p s m args c cX10_go RX10 D aC (g_Zs (g_A B 69))) (hml : c.maxLocals = 2) (hret : meth.sig.returnType = (some .int)) (hlk : meth.locks = false) {F : Nat} {q0 : Int32 × g_M} {a1 : Int32} : ∀ (mem : g_M) (H : Heap) (locs : List Loc) (ls : Array Slot), g_At D aC B yC 69 mem s.heap H locs → lv_has ls 2 [(0, .ref (B + 0))] → f10_go_b55 F a1 mem = some q0 → W p l e (g_rm 8) s m args below meth c H locs 0 0 (g_MQ below D aC B yC 69 args s (some (.int q0.1)) q0.2) (F0 m 55 ls []) := by
  intro mem H locs ls hM hl he
  unfold f10_go_b55 at he
  have hx := E.1
  have hb := E.2.1
  have hown := E.2.2.1
  have hts := E.2.2.2.1
  refine lv_aload_n hx hb dX10_go_55 rfl (lv_at hl 0 rfl) ?_
  refine g_getP E hM (o := 0) (Nat.le_of_ble_eq_true rfl) rfl fl_X10_47 (q := 35) rfl dX10_go_56 ?_
  refine g_getI E hM (o := 35) (Nat.le_of_ble_eq_true rfl) rfl fl_X10_215 dX10_go_59 ?_
  cases he
  exact g_iret E hM hret hlk dX10_go_62

set_option maxHeartbeats 4000000 in
set_option maxRecDepth 100000 in
theorem c10_go (l : Launch) (D : va_G) (aC : Nat → ClassId) (B : Nat) {F : Nat} {a1 : Int32} {mem : g_M} {q0 : Int32 × g_M} (he : f10_go F a1 mem = some q0) : g_Met l yX10_go cX10_go 2 (some .int) 8 D aC B yC 69 mem [.ref (B + 0), .int a1] (some (.int q0.1)) q0.2 := by
  refine g_ofW (by decide) (Nat.le_of_ble_eq_true rfl) ?_
  intro p e s m args below meth c ls E hml hret hlk hM hl
  have E : g_C p s m args c cX10_go RX10 D aC (g_Zs (g_A B 69)) := E
  have hx := E.1
  have hb := E.2.1
  have hown := E.2.2.1
  have hts := E.2.2.2.1
  have hl : lv_has ls 2 [(0, .ref (B + 0)), (1, .int a1)] := hl
  unfold f10_go at he
  refine lv_iload_n hx hb dX10_go_0 rfl (lv_at hl 1 rfl) ?_
  obtain ⟨r1, hcr1, he⟩ := g_bind he
  refine g_callS [.int a1] (rest := []) E hml hl.1 hM cs_X10_236 (c10_isSpan l D aC B hcr1) (by decide) rfl rfl (Nat.le_of_ble_eq_true rfl) dX10_go_1 (fun H locs hM => ?_)
  refine W.eq (g2 := F0 m 4 ls [.int r1]) rfl ?_
  refine lv_if_eq (tgt := 22) hx hb dX10_go_4 (by decide) (fun h2 => ?_) (fun h2 => ?_)
  · rw [if_pos h2] at he
    refine lv_iconst (v := (-1 : Int32)) hx hb dX10_go_22 rfl ?_
    cases he
    exact g_iret E hM hret hlk dX10_go_23
  · rw [if_neg h2] at he
    refine lv_aload_n hx hb dX10_go_7 rfl (lv_at hl 0 rfl) ?_
    refine g_getP E hM (o := 0) (Nat.le_of_ble_eq_true rfl) rfl fl_X10_47 (q := 35) rfl dX10_go_8 ?_
    refine g_getI E hM (o := 35) (Nat.le_of_ble_eq_true rfl) rfl fl_X10_215 dX10_go_11 ?_
    refine lv_iload_n hx hb dX10_go_14 rfl (lv_at hl 1 rfl) ?_
    refine lv_iadd hx hb dX10_go_15 ?_
    refine lv_sipush (v := (9900 : Int32)) hx hb dX10_go_16 rfl ?_
    refine lv_icmp_le (tgt := 24) hx hb dX10_go_19 (by decide) (fun h3 => ?_) (fun h3 => ?_)
    · rw [if_neg (Int32.not_lt.mpr h3)] at he
      refine lv_iload_n hx hb dX10_go_24 rfl (lv_at hl 1 rfl) ?_
      refine lv_if_le (tgt := 55) hx hb dX10_go_25 (by decide) (fun h4 => ?_) (fun h4 => ?_)
      · rw [if_neg (Int32.not_lt.mpr h4)] at he
        exact w10_go_b55 (F := F) (a1 := a1) E hml hret hlk _ _ _ _ hM (lv_sub hl [0] rfl) he
      · rw [if_pos (Int32.not_le.mp h4)] at he
        refine lv_aload_n hx hb dX10_go_28 rfl (lv_at hl 0 rfl) ?_
        refine g_getP E hM (o := 0) (Nat.le_of_ble_eq_true rfl) rfl fl_X10_66 (q := 53) rfl dX10_go_29 ?_
        refine lv_aload_n hx hb dX10_go_32 rfl (lv_at hl 0 rfl) ?_
        refine g_getP E hM (o := 0) (Nat.le_of_ble_eq_true rfl) rfl fl_X10_47 (q := 35) rfl dX10_go_33 ?_
        refine lv_iconst (v := (0 : Int32)) hx hb dX10_go_36 rfl ?_
        obtain ⟨r5, hcr5, he⟩ := g_bind he
        refine g_callV [.ref (B + 35), .int (0 : Int32)] (rest := []) E hml hl.1 hM cv_X10_196 (c0_start l D aC B (Nat.le_of_ble_eq_true rfl) rfl hcr5) (o := 53) (Nat.le_of_ble_eq_true rfl) rfl (by decide) rfl rfl (Nat.le_of_ble_eq_true rfl) dX10_go_37 (fun H locs hM => ?_)
        refine W.eq (g2 := F0 m 40 ls []) rfl ?_
        refine lv_aload_n hx hb dX10_go_40 rfl (lv_at hl 0 rfl) ?_
        refine g_getP E hM (o := 0) (Nat.le_of_ble_eq_true rfl) rfl fl_X10_66 (q := 53) rfl dX10_go_41 ?_
        refine lv_iload_n hx hb dX10_go_44 rfl (lv_at hl 1 rfl) ?_
        obtain ⟨r6, hcr6, he⟩ := g_bind he
        refine g_callV [.int a1] (rest := []) E hml hl.1 hM cv_X10_239 (c0_pass l D aC B hcr6) (o := 53) (Nat.le_of_ble_eq_true rfl) rfl (by decide) rfl rfl (Nat.le_of_ble_eq_true rfl) dX10_go_45 (fun H locs hM => ?_)
        refine W.eq (g2 := F0 m 48 ls []) rfl ?_
        refine lv_aload_n hx hb dX10_go_48 rfl (lv_at hl 0 rfl) ?_
        refine g_getP E hM (o := 0) (Nat.le_of_ble_eq_true rfl) rfl fl_X10_91 (q := 67) rfl dX10_go_49 ?_
        obtain ⟨r7, hcr7, he⟩ := g_bind he
        refine g_callV [] (rest := []) E hml hl.1 hM cv_X10_111 (c3_clear l D aC B hcr7) (o := 67) (Nat.le_of_ble_eq_true rfl) rfl (by decide) rfl rfl (Nat.le_of_ble_eq_true rfl) dX10_go_52 (fun H locs hM => ?_)
        refine W.eq (g2 := F0 m 55 ls []) rfl ?_
        exact w10_go_b55 (F := F) (a1 := a1) E hml hret hlk _ _ _ _ hM (lv_sub hl [0] rfl) he
    · rw [if_pos (Int32.not_le.mp h3)] at he
      refine lv_iconst (v := (-1 : Int32)) hx hb dX10_go_22 rfl ?_
      cases he
      exact g_iret E hM hret hlk dX10_go_23

set_option maxHeartbeats 4000000 in
set_option maxRecDepth 100000 in
theorem w10_ahead_b31 (E : g_C p s m args c cX10_ahead RX10 D aC (g_Zs (g_A B 69))) (hml : c.maxLocals = 4) (hret : meth.sig.returnType = (some .int)) (hlk : meth.locks = false) {F : Nat} {q0 : Int32 × g_M} {a1 : Int32} {a2 : Int32} {a3 : Int32} : ∀ (mem : g_M) (H : Heap) (locs : List Loc) (ls : Array Slot), g_At D aC B yC 69 mem s.heap H locs → lv_has ls 4 [(0, .ref (B + 0)), (1, .int a1), (2, .int a2), (3, .int a3)] → f10_ahead_b31 F a1 a2 a3 mem = some q0 → W p l e (g_rm 8) s m args below meth c H locs 0 0 (g_MQ below D aC B yC 69 args s (some (.int q0.1)) q0.2) (F0 m 31 ls []) := by
  intro mem H locs ls hM hl he
  unfold f10_ahead_b31 at he
  have hx := E.1
  have hb := E.2.1
  have hown := E.2.2.1
  have hts := E.2.2.2.1
  refine lv_aload_n hx hb dX10_ahead_31 rfl (lv_at hl 0 rfl) ?_
  refine g_getP E hM (o := 0) (Nat.le_of_ble_eq_true rfl) rfl fl_X10_58 (q := 47) rfl dX10_ahead_32 ?_
  refine lv_aload_n hx hb dX10_ahead_35 rfl (lv_at hl 0 rfl) ?_
  refine g_getP E hM (o := 0) (Nat.le_of_ble_eq_true rfl) rfl fl_X10_47 (q := 35) rfl dX10_ahead_36 ?_
  obtain ⟨r1, hcr1, he⟩ := g_bind he
  refine g_callV [.ref (B + 35)] (rest := []) E hml hl.1 hM cv_X10_242 (c7_copy l D aC B (Nat.le_of_ble_eq_true rfl) rfl (Nat.le_of_ble_eq_true rfl) rfl hcr1) (o := 47) (Nat.le_of_ble_eq_true rfl) rfl (by decide) rfl rfl (Nat.le_of_ble_eq_true rfl) dX10_ahead_39 (fun H locs hM => ?_)
  refine W.eq (g2 := F0 m 42 ls []) rfl ?_
  refine lv_aload_n hx hb dX10_ahead_42 rfl (lv_at hl 0 rfl) ?_
  refine g_getP E hM (o := 0) (Nat.le_of_ble_eq_true rfl) rfl fl_X10_66 (q := 53) rfl dX10_ahead_43 ?_
  refine lv_aload_n hx hb dX10_ahead_46 rfl (lv_at hl 0 rfl) ?_
  refine g_getP E hM (o := 0) (Nat.le_of_ble_eq_true rfl) rfl fl_X10_58 (q := 47) rfl dX10_ahead_47 ?_
  refine lv_iconst (v := (1 : Int32)) hx hb dX10_ahead_50 rfl ?_
  obtain ⟨r2, hcr2, he⟩ := g_bind he
  refine g_callV [.ref (B + 47), .int (1 : Int32)] (rest := []) E hml hl.1 hM cv_X10_196 (c0_start l D aC B (Nat.le_of_ble_eq_true rfl) rfl hcr2) (o := 53) (Nat.le_of_ble_eq_true rfl) rfl (by decide) rfl rfl (Nat.le_of_ble_eq_true rfl) dX10_ahead_51 (fun H locs hM => ?_)
  refine W.eq (g2 := F0 m 54 ls []) rfl ?_
  refine lv_aload_n hx hb dX10_ahead_54 rfl (lv_at hl 0 rfl) ?_
  refine g_getP E hM (o := 0) (Nat.le_of_ble_eq_true rfl) rfl fl_X10_66 (q := 53) rfl dX10_ahead_55 ?_
  refine lv_iload_n hx hb dX10_ahead_58 rfl (lv_at hl 1 rfl) ?_
  obtain ⟨r3, hcr3, he⟩ := g_bind he
  refine g_callV [.int a1] (rest := []) E hml hl.1 hM cv_X10_239 (c0_pass l D aC B hcr3) (o := 53) (Nat.le_of_ble_eq_true rfl) rfl (by decide) rfl rfl (Nat.le_of_ble_eq_true rfl) dX10_ahead_59 (fun H locs hM => ?_)
  refine W.eq (g2 := F0 m 62 ls []) rfl ?_
  refine lv_iload_n hx hb dX10_ahead_62 rfl (lv_at hl 2 rfl) ?_
  by_cases h4 : a2 = (0 : Int32)
  · rw [if_pos h4] at he
    refine lv_tableIn (tgt := 92) (off := 29) hx hb dX10_ahead_63 (by rw [h4]; decide) (by rw [h4]; decide) (by rw [h4]; rfl) (by decide) ?_
    refine lv_aload_n hx hb dX10_ahead_92 rfl (lv_at hl 0 rfl) ?_
    refine g_getP E hM (o := 0) (Nat.le_of_ble_eq_true rfl) rfl fl_X10_58 (q := 47) rfl dX10_ahead_93 ?_
    refine lv_iconst (v := (1 : Int32)) hx hb dX10_ahead_96 rfl ?_
    obtain ⟨r5, hcr5, he⟩ := g_bind he
    refine g_callV [.int (1 : Int32)] (rest := []) E hml hl.1 hM cv_X10_245 (c7_wantsThatAre l D aC B (Nat.le_of_ble_eq_true rfl) rfl hcr5) (o := 47) (Nat.le_of_ble_eq_true rfl) rfl (by decide) rfl rfl (Nat.le_of_ble_eq_true rfl) dX10_ahead_97 (fun H locs hM => ?_)
    refine W.eq (g2 := F0 m 100 ls [.int r5]) rfl ?_
    refine lv_aload_n hx hb dX10_ahead_100 rfl (lv_at hl 0 rfl) ?_
    refine g_getP E hM (o := 0) (Nat.le_of_ble_eq_true rfl) rfl fl_X10_47 (q := 35) rfl dX10_ahead_101 ?_
    refine lv_iconst (v := (1 : Int32)) hx hb dX10_ahead_104 rfl ?_
    obtain ⟨r6, hcr6, he⟩ := g_bind he
    refine g_callV [.int (1 : Int32)] (rest := [.int r5]) E hml hl.1 hM cv_X10_245 (c7_wantsThatAre l D aC B (Nat.le_of_ble_eq_true rfl) rfl hcr6) (o := 35) (Nat.le_of_ble_eq_true rfl) rfl (by decide) rfl rfl (Nat.le_of_ble_eq_true rfl) dX10_ahead_105 (fun H locs hM => ?_)
    refine W.eq (g2 := F0 m 108 ls [.int r6, .int r5]) rfl ?_
    refine lv_isub hx hb dX10_ahead_108 ?_
    cases he
    exact g_iret E hM hret hlk dX10_ahead_109
  rw [if_neg h4] at he
  by_cases h7 : a2 = (1 : Int32)
  · rw [if_pos h7] at he
    refine lv_tableIn (tgt := 110) (off := 47) hx hb dX10_ahead_63 (by rw [h7]; decide) (by rw [h7]; decide) (by rw [h7]; rfl) (by decide) ?_
    refine lv_aload_n hx hb dX10_ahead_110 rfl (lv_at hl 0 rfl) ?_
    refine g_getP E hM (o := 0) (Nat.le_of_ble_eq_true rfl) rfl fl_X10_58 (q := 47) rfl dX10_ahead_111 ?_
    refine lv_iconst (v := (2 : Int32)) hx hb dX10_ahead_114 rfl ?_
    obtain ⟨r8, hcr8, he⟩ := g_bind he
    refine g_callV [.int (2 : Int32)] (rest := []) E hml hl.1 hM cv_X10_245 (c7_wantsThatAre l D aC B (Nat.le_of_ble_eq_true rfl) rfl hcr8) (o := 47) (Nat.le_of_ble_eq_true rfl) rfl (by decide) rfl rfl (Nat.le_of_ble_eq_true rfl) dX10_ahead_115 (fun H locs hM => ?_)
    refine W.eq (g2 := F0 m 118 ls [.int r8]) rfl ?_
    refine lv_aload_n hx hb dX10_ahead_118 rfl (lv_at hl 0 rfl) ?_
    refine g_getP E hM (o := 0) (Nat.le_of_ble_eq_true rfl) rfl fl_X10_47 (q := 35) rfl dX10_ahead_119 ?_
    refine lv_iconst (v := (2 : Int32)) hx hb dX10_ahead_122 rfl ?_
    obtain ⟨r9, hcr9, he⟩ := g_bind he
    refine g_callV [.int (2 : Int32)] (rest := [.int r8]) E hml hl.1 hM cv_X10_245 (c7_wantsThatAre l D aC B (Nat.le_of_ble_eq_true rfl) rfl hcr9) (o := 35) (Nat.le_of_ble_eq_true rfl) rfl (by decide) rfl rfl (Nat.le_of_ble_eq_true rfl) dX10_ahead_123 (fun H locs hM => ?_)
    refine W.eq (g2 := F0 m 126 ls [.int r9, .int r8]) rfl ?_
    refine lv_isub hx hb dX10_ahead_126 ?_
    cases he
    exact g_iret E hM hret hlk dX10_ahead_127
  rw [if_neg h7] at he
  by_cases h10 : a2 = (2 : Int32)
  · rw [if_pos h10] at he
    refine lv_tableIn (tgt := 128) (off := 65) hx hb dX10_ahead_63 (by rw [h10]; decide) (by rw [h10]; decide) (by rw [h10]; rfl) (by decide) ?_
    refine lv_aload_n hx hb dX10_ahead_128 rfl (lv_at hl 0 rfl) ?_
    refine g_getP E hM (o := 0) (Nat.le_of_ble_eq_true rfl) rfl fl_X10_58 (q := 47) rfl dX10_ahead_129 ?_
    obtain ⟨r11, hcr11, he⟩ := g_bind he
    refine g_callV [] (rest := []) E hml hl.1 hM cv_X10_248 (c7_sendingsGone l D aC B (Nat.le_of_ble_eq_true rfl) rfl hcr11) (o := 47) (Nat.le_of_ble_eq_true rfl) rfl (by decide) rfl rfl (Nat.le_of_ble_eq_true rfl) dX10_ahead_132 (fun H locs hM => ?_)
    refine W.eq (g2 := F0 m 135 ls [.int r11]) rfl ?_
    refine lv_aload_n hx hb dX10_ahead_135 rfl (lv_at hl 0 rfl) ?_
    refine g_getP E hM (o := 0) (Nat.le_of_ble_eq_true rfl) rfl fl_X10_47 (q := 35) rfl dX10_ahead_136 ?_
    obtain ⟨r12, hcr12, he⟩ := g_bind he
    refine g_callV [] (rest := [.int r11]) E hml hl.1 hM cv_X10_248 (c7_sendingsGone l D aC B (Nat.le_of_ble_eq_true rfl) rfl hcr12) (o := 35) (Nat.le_of_ble_eq_true rfl) rfl (by decide) rfl rfl (Nat.le_of_ble_eq_true rfl) dX10_ahead_139 (fun H locs hM => ?_)
    refine W.eq (g2 := F0 m 142 ls [.int r12, .int r11]) rfl ?_
    refine lv_isub hx hb dX10_ahead_142 ?_
    cases he
    exact g_iret E hM hret hlk dX10_ahead_143
  rw [if_neg h10] at he
  by_cases h13 : a2 = (3 : Int32)
  · rw [if_pos h13] at he
    refine lv_tableIn (tgt := 144) (off := 81) hx hb dX10_ahead_63 (by rw [h13]; decide) (by rw [h13]; decide) (by rw [h13]; rfl) (by decide) ?_
    refine lv_aload_n hx hb dX10_ahead_144 rfl (lv_at hl 0 rfl) ?_
    refine g_getP E hM (o := 0) (Nat.le_of_ble_eq_true rfl) rfl fl_X10_58 (q := 47) rfl dX10_ahead_145 ?_
    refine g_getP E hM (o := 47) (Nat.le_of_ble_eq_true rfl) rfl fl_X10_130 (q := 48) rfl dX10_ahead_148 ?_
    refine lv_iload_n hx hb dX10_ahead_151 rfl (lv_at hl 3 rfl) ?_
    obtain ⟨h14, he⟩ := g_ck_some he
    refine g_iald E hM (o := 48) (Nat.le_of_ble_eq_true rfl) rfl h14 dX10_ahead_152 ?_
    cases he
    exact g_iret E hM hret hlk dX10_ahead_153
  rw [if_neg h13] at he
  refine lv_tableOut (tgt := 154) hx hb dX10_ahead_63 (by have zh4 := lv_neT (a := 0) h4 rfl; have zh7 := lv_neT (a := 1) h7 rfl; have zh10 := lv_neT (a := 2) h10 rfl; have zh13 := lv_neT (a := 3) h13 rfl; omega) (by decide) ?_
  refine lv_aload_n hx hb dX10_ahead_154 rfl (lv_at hl 0 rfl) ?_
  refine g_getP E hM (o := 0) (Nat.le_of_ble_eq_true rfl) rfl fl_X10_58 (q := 47) rfl dX10_ahead_155 ?_
  obtain ⟨r15, hcr15, he⟩ := g_bind he
  refine g_callV [] (rest := []) E hml hl.1 hM cv_X10_252 (c7_mixed l D aC B (Nat.le_of_ble_eq_true rfl) rfl hcr15) (o := 47) (Nat.le_of_ble_eq_true rfl) rfl (by decide) rfl rfl (Nat.le_of_ble_eq_true rfl) dX10_ahead_158 (fun H locs hM => ?_)
  refine W.eq (g2 := F0 m 161 ls [.int r15]) rfl ?_
  cases he
  exact g_iret E hM hret hlk dX10_ahead_161

set_option maxHeartbeats 4000000 in
set_option maxRecDepth 100000 in
theorem c10_ahead (l : Launch) (D : va_G) (aC : Nat → ClassId) (B : Nat) {F : Nat} {a1 : Int32} {a2 : Int32} {a3 : Int32} {mem : g_M} {q0 : Int32 × g_M} (he : f10_ahead F a1 a2 a3 mem = some q0) : g_Met l yX10_ahead cX10_ahead 4 (some .int) 8 D aC B yC 69 mem [.ref (B + 0), .int a1, .int a2, .int a3] (some (.int q0.1)) q0.2 := by
  refine g_ofW (by decide) (Nat.le_of_ble_eq_true rfl) ?_
  intro p e s m args below meth c ls E hml hret hlk hM hl
  have E : g_C p s m args c cX10_ahead RX10 D aC (g_Zs (g_A B 69)) := E
  have hx := E.1
  have hb := E.2.1
  have hown := E.2.2.1
  have hts := E.2.2.2.1
  have hl : lv_has ls 4 [(0, .ref (B + 0)), (1, .int a1), (2, .int a2), (3, .int a3)] := hl
  unfold f10_ahead at he
  refine lv_iload_n hx hb dX10_ahead_0 rfl (lv_at hl 1 rfl) ?_
  obtain ⟨r16, hcr16, he⟩ := g_bind he
  refine g_callS [.int a1] (rest := []) E hml hl.1 hM cs_X10_236 (c10_isSpan l D aC B hcr16) (by decide) rfl rfl (Nat.le_of_ble_eq_true rfl) dX10_ahead_1 (fun H locs hM => ?_)
  refine W.eq (g2 := F0 m 4 ls [.int r16]) rfl ?_
  refine lv_if_eq (tgt := 29) hx hb dX10_ahead_4 (by decide) (fun h17 => ?_) (fun h17 => ?_)
  · rw [if_pos h17] at he
    refine lv_iconst (v := (-1 : Int32)) hx hb dX10_ahead_29 rfl ?_
    cases he
    exact g_iret E hM hret hlk dX10_ahead_30
  · rw [if_neg h17] at he
    refine lv_iload_n hx hb dX10_ahead_7 rfl (lv_at hl 2 rfl) ?_
    refine lv_if_lt (tgt := 29) hx hb dX10_ahead_8 (by decide) (fun h18 => ?_) (fun h18 => ?_)
    · rw [if_neg (Int32.not_le.mpr h18)] at he
      refine lv_iconst (v := (-1 : Int32)) hx hb dX10_ahead_29 rfl ?_
      cases he
      exact g_iret E hM hret hlk dX10_ahead_30
    · rw [if_pos (Int32.not_lt.mp h18)] at he
      refine lv_iload_n hx hb dX10_ahead_11 rfl (lv_at hl 2 rfl) ?_
      refine lv_iconst (v := (4 : Int32)) hx hb dX10_ahead_12 rfl ?_
      refine lv_icmp_gt (tgt := 29) hx hb dX10_ahead_13 (by decide) (fun h19 => ?_) (fun h19 => ?_)
      · rw [if_neg (Int32.not_le.mpr h19)] at he
        refine lv_iconst (v := (-1 : Int32)) hx hb dX10_ahead_29 rfl ?_
        cases he
        exact g_iret E hM hret hlk dX10_ahead_30
      · rw [if_pos (Int32.not_lt.mp h19)] at he
        refine lv_iload_n hx hb dX10_ahead_16 rfl (lv_at hl 2 rfl) ?_
        refine lv_iconst (v := (3 : Int32)) hx hb dX10_ahead_17 rfl ?_
        refine lv_icmp_ne (tgt := 31) hx hb dX10_ahead_18 (by decide) (fun h20 => ?_) (fun h20 => ?_)
        · rw [if_neg h20] at he
          exact w10_ahead_b31 (F := F) (a1 := a1) (a2 := a2) (a3 := a3) E hml hret hlk _ _ _ _ hM (lv_sub hl [0, 1, 2, 3] rfl) he
        · rw [if_pos h20] at he
          refine lv_aload_n hx hb dX10_ahead_21 rfl (lv_at hl 0 rfl) ?_
          refine lv_iload_n hx hb dX10_ahead_22 rfl (lv_at hl 3 rfl) ?_
          obtain ⟨r21, hcr21, he⟩ := g_bind he
          refine g_callV [.int a3] (rest := []) E hml hl.1 hM cv_X10_119 (c10_isMan l D aC B hcr21) (o := 0) (Nat.le_of_ble_eq_true rfl) rfl (by decide) rfl rfl (Nat.le_of_ble_eq_true rfl) dX10_ahead_23 (fun H locs hM => ?_)
          refine W.eq (g2 := F0 m 26 ls [.int r21]) rfl ?_
          refine lv_if_ne (tgt := 31) hx hb dX10_ahead_26 (by decide) (fun h22 => ?_) (fun h22 => ?_)
          · rw [if_neg h22] at he
            exact w10_ahead_b31 (F := F) (a1 := a1) (a2 := a2) (a3 := a3) E hml hret hlk _ _ _ _ hM (lv_sub hl [0, 1, 2, 3] rfl) he
          · rw [if_pos h22] at he
            refine lv_iconst (v := (-1 : Int32)) hx hb dX10_ahead_29 rfl ?_
            cases he
            exact g_iret E hM hret hlk dX10_ahead_30

set_option maxHeartbeats 4000000 in
set_option maxRecDepth 100000 in
theorem w10_first_b38_body (E : g_C p s m args c cX10_first RX10 D aC (g_Zs (g_A B 69))) (hml : c.maxLocals = 5) (hret : meth.sig.returnType = (some .int)) (hlk : meth.locks = false) {F : Nat} {q0 : Int32 × g_M} {a1 : Int32} {a2 : Int32} {a3 : Int32} {s38 : Int32 → g_M → Option (Int32 × g_M)} (hs38 : ∀ (v4 : Int32) (mem : g_M) (H : Heap) (locs : List Loc) (ls : Array Slot), g_At D aC B yC 69 mem s.heap H locs → lv_has ls 5 [(0, .ref (B + 0)), (1, .int a1), (2, .int a2), (3, .int a3), (4, .int v4)] → s38 v4 mem = some q0 → W p l e (g_rm 8) s m args below meth c H locs 0 0 (g_MQ below D aC B yC 69 args s (some (.int q0.1)) q0.2) (F0 m 38 ls [])) : ∀ (v4 : Int32) (mem : g_M) (H : Heap) (locs : List Loc) (ls : Array Slot), g_At D aC B yC 69 mem s.heap H locs → lv_has ls 5 [(0, .ref (B + 0)), (1, .int a1), (2, .int a2), (3, .int a3), (4, .int v4)] → f10_first_b38_body F a1 a2 a3 s38 v4 mem = some q0 → W p l e (g_rm 8) s m args below meth c H locs 0 0 (g_MQ below D aC B yC 69 args s (some (.int q0.1)) q0.2) (F0 m 38 ls []) := by
  intro v4 mem H locs ls hM hl he
  unfold f10_first_b38_body at he
  have hx := E.1
  have hb := E.2.1
  have hown := E.2.2.1
  have hts := E.2.2.2.1
  refine lv_iload hx hb dX10_first_38 (lv_at hl 4 rfl) ?_
  refine lv_bipush (v := (99 : Int32)) hx hb dX10_first_40 rfl ?_
  refine lv_icmp_ge (tgt := 75) hx hb dX10_first_42 (by decide) (fun h1 => ?_) (fun h1 => ?_)
  · rw [if_neg (Int32.not_lt.mpr h1)] at he
    refine lv_aload_n hx hb dX10_first_75 rfl (lv_at hl 0 rfl) ?_
    refine g_getP E hM (o := 0) (Nat.le_of_ble_eq_true rfl) rfl fl_X10_58 (q := 47) rfl dX10_first_76 ?_
    refine lv_iload_n hx hb dX10_first_79 rfl (lv_at hl 1 rfl) ?_
    refine lv_iload_n hx hb dX10_first_80 rfl (lv_at hl 2 rfl) ?_
    refine lv_iload_n hx hb dX10_first_81 rfl (lv_at hl 3 rfl) ?_
    obtain ⟨r6, hcr6, he⟩ := g_bind he
    refine g_callV [.int a1, .int a2, .int a3] (rest := []) E hml hl.1 hM cv_X10_192 (c7_lacks l D aC B (Nat.le_of_ble_eq_true rfl) rfl hcr6) (o := 47) (Nat.le_of_ble_eq_true rfl) rfl (by decide) rfl rfl (Nat.le_of_ble_eq_true rfl) dX10_first_82 (fun H locs hM => ?_)
    refine W.eq (g2 := F0 m 85 ls [.int r6]) rfl ?_
    refine lv_if_ne (tgt := 93) hx hb dX10_first_85 (by decide) (fun h7 => ?_) (fun h7 => ?_)
    · rw [if_neg h7] at he
      refine lv_bipush (v := (-2 : Int32)) hx hb dX10_first_93 rfl ?_
      cases he
      exact g_iret E hM hret hlk dX10_first_95
    · rw [if_pos h7] at he
      refine lv_bipush (v := (99 : Int32)) hx hb dX10_first_88 rfl ?_
      refine lv_goto (tgt := 95) hx hb dX10_first_90 (by decide) ?_
      cases he
      exact g_iret E hM hret hlk dX10_first_95
  · rw [if_pos (Int32.not_le.mp h1)] at he
    refine lv_aload_n hx hb dX10_first_45 rfl (lv_at hl 0 rfl) ?_
    refine g_getP E hM (o := 0) (Nat.le_of_ble_eq_true rfl) rfl fl_X10_58 (q := 47) rfl dX10_first_46 ?_
    refine lv_iload_n hx hb dX10_first_49 rfl (lv_at hl 1 rfl) ?_
    refine lv_iload_n hx hb dX10_first_50 rfl (lv_at hl 2 rfl) ?_
    refine lv_iload_n hx hb dX10_first_51 rfl (lv_at hl 3 rfl) ?_
    obtain ⟨r2, hcr2, he⟩ := g_bind he
    refine g_callV [.int a1, .int a2, .int a3] (rest := []) E hml hl.1 hM cv_X10_192 (c7_lacks l D aC B (Nat.le_of_ble_eq_true rfl) rfl hcr2) (o := 47) (Nat.le_of_ble_eq_true rfl) rfl (by decide) rfl rfl (Nat.le_of_ble_eq_true rfl) dX10_first_52 (fun H locs hM => ?_)
    refine W.eq (g2 := F0 m 55 ls [.int r2]) rfl ?_
    refine lv_if_ne (tgt := 61) hx hb dX10_first_55 (by decide) (fun h3 => ?_) (fun h3 => ?_)
    · rw [if_neg h3] at he
      refine lv_aload_n hx hb dX10_first_61 rfl (lv_at hl 0 rfl) ?_
      refine g_getP E hM (o := 0) (Nat.le_of_ble_eq_true rfl) rfl fl_X10_66 (q := 53) rfl dX10_first_62 ?_
      refine lv_iconst (v := (1 : Int32)) hx hb dX10_first_65 rfl ?_
      obtain ⟨r4, hcr4, he⟩ := g_bind he
      refine g_callV [.int (1 : Int32)] (rest := []) E hml hl.1 hM cv_X10_239 (c0_pass l D aC B hcr4) (o := 53) (Nat.le_of_ble_eq_true rfl) rfl (by decide) rfl rfl (Nat.le_of_ble_eq_true rfl) dX10_first_66 (fun H locs hM => ?_)
      refine W.eq (g2 := F0 m 69 ls []) rfl ?_
      obtain ⟨x5, hx5, he⟩ := g_let_ex he
      refine lv_iinc (v := x5) (lv' := [(4, .int x5), (0, .ref (B + 0)), (1, .int a1), (2, .int a2), (3, .int a3)]) hx hb dX10_first_69 hl (k := 4) rfl (by rw [hx5]; rfl) (by decide) rfl (fun ls hl => ?_)
      refine lv_goto (tgt := 38) hx hb dX10_first_72 (by decide) ?_
      exact hs38 _ _ _ _ _ hM (lv_sub hl [1, 2, 3, 4, 0] rfl) he
    · rw [if_pos h3] at he
      refine lv_iload hx hb dX10_first_58 (lv_at hl 4 rfl) ?_
      cases he
      exact g_iret E hM hret hlk dX10_first_60

set_option maxHeartbeats 4000000 in
set_option maxRecDepth 100000 in
theorem w10_first_b38 (E : g_C p s m args c cX10_first RX10 D aC (g_Zs (g_A B 69))) (hml : c.maxLocals = 5) (hret : meth.sig.returnType = (some .int)) (hlk : meth.locks = false) {F : Nat} {q0 : Int32 × g_M} {a1 : Int32} {a2 : Int32} {a3 : Int32} : ∀ (v4 : Int32) (mem : g_M) (H : Heap) (locs : List Loc) (ls : Array Slot), g_At D aC B yC 69 mem s.heap H locs → lv_has ls 5 [(0, .ref (B + 0)), (1, .int a1), (2, .int a2), (3, .int a3), (4, .int v4)] → f10_first_b38 F a1 a2 a3 v4 mem = some q0 → W p l e (g_rm 8) s m args below meth c H locs 0 0 (g_MQ below D aC B yC 69 args s (some (.int q0.1)) q0.2) (F0 m 38 ls []) := by
  have key : ∀ (nn : Nat) (x : Int32 × g_M) (H : Heap) (locs : List Loc) (ls : Array Slot), g_At D aC B yC 69 x.2 s.heap H locs → lv_has ls 5 [(0, .ref (B + 0)), (1, .int a1), (2, .int a2), (3, .int a3), (4, .int x.1)] → g_fix (fun sf x => f10_first_b38_body F a1 a2 a3 (fun v4 mem => sf (v4, mem)) x.1 x.2) nn x = some q0 → W p l e (g_rm 8) s m args below meth c H locs 0 0 (g_MQ below D aC B yC 69 args s (some (.int q0.1)) q0.2) (F0 m 38 ls []) := by
    intro nn
    induction nn with
    | zero => intro x H locs ls hM hl he; simp [g_fix] at he
    | succ nn ih =>
      intro x H locs ls hM hl he
      exact w10_first_b38_body (F := F) (a1 := a1) (a2 := a2) (a3 := a3) E hml hret hlk (fun v4 mem H locs ls hM hl he => ih (v4, mem) H locs ls hM hl he) x.1 x.2 H locs ls hM hl he
  intro v4 mem H locs ls hM hl he
  exact key F (v4, mem) H locs ls hM hl he

set_option maxHeartbeats 4000000 in
set_option maxRecDepth 100000 in
theorem c10_first (l : Launch) (D : va_G) (aC : Nat → ClassId) (B : Nat) {F : Nat} {a1 : Int32} {a2 : Int32} {a3 : Int32} {mem : g_M} {q0 : Int32 × g_M} (he : f10_first F a1 a2 a3 mem = some q0) : g_Met l yX10_first cX10_first 5 (some .int) 8 D aC B yC 69 mem [.ref (B + 0), .int a1, .int a2, .int a3] (some (.int q0.1)) q0.2 := by
  refine g_ofW (by decide) (Nat.le_of_ble_eq_true rfl) ?_
  intro p e s m args below meth c ls E hml hret hlk hM hl
  have E : g_C p s m args c cX10_first RX10 D aC (g_Zs (g_A B 69)) := E
  have hx := E.1
  have hb := E.2.1
  have hown := E.2.2.1
  have hts := E.2.2.2.1
  have hl : lv_has ls 5 [(0, .ref (B + 0)), (1, .int a1), (2, .int a2), (3, .int a3)] := hl
  unfold f10_first at he
  refine lv_aload_n hx hb dX10_first_0 rfl (lv_at hl 0 rfl) ?_
  refine lv_iload_n hx hb dX10_first_1 rfl (lv_at hl 1 rfl) ?_
  refine lv_iload_n hx hb dX10_first_2 rfl (lv_at hl 2 rfl) ?_
  refine lv_iload_n hx hb dX10_first_3 rfl (lv_at hl 3 rfl) ?_
  obtain ⟨r8, hcr8, he⟩ := g_bind he
  refine g_callV [.int a1, .int a2, .int a3] (rest := []) E hml hl.1 hM cv_X10_188 (c10_isTask l D aC B hcr8) (o := 0) (Nat.le_of_ble_eq_true rfl) rfl (by decide) rfl rfl (Nat.le_of_ble_eq_true rfl) dX10_first_4 (fun H locs hM => ?_)
  refine W.eq (g2 := F0 m 7 ls [.int r8]) rfl ?_
  refine lv_if_ne (tgt := 12) hx hb dX10_first_7 (by decide) (fun h9 => ?_) (fun h9 => ?_)
  · rw [if_neg h9] at he
    refine lv_aload_n hx hb dX10_first_12 rfl (lv_at hl 0 rfl) ?_
    refine g_getP E hM (o := 0) (Nat.le_of_ble_eq_true rfl) rfl fl_X10_58 (q := 47) rfl dX10_first_13 ?_
    refine lv_aload_n hx hb dX10_first_16 rfl (lv_at hl 0 rfl) ?_
    refine g_getP E hM (o := 0) (Nat.le_of_ble_eq_true rfl) rfl fl_X10_47 (q := 35) rfl dX10_first_17 ?_
    obtain ⟨r10, hcr10, he⟩ := g_bind he
    refine g_callV [.ref (B + 35)] (rest := []) E hml hl.1 hM cv_X10_242 (c7_copy l D aC B (Nat.le_of_ble_eq_true rfl) rfl (Nat.le_of_ble_eq_true rfl) rfl hcr10) (o := 47) (Nat.le_of_ble_eq_true rfl) rfl (by decide) rfl rfl (Nat.le_of_ble_eq_true rfl) dX10_first_20 (fun H locs hM => ?_)
    refine W.eq (g2 := F0 m 23 ls []) rfl ?_
    refine lv_aload_n hx hb dX10_first_23 rfl (lv_at hl 0 rfl) ?_
    refine g_getP E hM (o := 0) (Nat.le_of_ble_eq_true rfl) rfl fl_X10_66 (q := 53) rfl dX10_first_24 ?_
    refine lv_aload_n hx hb dX10_first_27 rfl (lv_at hl 0 rfl) ?_
    refine g_getP E hM (o := 0) (Nat.le_of_ble_eq_true rfl) rfl fl_X10_58 (q := 47) rfl dX10_first_28 ?_
    refine lv_iconst (v := (1 : Int32)) hx hb dX10_first_31 rfl ?_
    obtain ⟨r11, hcr11, he⟩ := g_bind he
    refine g_callV [.ref (B + 47), .int (1 : Int32)] (rest := []) E hml hl.1 hM cv_X10_196 (c0_start l D aC B (Nat.le_of_ble_eq_true rfl) rfl hcr11) (o := 53) (Nat.le_of_ble_eq_true rfl) rfl (by decide) rfl rfl (Nat.le_of_ble_eq_true rfl) dX10_first_32 (fun H locs hM => ?_)
    refine W.eq (g2 := F0 m 35 ls []) rfl ?_
    refine lv_iconst (v := (0 : Int32)) hx hb dX10_first_35 rfl ?_
    refine lv_istore (lv' := [(4, .int (0 : Int32)), (0, .ref (B + 0)), (1, .int a1), (2, .int a2), (3, .int a3)]) hx hb dX10_first_36 hl (by decide) rfl (fun ls hl => ?_)
    exact w10_first_b38 (F := F) (a1 := a1) (a2 := a2) (a3 := a3) E hml hret hlk _ _ _ _ _ hM (lv_sub hl [1, 2, 3, 4, 0] rfl) he
  · rw [if_pos h9] at he
    refine lv_iconst (v := (-1 : Int32)) hx hb dX10_first_10 rfl ?_
    cases he
    exact g_iret E hM hret hlk dX10_first_11

set_option maxHeartbeats 4000000 in
set_option maxRecDepth 100000 in
theorem w10_isDueBefore_b62 (E : g_C p s m args c cX10_isDueBefore RX10 D aC (g_Zs (g_A B 69))) (hml : c.maxLocals = 3) (hret : meth.sig.returnType = (some .boolean)) (hlk : meth.locks = false) {F : Nat} {q0 : Int32} {a1 : Int32} {mem : g_M} {s2 : Int32 → Option (Int32)} (hs2 : ∀ (v2 : Int32) (H : Heap) (locs : List Loc) (ls : Array Slot), g_At D aC B yC 69 mem s.heap H locs → lv_has ls 3 [(0, .ref (B + 0)), (1, .int a1), (2, .int v2)] → s2 v2 = some q0 → W p l e (g_rm 3) s m args below meth c H locs 0 0 (g_MQ below D aC B yC 69 args s (some (.int q0)) mem) (F0 m 2 ls [])) : ∀ (v2 : Int32) (H : Heap) (locs : List Loc) (ls : Array Slot), g_At D aC B yC 69 mem s.heap H locs → lv_has ls 3 [(0, .ref (B + 0)), (1, .int a1), (2, .int v2)] → f10_isDueBefore_b62 F a1 s2 mem v2 = some q0 → W p l e (g_rm 3) s m args below meth c H locs 0 0 (g_MQ below D aC B yC 69 args s (some (.int q0)) mem) (F0 m 62 ls []) := by
  intro v2 H locs ls hM hl he
  unfold f10_isDueBefore_b62 at he
  have hx := E.1
  have hb := E.2.1
  have hown := E.2.2.1
  have hts := E.2.2.2.1
  obtain ⟨x1, hx1, he⟩ := g_let_ex he
  refine lv_iinc (v := x1) (lv' := [(2, .int x1), (0, .ref (B + 0)), (1, .int a1)]) hx hb dX10_isDueBefore_62 hl (k := 2) rfl (by rw [hx1]; rfl) (by decide) rfl (fun ls hl => ?_)
  refine lv_goto (tgt := 2) hx hb dX10_isDueBefore_65 (by decide) ?_
  exact hs2 _ _ _ _ hM (lv_sub hl [1, 2, 0] rfl) he

set_option maxHeartbeats 4000000 in
set_option maxRecDepth 100000 in
theorem w10_isDueBefore_b2_body (E : g_C p s m args c cX10_isDueBefore RX10 D aC (g_Zs (g_A B 69))) (hml : c.maxLocals = 3) (hret : meth.sig.returnType = (some .boolean)) (hlk : meth.locks = false) {F : Nat} {q0 : Int32} {a1 : Int32} {mem : g_M} {s2 : Int32 → Option (Int32)} (hs2 : ∀ (v2 : Int32) (H : Heap) (locs : List Loc) (ls : Array Slot), g_At D aC B yC 69 mem s.heap H locs → lv_has ls 3 [(0, .ref (B + 0)), (1, .int a1), (2, .int v2)] → s2 v2 = some q0 → W p l e (g_rm 3) s m args below meth c H locs 0 0 (g_MQ below D aC B yC 69 args s (some (.int q0)) mem) (F0 m 2 ls [])) : ∀ (v2 : Int32) (H : Heap) (locs : List Loc) (ls : Array Slot), g_At D aC B yC 69 mem s.heap H locs → lv_has ls 3 [(0, .ref (B + 0)), (1, .int a1), (2, .int v2)] → f10_isDueBefore_b2_body F a1 s2 mem v2 = some q0 → W p l e (g_rm 3) s m args below meth c H locs 0 0 (g_MQ below D aC B yC 69 args s (some (.int q0)) mem) (F0 m 2 ls []) := by
  intro v2 H locs ls hM hl he
  unfold f10_isDueBefore_b2_body at he
  have hx := E.1
  have hb := E.2.1
  have hown := E.2.2.1
  have hts := E.2.2.2.1
  refine lv_iload_n hx hb dX10_isDueBefore_2 rfl (lv_at hl 2 rfl) ?_
  refine lv_iload_n hx hb dX10_isDueBefore_3 rfl (lv_at hl 1 rfl) ?_
  refine lv_icmp_ge (tgt := 68) hx hb dX10_isDueBefore_4 (by decide) (fun h2 => ?_) (fun h2 => ?_)
  · rw [if_neg (Int32.not_lt.mpr h2)] at he
    refine lv_iconst (v := (0 : Int32)) hx hb dX10_isDueBefore_68 rfl ?_
    cases he
    exact g_zret E hM hret hlk (Or.inl rfl) dX10_isDueBefore_69
  · rw [if_pos (Int32.not_le.mp h2)] at he
    refine lv_aload_n hx hb dX10_isDueBefore_7 rfl (lv_at hl 0 rfl) ?_
    refine g_getP E hM (o := 0) (Nat.le_of_ble_eq_true rfl) rfl fl_X10_47 (q := 35) rfl dX10_isDueBefore_8 ?_
    refine lv_iload_n hx hb dX10_isDueBefore_11 rfl (lv_at hl 2 rfl) ?_
    obtain ⟨r3, hcr3, he⟩ := g_bind he
    refine g_callV [.int v2] (rest := []) E hml hl.1 hM cv_X10_259 (c7_isDue l D aC B (Nat.le_of_ble_eq_true rfl) rfl hcr3) (o := 35) (Nat.le_of_ble_eq_true rfl) rfl (by decide) rfl rfl (Nat.le_of_ble_eq_true rfl) dX10_isDueBefore_12 (fun H locs hM => ?_)
    refine W.eq (g2 := F0 m 15 ls [.int r3]) rfl ?_
    refine lv_if_eq (tgt := 62) hx hb dX10_isDueBefore_15 (by decide) (fun h4 => ?_) (fun h4 => ?_)
    · rw [if_pos h4] at he
      exact w10_isDueBefore_b62 (F := F) (a1 := a1) E hml hret hlk hs2 _ _ _ _ hM (lv_sub hl [0, 1, 2] rfl) he
    · rw [if_neg h4] at he
      refine lv_aload_n hx hb dX10_isDueBefore_18 rfl (lv_at hl 0 rfl) ?_
      refine g_getP E hM (o := 0) (Nat.le_of_ble_eq_true rfl) rfl fl_X10_47 (q := 35) rfl dX10_isDueBefore_19 ?_
      refine lv_iload_n hx hb dX10_isDueBefore_22 rfl (lv_at hl 2 rfl) ?_
      refine lv_iconst (v := (0 : Int32)) hx hb dX10_isDueBefore_23 rfl ?_
      obtain ⟨r5, hcr5, he⟩ := g_bind he
      refine g_callV [.int v2, .int (0 : Int32)] (rest := []) E hml hl.1 hM cv_X10_166 (c7_sendingAt l D aC B (Nat.le_of_ble_eq_true rfl) rfl hcr5) (o := 35) (Nat.le_of_ble_eq_true rfl) rfl (by decide) rfl rfl (Nat.le_of_ble_eq_true rfl) dX10_isDueBefore_24 (fun H locs hM => ?_)
      refine W.eq (g2 := F0 m 27 ls [.int r5]) rfl ?_
      refine lv_aload_n hx hb dX10_isDueBefore_27 rfl (lv_at hl 0 rfl) ?_
      refine g_getP E hM (o := 0) (Nat.le_of_ble_eq_true rfl) rfl fl_X10_47 (q := 35) rfl dX10_isDueBefore_28 ?_
      refine lv_iload_n hx hb dX10_isDueBefore_31 rfl (lv_at hl 1 rfl) ?_
      refine lv_iconst (v := (0 : Int32)) hx hb dX10_isDueBefore_32 rfl ?_
      obtain ⟨r6, hcr6, he⟩ := g_bind he
      refine g_callV [.int a1, .int (0 : Int32)] (rest := [.int r5]) E hml hl.1 hM cv_X10_166 (c7_sendingAt l D aC B (Nat.le_of_ble_eq_true rfl) rfl hcr6) (o := 35) (Nat.le_of_ble_eq_true rfl) rfl (by decide) rfl rfl (Nat.le_of_ble_eq_true rfl) dX10_isDueBefore_33 (fun H locs hM => ?_)
      refine W.eq (g2 := F0 m 36 ls [.int r6, .int r5]) rfl ?_
      refine lv_icmp_ne (tgt := 62) hx hb dX10_isDueBefore_36 (by decide) (fun h7 => ?_) (fun h7 => ?_)
      · rw [if_neg h7] at he
        exact w10_isDueBefore_b62 (F := F) (a1 := a1) E hml hret hlk hs2 _ _ _ _ hM (lv_sub hl [0, 1, 2] rfl) he
      · rw [if_pos h7] at he
        refine lv_aload_n hx hb dX10_isDueBefore_39 rfl (lv_at hl 0 rfl) ?_
        refine g_getP E hM (o := 0) (Nat.le_of_ble_eq_true rfl) rfl fl_X10_47 (q := 35) rfl dX10_isDueBefore_40 ?_
        refine lv_iload_n hx hb dX10_isDueBefore_43 rfl (lv_at hl 2 rfl) ?_
        refine lv_iconst (v := (1 : Int32)) hx hb dX10_isDueBefore_44 rfl ?_
        obtain ⟨r8, hcr8, he⟩ := g_bind he
        refine g_callV [.int v2, .int (1 : Int32)] (rest := []) E hml hl.1 hM cv_X10_166 (c7_sendingAt l D aC B (Nat.le_of_ble_eq_true rfl) rfl hcr8) (o := 35) (Nat.le_of_ble_eq_true rfl) rfl (by decide) rfl rfl (Nat.le_of_ble_eq_true rfl) dX10_isDueBefore_45 (fun H locs hM => ?_)
        refine W.eq (g2 := F0 m 48 ls [.int r8]) rfl ?_
        refine lv_aload_n hx hb dX10_isDueBefore_48 rfl (lv_at hl 0 rfl) ?_
        refine g_getP E hM (o := 0) (Nat.le_of_ble_eq_true rfl) rfl fl_X10_47 (q := 35) rfl dX10_isDueBefore_49 ?_
        refine lv_iload_n hx hb dX10_isDueBefore_52 rfl (lv_at hl 1 rfl) ?_
        refine lv_iconst (v := (1 : Int32)) hx hb dX10_isDueBefore_53 rfl ?_
        obtain ⟨r9, hcr9, he⟩ := g_bind he
        refine g_callV [.int a1, .int (1 : Int32)] (rest := [.int r8]) E hml hl.1 hM cv_X10_166 (c7_sendingAt l D aC B (Nat.le_of_ble_eq_true rfl) rfl hcr9) (o := 35) (Nat.le_of_ble_eq_true rfl) rfl (by decide) rfl rfl (Nat.le_of_ble_eq_true rfl) dX10_isDueBefore_54 (fun H locs hM => ?_)
        refine W.eq (g2 := F0 m 57 ls [.int r9, .int r8]) rfl ?_
        refine lv_icmp_ne (tgt := 62) hx hb dX10_isDueBefore_57 (by decide) (fun h10 => ?_) (fun h10 => ?_)
        · rw [if_neg h10] at he
          exact w10_isDueBefore_b62 (F := F) (a1 := a1) E hml hret hlk hs2 _ _ _ _ hM (lv_sub hl [0, 1, 2] rfl) he
        · rw [if_pos h10] at he
          refine lv_iconst (v := (1 : Int32)) hx hb dX10_isDueBefore_60 rfl ?_
          cases he
          exact g_zret E hM hret hlk (Or.inr rfl) dX10_isDueBefore_61

set_option maxHeartbeats 4000000 in
set_option maxRecDepth 100000 in
theorem w10_isDueBefore_b2 (E : g_C p s m args c cX10_isDueBefore RX10 D aC (g_Zs (g_A B 69))) (hml : c.maxLocals = 3) (hret : meth.sig.returnType = (some .boolean)) (hlk : meth.locks = false) {F : Nat} {q0 : Int32} {a1 : Int32} {mem : g_M} : ∀ (v2 : Int32) (H : Heap) (locs : List Loc) (ls : Array Slot), g_At D aC B yC 69 mem s.heap H locs → lv_has ls 3 [(0, .ref (B + 0)), (1, .int a1), (2, .int v2)] → f10_isDueBefore_b2 F a1 mem v2 = some q0 → W p l e (g_rm 3) s m args below meth c H locs 0 0 (g_MQ below D aC B yC 69 args s (some (.int q0)) mem) (F0 m 2 ls []) := by
  have key : ∀ (nn : Nat) (x : Int32) (H : Heap) (locs : List Loc) (ls : Array Slot), g_At D aC B yC 69 mem s.heap H locs → lv_has ls 3 [(0, .ref (B + 0)), (1, .int a1), (2, .int x)] → g_fix (fun sf x => f10_isDueBefore_b2_body F a1 (fun v2 => sf v2) mem x) nn x = some q0 → W p l e (g_rm 3) s m args below meth c H locs 0 0 (g_MQ below D aC B yC 69 args s (some (.int q0)) mem) (F0 m 2 ls []) := by
    intro nn
    induction nn with
    | zero => intro x H locs ls hM hl he; simp [g_fix] at he
    | succ nn ih =>
      intro x H locs ls hM hl he
      exact w10_isDueBefore_b2_body (F := F) (a1 := a1) E hml hret hlk (fun v2 H locs ls hM hl he => ih v2 H locs ls hM hl he) x H locs ls hM hl he
  intro v2 H locs ls hM hl he
  exact key F v2 H locs ls hM hl he

set_option maxHeartbeats 4000000 in
set_option maxRecDepth 100000 in
theorem c10_isDueBefore (l : Launch) (D : va_G) (aC : Nat → ClassId) (B : Nat) {F : Nat} {a1 : Int32} {mem : g_M} {q0 : Int32} (he : f10_isDueBefore F a1 mem = some q0) : g_Met l yX10_isDueBefore cX10_isDueBefore 3 (some .boolean) 3 D aC B yC 69 mem [.ref (B + 0), .int a1] (some (.int q0)) mem := by
  refine g_ofW (by decide) (Nat.le_of_ble_eq_true rfl) ?_
  intro p e s m args below meth c ls E hml hret hlk hM hl
  have E : g_C p s m args c cX10_isDueBefore RX10 D aC (g_Zs (g_A B 69)) := E
  have hx := E.1
  have hb := E.2.1
  have hown := E.2.2.1
  have hts := E.2.2.2.1
  have hl : lv_has ls 3 [(0, .ref (B + 0)), (1, .int a1)] := hl
  unfold f10_isDueBefore at he
  refine lv_iconst (v := (0 : Int32)) hx hb dX10_isDueBefore_0 rfl ?_
  refine lv_istore_n (lv' := [(2, .int (0 : Int32)), (0, .ref (B + 0)), (1, .int a1)]) hx hb dX10_isDueBefore_1 rfl hl (by decide) rfl (fun ls hl => ?_)
  exact w10_isDueBefore_b2 (F := F) (a1 := a1) E hml hret hlk _ _ _ _ hM (lv_sub hl [1, 2, 0] rfl) he

set_option maxHeartbeats 4000000 in
set_option maxRecDepth 100000 in
theorem w10_bestLoad_b183 (E : g_C p s m args c cX10_bestLoad RX10 D aC (g_Zs (g_A B 69))) (hml : c.maxLocals = 9) (hret : meth.sig.returnType = (some .int)) (hlk : meth.locks = false) {F : Nat} {q0 : Int32 × g_M} {a1 : Int32} {s33 : Int32 → Int32 → g_M → Option (Int32 × g_M)} (hs33 : ∀ (v2 : Int32) (v3 : Int32) (mem : g_M) (H : Heap) (locs : List Loc) (ls : Array Slot), g_At D aC B yC 69 mem s.heap H locs → lv_has ls 9 [(0, .ref (B + 0)), (1, .int a1), (2, .int v2), (3, .int v3)] → s33 v2 v3 mem = some q0 → W p l e (g_rm 4) s m args below meth c H locs 0 0 (g_MQ below D aC B yC 69 args s (some (.int q0.1)) q0.2) (F0 m 33 ls [])) : ∀ (v2 : Int32) (v3 : Int32) (mem : g_M) (H : Heap) (locs : List Loc) (ls : Array Slot), g_At D aC B yC 69 mem s.heap H locs → lv_has ls 9 [(0, .ref (B + 0)), (1, .int a1), (2, .int v2), (3, .int v3)] → f10_bestLoad_b183 F a1 s33 v2 v3 mem = some q0 → W p l e (g_rm 4) s m args below meth c H locs 0 0 (g_MQ below D aC B yC 69 args s (some (.int q0.1)) q0.2) (F0 m 183 ls []) := by
  intro v2 v3 mem H locs ls hM hl he
  unfold f10_bestLoad_b183 at he
  have hx := E.1
  have hb := E.2.1
  have hown := E.2.2.1
  have hts := E.2.2.2.1
  obtain ⟨x1, hx1, he⟩ := g_let_ex he
  refine lv_iinc (v := x1) (lv' := [(3, .int x1), (0, .ref (B + 0)), (1, .int a1), (2, .int v2)]) hx hb dX10_bestLoad_183 hl (k := 3) rfl (by rw [hx1]; rfl) (by decide) rfl (fun ls hl => ?_)
  refine lv_goto (tgt := 33) hx hb dX10_bestLoad_186 (by decide) ?_
  exact hs33 _ _ _ _ _ _ hM (lv_sub hl [1, 2, 3, 0] rfl) he

set_option maxHeartbeats 4000000 in
set_option maxRecDepth 100000 in
theorem w10_bestLoad_b140_body (E : g_C p s m args c cX10_bestLoad RX10 D aC (g_Zs (g_A B 69))) (hml : c.maxLocals = 9) (hret : meth.sig.returnType = (some .int)) (hlk : meth.locks = false) {F : Nat} {q0 : Int32 × g_M} {a1 : Int32} {s33 : Int32 → Int32 → g_M → Option (Int32 × g_M)} (hs33 : ∀ (v2 : Int32) (v3 : Int32) (mem : g_M) (H : Heap) (locs : List Loc) (ls : Array Slot), g_At D aC B yC 69 mem s.heap H locs → lv_has ls 9 [(0, .ref (B + 0)), (1, .int a1), (2, .int v2), (3, .int v3)] → s33 v2 v3 mem = some q0 → W p l e (g_rm 4) s m args below meth c H locs 0 0 (g_MQ below D aC B yC 69 args s (some (.int q0.1)) q0.2) (F0 m 33 ls [])) {s140 : Int32 → Int32 → Int32 → Int32 → Int32 → g_M → Option (Int32 × g_M)} (hs140 : ∀ (v2 : Int32) (v3 : Int32) (v6 : Int32) (v7 : Int32) (v8 : Int32) (mem : g_M) (H : Heap) (locs : List Loc) (ls : Array Slot), g_At D aC B yC 69 mem s.heap H locs → lv_has ls 9 [(0, .ref (B + 0)), (1, .int a1), (2, .int v2), (3, .int v3), (6, .int v6), (7, .int v7), (8, .int v8)] → s140 v2 v3 v6 v7 v8 mem = some q0 → W p l e (g_rm 4) s m args below meth c H locs 0 0 (g_MQ below D aC B yC 69 args s (some (.int q0.1)) q0.2) (F0 m 140 ls [])) : ∀ (v2 : Int32) (v3 : Int32) (v6 : Int32) (v7 : Int32) (v8 : Int32) (mem : g_M) (H : Heap) (locs : List Loc) (ls : Array Slot), g_At D aC B yC 69 mem s.heap H locs → lv_has ls 9 [(0, .ref (B + 0)), (1, .int a1), (2, .int v2), (3, .int v3), (6, .int v6), (7, .int v7), (8, .int v8)] → f10_bestLoad_b140_body F a1 s33 s140 v2 v3 v6 v7 v8 mem = some q0 → W p l e (g_rm 4) s m args below meth c H locs 0 0 (g_MQ below D aC B yC 69 args s (some (.int q0.1)) q0.2) (F0 m 140 ls []) := by
  intro v2 v3 v6 v7 v8 mem H locs ls hM hl he
  unfold f10_bestLoad_b140_body at he
  have hx := E.1
  have hb := E.2.1
  have hown := E.2.2.1
  have hts := E.2.2.2.1
  refine lv_iload hx hb dX10_bestLoad_140 (lv_at hl 6 rfl) ?_
  refine lv_iload hx hb dX10_bestLoad_142 (lv_at hl 5 rfl) ?_
  refine lv_icmp_lt (tgt := 183) hx hb dX10_bestLoad_144 (by decide) (fun h2 => ?_) (fun h2 => ?_)
  · rw [if_neg (Int32.not_le.mpr h2)] at he
    exact w10_bestLoad_b183 (F := F) (a1 := a1) E hml hret hlk hs33 _ _ _ _ _ _ hM (lv_sub hl [0, 1, 2, 3] rfl) he
  · rw [if_pos (Int32.not_lt.mp h2)] at he
    refine lv_aload_n hx hb dX10_bestLoad_147 rfl (lv_at hl 0 rfl) ?_
    refine g_getP E hM (o := 0) (Nat.le_of_ble_eq_true rfl) rfl fl_X10_70 (q := 56) rfl dX10_bestLoad_148 ?_
    refine lv_iload hx hb dX10_bestLoad_151 (lv_at hl 6 rfl) ?_
    refine lv_aload_n hx hb dX10_bestLoad_153 rfl (lv_at hl 0 rfl) ?_
    refine g_getP E hM (o := 0) (Nat.le_of_ble_eq_true rfl) rfl fl_X10_70 (q := 56) rfl dX10_bestLoad_154 ?_
    refine lv_iload hx hb dX10_bestLoad_157 (lv_at hl 6 rfl) ?_
    obtain ⟨h3, he⟩ := g_ck_some he
    refine g_iald E hM (o := 56) (Nat.le_of_ble_eq_true rfl) rfl h3 dX10_bestLoad_159 ?_
    refine lv_aload_n hx hb dX10_bestLoad_160 rfl (lv_at hl 0 rfl) ?_
    refine g_getP E hM (o := 0) (Nat.le_of_ble_eq_true rfl) rfl fl_X10_70 (q := 56) rfl dX10_bestLoad_161 ?_
    refine lv_iload hx hb dX10_bestLoad_164 (lv_at hl 6 rfl) ?_
    refine lv_iload hx hb dX10_bestLoad_166 (lv_at hl 5 rfl) ?_
    refine lv_isub hx hb dX10_bestLoad_168 ?_
    obtain ⟨h4, he⟩ := g_ck_some he
    refine g_iald E hM (o := 56) (Nat.le_of_ble_eq_true rfl) rfl h4 dX10_bestLoad_169 ?_
    refine lv_iload hx hb dX10_bestLoad_170 (lv_at hl 4 rfl) ?_
    refine lv_iadd hx hb dX10_bestLoad_172 ?_
    refine va_mmax hx hb (hml.trans hl.1.symm) hown (hts _ mm_X10_265) (hts _ km_max.1) (hts _ ki_Math) (hts _ km_max.2) (Nat.le_of_ble_eq_true rfl) (Nat.le_of_ble_eq_true rfl) (Nat.zero_le _) (Nat.zero_le _) dX10_bestLoad_173 ?_
    obtain ⟨h5, he⟩ := g_ck_some he
    refine g_iast E hM (o := 56) (Nat.le_of_ble_eq_true rfl) rfl h5 dX10_bestLoad_176 (fun H locs hM => ?_)
    obtain ⟨m6, hm6, he⟩ := g_let_ex he
    rw [← hm6] at hM
    obtain ⟨x7, hx7, he⟩ := g_let_ex he
    refine lv_iinc (v := x7) (lv' := [(8, .int x7), (0, .ref (B + 0)), (1, .int a1), (2, .int v2), (3, .int v3), (6, .int v6), (7, .int v7)]) hx hb dX10_bestLoad_177 hl (k := 6) rfl (by rw [hx7]; rfl) (by decide) rfl (fun ls hl => ?_)
    refine lv_goto (tgt := 140) hx hb dX10_bestLoad_180 (by decide) ?_
    exact hs140 _ _ _ _ _ _ _ _ _ hM (lv_sub hl [1, 2, 3, 4, 5, 6, 0] rfl) he

set_option maxHeartbeats 4000000 in
set_option maxRecDepth 100000 in
theorem w10_bestLoad_b140 (E : g_C p s m args c cX10_bestLoad RX10 D aC (g_Zs (g_A B 69))) (hml : c.maxLocals = 9) (hret : meth.sig.returnType = (some .int)) (hlk : meth.locks = false) {F : Nat} {q0 : Int32 × g_M} {a1 : Int32} {s33 : Int32 → Int32 → g_M → Option (Int32 × g_M)} (hs33 : ∀ (v2 : Int32) (v3 : Int32) (mem : g_M) (H : Heap) (locs : List Loc) (ls : Array Slot), g_At D aC B yC 69 mem s.heap H locs → lv_has ls 9 [(0, .ref (B + 0)), (1, .int a1), (2, .int v2), (3, .int v3)] → s33 v2 v3 mem = some q0 → W p l e (g_rm 4) s m args below meth c H locs 0 0 (g_MQ below D aC B yC 69 args s (some (.int q0.1)) q0.2) (F0 m 33 ls [])) : ∀ (v2 : Int32) (v3 : Int32) (v6 : Int32) (v7 : Int32) (v8 : Int32) (mem : g_M) (H : Heap) (locs : List Loc) (ls : Array Slot), g_At D aC B yC 69 mem s.heap H locs → lv_has ls 9 [(0, .ref (B + 0)), (1, .int a1), (2, .int v2), (3, .int v3), (6, .int v6), (7, .int v7), (8, .int v8)] → f10_bestLoad_b140 F a1 s33 v2 v3 v6 v7 v8 mem = some q0 → W p l e (g_rm 4) s m args below meth c H locs 0 0 (g_MQ below D aC B yC 69 args s (some (.int q0.1)) q0.2) (F0 m 140 ls []) := by
  have key : ∀ (nn : Nat) (x : Int32 × Int32 × Int32 × Int32 × Int32 × g_M) (H : Heap) (locs : List Loc) (ls : Array Slot), g_At D aC B yC 69 x.2.2.2.2.2 s.heap H locs → lv_has ls 9 [(0, .ref (B + 0)), (1, .int a1), (2, .int x.1), (3, .int x.2.1), (6, .int x.2.2.1), (7, .int x.2.2.2.1), (8, .int x.2.2.2.2.1)] → g_fix (fun sf x => f10_bestLoad_b140_body F a1 s33 (fun v2 v3 v6 v7 v8 mem => sf (v2, v3, v6, v7, v8, mem)) x.1 x.2.1 x.2.2.1 x.2.2.2.1 x.2.2.2.2.1 x.2.2.2.2.2) nn x = some q0 → W p l e (g_rm 4) s m args below meth c H locs 0 0 (g_MQ below D aC B yC 69 args s (some (.int q0.1)) q0.2) (F0 m 140 ls []) := by
    intro nn
    induction nn with
    | zero => intro x H locs ls hM hl he; simp [g_fix] at he
    | succ nn ih =>
      intro x H locs ls hM hl he
      exact w10_bestLoad_b140_body (F := F) (a1 := a1) E hml hret hlk hs33 (fun v2 v3 v6 v7 v8 mem H locs ls hM hl he => ih (v2, v3, v6, v7, v8, mem) H locs ls hM hl he) x.1 x.2.1 x.2.2.1 x.2.2.2.1 x.2.2.2.2.1 x.2.2.2.2.2 H locs ls hM hl he
  intro v2 v3 v6 v7 v8 mem H locs ls hM hl he
  exact key F (v2, v3, v6, v7, v8, mem) H locs ls hM hl he

set_option maxHeartbeats 4000000 in
set_option maxRecDepth 100000 in
theorem w10_bestLoad_b33_body (E : g_C p s m args c cX10_bestLoad RX10 D aC (g_Zs (g_A B 69))) (hml : c.maxLocals = 9) (hret : meth.sig.returnType = (some .int)) (hlk : meth.locks = false) {F : Nat} {q0 : Int32 × g_M} {a1 : Int32} {s33 : Int32 → Int32 → g_M → Option (Int32 × g_M)} (hs33 : ∀ (v2 : Int32) (v3 : Int32) (mem : g_M) (H : Heap) (locs : List Loc) (ls : Array Slot), g_At D aC B yC 69 mem s.heap H locs → lv_has ls 9 [(0, .ref (B + 0)), (1, .int a1), (2, .int v2), (3, .int v3)] → s33 v2 v3 mem = some q0 → W p l e (g_rm 4) s m args below meth c H locs 0 0 (g_MQ below D aC B yC 69 args s (some (.int q0.1)) q0.2) (F0 m 33 ls [])) : ∀ (v2 : Int32) (v3 : Int32) (mem : g_M) (H : Heap) (locs : List Loc) (ls : Array Slot), g_At D aC B yC 69 mem s.heap H locs → lv_has ls 9 [(0, .ref (B + 0)), (1, .int a1), (2, .int v2), (3, .int v3)] → f10_bestLoad_b33_body F a1 s33 v2 v3 mem = some q0 → W p l e (g_rm 4) s m args below meth c H locs 0 0 (g_MQ below D aC B yC 69 args s (some (.int q0.1)) q0.2) (F0 m 33 ls []) := by
  intro v2 v3 mem H locs ls hM hl he
  unfold f10_bestLoad_b33_body at he
  have hx := E.1
  have hb := E.2.1
  have hown := E.2.2.1
  have hts := E.2.2.2.1
  refine lv_iload_n hx hb dX10_bestLoad_33 rfl (lv_at hl 3 rfl) ?_
  refine lv_aload_n hx hb dX10_bestLoad_34 rfl (lv_at hl 0 rfl) ?_
  refine g_getP E hM (o := 0) (Nat.le_of_ble_eq_true rfl) rfl fl_X10_47 (q := 35) rfl dX10_bestLoad_35 ?_
  refine g_getI E hM (o := 35) (Nat.le_of_ble_eq_true rfl) rfl fl_X10_218 dX10_bestLoad_38 ?_
  refine lv_icmp_ge (tgt := 189) hx hb dX10_bestLoad_41 (by decide) (fun h8 => ?_) (fun h8 => ?_)
  · rw [if_neg (Int32.not_lt.mpr h8)] at he
    refine lv_aload_n hx hb dX10_bestLoad_189 rfl (lv_at hl 0 rfl) ?_
    refine g_getP E hM (o := 0) (Nat.le_of_ble_eq_true rfl) rfl fl_X10_70 (q := 56) rfl dX10_bestLoad_190 ?_
    refine lv_aload_n hx hb dX10_bestLoad_193 rfl (lv_at hl 0 rfl) ?_
    obtain ⟨q23, hqq23, hq23, hYq23, he⟩ := g_dr_some he
    refine g_getD E hM (o := 0) (Nat.le_of_ble_eq_true rfl) rfl fl_X10_20 rfl hqq23 dX10_bestLoad_194 ?_
    refine g_getI E hM (o := q23) hq23 hYq23 fl_X10_270 dX10_bestLoad_197 ?_
    obtain ⟨h24, he⟩ := g_ck_some he
    refine g_iald E hM (o := 56) (Nat.le_of_ble_eq_true rfl) rfl h24 dX10_bestLoad_200 ?_
    obtain ⟨x25, hx25, he⟩ := g_let_ex he
    refine g_topI hx25 ?_
    refine lv_istore_n (lv' := [(3, .int x25), (0, .ref (B + 0)), (1, .int a1), (2, .int v2)]) hx hb dX10_bestLoad_201 rfl hl (by decide) rfl (fun ls hl => ?_)
    refine lv_iload_n hx hb dX10_bestLoad_202 rfl (lv_at hl 0 rfl) ?_
    refine lv_sipush (v := (4095 : Int32)) hx hb dX10_bestLoad_203 rfl ?_
    refine lv_iadd hx hb dX10_bestLoad_206 ?_
    refine lv_sipush (v := (4096 : Int32)) hx hb dX10_bestLoad_207 rfl ?_
    refine lv_idiv hx hb dX10_bestLoad_210 (by decide) ?_
    obtain ⟨x26, hx26, he⟩ := g_let_ex he
    refine g_topI hx26 ?_
    refine lv_istore (lv' := [(4, .int x26), (3, .int x25), (0, .ref (B + 0)), (1, .int a1), (2, .int v2)]) hx hb dX10_bestLoad_211 hl (by decide) rfl (fun ls hl => ?_)
    refine lv_iload_n hx hb dX10_bestLoad_213 rfl (lv_at hl 3 rfl) ?_
    refine lv_if_eq (tgt := 228) hx hb dX10_bestLoad_214 (by decide) (fun h27 => ?_) (fun h27 => ?_)
    · rw [if_pos h27] at he
      refine lv_iload hx hb dX10_bestLoad_228 (lv_at hl 0 rfl) ?_
      cases he
      exact g_iret E hM hret hlk dX10_bestLoad_230
    · rw [if_neg h27] at he
      refine lv_iload hx hb dX10_bestLoad_217 (lv_at hl 0 rfl) ?_
      refine lv_sipush (v := (4096 : Int32)) hx hb dX10_bestLoad_219 rfl ?_
      refine lv_imul hx hb dX10_bestLoad_222 ?_
      refine lv_iload_n hx hb dX10_bestLoad_223 rfl (lv_at hl 1 rfl) ?_
      refine lv_isub hx hb dX10_bestLoad_224 ?_
      refine lv_goto (tgt := 230) hx hb dX10_bestLoad_225 (by decide) ?_
      cases he
      exact g_iret E hM hret hlk dX10_bestLoad_230
  · rw [if_pos (Int32.not_le.mp h8)] at he
    refine lv_aload_n hx hb dX10_bestLoad_44 rfl (lv_at hl 0 rfl) ?_
    refine g_getP E hM (o := 0) (Nat.le_of_ble_eq_true rfl) rfl fl_X10_47 (q := 35) rfl dX10_bestLoad_45 ?_
    refine lv_iload_n hx hb dX10_bestLoad_48 rfl (lv_at hl 3 rfl) ?_
    refine lv_iconst (v := (0 : Int32)) hx hb dX10_bestLoad_49 rfl ?_
    obtain ⟨r9, hcr9, he⟩ := g_bind he
    refine g_callV [.int v3, .int (0 : Int32)] (rest := []) E hml hl.1 hM cv_X10_166 (c7_sendingAt l D aC B (Nat.le_of_ble_eq_true rfl) rfl hcr9) (o := 35) (Nat.le_of_ble_eq_true rfl) rfl (by decide) rfl rfl (Nat.le_of_ble_eq_true rfl) dX10_bestLoad_50 (fun H locs hM => ?_)
    refine W.eq (g2 := F0 m 53 ls [.int r9]) rfl ?_
    refine lv_istore (lv' := [(4, .int r9), (0, .ref (B + 0)), (1, .int a1), (2, .int v2), (3, .int v3)]) hx hb dX10_bestLoad_53 hl (by decide) rfl (fun ls hl => ?_)
    refine lv_aload_n hx hb dX10_bestLoad_55 rfl (lv_at hl 1 rfl) ?_
    refine g_getP E hM (o := 0) (Nat.le_of_ble_eq_true rfl) rfl fl_X10_47 (q := 35) rfl dX10_bestLoad_56 ?_
    refine lv_iload_n hx hb dX10_bestLoad_59 rfl (lv_at hl 4 rfl) ?_
    refine lv_iconst (v := (1 : Int32)) hx hb dX10_bestLoad_60 rfl ?_
    obtain ⟨r10, hcr10, he⟩ := g_bind he
    refine g_callV [.int v3, .int (1 : Int32)] (rest := []) E hml hl.1 hM cv_X10_166 (c7_sendingAt l D aC B (Nat.le_of_ble_eq_true rfl) rfl hcr10) (o := 35) (Nat.le_of_ble_eq_true rfl) rfl (by decide) rfl rfl (Nat.le_of_ble_eq_true rfl) dX10_bestLoad_61 (fun H locs hM => ?_)
    refine W.eq (g2 := F0 m 64 ls [.int r10]) rfl ?_
    refine lv_istore (lv' := [(5, .int r10), (4, .int r9), (0, .ref (B + 0)), (1, .int a1), (2, .int v2), (3, .int v3)]) hx hb dX10_bestLoad_64 hl (by decide) rfl (fun ls hl => ?_)
    refine lv_aload_n hx hb dX10_bestLoad_66 rfl (lv_at hl 2 rfl) ?_
    refine g_getP E hM (o := 0) (Nat.le_of_ble_eq_true rfl) rfl fl_X10_47 (q := 35) rfl dX10_bestLoad_67 ?_
    refine lv_iload_n hx hb dX10_bestLoad_70 rfl (lv_at hl 5 rfl) ?_
    obtain ⟨r11, hcr11, he⟩ := g_bind he
    refine g_callV [.int v3] (rest := []) E hml hl.1 hM cv_X10_259 (c7_isDue l D aC B (Nat.le_of_ble_eq_true rfl) rfl hcr11) (o := 35) (Nat.le_of_ble_eq_true rfl) rfl (by decide) rfl rfl (Nat.le_of_ble_eq_true rfl) dX10_bestLoad_71 (fun H locs hM => ?_)
    refine W.eq (g2 := F0 m 74 ls [.int r11]) rfl ?_
    refine lv_if_eq (tgt := 183) hx hb dX10_bestLoad_74 (by decide) (fun h12 => ?_) (fun h12 => ?_)
    · rw [if_pos h12] at he
      exact w10_bestLoad_b183 (F := F) (a1 := a1) E hml hret hlk hs33 _ _ _ _ _ _ hM (lv_sub hl [2, 3, 4, 5] rfl) he
    · rw [if_neg h12] at he
      refine lv_aload_n hx hb dX10_bestLoad_77 rfl (lv_at hl 2 rfl) ?_
      refine g_getP E hM (o := 0) (Nat.le_of_ble_eq_true rfl) rfl fl_X10_47 (q := 35) rfl dX10_bestLoad_78 ?_
      refine g_getP E hM (o := 35) (Nat.le_of_ble_eq_true rfl) rfl fl_X10_185 (q := 38) rfl dX10_bestLoad_81 ?_
      refine lv_iload hx hb dX10_bestLoad_84 (lv_at hl 1 rfl) ?_
      refine lv_iconst (v := (5 : Int32)) hx hb dX10_bestLoad_86 rfl ?_
      refine lv_imul hx hb dX10_bestLoad_87 ?_
      refine lv_iload hx hb dX10_bestLoad_88 (lv_at hl 0 rfl) ?_
      refine lv_iadd hx hb dX10_bestLoad_90 ?_
      obtain ⟨h13, he⟩ := g_ck_some he
      refine g_iald E hM (o := 38) (Nat.le_of_ble_eq_true rfl) rfl h13 dX10_bestLoad_91 ?_
      refine lv_iload_n hx hb dX10_bestLoad_92 rfl (lv_at hl 4 rfl) ?_
      refine lv_icmp_ne (tgt := 183) hx hb dX10_bestLoad_93 (by decide) (fun h14 => ?_) (fun h14 => ?_)
      · rw [if_neg h14] at he
        exact w10_bestLoad_b183 (F := F) (a1 := a1) E hml hret hlk hs33 _ _ _ _ _ _ hM (lv_sub hl [2, 3, 4, 5] rfl) he
      · rw [if_pos h14] at he
        refine lv_aload_n hx hb dX10_bestLoad_96 rfl (lv_at hl 2 rfl) ?_
        refine lv_iload_n hx hb dX10_bestLoad_97 rfl (lv_at hl 5 rfl) ?_
        obtain ⟨r15, hcr15, he⟩ := g_bind he
        refine g_callV [.int v3] (rest := []) E hml hl.1 hM cv_X10_262 (c10_isDueBefore l D aC B hcr15) (o := 0) (Nat.le_of_ble_eq_true rfl) rfl (by decide) rfl rfl (Nat.le_of_ble_eq_true rfl) dX10_bestLoad_98 (fun H locs hM => ?_)
        refine W.eq (g2 := F0 m 101 ls [.int r15]) rfl ?_
        refine lv_if_ne (tgt := 183) hx hb dX10_bestLoad_101 (by decide) (fun h16 => ?_) (fun h16 => ?_)
        · rw [if_neg h16] at he
          exact w10_bestLoad_b183 (F := F) (a1 := a1) E hml hret hlk hs33 _ _ _ _ _ _ hM (lv_sub hl [2, 3, 4, 5] rfl) he
        · rw [if_pos h16] at he
          refine lv_aload_n hx hb dX10_bestLoad_104 rfl (lv_at hl 2 rfl) ?_
          obtain ⟨q17, hqq17, hq17, hYq17, he⟩ := g_dr_some he
          refine g_getD E hM (o := 0) (Nat.le_of_ble_eq_true rfl) rfl fl_X10_20 rfl hqq17 dX10_bestLoad_105 ?_
          refine g_getP E hM (o := q17) hq17 hYq17 fl_X10_154 (q := (q17 + 5)) (pt_9_4 q17 hq17 hYq17).1 dX10_bestLoad_108 ?_
          refine lv_iload hx hb dX10_bestLoad_111 (lv_at hl 0 rfl) ?_
          obtain ⟨h18, he⟩ := g_ck_some he
          refine g_iald E hM (o := (q17 + 5)) (pt_9_4 q17 hq17 hYq17).2.1 (pt_9_4 q17 hq17 hYq17).2.2 h18 dX10_bestLoad_113 ?_
          refine lv_sipush (v := (4096 : Int32)) hx hb dX10_bestLoad_114 rfl ?_
          refine lv_imul hx hb dX10_bestLoad_117 ?_
          refine lv_iconst (v := (1 : Int32)) hx hb dX10_bestLoad_118 rfl ?_
          refine lv_iload_n hx hb dX10_bestLoad_119 rfl (lv_at hl 5 rfl) ?_
          refine lv_ishl hx hb dX10_bestLoad_120 ?_
          refine lv_isub hx hb dX10_bestLoad_121 ?_
          obtain ⟨x19, hx19, he⟩ := g_let_ex he
          refine g_topI hx19 ?_
          refine lv_istore (lv' := [(6, .int x19), (5, .int r10), (4, .int r9), (0, .ref (B + 0)), (1, .int a1), (2, .int v2), (3, .int v3)]) hx hb dX10_bestLoad_122 hl (by decide) rfl (fun ls hl => ?_)
          refine lv_aload_n hx hb dX10_bestLoad_124 rfl (lv_at hl 3 rfl) ?_
          obtain ⟨q20, hqq20, hq20, hYq20, he⟩ := g_dr_some he
          refine g_getD E hM (o := 0) (Nat.le_of_ble_eq_true rfl) rfl fl_X10_20 rfl hqq20 dX10_bestLoad_125 ?_
          refine g_getP E hM (o := q20) hq20 hYq20 fl_X10_151 (q := (q20 + 4)) (pt_9_3 q20 hq20 hYq20).1 dX10_bestLoad_128 ?_
          refine lv_iload hx hb dX10_bestLoad_131 (lv_at hl 1 rfl) ?_
          obtain ⟨h21, he⟩ := g_ck_some he
          refine g_iald E hM (o := (q20 + 4)) (pt_9_3 q20 hq20 hYq20).2.1 (pt_9_3 q20 hq20 hYq20).2.2 h21 dX10_bestLoad_133 ?_
          obtain ⟨x22, hx22, he⟩ := g_let_ex he
          refine g_topI hx22 ?_
          refine lv_istore (lv' := [(7, .int x22), (6, .int x19), (5, .int r10), (4, .int r9), (0, .ref (B + 0)), (1, .int a1), (2, .int v2), (3, .int v3)]) hx hb dX10_bestLoad_134 hl (by decide) rfl (fun ls hl => ?_)
          refine lv_bipush (v := (30 : Int32)) hx hb dX10_bestLoad_136 rfl ?_
          refine lv_istore (lv' := [(8, .int (30 : Int32)), (7, .int x22), (6, .int x19), (5, .int r10), (4, .int r9), (0, .ref (B + 0)), (1, .int a1), (2, .int v2), (3, .int v3)]) hx hb dX10_bestLoad_138 hl (by decide) rfl (fun ls hl => ?_)
          exact w10_bestLoad_b140 (F := F) (a1 := a1) E hml hret hlk hs33 _ _ _ _ _ _ _ _ _ hM (lv_sub hl [5, 6, 7, 8, 2, 1, 0] rfl) he

set_option maxHeartbeats 4000000 in
set_option maxRecDepth 100000 in
theorem w10_bestLoad_b33 (E : g_C p s m args c cX10_bestLoad RX10 D aC (g_Zs (g_A B 69))) (hml : c.maxLocals = 9) (hret : meth.sig.returnType = (some .int)) (hlk : meth.locks = false) {F : Nat} {q0 : Int32 × g_M} {a1 : Int32} : ∀ (v2 : Int32) (v3 : Int32) (mem : g_M) (H : Heap) (locs : List Loc) (ls : Array Slot), g_At D aC B yC 69 mem s.heap H locs → lv_has ls 9 [(0, .ref (B + 0)), (1, .int a1), (2, .int v2), (3, .int v3)] → f10_bestLoad_b33 F a1 v2 v3 mem = some q0 → W p l e (g_rm 4) s m args below meth c H locs 0 0 (g_MQ below D aC B yC 69 args s (some (.int q0.1)) q0.2) (F0 m 33 ls []) := by
  have key : ∀ (nn : Nat) (x : Int32 × Int32 × g_M) (H : Heap) (locs : List Loc) (ls : Array Slot), g_At D aC B yC 69 x.2.2 s.heap H locs → lv_has ls 9 [(0, .ref (B + 0)), (1, .int a1), (2, .int x.1), (3, .int x.2.1)] → g_fix (fun sf x => f10_bestLoad_b33_body F a1 (fun v2 v3 mem => sf (v2, v3, mem)) x.1 x.2.1 x.2.2) nn x = some q0 → W p l e (g_rm 4) s m args below meth c H locs 0 0 (g_MQ below D aC B yC 69 args s (some (.int q0.1)) q0.2) (F0 m 33 ls []) := by
    intro nn
    induction nn with
    | zero => intro x H locs ls hM hl he; simp [g_fix] at he
    | succ nn ih =>
      intro x H locs ls hM hl he
      exact w10_bestLoad_b33_body (F := F) (a1 := a1) E hml hret hlk (fun v2 v3 mem H locs ls hM hl he => ih (v2, v3, mem) H locs ls hM hl he) x.1 x.2.1 x.2.2 H locs ls hM hl he
  intro v2 v3 mem H locs ls hM hl he
  exact key F (v2, v3, mem) H locs ls hM hl he

set_option maxHeartbeats 4000000 in
set_option maxRecDepth 100000 in
theorem w10_bestLoad_b2_body (E : g_C p s m args c cX10_bestLoad RX10 D aC (g_Zs (g_A B 69))) (hml : c.maxLocals = 9) (hret : meth.sig.returnType = (some .int)) (hlk : meth.locks = false) {F : Nat} {q0 : Int32 × g_M} {a1 : Int32} {s2 : Int32 → g_M → Option (Int32 × g_M)} (hs2 : ∀ (v2 : Int32) (mem : g_M) (H : Heap) (locs : List Loc) (ls : Array Slot), g_At D aC B yC 69 mem s.heap H locs → lv_has ls 9 [(0, .ref (B + 0)), (1, .int a1), (2, .int v2)] → s2 v2 mem = some q0 → W p l e (g_rm 4) s m args below meth c H locs 0 0 (g_MQ below D aC B yC 69 args s (some (.int q0.1)) q0.2) (F0 m 2 ls [])) : ∀ (v2 : Int32) (mem : g_M) (H : Heap) (locs : List Loc) (ls : Array Slot), g_At D aC B yC 69 mem s.heap H locs → lv_has ls 9 [(0, .ref (B + 0)), (1, .int a1), (2, .int v2)] → f10_bestLoad_b2_body F a1 s2 v2 mem = some q0 → W p l e (g_rm 4) s m args below meth c H locs 0 0 (g_MQ below D aC B yC 69 args s (some (.int q0.1)) q0.2) (F0 m 2 ls []) := by
  intro v2 mem H locs ls hM hl he
  unfold f10_bestLoad_b2_body at he
  have hx := E.1
  have hb := E.2.1
  have hown := E.2.2.1
  have hts := E.2.2.2.1
  refine lv_iload_n hx hb dX10_bestLoad_2 rfl (lv_at hl 2 rfl) ?_
  refine lv_bipush (v := (30 : Int32)) hx hb dX10_bestLoad_3 rfl ?_
  refine lv_icmp_gt (tgt := 21) hx hb dX10_bestLoad_5 (by decide) (fun h28 => ?_) (fun h28 => ?_)
  · rw [if_neg (Int32.not_le.mpr h28)] at he
    refine lv_aload_n hx hb dX10_bestLoad_21 rfl (lv_at hl 0 rfl) ?_
    refine g_getP E hM (o := 0) (Nat.le_of_ble_eq_true rfl) rfl fl_X10_47 (q := 35) rfl dX10_bestLoad_22 ?_
    refine g_getI E hM (o := 35) (Nat.le_of_ble_eq_true rfl) rfl fl_X10_215 dX10_bestLoad_25 ?_
    refine lv_iconst (v := (1 : Int32)) hx hb dX10_bestLoad_28 rfl ?_
    refine lv_iand hx hb dX10_bestLoad_29 ?_
    obtain ⟨x32, hx32, he⟩ := g_let_ex he
    refine g_topI hx32 ?_
    refine lv_istore_n (lv' := [(2, .int x32), (0, .ref (B + 0)), (1, .int a1)]) hx hb dX10_bestLoad_30 rfl hl (by decide) rfl (fun ls hl => ?_)
    refine lv_iconst (v := (0 : Int32)) hx hb dX10_bestLoad_31 rfl ?_
    refine lv_istore_n (lv' := [(3, .int (0 : Int32)), (2, .int x32), (0, .ref (B + 0)), (1, .int a1)]) hx hb dX10_bestLoad_32 rfl hl (by decide) rfl (fun ls hl => ?_)
    exact w10_bestLoad_b33 (F := F) (a1 := a1) E hml hret hlk _ _ _ _ _ _ hM (lv_sub hl [2, 3, 1, 0] rfl) he
  · rw [if_pos (Int32.not_lt.mp h28)] at he
    refine lv_aload_n hx hb dX10_bestLoad_8 rfl (lv_at hl 0 rfl) ?_
    refine g_getP E hM (o := 0) (Nat.le_of_ble_eq_true rfl) rfl fl_X10_70 (q := 56) rfl dX10_bestLoad_9 ?_
    refine lv_iload_n hx hb dX10_bestLoad_12 rfl (lv_at hl 2 rfl) ?_
    refine lv_iconst (v := (0 : Int32)) hx hb dX10_bestLoad_13 rfl ?_
    obtain ⟨h29, he⟩ := g_ck_some he
    refine g_iast E hM (o := 56) (Nat.le_of_ble_eq_true rfl) rfl h29 dX10_bestLoad_14 (fun H locs hM => ?_)
    obtain ⟨m30, hm30, he⟩ := g_let_ex he
    rw [← hm30] at hM
    obtain ⟨x31, hx31, he⟩ := g_let_ex he
    refine lv_iinc (v := x31) (lv' := [(2, .int x31), (0, .ref (B + 0)), (1, .int a1)]) hx hb dX10_bestLoad_15 hl (k := 2) rfl (by rw [hx31]; rfl) (by decide) rfl (fun ls hl => ?_)
    refine lv_goto (tgt := 2) hx hb dX10_bestLoad_18 (by decide) ?_
    exact hs2 _ _ _ _ _ hM (lv_sub hl [1, 2, 0] rfl) he

set_option maxHeartbeats 4000000 in
set_option maxRecDepth 100000 in
theorem w10_bestLoad_b2 (E : g_C p s m args c cX10_bestLoad RX10 D aC (g_Zs (g_A B 69))) (hml : c.maxLocals = 9) (hret : meth.sig.returnType = (some .int)) (hlk : meth.locks = false) {F : Nat} {q0 : Int32 × g_M} {a1 : Int32} : ∀ (v2 : Int32) (mem : g_M) (H : Heap) (locs : List Loc) (ls : Array Slot), g_At D aC B yC 69 mem s.heap H locs → lv_has ls 9 [(0, .ref (B + 0)), (1, .int a1), (2, .int v2)] → f10_bestLoad_b2 F a1 v2 mem = some q0 → W p l e (g_rm 4) s m args below meth c H locs 0 0 (g_MQ below D aC B yC 69 args s (some (.int q0.1)) q0.2) (F0 m 2 ls []) := by
  have key : ∀ (nn : Nat) (x : Int32 × g_M) (H : Heap) (locs : List Loc) (ls : Array Slot), g_At D aC B yC 69 x.2 s.heap H locs → lv_has ls 9 [(0, .ref (B + 0)), (1, .int a1), (2, .int x.1)] → g_fix (fun sf x => f10_bestLoad_b2_body F a1 (fun v2 mem => sf (v2, mem)) x.1 x.2) nn x = some q0 → W p l e (g_rm 4) s m args below meth c H locs 0 0 (g_MQ below D aC B yC 69 args s (some (.int q0.1)) q0.2) (F0 m 2 ls []) := by
    intro nn
    induction nn with
    | zero => intro x H locs ls hM hl he; simp [g_fix] at he
    | succ nn ih =>
      intro x H locs ls hM hl he
      exact w10_bestLoad_b2_body (F := F) (a1 := a1) E hml hret hlk (fun v2 mem H locs ls hM hl he => ih (v2, mem) H locs ls hM hl he) x.1 x.2 H locs ls hM hl he
  intro v2 mem H locs ls hM hl he
  exact key F (v2, mem) H locs ls hM hl he

set_option maxHeartbeats 4000000 in
set_option maxRecDepth 100000 in
theorem c10_bestLoad (l : Launch) (D : va_G) (aC : Nat → ClassId) (B : Nat) {F : Nat} {a1 : Int32} {mem : g_M} {q0 : Int32 × g_M} (he : f10_bestLoad F a1 mem = some q0) : g_Met l yX10_bestLoad cX10_bestLoad 9 (some .int) 4 D aC B yC 69 mem [.ref (B + 0), .int a1] (some (.int q0.1)) q0.2 := by
  refine g_ofW (by decide) (Nat.le_of_ble_eq_true rfl) ?_
  intro p e s m args below meth c ls E hml hret hlk hM hl
  have E : g_C p s m args c cX10_bestLoad RX10 D aC (g_Zs (g_A B 69)) := E
  have hx := E.1
  have hb := E.2.1
  have hown := E.2.2.1
  have hts := E.2.2.2.1
  have hl : lv_has ls 9 [(0, .ref (B + 0)), (1, .int a1)] := hl
  unfold f10_bestLoad at he
  refine lv_iconst (v := (0 : Int32)) hx hb dX10_bestLoad_0 rfl ?_
  refine lv_istore_n (lv' := [(2, .int (0 : Int32)), (0, .ref (B + 0)), (1, .int a1)]) hx hb dX10_bestLoad_1 rfl hl (by decide) rfl (fun ls hl => ?_)
  exact w10_bestLoad_b2 (F := F) (a1 := a1) E hml hret hlk _ _ _ _ _ hM (lv_sub hl [1, 2, 0] rfl) he

set_option maxHeartbeats 4000000 in
set_option maxRecDepth 100000 in
theorem w10_load_b21 (E : g_C p s m args c cX10_load RX10 D aC (g_Zs (g_A B 69))) (hml : c.maxLocals = 2) (hret : meth.sig.returnType = (some .int)) (hlk : meth.locks = false) {F : Nat} {q0 : Int32 × g_M} {a1 : Int32} : ∀ (w1 : Int32) (mem : g_M) (H : Heap) (locs : List Loc) (ls : Array Slot), g_At D aC B yC 69 mem s.heap H locs → lv_has ls 2 [] → f10_load_b21 F a1 w1 mem = some q0 → W p l e (g_rm 5) s m args below meth c H locs 0 0 (g_MQ below D aC B yC 69 args s (some (.int q0.1)) q0.2) (F0 m 21 ls [.int w1, .ref (B + 0)]) := by
  intro w1 mem H locs ls hM hl he
  unfold f10_load_b21 at he
  have hx := E.1
  have hb := E.2.1
  have hown := E.2.2.1
  have hts := E.2.2.2.1
  obtain ⟨r1, hcr1, he⟩ := g_bind he
  refine g_callV [.int w1] (rest := []) E hml hl.1 hM cv_X10_255 (c10_bestLoad l D aC B hcr1) (o := 0) (Nat.le_of_ble_eq_true rfl) rfl (by decide) rfl rfl (Nat.le_of_ble_eq_true rfl) dX10_load_21 (fun H locs hM => ?_)
  refine W.eq (g2 := F0 m 24 ls [.int r1.1]) rfl ?_
  cases he
  exact g_iret E hM hret hlk dX10_load_24

set_option maxHeartbeats 4000000 in
set_option maxRecDepth 100000 in
theorem w10_load_b11 (E : g_C p s m args c cX10_load RX10 D aC (g_Zs (g_A B 69))) (hml : c.maxLocals = 2) (hret : meth.sig.returnType = (some .int)) (hlk : meth.locks = false) {F : Nat} {q0 : Int32 × g_M} {a1 : Int32} : ∀ (mem : g_M) (H : Heap) (locs : List Loc) (ls : Array Slot), g_At D aC B yC 69 mem s.heap H locs → lv_has ls 2 [(0, .ref (B + 0)), (1, .int a1)] → f10_load_b11 F a1 mem = some q0 → W p l e (g_rm 5) s m args below meth c H locs 0 0 (g_MQ below D aC B yC 69 args s (some (.int q0.1)) q0.2) (F0 m 11 ls []) := by
  intro mem H locs ls hM hl he
  unfold f10_load_b11 at he
  have hx := E.1
  have hb := E.2.1
  have hown := E.2.2.1
  have hts := E.2.2.2.1
  refine lv_aload_n hx hb dX10_load_11 rfl (lv_at hl 0 rfl) ?_
  refine lv_iload_n hx hb dX10_load_12 rfl (lv_at hl 1 rfl) ?_
  refine lv_if_ne (tgt := 20) hx hb dX10_load_13 (by decide) (fun h2 => ?_) (fun h2 => ?_)
  · rw [if_neg h2] at he
    refine lv_iconst (v := (0 : Int32)) hx hb dX10_load_20 rfl ?_
    exact w10_load_b21 (F := F) (a1 := a1) E hml hret hlk _ _ _ _ _ hM (lv_sub hl [] rfl) he
  · rw [if_pos h2] at he
    refine lv_iconst (v := (1 : Int32)) hx hb dX10_load_16 rfl ?_
    refine lv_goto (tgt := 21) hx hb dX10_load_17 (by decide) ?_
    exact w10_load_b21 (F := F) (a1 := a1) E hml hret hlk _ _ _ _ _ hM (lv_sub hl [] rfl) he

set_option maxHeartbeats 4000000 in
set_option maxRecDepth 100000 in
theorem c10_load (l : Launch) (D : va_G) (aC : Nat → ClassId) (B : Nat) {F : Nat} {a1 : Int32} {mem : g_M} {q0 : Int32 × g_M} (he : f10_load F a1 mem = some q0) : g_Met l yX10_load cX10_load 2 (some .int) 5 D aC B yC 69 mem [.ref (B + 0), .int a1] (some (.int q0.1)) q0.2 := by
  refine g_ofW (by decide) (Nat.le_of_ble_eq_true rfl) ?_
  intro p e s m args below meth c ls E hml hret hlk hM hl
  have E : g_C p s m args c cX10_load RX10 D aC (g_Zs (g_A B 69)) := E
  have hx := E.1
  have hb := E.2.1
  have hown := E.2.2.1
  have hts := E.2.2.2.1
  have hl : lv_has ls 2 [(0, .ref (B + 0)), (1, .int a1)] := hl
  unfold f10_load at he
  refine lv_iload_n hx hb dX10_load_0 rfl (lv_at hl 1 rfl) ?_
  refine lv_if_eq (tgt := 11) hx hb dX10_load_1 (by decide) (fun h3 => ?_) (fun h3 => ?_)
  · rw [if_pos h3] at he
    exact w10_load_b11 (F := F) (a1 := a1) E hml hret hlk _ _ _ _ hM (lv_sub hl [0, 1] rfl) he
  · rw [if_neg h3] at he
    refine lv_iload_n hx hb dX10_load_4 rfl (lv_at hl 1 rfl) ?_
    refine lv_iconst (v := (1 : Int32)) hx hb dX10_load_5 rfl ?_
    refine lv_icmp_eq (tgt := 11) hx hb dX10_load_6 (by decide) (fun h4 => ?_) (fun h4 => ?_)
    · rw [if_pos h4] at he
      exact w10_load_b11 (F := F) (a1 := a1) E hml hret hlk _ _ _ _ hM (lv_sub hl [0, 1] rfl) he
    · rw [if_neg h4] at he
      refine lv_iconst (v := (-1 : Int32)) hx hb dX10_load_9 rfl ?_
      cases he
      exact g_iret E hM hret hlk dX10_load_10

end
