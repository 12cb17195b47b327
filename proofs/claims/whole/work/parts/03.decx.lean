theorem dX0_init_0 : decode cX0_init 0 = .ok (.aload_n 0, 1) := by decide +kernel
theorem dX0_init_1 : decode cX0_init 1 = .ok (.invokespecial 3, 3) := by decide +kernel
theorem dX0_init_4 : decode cX0_init 4 = .ok (.aload_n 0, 1) := by decide +kernel
theorem dX0_init_5 : decode cX0_init 5 = .ok (.bipush 20, 2) := by decide +kernel
theorem dX0_init_7 : decode cX0_init 7 = .ok (.newarray .int, 2) := by decide +kernel
theorem dX0_init_9 : decode cX0_init 9 = .ok (.putfield 9, 3) := by decide +kernel
theorem dX0_init_12 : decode cX0_init 12 = .ok (.return_, 1) := by decide +kernel
theorem dX0_begin_0 : decode cX0_begin 0 = .ok (.aload_n 0, 1) := by decide +kernel
theorem dX0_begin_1 : decode cX0_begin 1 = .ok (.getfield 15, 3) := by decide +kernel
theorem dX0_begin_4 : decode cX0_begin 4 = .ok (.ifCond .lt 25, 3) := by decide +kernel
theorem dX0_begin_7 : decode cX0_begin 7 = .ok (.aload_n 0, 1) := by decide +kernel
theorem dX0_begin_8 : decode cX0_begin 8 = .ok (.getfield 15, 3) := by decide +kernel
theorem dX0_begin_11 : decode cX0_begin 11 = .ok (.aload_n 0, 1) := by decide +kernel
theorem dX0_begin_12 : decode cX0_begin 12 = .ok (.getfield 9, 3) := by decide +kernel
theorem dX0_begin_15 : decode cX0_begin 15 = .ok (.arraylength, 1) := by decide +kernel
theorem dX0_begin_16 : decode cX0_begin 16 = .ok (.if_icmp .ge 13, 3) := by decide +kernel
theorem dX0_begin_19 : decode cX0_begin 19 = .ok (.aload_n 0, 1) := by decide +kernel
theorem dX0_begin_20 : decode cX0_begin 20 = .ok (.getfield 9, 3) := by decide +kernel
theorem dX0_begin_23 : decode cX0_begin 23 = .ok (.aload_n 0, 1) := by decide +kernel
theorem dX0_begin_24 : decode cX0_begin 24 = .ok (.getfield 15, 3) := by decide +kernel
theorem dX0_begin_27 : decode cX0_begin 27 = .ok (.iload_n 1, 1) := by decide +kernel
theorem dX0_begin_28 : decode cX0_begin 28 = .ok (.iastore, 1) := by decide +kernel
theorem dX0_begin_29 : decode cX0_begin 29 = .ok (.aload_n 0, 1) := by decide +kernel
theorem dX0_begin_30 : decode cX0_begin 30 = .ok (.dup, 1) := by decide +kernel
theorem dX0_begin_31 : decode cX0_begin 31 = .ok (.getfield 15, 3) := by decide +kernel
theorem dX0_begin_34 : decode cX0_begin 34 = .ok (.iconst 1, 1) := by decide +kernel
theorem dX0_begin_35 : decode cX0_begin 35 = .ok (.iadd, 1) := by decide +kernel
theorem dX0_begin_36 : decode cX0_begin 36 = .ok (.putfield 15, 3) := by decide +kernel
theorem dX0_begin_39 : decode cX0_begin 39 = .ok (.return_, 1) := by decide +kernel
theorem dX0_bodyAt_0 : decode cX0_bodyAt 0 = .ok (.iload_n 1, 1) := by decide +kernel
theorem dX0_bodyAt_1 : decode cX0_bodyAt 1 = .ok (.ifCond .lt 29, 3) := by decide +kernel
theorem dX0_bodyAt_4 : decode cX0_bodyAt 4 = .ok (.iload_n 1, 1) := by decide +kernel
theorem dX0_bodyAt_5 : decode cX0_bodyAt 5 = .ok (.aload_n 0, 1) := by decide +kernel
theorem dX0_bodyAt_6 : decode cX0_bodyAt 6 = .ok (.getfield 15, 3) := by decide +kernel
theorem dX0_bodyAt_9 : decode cX0_bodyAt 9 = .ok (.if_icmp .ge 21, 3) := by decide +kernel
theorem dX0_bodyAt_12 : decode cX0_bodyAt 12 = .ok (.iload_n 1, 1) := by decide +kernel
theorem dX0_bodyAt_13 : decode cX0_bodyAt 13 = .ok (.aload_n 0, 1) := by decide +kernel
theorem dX0_bodyAt_14 : decode cX0_bodyAt 14 = .ok (.getfield 9, 3) := by decide +kernel
theorem dX0_bodyAt_17 : decode cX0_bodyAt 17 = .ok (.arraylength, 1) := by decide +kernel
theorem dX0_bodyAt_18 : decode cX0_bodyAt 18 = .ok (.if_icmp .ge 12, 3) := by decide +kernel
theorem dX0_bodyAt_21 : decode cX0_bodyAt 21 = .ok (.aload_n 0, 1) := by decide +kernel
theorem dX0_bodyAt_22 : decode cX0_bodyAt 22 = .ok (.getfield 9, 3) := by decide +kernel
theorem dX0_bodyAt_25 : decode cX0_bodyAt 25 = .ok (.iload_n 1, 1) := by decide +kernel
theorem dX0_bodyAt_26 : decode cX0_bodyAt 26 = .ok (.iaload, 1) := by decide +kernel
theorem dX0_bodyAt_27 : decode cX0_bodyAt 27 = .ok (.goto 4, 3) := by decide +kernel
theorem dX0_bodyAt_30 : decode cX0_bodyAt 30 = .ok (.iconst (-1), 1) := by decide +kernel
theorem dX0_bodyAt_31 : decode cX0_bodyAt 31 = .ok (.ireturn, 1) := by decide +kernel
theorem dX0_clicks_0 : decode cX0_clicks 0 = .ok (.iload 4, 2) := by decide +kernel
theorem dX0_clicks_2 : decode cX0_clicks 2 = .ok (.bipush 40, 2) := by decide +kernel
theorem dX0_clicks_4 : decode cX0_clicks 4 = .ok (.if_icmp .le 5, 3) := by decide +kernel
theorem dX0_clicks_7 : decode cX0_clicks 7 = .ok (.iconst 0, 1) := by decide +kernel
theorem dX0_clicks_8 : decode cX0_clicks 8 = .ok (.ireturn, 1) := by decide +kernel
theorem dX0_clicks_9 : decode cX0_clicks 9 = .ok (.iload_n 2, 1) := by decide +kernel
theorem dX0_clicks_10 : decode cX0_clicks 10 = .ok (.lookupswitch 95 #[(0, 34), (1, 46), (5, 69)], 34) := by decide +kernel
theorem dX0_clicks_44 : decode cX0_clicks 44 = .ok (.aload_n 0, 1) := by decide +kernel
theorem dX0_clicks_45 : decode cX0_clicks 45 = .ok (.iconst 1, 1) := by decide +kernel
theorem dX0_clicks_46 : decode cX0_clicks 46 = .ok (.invokevirtual 19, 3) := by decide +kernel
theorem dX0_clicks_49 : decode cX0_clicks 49 = .ok (.iload_n 3, 1) := by decide +kernel
theorem dX0_clicks_50 : decode cX0_clicks 50 = .ok (.aload_n 1, 1) := by decide +kernel
theorem dX0_clicks_51 : decode cX0_clicks 51 = .ok (.getfield 23, 3) := by decide +kernel
theorem dX0_clicks_54 : decode cX0_clicks 54 = .ok (.iadd, 1) := by decide +kernel
theorem dX0_clicks_55 : decode cX0_clicks 55 = .ok (.ireturn, 1) := by decide +kernel
theorem dX0_clicks_56 : decode cX0_clicks 56 = .ok (.aload_n 0, 1) := by decide +kernel
theorem dX0_clicks_57 : decode cX0_clicks 57 = .ok (.bipush 11, 2) := by decide +kernel
theorem dX0_clicks_59 : decode cX0_clicks 59 = .ok (.invokevirtual 19, 3) := by decide +kernel
theorem dX0_clicks_62 : decode cX0_clicks 62 = .ok (.aload_n 0, 1) := by decide +kernel
theorem dX0_clicks_63 : decode cX0_clicks 63 = .ok (.aload_n 1, 1) := by decide +kernel
theorem dX0_clicks_64 : decode cX0_clicks 64 = .ok (.iload_n 2, 1) := by decide +kernel
theorem dX0_clicks_65 : decode cX0_clicks 65 = .ok (.invokestatic 28, 3) := by decide +kernel
theorem dX0_clicks_68 : decode cX0_clicks 68 = .ok (.iload_n 3, 1) := by decide +kernel
theorem dX0_clicks_69 : decode cX0_clicks 69 = .ok (.iconst 3, 1) := by decide +kernel
theorem dX0_clicks_70 : decode cX0_clicks 70 = .ok (.imul, 1) := by decide +kernel
theorem dX0_clicks_71 : decode cX0_clicks 71 = .ok (.iload 4, 2) := by decide +kernel
theorem dX0_clicks_73 : decode cX0_clicks 73 = .ok (.iconst 1, 1) := by decide +kernel
theorem dX0_clicks_74 : decode cX0_clicks 74 = .ok (.iadd, 1) := by decide +kernel
theorem dX0_clicks_75 : decode cX0_clicks 75 = .ok (.invokevirtual 32, 3) := by decide +kernel
theorem dX0_clicks_78 : decode cX0_clicks 78 = .ok (.ireturn, 1) := by decide +kernel
theorem dX0_clicks_79 : decode cX0_clicks 79 = .ok (.aload_n 0, 1) := by decide +kernel
theorem dX0_clicks_80 : decode cX0_clicks 80 = .ok (.bipush 51, 2) := by decide +kernel
theorem dX0_clicks_82 : decode cX0_clicks 82 = .ok (.invokevirtual 19, 3) := by decide +kernel
theorem dX0_clicks_85 : decode cX0_clicks 85 = .ok (.aload_n 0, 1) := by decide +kernel
theorem dX0_clicks_86 : decode cX0_clicks 86 = .ok (.aload_n 1, 1) := by decide +kernel
theorem dX0_clicks_87 : decode cX0_clicks 87 = .ok (.iload_n 2, 1) := by decide +kernel
theorem dX0_clicks_88 : decode cX0_clicks 88 = .ok (.invokestatic 28, 3) := by decide +kernel
theorem dX0_clicks_91 : decode cX0_clicks 91 = .ok (.iload_n 3, 1) := by decide +kernel
theorem dX0_clicks_92 : decode cX0_clicks 92 = .ok (.iload 4, 2) := by decide +kernel
theorem dX0_clicks_94 : decode cX0_clicks 94 = .ok (.iconst 1, 1) := by decide +kernel
theorem dX0_clicks_95 : decode cX0_clicks 95 = .ok (.iadd, 1) := by decide +kernel
theorem dX0_clicks_96 : decode cX0_clicks 96 = .ok (.invokevirtual 32, 3) := by decide +kernel
theorem dX0_clicks_99 : decode cX0_clicks 99 = .ok (.aload_n 1, 1) := by decide +kernel
theorem dX0_clicks_100 : decode cX0_clicks 100 = .ok (.getfield 23, 3) := by decide +kernel
theorem dX0_clicks_103 : decode cX0_clicks 103 = .ok (.ixor, 1) := by decide +kernel
theorem dX0_clicks_104 : decode cX0_clicks 104 = .ok (.ireturn, 1) := by decide +kernel
theorem dX0_clicks_105 : decode cX0_clicks 105 = .ok (.aload_n 0, 1) := by decide +kernel
theorem dX0_clicks_106 : decode cX0_clicks 106 = .ok (.aload_n 1, 1) := by decide +kernel
theorem dX0_clicks_107 : decode cX0_clicks 107 = .ok (.iload_n 2, 1) := by decide +kernel
theorem dX0_clicks_108 : decode cX0_clicks 108 = .ok (.invokestatic 28, 3) := by decide +kernel
theorem dX0_clicks_111 : decode cX0_clicks 111 = .ok (.iload_n 3, 1) := by decide +kernel
theorem dX0_clicks_112 : decode cX0_clicks 112 = .ok (.iload 4, 2) := by decide +kernel
theorem dX0_clicks_114 : decode cX0_clicks 114 = .ok (.iconst 1, 1) := by decide +kernel
theorem dX0_clicks_115 : decode cX0_clicks 115 = .ok (.iadd, 1) := by decide +kernel
theorem dX0_clicks_116 : decode cX0_clicks 116 = .ok (.invokevirtual 32, 3) := by decide +kernel
theorem dX0_clicks_119 : decode cX0_clicks 119 = .ok (.ireturn, 1) := by decide +kernel
theorem dX0_pulls_0 : decode cX0_pulls 0 = .ok (.iload 4, 2) := by decide +kernel
theorem dX0_pulls_2 : decode cX0_pulls 2 = .ok (.bipush 40, 2) := by decide +kernel
theorem dX0_pulls_4 : decode cX0_pulls 4 = .ok (.if_icmp .le 5, 3) := by decide +kernel
theorem dX0_pulls_7 : decode cX0_pulls 7 = .ok (.iconst 0, 1) := by decide +kernel
theorem dX0_pulls_8 : decode cX0_pulls 8 = .ok (.ireturn, 1) := by decide +kernel
theorem dX0_pulls_9 : decode cX0_pulls 9 = .ok (.iload_n 2, 1) := by decide +kernel
theorem dX0_pulls_10 : decode cX0_pulls 10 = .ok (.lookupswitch 107 #[(0, 34), (2, 59), (6, 81)], 34) := by decide +kernel
theorem dX0_pulls_44 : decode cX0_pulls 44 = .ok (.aload_n 0, 1) := by decide +kernel
theorem dX0_pulls_45 : decode cX0_pulls 45 = .ok (.iconst 2, 1) := by decide +kernel
theorem dX0_pulls_46 : decode cX0_pulls 46 = .ok (.invokevirtual 19, 3) := by decide +kernel
theorem dX0_pulls_49 : decode cX0_pulls 49 = .ok (.aload_n 0, 1) := by decide +kernel
theorem dX0_pulls_50 : decode cX0_pulls 50 = .ok (.aload_n 1, 1) := by decide +kernel
theorem dX0_pulls_51 : decode cX0_pulls 51 = .ok (.aload_n 1, 1) := by decide +kernel
theorem dX0_pulls_52 : decode cX0_pulls 52 = .ok (.getfield 36, 3) := by decide +kernel
theorem dX0_pulls_55 : decode cX0_pulls 55 = .ok (.iload_n 3, 1) := by decide +kernel
theorem dX0_pulls_56 : decode cX0_pulls 56 = .ok (.iload 4, 2) := by decide +kernel
theorem dX0_pulls_58 : decode cX0_pulls 58 = .ok (.iconst 1, 1) := by decide +kernel
theorem dX0_pulls_59 : decode cX0_pulls 59 = .ok (.iadd, 1) := by decide +kernel
theorem dX0_pulls_60 : decode cX0_pulls 60 = .ok (.invokevirtual 32, 3) := by decide +kernel
theorem dX0_pulls_63 : decode cX0_pulls 63 = .ok (.aload_n 1, 1) := by decide +kernel
theorem dX0_pulls_64 : decode cX0_pulls 64 = .ok (.getfield 39, 3) := by decide +kernel
theorem dX0_pulls_67 : decode cX0_pulls 67 = .ok (.isub, 1) := by decide +kernel
theorem dX0_pulls_68 : decode cX0_pulls 68 = .ok (.ireturn, 1) := by decide +kernel
theorem dX0_pulls_69 : decode cX0_pulls 69 = .ok (.aload_n 0, 1) := by decide +kernel
theorem dX0_pulls_70 : decode cX0_pulls 70 = .ok (.bipush 21, 2) := by decide +kernel
theorem dX0_pulls_72 : decode cX0_pulls 72 = .ok (.invokevirtual 19, 3) := by decide +kernel
theorem dX0_pulls_75 : decode cX0_pulls 75 = .ok (.aload_n 0, 1) := by decide +kernel
theorem dX0_pulls_76 : decode cX0_pulls 76 = .ok (.aload_n 1, 1) := by decide +kernel
theorem dX0_pulls_77 : decode cX0_pulls 77 = .ok (.iload_n 2, 1) := by decide +kernel
theorem dX0_pulls_78 : decode cX0_pulls 78 = .ok (.invokestatic 28, 3) := by decide +kernel
theorem dX0_pulls_81 : decode cX0_pulls 81 = .ok (.iload_n 3, 1) := by decide +kernel
theorem dX0_pulls_82 : decode cX0_pulls 82 = .ok (.iload 4, 2) := by decide +kernel
theorem dX0_pulls_84 : decode cX0_pulls 84 = .ok (.iconst 1, 1) := by decide +kernel
theorem dX0_pulls_85 : decode cX0_pulls 85 = .ok (.iadd, 1) := by decide +kernel
theorem dX0_pulls_86 : decode cX0_pulls 86 = .ok (.invokevirtual 42, 3) := by decide +kernel
theorem dX0_pulls_89 : decode cX0_pulls 89 = .ok (.ineg, 1) := by decide +kernel
theorem dX0_pulls_90 : decode cX0_pulls 90 = .ok (.ireturn, 1) := by decide +kernel
theorem dX0_pulls_91 : decode cX0_pulls 91 = .ok (.aload_n 0, 1) := by decide +kernel
theorem dX0_pulls_92 : decode cX0_pulls 92 = .ok (.bipush 61, 2) := by decide +kernel
theorem dX0_pulls_94 : decode cX0_pulls 94 = .ok (.invokevirtual 19, 3) := by decide +kernel
theorem dX0_pulls_97 : decode cX0_pulls 97 = .ok (.aload_n 0, 1) := by decide +kernel
theorem dX0_pulls_98 : decode cX0_pulls 98 = .ok (.aload_n 1, 1) := by decide +kernel
theorem dX0_pulls_99 : decode cX0_pulls 99 = .ok (.iload_n 2, 1) := by decide +kernel
theorem dX0_pulls_100 : decode cX0_pulls 100 = .ok (.invokestatic 28, 3) := by decide +kernel
theorem dX0_pulls_103 : decode cX0_pulls 103 = .ok (.iload_n 3, 1) := by decide +kernel
theorem dX0_pulls_104 : decode cX0_pulls 104 = .ok (.iload 4, 2) := by decide +kernel
theorem dX0_pulls_106 : decode cX0_pulls 106 = .ok (.iconst 1, 1) := by decide +kernel
theorem dX0_pulls_107 : decode cX0_pulls 107 = .ok (.iadd, 1) := by decide +kernel
theorem dX0_pulls_108 : decode cX0_pulls 108 = .ok (.invokevirtual 42, 3) := by decide +kernel
theorem dX0_pulls_111 : decode cX0_pulls 111 = .ok (.aload_n 1, 1) := by decide +kernel
theorem dX0_pulls_112 : decode cX0_pulls 112 = .ok (.getfield 39, 3) := by decide +kernel
theorem dX0_pulls_115 : decode cX0_pulls 115 = .ok (.iadd, 1) := by decide +kernel
theorem dX0_pulls_116 : decode cX0_pulls 116 = .ok (.ireturn, 1) := by decide +kernel
theorem dX0_pulls_117 : decode cX0_pulls 117 = .ok (.aload_n 0, 1) := by decide +kernel
theorem dX0_pulls_118 : decode cX0_pulls 118 = .ok (.aload_n 1, 1) := by decide +kernel
theorem dX0_pulls_119 : decode cX0_pulls 119 = .ok (.iload_n 2, 1) := by decide +kernel
theorem dX0_pulls_120 : decode cX0_pulls 120 = .ok (.invokestatic 28, 3) := by decide +kernel
theorem dX0_pulls_123 : decode cX0_pulls 123 = .ok (.iload_n 3, 1) := by decide +kernel
theorem dX0_pulls_124 : decode cX0_pulls 124 = .ok (.iload 4, 2) := by decide +kernel
theorem dX0_pulls_126 : decode cX0_pulls 126 = .ok (.iconst 1, 1) := by decide +kernel
theorem dX0_pulls_127 : decode cX0_pulls 127 = .ok (.iadd, 1) := by decide +kernel
theorem dX0_pulls_128 : decode cX0_pulls 128 = .ok (.invokevirtual 42, 3) := by decide +kernel
theorem dX0_pulls_131 : decode cX0_pulls 131 = .ok (.ireturn, 1) := by decide +kernel
theorem dX0_looks_0 : decode cX0_looks 0 = .ok (.iload 4, 2) := by decide +kernel
theorem dX0_looks_2 : decode cX0_looks 2 = .ok (.bipush 40, 2) := by decide +kernel
theorem dX0_looks_4 : decode cX0_looks 4 = .ok (.if_icmp .le 5, 3) := by decide +kernel
theorem dX0_looks_7 : decode cX0_looks 7 = .ok (.iconst 0, 1) := by decide +kernel
theorem dX0_looks_8 : decode cX0_looks 8 = .ok (.ireturn, 1) := by decide +kernel
theorem dX0_looks_9 : decode cX0_looks 9 = .ok (.iload_n 2, 1) := by decide +kernel
theorem dX0_looks_10 : decode cX0_looks 10 = .ok (.tableswitch 122 0 4 #[34, 122, 122, 56, 80], 34) := by decide +kernel
theorem dX0_looks_44 : decode cX0_looks 44 = .ok (.aload_n 0, 1) := by decide +kernel
theorem dX0_looks_45 : decode cX0_looks 45 = .ok (.iconst 3, 1) := by decide +kernel
theorem dX0_looks_46 : decode cX0_looks 46 = .ok (.invokevirtual 19, 3) := by decide +kernel
theorem dX0_looks_49 : decode cX0_looks 49 = .ok (.aload_n 0, 1) := by decide +kernel
theorem dX0_looks_50 : decode cX0_looks 50 = .ok (.aload_n 1, 1) := by decide +kernel
theorem dX0_looks_51 : decode cX0_looks 51 = .ok (.aload_n 1, 1) := by decide +kernel
theorem dX0_looks_52 : decode cX0_looks 52 = .ok (.getfield 36, 3) := by decide +kernel
theorem dX0_looks_55 : decode cX0_looks 55 = .ok (.iload_n 3, 1) := by decide +kernel
theorem dX0_looks_56 : decode cX0_looks 56 = .ok (.iload 4, 2) := by decide +kernel
theorem dX0_looks_58 : decode cX0_looks 58 = .ok (.iconst 1, 1) := by decide +kernel
theorem dX0_looks_59 : decode cX0_looks 59 = .ok (.iadd, 1) := by decide +kernel
theorem dX0_looks_60 : decode cX0_looks 60 = .ok (.invokevirtual 42, 3) := by decide +kernel
theorem dX0_looks_63 : decode cX0_looks 63 = .ok (.iconst 2, 1) := by decide +kernel
theorem dX0_looks_64 : decode cX0_looks 64 = .ok (.imul, 1) := by decide +kernel
theorem dX0_looks_65 : decode cX0_looks 65 = .ok (.ireturn, 1) := by decide +kernel
theorem dX0_looks_66 : decode cX0_looks 66 = .ok (.aload_n 0, 1) := by decide +kernel
theorem dX0_looks_67 : decode cX0_looks 67 = .ok (.bipush 31, 2) := by decide +kernel
theorem dX0_looks_69 : decode cX0_looks 69 = .ok (.invokevirtual 19, 3) := by decide +kernel
theorem dX0_looks_72 : decode cX0_looks 72 = .ok (.aload_n 0, 1) := by decide +kernel
theorem dX0_looks_73 : decode cX0_looks 73 = .ok (.aload_n 1, 1) := by decide +kernel
theorem dX0_looks_74 : decode cX0_looks 74 = .ok (.iload_n 2, 1) := by decide +kernel
theorem dX0_looks_75 : decode cX0_looks 75 = .ok (.invokestatic 28, 3) := by decide +kernel
theorem dX0_looks_78 : decode cX0_looks 78 = .ok (.iload_n 3, 1) := by decide +kernel
theorem dX0_looks_79 : decode cX0_looks 79 = .ok (.iload 4, 2) := by decide +kernel
theorem dX0_looks_81 : decode cX0_looks 81 = .ok (.iconst 1, 1) := by decide +kernel
theorem dX0_looks_82 : decode cX0_looks 82 = .ok (.iadd, 1) := by decide +kernel
theorem dX0_looks_83 : decode cX0_looks 83 = .ok (.invokevirtual 45, 3) := by decide +kernel
theorem dX0_looks_86 : decode cX0_looks 86 = .ok (.bipush 7, 2) := by decide +kernel
theorem dX0_looks_88 : decode cX0_looks 88 = .ok (.ixor, 1) := by decide +kernel
theorem dX0_looks_89 : decode cX0_looks 89 = .ok (.ireturn, 1) := by decide +kernel
theorem dX0_looks_90 : decode cX0_looks 90 = .ok (.aload_n 0, 1) := by decide +kernel
theorem dX0_looks_91 : decode cX0_looks 91 = .ok (.bipush 41, 2) := by decide +kernel
theorem dX0_looks_93 : decode cX0_looks 93 = .ok (.invokevirtual 19, 3) := by decide +kernel
theorem dX0_looks_96 : decode cX0_looks 96 = .ok (.aload_n 0, 1) := by decide +kernel
theorem dX0_looks_97 : decode cX0_looks 97 = .ok (.aload_n 1, 1) := by decide +kernel
theorem dX0_looks_98 : decode cX0_looks 98 = .ok (.iload_n 2, 1) := by decide +kernel
theorem dX0_looks_99 : decode cX0_looks 99 = .ok (.invokestatic 28, 3) := by decide +kernel
theorem dX0_looks_102 : decode cX0_looks 102 = .ok (.iload_n 3, 1) := by decide +kernel
theorem dX0_looks_103 : decode cX0_looks 103 = .ok (.iconst 1, 1) := by decide +kernel
theorem dX0_looks_104 : decode cX0_looks 104 = .ok (.isub, 1) := by decide +kernel
theorem dX0_looks_105 : decode cX0_looks 105 = .ok (.iload 4, 2) := by decide +kernel
theorem dX0_looks_107 : decode cX0_looks 107 = .ok (.iconst 1, 1) := by decide +kernel
theorem dX0_looks_108 : decode cX0_looks 108 = .ok (.iadd, 1) := by decide +kernel
theorem dX0_looks_109 : decode cX0_looks 109 = .ok (.invokevirtual 45, 3) := by decide +kernel
theorem dX0_looks_112 : decode cX0_looks 112 = .ok (.istore 5, 2) := by decide +kernel
theorem dX0_looks_114 : decode cX0_looks 114 = .ok (.iload 5, 2) := by decide +kernel
theorem dX0_looks_116 : decode cX0_looks 116 = .ok (.aload_n 0, 1) := by decide +kernel
theorem dX0_looks_117 : decode cX0_looks 117 = .ok (.aload_n 1, 1) := by decide +kernel
theorem dX0_looks_118 : decode cX0_looks 118 = .ok (.aload_n 1, 1) := by decide +kernel
theorem dX0_looks_119 : decode cX0_looks 119 = .ok (.getfield 36, 3) := by decide +kernel
theorem dX0_looks_122 : decode cX0_looks 122 = .ok (.iconst 2, 1) := by decide +kernel
theorem dX0_looks_123 : decode cX0_looks 123 = .ok (.iload 4, 2) := by decide +kernel
theorem dX0_looks_125 : decode cX0_looks 125 = .ok (.iconst 1, 1) := by decide +kernel
theorem dX0_looks_126 : decode cX0_looks 126 = .ok (.iadd, 1) := by decide +kernel
theorem dX0_looks_127 : decode cX0_looks 127 = .ok (.invokevirtual 32, 3) := by decide +kernel
theorem dX0_looks_130 : decode cX0_looks 130 = .ok (.iadd, 1) := by decide +kernel
theorem dX0_looks_131 : decode cX0_looks 131 = .ok (.ireturn, 1) := by decide +kernel
theorem dX0_looks_132 : decode cX0_looks 132 = .ok (.aload_n 0, 1) := by decide +kernel
theorem dX0_looks_133 : decode cX0_looks 133 = .ok (.aload_n 1, 1) := by decide +kernel
theorem dX0_looks_134 : decode cX0_looks 134 = .ok (.iload_n 2, 1) := by decide +kernel
theorem dX0_looks_135 : decode cX0_looks 135 = .ok (.invokestatic 28, 3) := by decide +kernel
theorem dX0_looks_138 : decode cX0_looks 138 = .ok (.iload_n 3, 1) := by decide +kernel
theorem dX0_looks_139 : decode cX0_looks 139 = .ok (.iload 4, 2) := by decide +kernel
theorem dX0_looks_141 : decode cX0_looks 141 = .ok (.iconst 1, 1) := by decide +kernel
theorem dX0_looks_142 : decode cX0_looks 142 = .ok (.iadd, 1) := by decide +kernel
theorem dX0_looks_143 : decode cX0_looks 143 = .ok (.invokevirtual 45, 3) := by decide +kernel
theorem dX0_looks_146 : decode cX0_looks 146 = .ok (.ireturn, 1) := by decide +kernel
theorem dX1_init_0 : decode cX1_init 0 = .ok (.aload_n 0, 1) := by decide +kernel
theorem dX1_init_1 : decode cX1_init 1 = .ok (.invokespecial 3, 3) := by decide +kernel
theorem dX1_init_4 : decode cX1_init 4 = .ok (.aload_n 0, 1) := by decide +kernel
theorem dX1_init_5 : decode cX1_init 5 = .ok (.iload_n 1, 1) := by decide +kernel
theorem dX1_init_6 : decode cX1_init 6 = .ok (.putfield 9, 3) := by decide +kernel
theorem dX1_init_9 : decode cX1_init 9 = .ok (.aload_n 0, 1) := by decide +kernel
theorem dX1_init_10 : decode cX1_init 10 = .ok (.iconst 4, 1) := by decide +kernel
theorem dX1_init_11 : decode cX1_init 11 = .ok (.newarray .int, 2) := by decide +kernel
theorem dX1_init_13 : decode cX1_init 13 = .ok (.putfield 15, 3) := by decide +kernel
theorem dX1_init_16 : decode cX1_init 16 = .ok (.return_, 1) := by decide +kernel
theorem dX1_start_0 : decode cX1_start 0 = .ok (.aload_n 0, 1) := by decide +kernel
theorem dX1_start_1 : decode cX1_start 1 = .ok (.iload_n 1, 1) := by decide +kernel
theorem dX1_start_2 : decode cX1_start 2 = .ok (.putfield 19, 3) := by decide +kernel
theorem dX1_start_5 : decode cX1_start 5 = .ok (.aload_n 0, 1) := by decide +kernel
theorem dX1_start_6 : decode cX1_start 6 = .ok (.iload_n 2, 1) := by decide +kernel
theorem dX1_start_7 : decode cX1_start 7 = .ok (.putfield 22, 3) := by decide +kernel
theorem dX1_start_10 : decode cX1_start 10 = .ok (.aload_n 0, 1) := by decide +kernel
theorem dX1_start_11 : decode cX1_start 11 = .ok (.iconst 0, 1) := by decide +kernel
theorem dX1_start_12 : decode cX1_start 12 = .ok (.putfield 25, 3) := by decide +kernel
theorem dX1_start_15 : decode cX1_start 15 = .ok (.aload_n 0, 1) := by decide +kernel
theorem dX1_start_16 : decode cX1_start 16 = .ok (.bipush 50, 2) := by decide +kernel
theorem dX1_start_18 : decode cX1_start 18 = .ok (.putfield 29, 3) := by decide +kernel
theorem dX1_start_21 : decode cX1_start 21 = .ok (.aload_n 0, 1) := by decide +kernel
theorem dX1_start_22 : decode cX1_start 22 = .ok (.iconst 0, 1) := by decide +kernel
theorem dX1_start_23 : decode cX1_start 23 = .ok (.putfield 32, 3) := by decide +kernel
theorem dX1_start_26 : decode cX1_start 26 = .ok (.aload_n 0, 1) := by decide +kernel
theorem dX1_start_27 : decode cX1_start 27 = .ok (.iconst 0, 1) := by decide +kernel
theorem dX1_start_28 : decode cX1_start 28 = .ok (.putfield 35, 3) := by decide +kernel
theorem dX1_start_31 : decode cX1_start 31 = .ok (.aload_n 0, 1) := by decide +kernel
theorem dX1_start_32 : decode cX1_start 32 = .ok (.iconst 0, 1) := by decide +kernel
theorem dX1_start_33 : decode cX1_start 33 = .ok (.putfield 38, 3) := by decide +kernel
theorem dX1_start_36 : decode cX1_start 36 = .ok (.iconst 0, 1) := by decide +kernel
theorem dX1_start_37 : decode cX1_start 37 = .ok (.istore_n 3, 1) := by decide +kernel
theorem dX1_start_38 : decode cX1_start 38 = .ok (.iload_n 3, 1) := by decide +kernel
theorem dX1_start_39 : decode cX1_start 39 = .ok (.aload_n 0, 1) := by decide +kernel
theorem dX1_start_40 : decode cX1_start 40 = .ok (.getfield 15, 3) := by decide +kernel
theorem dX1_start_43 : decode cX1_start 43 = .ok (.arraylength, 1) := by decide +kernel
theorem dX1_start_44 : decode cX1_start 44 = .ok (.if_icmp .ge 16, 3) := by decide +kernel
theorem dX1_start_47 : decode cX1_start 47 = .ok (.aload_n 0, 1) := by decide +kernel
theorem dX1_start_48 : decode cX1_start 48 = .ok (.getfield 15, 3) := by decide +kernel
theorem dX1_start_51 : decode cX1_start 51 = .ok (.iload_n 3, 1) := by decide +kernel
theorem dX1_start_52 : decode cX1_start 52 = .ok (.iconst 0, 1) := by decide +kernel
theorem dX1_start_53 : decode cX1_start 53 = .ok (.iastore, 1) := by decide +kernel
theorem dX1_start_54 : decode cX1_start 54 = .ok (.iinc 3 1, 3) := by decide +kernel
theorem dX1_start_57 : decode cX1_start 57 = .ok (.goto (-19), 3) := by decide +kernel
theorem dX1_start_60 : decode cX1_start 60 = .ok (.return_, 1) := by decide +kernel
theorem dX1_copyFrom_0 : decode cX1_copyFrom 0 = .ok (.aload_n 0, 1) := by decide +kernel
theorem dX1_copyFrom_1 : decode cX1_copyFrom 1 = .ok (.aload_n 1, 1) := by decide +kernel
theorem dX1_copyFrom_2 : decode cX1_copyFrom 2 = .ok (.getfield 9, 3) := by decide +kernel
theorem dX1_copyFrom_5 : decode cX1_copyFrom 5 = .ok (.putfield 9, 3) := by decide +kernel
theorem dX1_copyFrom_8 : decode cX1_copyFrom 8 = .ok (.aload_n 0, 1) := by decide +kernel
theorem dX1_copyFrom_9 : decode cX1_copyFrom 9 = .ok (.aload_n 1, 1) := by decide +kernel
theorem dX1_copyFrom_10 : decode cX1_copyFrom 10 = .ok (.getfield 19, 3) := by decide +kernel
theorem dX1_copyFrom_13 : decode cX1_copyFrom 13 = .ok (.putfield 19, 3) := by decide +kernel
theorem dX1_copyFrom_16 : decode cX1_copyFrom 16 = .ok (.aload_n 0, 1) := by decide +kernel
theorem dX1_copyFrom_17 : decode cX1_copyFrom 17 = .ok (.aload_n 1, 1) := by decide +kernel
theorem dX1_copyFrom_18 : decode cX1_copyFrom 18 = .ok (.getfield 22, 3) := by decide +kernel
theorem dX1_copyFrom_21 : decode cX1_copyFrom 21 = .ok (.putfield 22, 3) := by decide +kernel
theorem dX1_copyFrom_24 : decode cX1_copyFrom 24 = .ok (.aload_n 0, 1) := by decide +kernel
theorem dX1_copyFrom_25 : decode cX1_copyFrom 25 = .ok (.aload_n 1, 1) := by decide +kernel
theorem dX1_copyFrom_26 : decode cX1_copyFrom 26 = .ok (.getfield 25, 3) := by decide +kernel
theorem dX1_copyFrom_29 : decode cX1_copyFrom 29 = .ok (.putfield 25, 3) := by decide +kernel
theorem dX1_copyFrom_32 : decode cX1_copyFrom 32 = .ok (.aload_n 0, 1) := by decide +kernel
theorem dX1_copyFrom_33 : decode cX1_copyFrom 33 = .ok (.aload_n 1, 1) := by decide +kernel
theorem dX1_copyFrom_34 : decode cX1_copyFrom 34 = .ok (.getfield 29, 3) := by decide +kernel
theorem dX1_copyFrom_37 : decode cX1_copyFrom 37 = .ok (.putfield 29, 3) := by decide +kernel
theorem dX1_copyFrom_40 : decode cX1_copyFrom 40 = .ok (.aload_n 0, 1) := by decide +kernel
theorem dX1_copyFrom_41 : decode cX1_copyFrom 41 = .ok (.aload_n 1, 1) := by decide +kernel
theorem dX1_copyFrom_42 : decode cX1_copyFrom 42 = .ok (.getfield 32, 3) := by decide +kernel
theorem dX1_copyFrom_45 : decode cX1_copyFrom 45 = .ok (.putfield 32, 3) := by decide +kernel
theorem dX1_copyFrom_48 : decode cX1_copyFrom 48 = .ok (.aload_n 0, 1) := by decide +kernel
theorem dX1_copyFrom_49 : decode cX1_copyFrom 49 = .ok (.aload_n 1, 1) := by decide +kernel
theorem dX1_copyFrom_50 : decode cX1_copyFrom 50 = .ok (.getfield 35, 3) := by decide +kernel
theorem dX1_copyFrom_53 : decode cX1_copyFrom 53 = .ok (.putfield 35, 3) := by decide +kernel
theorem dX1_copyFrom_56 : decode cX1_copyFrom 56 = .ok (.aload_n 0, 1) := by decide +kernel
theorem dX1_copyFrom_57 : decode cX1_copyFrom 57 = .ok (.aload_n 1, 1) := by decide +kernel
theorem dX1_copyFrom_58 : decode cX1_copyFrom 58 = .ok (.getfield 38, 3) := by decide +kernel
theorem dX1_copyFrom_61 : decode cX1_copyFrom 61 = .ok (.putfield 38, 3) := by decide +kernel
theorem dX1_copyFrom_64 : decode cX1_copyFrom 64 = .ok (.aload_n 1, 1) := by decide +kernel
theorem dX1_copyFrom_65 : decode cX1_copyFrom 65 = .ok (.getfield 15, 3) := by decide +kernel
theorem dX1_copyFrom_68 : decode cX1_copyFrom 68 = .ok (.aload_n 0, 1) := by decide +kernel
theorem dX1_copyFrom_69 : decode cX1_copyFrom 69 = .ok (.getfield 15, 3) := by decide +kernel
theorem dX1_copyFrom_72 : decode cX1_copyFrom 72 = .ok (.invokestatic 41, 3) := by decide +kernel
theorem dX1_copyFrom_75 : decode cX1_copyFrom 75 = .ok (.return_, 1) := by decide +kernel
theorem dX1_rowAt_0 : decode cX1_rowAt 0 = .ok (.iload_n 1, 1) := by decide +kernel
theorem dX1_rowAt_1 : decode cX1_rowAt 1 = .ok (.ifCond .lt 21, 3) := by decide +kernel
theorem dX1_rowAt_4 : decode cX1_rowAt 4 = .ok (.iload_n 1, 1) := by decide +kernel
theorem dX1_rowAt_5 : decode cX1_rowAt 5 = .ok (.aload_n 0, 1) := by decide +kernel
theorem dX1_rowAt_6 : decode cX1_rowAt 6 = .ok (.getfield 15, 3) := by decide +kernel
theorem dX1_rowAt_9 : decode cX1_rowAt 9 = .ok (.arraylength, 1) := by decide +kernel
theorem dX1_rowAt_10 : decode cX1_rowAt 10 = .ok (.if_icmp .ge 12, 3) := by decide +kernel
theorem dX1_rowAt_13 : decode cX1_rowAt 13 = .ok (.aload_n 0, 1) := by decide +kernel
theorem dX1_rowAt_14 : decode cX1_rowAt 14 = .ok (.getfield 15, 3) := by decide +kernel
theorem dX1_rowAt_17 : decode cX1_rowAt 17 = .ok (.iload_n 1, 1) := by decide +kernel
theorem dX1_rowAt_18 : decode cX1_rowAt 18 = .ok (.iaload, 1) := by decide +kernel
theorem dX1_rowAt_19 : decode cX1_rowAt 19 = .ok (.goto 4, 3) := by decide +kernel
theorem dX1_rowAt_22 : decode cX1_rowAt 22 = .ok (.iconst 0, 1) := by decide +kernel
theorem dX1_rowAt_23 : decode cX1_rowAt 23 = .ok (.ireturn, 1) := by decide +kernel
theorem dX1_setRow_0 : decode cX1_setRow 0 = .ok (.iload_n 1, 1) := by decide +kernel
theorem dX1_setRow_1 : decode cX1_setRow 1 = .ok (.ifCond .lt 19, 3) := by decide +kernel
theorem dX1_setRow_4 : decode cX1_setRow 4 = .ok (.iload_n 1, 1) := by decide +kernel
theorem dX1_setRow_5 : decode cX1_setRow 5 = .ok (.aload_n 0, 1) := by decide +kernel
theorem dX1_setRow_6 : decode cX1_setRow 6 = .ok (.getfield 15, 3) := by decide +kernel
theorem dX1_setRow_9 : decode cX1_setRow 9 = .ok (.arraylength, 1) := by decide +kernel
theorem dX1_setRow_10 : decode cX1_setRow 10 = .ok (.if_icmp .ge 10, 3) := by decide +kernel
theorem dX1_setRow_13 : decode cX1_setRow 13 = .ok (.aload_n 0, 1) := by decide +kernel
theorem dX1_setRow_14 : decode cX1_setRow 14 = .ok (.getfield 15, 3) := by decide +kernel
theorem dX1_setRow_17 : decode cX1_setRow 17 = .ok (.iload_n 1, 1) := by decide +kernel
theorem dX1_setRow_18 : decode cX1_setRow 18 = .ok (.iload_n 2, 1) := by decide +kernel
theorem dX1_setRow_19 : decode cX1_setRow 19 = .ok (.iastore, 1) := by decide +kernel
theorem dX1_setRow_20 : decode cX1_setRow 20 = .ok (.return_, 1) := by decide +kernel
theorem dX1_care_0 : decode cX1_care 0 = .ok (.aload_n 1, 1) := by decide +kernel
theorem dX1_care_1 : decode cX1_care 1 = .ok (.aload_n 0, 1) := by decide +kernel
theorem dX1_care_2 : decode cX1_care 2 = .ok (.iload_n 2, 1) := by decide +kernel
theorem dX1_care_3 : decode cX1_care 3 = .ok (.invokevirtual 45, 3) := by decide +kernel
theorem dX1_care_6 : decode cX1_care 6 = .ok (.istore_n 3, 1) := by decide +kernel
theorem dX1_care_7 : decode cX1_care 7 = .ok (.aload_n 0, 1) := by decide +kernel
theorem dX1_care_8 : decode cX1_care 8 = .ok (.getfield 19, 3) := by decide +kernel
theorem dX1_care_11 : decode cX1_care 11 = .ok (.tableswitch 105 1 6 #[37, 44, 48, 58, 78, 87], 37) := by decide +kernel
theorem dX1_care_48 : decode cX1_care 48 = .ok (.iload_n 3, 1) := by decide +kernel
theorem dX1_care_49 : decode cX1_care 49 = .ok (.aload_n 0, 1) := by decide +kernel
theorem dX1_care_50 : decode cX1_care 50 = .ok (.getfield 22, 3) := by decide +kernel
theorem dX1_care_53 : decode cX1_care 53 = .ok (.iadd, 1) := by decide +kernel
theorem dX1_care_54 : decode cX1_care 54 = .ok (.ireturn, 1) := by decide +kernel
theorem dX1_care_55 : decode cX1_care 55 = .ok (.iload_n 3, 1) := by decide +kernel
theorem dX1_care_56 : decode cX1_care 56 = .ok (.iconst 2, 1) := by decide +kernel
theorem dX1_care_57 : decode cX1_care 57 = .ok (.idiv, 1) := by decide +kernel
theorem dX1_care_58 : decode cX1_care 58 = .ok (.ireturn, 1) := by decide +kernel
theorem dX1_care_59 : decode cX1_care 59 = .ok (.iload_n 3, 1) := by decide +kernel
theorem dX1_care_60 : decode cX1_care 60 = .ok (.aload_n 0, 1) := by decide +kernel
theorem dX1_care_61 : decode cX1_care 61 = .ok (.getfield 32, 3) := by decide +kernel
theorem dX1_care_64 : decode cX1_care 64 = .ok (.bipush 10, 2) := by decide +kernel
theorem dX1_care_66 : decode cX1_care 66 = .ok (.idiv, 1) := by decide +kernel
theorem dX1_care_67 : decode cX1_care 67 = .ok (.isub, 1) := by decide +kernel
theorem dX1_care_68 : decode cX1_care 68 = .ok (.ireturn, 1) := by decide +kernel
theorem dX1_care_69 : decode cX1_care 69 = .ok (.iload_n 2, 1) := by decide +kernel
theorem dX1_care_70 : decode cX1_care 70 = .ok (.bipush 7, 2) := by decide +kernel
theorem dX1_care_72 : decode cX1_care 72 = .ok (.irem, 1) := by decide +kernel
theorem dX1_care_73 : decode cX1_care 73 = .ok (.bipush 6, 2) := by decide +kernel
theorem dX1_care_75 : decode cX1_care 75 = .ok (.if_icmp .ne 7, 3) := by decide +kernel
theorem dX1_care_78 : decode cX1_care 78 = .ok (.iconst 0, 1) := by decide +kernel
theorem dX1_care_79 : decode cX1_care 79 = .ok (.goto 9, 3) := by decide +kernel
theorem dX1_care_82 : decode cX1_care 82 = .ok (.iload_n 3, 1) := by decide +kernel
theorem dX1_care_83 : decode cX1_care 83 = .ok (.aload_n 0, 1) := by decide +kernel
theorem dX1_care_84 : decode cX1_care 84 = .ok (.getfield 22, 3) := by decide +kernel
theorem dX1_care_87 : decode cX1_care 87 = .ok (.iadd, 1) := by decide +kernel
theorem dX1_care_88 : decode cX1_care 88 = .ok (.ireturn, 1) := by decide +kernel
theorem dX1_care_89 : decode cX1_care 89 = .ok (.iload_n 3, 1) := by decide +kernel
theorem dX1_care_90 : decode cX1_care 90 = .ok (.iconst 2, 1) := by decide +kernel
theorem dX1_care_91 : decode cX1_care 91 = .ok (.idiv, 1) := by decide +kernel
theorem dX1_care_92 : decode cX1_care 92 = .ok (.aload_n 0, 1) := by decide +kernel
theorem dX1_care_93 : decode cX1_care 93 = .ok (.getfield 35, 3) := by decide +kernel
theorem dX1_care_96 : decode cX1_care 96 = .ok (.iadd, 1) := by decide +kernel
theorem dX1_care_97 : decode cX1_care 97 = .ok (.ireturn, 1) := by decide +kernel
theorem dX1_care_98 : decode cX1_care 98 = .ok (.iload_n 3, 1) := by decide +kernel
theorem dX1_care_99 : decode cX1_care 99 = .ok (.aload_n 0, 1) := by decide +kernel
theorem dX1_care_100 : decode cX1_care 100 = .ok (.getfield 32, 3) := by decide +kernel
theorem dX1_care_103 : decode cX1_care 103 = .ok (.bipush 10, 2) := by decide +kernel
theorem dX1_care_105 : decode cX1_care 105 = .ok (.idiv, 1) := by decide +kernel
theorem dX1_care_106 : decode cX1_care 106 = .ok (.isub, 1) := by decide +kernel
theorem dX1_care_107 : decode cX1_care 107 = .ok (.aload_n 0, 1) := by decide +kernel
theorem dX1_care_108 : decode cX1_care 108 = .ok (.iload_n 2, 1) := by decide +kernel
theorem dX1_care_109 : decode cX1_care 109 = .ok (.iconst 4, 1) := by decide +kernel
theorem dX1_care_110 : decode cX1_care 110 = .ok (.irem, 1) := by decide +kernel
theorem dX1_care_111 : decode cX1_care 111 = .ok (.invokevirtual 51, 3) := by decide +kernel
theorem dX1_care_114 : decode cX1_care 114 = .ok (.iadd, 1) := by decide +kernel
theorem dX1_care_115 : decode cX1_care 115 = .ok (.ireturn, 1) := by decide +kernel
theorem dX1_care_116 : decode cX1_care 116 = .ok (.iload_n 3, 1) := by decide +kernel
theorem dX1_care_117 : decode cX1_care 117 = .ok (.ireturn, 1) := by decide +kernel
theorem dX1_goMorning_0 : decode cX1_goMorning 0 = .ok (.aload_n 0, 1) := by decide +kernel
theorem dX1_goMorning_1 : decode cX1_goMorning 1 = .ok (.iload_n 1, 1) := by decide +kernel
theorem dX1_goMorning_2 : decode cX1_goMorning 2 = .ok (.iload_n 2, 1) := by decide +kernel
theorem dX1_goMorning_3 : decode cX1_goMorning 3 = .ok (.if_icmp .ge 7, 3) := by decide +kernel
theorem dX1_goMorning_6 : decode cX1_goMorning 6 = .ok (.iconst 1, 1) := by decide +kernel
theorem dX1_goMorning_7 : decode cX1_goMorning 7 = .ok (.goto 4, 3) := by decide +kernel
theorem dX1_goMorning_10 : decode cX1_goMorning 10 = .ok (.iconst 0, 1) := by decide +kernel
theorem dX1_goMorning_11 : decode cX1_goMorning 11 = .ok (.putfield 25, 3) := by decide +kernel
theorem dX1_goMorning_14 : decode cX1_goMorning 14 = .ok (.aload_n 0, 1) := by decide +kernel
theorem dX1_goMorning_15 : decode cX1_goMorning 15 = .ok (.getfield 25, 3) := by decide +kernel
theorem dX1_goMorning_18 : decode cX1_goMorning 18 = .ok (.ifCond .eq 22, 3) := by decide +kernel
theorem dX1_goMorning_21 : decode cX1_goMorning 21 = .ok (.aload_n 0, 1) := by decide +kernel
theorem dX1_goMorning_22 : decode cX1_goMorning 22 = .ok (.bipush 25, 2) := by decide +kernel
theorem dX1_goMorning_24 : decode cX1_goMorning 24 = .ok (.aload_n 0, 1) := by decide +kernel
theorem dX1_goMorning_25 : decode cX1_goMorning 25 = .ok (.getfield 32, 3) := by decide +kernel
theorem dX1_goMorning_28 : decode cX1_goMorning 28 = .ok (.isub, 1) := by decide +kernel
theorem dX1_goMorning_29 : decode cX1_goMorning 29 = .ok (.bipush 99, 2) := by decide +kernel
theorem dX1_goMorning_31 : decode cX1_goMorning 31 = .ok (.invokestatic 55, 3) := by decide +kernel
theorem dX1_goMorning_34 : decode cX1_goMorning 34 = .ok (.putfield 29, 3) := by decide +kernel
theorem dX1_goMorning_37 : decode cX1_goMorning 37 = .ok (.goto 42, 3) := by decide +kernel
theorem dX1_goMorning_40 : decode cX1_goMorning 40 = .ok (.aload_n 0, 1) := by decide +kernel
theorem dX1_goMorning_41 : decode cX1_goMorning 41 = .ok (.bipush 50, 2) := by decide +kernel
theorem dX1_goMorning_43 : decode cX1_goMorning 43 = .ok (.iconst 2, 1) := by decide +kernel
theorem dX1_goMorning_44 : decode cX1_goMorning 44 = .ok (.aload_n 0, 1) := by decide +kernel
theorem dX1_goMorning_45 : decode cX1_goMorning 45 = .ok (.getfield 32, 3) := by decide +kernel
theorem dX1_goMorning_48 : decode cX1_goMorning 48 = .ok (.imul, 1) := by decide +kernel
theorem dX1_goMorning_49 : decode cX1_goMorning 49 = .ok (.isub, 1) := by decide +kernel
theorem dX1_goMorning_50 : decode cX1_goMorning 50 = .ok (.iconst 4, 1) := by decide +kernel
theorem dX1_goMorning_51 : decode cX1_goMorning 51 = .ok (.aload_n 0, 1) := by decide +kernel
theorem dX1_goMorning_52 : decode cX1_goMorning 52 = .ok (.getfield 35, 3) := by decide +kernel
theorem dX1_goMorning_55 : decode cX1_goMorning 55 = .ok (.imul, 1) := by decide +kernel
theorem dX1_goMorning_56 : decode cX1_goMorning 56 = .ok (.iadd, 1) := by decide +kernel
theorem dX1_goMorning_57 : decode cX1_goMorning 57 = .ok (.bipush 99, 2) := by decide +kernel
theorem dX1_goMorning_59 : decode cX1_goMorning 59 = .ok (.invokestatic 55, 3) := by decide +kernel
theorem dX1_goMorning_62 : decode cX1_goMorning 62 = .ok (.putfield 29, 3) := by decide +kernel
theorem dX1_goMorning_65 : decode cX1_goMorning 65 = .ok (.aload_n 0, 1) := by decide +kernel
theorem dX1_goMorning_66 : decode cX1_goMorning 66 = .ok (.iconst 0, 1) := by decide +kernel
theorem dX1_goMorning_67 : decode cX1_goMorning 67 = .ok (.aload_n 0, 1) := by decide +kernel
theorem dX1_goMorning_68 : decode cX1_goMorning 68 = .ok (.getfield 35, 3) := by decide +kernel
theorem dX1_goMorning_71 : decode cX1_goMorning 71 = .ok (.iconst 1, 1) := by decide +kernel
theorem dX1_goMorning_72 : decode cX1_goMorning 72 = .ok (.isub, 1) := by decide +kernel
theorem dX1_goMorning_73 : decode cX1_goMorning 73 = .ok (.invokestatic 59, 3) := by decide +kernel
theorem dX1_goMorning_76 : decode cX1_goMorning 76 = .ok (.putfield 35, 3) := by decide +kernel
theorem dX1_goMorning_79 : decode cX1_goMorning 79 = .ok (.aload_n 0, 1) := by decide +kernel
theorem dX1_goMorning_80 : decode cX1_goMorning 80 = .ok (.bipush 99, 2) := by decide +kernel
theorem dX1_goMorning_82 : decode cX1_goMorning 82 = .ok (.aload_n 0, 1) := by decide +kernel
theorem dX1_goMorning_83 : decode cX1_goMorning 83 = .ok (.getfield 32, 3) := by decide +kernel
theorem dX1_goMorning_86 : decode cX1_goMorning 86 = .ok (.iconst 1, 1) := by decide +kernel
theorem dX1_goMorning_87 : decode cX1_goMorning 87 = .ok (.iadd, 1) := by decide +kernel
theorem dX1_goMorning_88 : decode cX1_goMorning 88 = .ok (.invokestatic 64, 3) := by decide +kernel
theorem dX1_goMorning_91 : decode cX1_goMorning 91 = .ok (.putfield 32, 3) := by decide +kernel
theorem dX1_goMorning_94 : decode cX1_goMorning 94 = .ok (.aload_n 0, 1) := by decide +kernel
theorem dX1_goMorning_95 : decode cX1_goMorning 95 = .ok (.iconst 0, 1) := by decide +kernel
theorem dX1_goMorning_96 : decode cX1_goMorning 96 = .ok (.putfield 38, 3) := by decide +kernel
theorem dX1_goMorning_99 : decode cX1_goMorning 99 = .ok (.return_, 1) := by decide +kernel
theorem dX1_beLookedAfter_0 : decode cX1_beLookedAfter 0 = .ok (.aload_n 0, 1) := by decide +kernel
theorem dX1_beLookedAfter_1 : decode cX1_beLookedAfter 1 = .ok (.iconst 0, 1) := by decide +kernel
theorem dX1_beLookedAfter_2 : decode cX1_beLookedAfter 2 = .ok (.putfield 25, 3) := by decide +kernel
theorem dX1_beLookedAfter_5 : decode cX1_beLookedAfter 5 = .ok (.aload_n 0, 1) := by decide +kernel
theorem dX1_beLookedAfter_6 : decode cX1_beLookedAfter 6 = .ok (.bipush 90, 2) := by decide +kernel
theorem dX1_beLookedAfter_8 : decode cX1_beLookedAfter 8 = .ok (.bipush 10, 2) := by decide +kernel
theorem dX1_beLookedAfter_10 : decode cX1_beLookedAfter 10 = .ok (.aload_n 0, 1) := by decide +kernel
theorem dX1_beLookedAfter_11 : decode cX1_beLookedAfter 11 = .ok (.getfield 38, 3) := by decide +kernel
theorem dX1_beLookedAfter_14 : decode cX1_beLookedAfter 14 = .ok (.imul, 1) := by decide +kernel
theorem dX1_beLookedAfter_15 : decode cX1_beLookedAfter 15 = .ok (.isub, 1) := by decide +kernel
theorem dX1_beLookedAfter_16 : decode cX1_beLookedAfter 16 = .ok (.bipush 99, 2) := by decide +kernel
theorem dX1_beLookedAfter_18 : decode cX1_beLookedAfter 18 = .ok (.invokestatic 55, 3) := by decide +kernel
theorem dX1_beLookedAfter_21 : decode cX1_beLookedAfter 21 = .ok (.putfield 29, 3) := by decide +kernel
theorem dX1_beLookedAfter_24 : decode cX1_beLookedAfter 24 = .ok (.aload_n 0, 1) := by decide +kernel
theorem dX1_beLookedAfter_25 : decode cX1_beLookedAfter 25 = .ok (.bipush 9, 2) := by decide +kernel
theorem dX1_beLookedAfter_27 : decode cX1_beLookedAfter 27 = .ok (.aload_n 0, 1) := by decide +kernel
theorem dX1_beLookedAfter_28 : decode cX1_beLookedAfter 28 = .ok (.getfield 38, 3) := by decide +kernel
theorem dX1_beLookedAfter_31 : decode cX1_beLookedAfter 31 = .ok (.iconst 1, 1) := by decide +kernel
theorem dX1_beLookedAfter_32 : decode cX1_beLookedAfter 32 = .ok (.iadd, 1) := by decide +kernel
theorem dX1_beLookedAfter_33 : decode cX1_beLookedAfter 33 = .ok (.invokestatic 64, 3) := by decide +kernel
theorem dX1_beLookedAfter_36 : decode cX1_beLookedAfter 36 = .ok (.putfield 38, 3) := by decide +kernel
theorem dX1_beLookedAfter_39 : decode cX1_beLookedAfter 39 = .ok (.aload_n 0, 1) := by decide +kernel
theorem dX1_beLookedAfter_40 : decode cX1_beLookedAfter 40 = .ok (.bipush 99, 2) := by decide +kernel
theorem dX1_beLookedAfter_42 : decode cX1_beLookedAfter 42 = .ok (.aload_n 0, 1) := by decide +kernel
theorem dX1_beLookedAfter_43 : decode cX1_beLookedAfter 43 = .ok (.getfield 32, 3) := by decide +kernel
theorem dX1_beLookedAfter_46 : decode cX1_beLookedAfter 46 = .ok (.iconst 2, 1) := by decide +kernel
theorem dX1_beLookedAfter_47 : decode cX1_beLookedAfter 47 = .ok (.iadd, 1) := by decide +kernel
theorem dX1_beLookedAfter_48 : decode cX1_beLookedAfter 48 = .ok (.invokestatic 64, 3) := by decide +kernel
theorem dX1_beLookedAfter_51 : decode cX1_beLookedAfter 51 = .ok (.putfield 32, 3) := by decide +kernel
theorem dX1_beLookedAfter_54 : decode cX1_beLookedAfter 54 = .ok (.return_, 1) := by decide +kernel
theorem dX1_doubtAt_0 : decode cX1_doubtAt 0 = .ok (.iload_n 2, 1) := by decide +kernel
theorem dX1_doubtAt_1 : decode cX1_doubtAt 1 = .ok (.iload_n 1, 1) := by decide +kernel
theorem dX1_doubtAt_2 : decode cX1_doubtAt 2 = .ok (.imul, 1) := by decide +kernel
theorem dX1_doubtAt_3 : decode cX1_doubtAt 3 = .ok (.aload_n 0, 1) := by decide +kernel
theorem dX1_doubtAt_4 : decode cX1_doubtAt 4 = .ok (.getfield 29, 3) := by decide +kernel
theorem dX1_doubtAt_7 : decode cX1_doubtAt 7 = .ok (.isub, 1) := by decide +kernel
theorem dX1_doubtAt_8 : decode cX1_doubtAt 8 = .ok (.ireturn, 1) := by decide +kernel
theorem dX1_yardBack_0 : decode cX1_yardBack 0 = .ok (.iconst 0, 1) := by decide +kernel
theorem dX1_yardBack_1 : decode cX1_yardBack 1 = .ok (.istore_n 2, 1) := by decide +kernel
theorem dX1_yardBack_2 : decode cX1_yardBack 2 = .ok (.iload_n 2, 1) := by decide +kernel
theorem dX1_yardBack_3 : decode cX1_yardBack 3 = .ok (.bipush 60, 2) := by decide +kernel
theorem dX1_yardBack_5 : decode cX1_yardBack 5 = .ok (.if_icmp .gt 20, 3) := by decide +kernel
theorem dX1_yardBack_8 : decode cX1_yardBack 8 = .ok (.aload_n 0, 1) := by decide +kernel
theorem dX1_yardBack_9 : decode cX1_yardBack 9 = .ok (.iload_n 2, 1) := by decide +kernel
theorem dX1_yardBack_10 : decode cX1_yardBack 10 = .ok (.iload_n 1, 1) := by decide +kernel
theorem dX1_yardBack_11 : decode cX1_yardBack 11 = .ok (.invokevirtual 67, 3) := by decide +kernel
theorem dX1_yardBack_14 : decode cX1_yardBack 14 = .ok (.ifCond .le 5, 3) := by decide +kernel
theorem dX1_yardBack_17 : decode cX1_yardBack 17 = .ok (.iload_n 2, 1) := by decide +kernel
theorem dX1_yardBack_18 : decode cX1_yardBack 18 = .ok (.ireturn, 1) := by decide +kernel
theorem dX1_yardBack_19 : decode cX1_yardBack 19 = .ok (.iinc 2 1, 3) := by decide +kernel
theorem dX1_yardBack_22 : decode cX1_yardBack 22 = .ok (.goto (-20), 3) := by decide +kernel
theorem dX1_yardBack_25 : decode cX1_yardBack 25 = .ok (.bipush (-5), 2) := by decide +kernel
theorem dX1_yardBack_27 : decode cX1_yardBack 27 = .ok (.ireturn, 1) := by decide +kernel
theorem dX2_init_0 : decode cX2_init 0 = .ok (.aload_n 0, 1) := by decide +kernel
theorem dX2_init_1 : decode cX2_init 1 = .ok (.invokespecial 3, 3) := by decide +kernel
theorem dX2_init_4 : decode cX2_init 4 = .ok (.aload_n 0, 1) := by decide +kernel
theorem dX2_init_5 : decode cX2_init 5 = .ok (.bipush 10, 2) := by decide +kernel
theorem dX2_init_7 : decode cX2_init 7 = .ok (.newarray .int, 2) := by decide +kernel
theorem dX2_init_9 : decode cX2_init 9 = .ok (.putfield 9, 3) := by decide +kernel
theorem dX2_init_12 : decode cX2_init 12 = .ok (.aload_n 0, 1) := by decide +kernel
theorem dX2_init_13 : decode cX2_init 13 = .ok (.bipush 10, 2) := by decide +kernel
theorem dX2_init_15 : decode cX2_init 15 = .ok (.newarray .int, 2) := by decide +kernel
theorem dX2_init_17 : decode cX2_init 17 = .ok (.putfield 15, 3) := by decide +kernel
theorem dX2_init_20 : decode cX2_init 20 = .ok (.aload_n 0, 1) := by decide +kernel
theorem dX2_init_21 : decode cX2_init 21 = .ok (.bipush 100, 2) := by decide +kernel
theorem dX2_init_23 : decode cX2_init 23 = .ok (.newarray .int, 2) := by decide +kernel
theorem dX2_init_25 : decode cX2_init 25 = .ok (.putfield 18, 3) := by decide +kernel
theorem dX2_init_28 : decode cX2_init 28 = .ok (.aload_n 0, 1) := by decide +kernel
theorem dX2_init_29 : decode cX2_init 29 = .ok (.iconst 2, 1) := by decide +kernel
theorem dX2_init_30 : decode cX2_init 30 = .ok (.putfield 21, 3) := by decide +kernel
theorem dX2_init_33 : decode cX2_init 33 = .ok (.return_, 1) := by decide +kernel
theorem dX2_clear_0 : decode cX2_clear 0 = .ok (.aload_n 0, 1) := by decide +kernel
theorem dX2_clear_1 : decode cX2_clear 1 = .ok (.iconst 2, 1) := by decide +kernel
theorem dX2_clear_2 : decode cX2_clear 2 = .ok (.putfield 21, 3) := by decide +kernel
theorem dX2_clear_5 : decode cX2_clear 5 = .ok (.aload_n 0, 1) := by decide +kernel
theorem dX2_clear_6 : decode cX2_clear 6 = .ok (.iconst 0, 1) := by decide +kernel
theorem dX2_clear_7 : decode cX2_clear 7 = .ok (.putfield 25, 3) := by decide +kernel
theorem dX2_clear_10 : decode cX2_clear 10 = .ok (.aload_n 0, 1) := by decide +kernel
theorem dX2_clear_11 : decode cX2_clear 11 = .ok (.iconst 0, 1) := by decide +kernel
theorem dX2_clear_12 : decode cX2_clear 12 = .ok (.putfield 28, 3) := by decide +kernel
theorem dX2_clear_15 : decode cX2_clear 15 = .ok (.return_, 1) := by decide +kernel
theorem dX2_copyFrom_0 : decode cX2_copyFrom 0 = .ok (.aload_n 0, 1) := by decide +kernel
theorem dX2_copyFrom_1 : decode cX2_copyFrom 1 = .ok (.aload_n 1, 1) := by decide +kernel
theorem dX2_copyFrom_2 : decode cX2_copyFrom 2 = .ok (.getfield 21, 3) := by decide +kernel
theorem dX2_copyFrom_5 : decode cX2_copyFrom 5 = .ok (.putfield 21, 3) := by decide +kernel
theorem dX2_copyFrom_8 : decode cX2_copyFrom 8 = .ok (.aload_n 0, 1) := by decide +kernel
theorem dX2_copyFrom_9 : decode cX2_copyFrom 9 = .ok (.aload_n 1, 1) := by decide +kernel
theorem dX2_copyFrom_10 : decode cX2_copyFrom 10 = .ok (.getfield 25, 3) := by decide +kernel
theorem dX2_copyFrom_13 : decode cX2_copyFrom 13 = .ok (.putfield 25, 3) := by decide +kernel
theorem dX2_copyFrom_16 : decode cX2_copyFrom 16 = .ok (.aload_n 0, 1) := by decide +kernel
theorem dX2_copyFrom_17 : decode cX2_copyFrom 17 = .ok (.aload_n 1, 1) := by decide +kernel
theorem dX2_copyFrom_18 : decode cX2_copyFrom 18 = .ok (.getfield 28, 3) := by decide +kernel
theorem dX2_copyFrom_21 : decode cX2_copyFrom 21 = .ok (.putfield 28, 3) := by decide +kernel
theorem dX2_copyFrom_24 : decode cX2_copyFrom 24 = .ok (.aload_n 1, 1) := by decide +kernel
theorem dX2_copyFrom_25 : decode cX2_copyFrom 25 = .ok (.getfield 9, 3) := by decide +kernel
theorem dX2_copyFrom_28 : decode cX2_copyFrom 28 = .ok (.aload_n 0, 1) := by decide +kernel
theorem dX2_copyFrom_29 : decode cX2_copyFrom 29 = .ok (.getfield 9, 3) := by decide +kernel
theorem dX2_copyFrom_32 : decode cX2_copyFrom 32 = .ok (.invokestatic 31, 3) := by decide +kernel
theorem dX2_copyFrom_35 : decode cX2_copyFrom 35 = .ok (.aload_n 1, 1) := by decide +kernel
theorem dX2_copyFrom_36 : decode cX2_copyFrom 36 = .ok (.getfield 15, 3) := by decide +kernel
theorem dX2_copyFrom_39 : decode cX2_copyFrom 39 = .ok (.aload_n 0, 1) := by decide +kernel
theorem dX2_copyFrom_40 : decode cX2_copyFrom 40 = .ok (.getfield 15, 3) := by decide +kernel
theorem dX2_copyFrom_43 : decode cX2_copyFrom 43 = .ok (.invokestatic 31, 3) := by decide +kernel
theorem dX2_copyFrom_46 : decode cX2_copyFrom 46 = .ok (.aload_n 1, 1) := by decide +kernel
theorem dX2_copyFrom_47 : decode cX2_copyFrom 47 = .ok (.getfield 18, 3) := by decide +kernel
theorem dX2_copyFrom_50 : decode cX2_copyFrom 50 = .ok (.aload_n 0, 1) := by decide +kernel
theorem dX2_copyFrom_51 : decode cX2_copyFrom 51 = .ok (.getfield 18, 3) := by decide +kernel
theorem dX2_copyFrom_54 : decode cX2_copyFrom 54 = .ok (.invokestatic 31, 3) := by decide +kernel
theorem dX2_copyFrom_57 : decode cX2_copyFrom 57 = .ok (.return_, 1) := by decide +kernel
theorem dX2_addStep_0 : decode cX2_addStep 0 = .ok (.aload_n 0, 1) := by decide +kernel
theorem dX2_addStep_1 : decode cX2_addStep 1 = .ok (.getfield 28, 3) := by decide +kernel
theorem dX2_addStep_4 : decode cX2_addStep 4 = .ok (.ifCond .lt 15, 3) := by decide +kernel
theorem dX2_addStep_7 : decode cX2_addStep 7 = .ok (.aload_n 0, 1) := by decide +kernel
theorem dX2_addStep_8 : decode cX2_addStep 8 = .ok (.getfield 28, 3) := by decide +kernel
theorem dX2_addStep_11 : decode cX2_addStep 11 = .ok (.aload_n 0, 1) := by decide +kernel
theorem dX2_addStep_12 : decode cX2_addStep 12 = .ok (.getfield 18, 3) := by decide +kernel
theorem dX2_addStep_15 : decode cX2_addStep 15 = .ok (.arraylength, 1) := by decide +kernel
theorem dX2_addStep_16 : decode cX2_addStep 16 = .ok (.if_icmp .lt 4, 3) := by decide +kernel
theorem dX2_addStep_19 : decode cX2_addStep 19 = .ok (.return_, 1) := by decide +kernel
theorem dX2_addStep_20 : decode cX2_addStep 20 = .ok (.aload_n 0, 1) := by decide +kernel
theorem dX2_addStep_21 : decode cX2_addStep 21 = .ok (.getfield 18, 3) := by decide +kernel
theorem dX2_addStep_24 : decode cX2_addStep 24 = .ok (.aload_n 0, 1) := by decide +kernel
theorem dX2_addStep_25 : decode cX2_addStep 25 = .ok (.getfield 28, 3) := by decide +kernel
theorem dX2_addStep_28 : decode cX2_addStep 28 = .ok (.iload_n 1, 1) := by decide +kernel
theorem dX2_addStep_29 : decode cX2_addStep 29 = .ok (.iastore, 1) := by decide +kernel
theorem dX2_addStep_30 : decode cX2_addStep 30 = .ok (.aload_n 0, 1) := by decide +kernel
theorem dX2_addStep_31 : decode cX2_addStep 31 = .ok (.dup, 1) := by decide +kernel
theorem dX2_addStep_32 : decode cX2_addStep 32 = .ok (.getfield 28, 3) := by decide +kernel
theorem dX2_addStep_35 : decode cX2_addStep 35 = .ok (.iconst 1, 1) := by decide +kernel
theorem dX2_addStep_36 : decode cX2_addStep 36 = .ok (.iadd, 1) := by decide +kernel
theorem dX2_addStep_37 : decode cX2_addStep 37 = .ok (.putfield 28, 3) := by decide +kernel
theorem dX2_addStep_40 : decode cX2_addStep 40 = .ok (.return_, 1) := by decide +kernel
theorem dX2_addTest_0 : decode cX2_addTest 0 = .ok (.aload_n 0, 1) := by decide +kernel
theorem dX2_addTest_1 : decode cX2_addTest 1 = .ok (.iload_n 1, 1) := by decide +kernel
theorem dX2_addTest_2 : decode cX2_addTest 2 = .ok (.iload_n 2, 1) := by decide +kernel
theorem dX2_addTest_3 : decode cX2_addTest 3 = .ok (.iconst 4, 1) := by decide +kernel
theorem dX2_addTest_4 : decode cX2_addTest 4 = .ok (.ishl, 1) := by decide +kernel
theorem dX2_addTest_5 : decode cX2_addTest 5 = .ok (.ior, 1) := by decide +kernel
theorem dX2_addTest_6 : decode cX2_addTest 6 = .ok (.iload_n 3, 1) := by decide +kernel
theorem dX2_addTest_7 : decode cX2_addTest 7 = .ok (.bipush 8, 2) := by decide +kernel
theorem dX2_addTest_9 : decode cX2_addTest 9 = .ok (.ishl, 1) := by decide +kernel
theorem dX2_addTest_10 : decode cX2_addTest 10 = .ok (.ior, 1) := by decide +kernel
theorem dX2_addTest_11 : decode cX2_addTest 11 = .ok (.invokevirtual 35, 3) := by decide +kernel
theorem dX2_addTest_14 : decode cX2_addTest 14 = .ok (.return_, 1) := by decide +kernel
theorem dX2_endClause_0 : decode cX2_endClause 0 = .ok (.aload_n 0, 1) := by decide +kernel
theorem dX2_endClause_1 : decode cX2_endClause 1 = .ok (.getfield 25, 3) := by decide +kernel
theorem dX2_endClause_4 : decode cX2_endClause 4 = .ok (.ifCond .lt 27, 3) := by decide +kernel
theorem dX2_endClause_7 : decode cX2_endClause 7 = .ok (.aload_n 0, 1) := by decide +kernel
theorem dX2_endClause_8 : decode cX2_endClause 8 = .ok (.getfield 25, 3) := by decide +kernel
theorem dX2_endClause_11 : decode cX2_endClause 11 = .ok (.aload_n 0, 1) := by decide +kernel
theorem dX2_endClause_12 : decode cX2_endClause 12 = .ok (.getfield 9, 3) := by decide +kernel
theorem dX2_endClause_15 : decode cX2_endClause 15 = .ok (.arraylength, 1) := by decide +kernel
theorem dX2_endClause_16 : decode cX2_endClause 16 = .ok (.if_icmp .ge 15, 3) := by decide +kernel
theorem dX2_endClause_19 : decode cX2_endClause 19 = .ok (.aload_n 0, 1) := by decide +kernel
theorem dX2_endClause_20 : decode cX2_endClause 20 = .ok (.getfield 25, 3) := by decide +kernel
theorem dX2_endClause_23 : decode cX2_endClause 23 = .ok (.aload_n 0, 1) := by decide +kernel
theorem dX2_endClause_24 : decode cX2_endClause 24 = .ok (.getfield 15, 3) := by decide +kernel
theorem dX2_endClause_27 : decode cX2_endClause 27 = .ok (.arraylength, 1) := by decide +kernel
theorem dX2_endClause_28 : decode cX2_endClause 28 = .ok (.if_icmp .lt 4, 3) := by decide +kernel
theorem dX2_endClause_31 : decode cX2_endClause 31 = .ok (.return_, 1) := by decide +kernel
theorem dX2_endClause_32 : decode cX2_endClause 32 = .ok (.aload_n 0, 1) := by decide +kernel
theorem dX2_endClause_33 : decode cX2_endClause 33 = .ok (.getfield 9, 3) := by decide +kernel
theorem dX2_endClause_36 : decode cX2_endClause 36 = .ok (.aload_n 0, 1) := by decide +kernel
theorem dX2_endClause_37 : decode cX2_endClause 37 = .ok (.getfield 25, 3) := by decide +kernel
theorem dX2_endClause_40 : decode cX2_endClause 40 = .ok (.iload_n 1, 1) := by decide +kernel
theorem dX2_endClause_41 : decode cX2_endClause 41 = .ok (.iastore, 1) := by decide +kernel
theorem dX2_endClause_42 : decode cX2_endClause 42 = .ok (.aload_n 0, 1) := by decide +kernel
theorem dX2_endClause_43 : decode cX2_endClause 43 = .ok (.getfield 15, 3) := by decide +kernel
theorem dX2_endClause_46 : decode cX2_endClause 46 = .ok (.aload_n 0, 1) := by decide +kernel
theorem dX2_endClause_47 : decode cX2_endClause 47 = .ok (.getfield 25, 3) := by decide +kernel
theorem dX2_endClause_50 : decode cX2_endClause 50 = .ok (.aload_n 0, 1) := by decide +kernel
theorem dX2_endClause_51 : decode cX2_endClause 51 = .ok (.getfield 28, 3) := by decide +kernel
theorem dX2_endClause_54 : decode cX2_endClause 54 = .ok (.iastore, 1) := by decide +kernel
theorem dX2_endClause_55 : decode cX2_endClause 55 = .ok (.aload_n 0, 1) := by decide +kernel
theorem dX2_endClause_56 : decode cX2_endClause 56 = .ok (.dup, 1) := by decide +kernel
theorem dX2_endClause_57 : decode cX2_endClause 57 = .ok (.getfield 25, 3) := by decide +kernel
theorem dX2_endClause_60 : decode cX2_endClause 60 = .ok (.iconst 1, 1) := by decide +kernel
theorem dX2_endClause_61 : decode cX2_endClause 61 = .ok (.iadd, 1) := by decide +kernel
theorem dX2_endClause_62 : decode cX2_endClause 62 = .ok (.putfield 25, 3) := by decide +kernel
theorem dX2_endClause_65 : decode cX2_endClause 65 = .ok (.return_, 1) := by decide +kernel
theorem dX2_sumOf_0 : decode cX2_sumOf 0 = .ok (.bipush 8, 2) := by decide +kernel
theorem dX2_sumOf_2 : decode cX2_sumOf 2 = .ok (.istore_n 3, 1) := by decide +kernel
theorem dX2_sumOf_3 : decode cX2_sumOf 3 = .ok (.iconst 0, 1) := by decide +kernel
theorem dX2_sumOf_4 : decode cX2_sumOf 4 = .ok (.istore 4, 2) := by decide +kernel
theorem dX2_sumOf_6 : decode cX2_sumOf 6 = .ok (.iconst 0, 1) := by decide +kernel
theorem dX2_sumOf_7 : decode cX2_sumOf 7 = .ok (.istore 5, 2) := by decide +kernel
theorem dX2_sumOf_9 : decode cX2_sumOf 9 = .ok (.iload 5, 2) := by decide +kernel
theorem dX2_sumOf_11 : decode cX2_sumOf 11 = .ok (.aload_n 0, 1) := by decide +kernel
theorem dX2_sumOf_12 : decode cX2_sumOf 12 = .ok (.getfield 25, 3) := by decide +kernel
theorem dX2_sumOf_15 : decode cX2_sumOf 15 = .ok (.if_icmp .ge 66, 3) := by decide +kernel
theorem dX2_sumOf_18 : decode cX2_sumOf 18 = .ok (.iload 5, 2) := by decide +kernel
theorem dX2_sumOf_20 : decode cX2_sumOf 20 = .ok (.aload_n 0, 1) := by decide +kernel
theorem dX2_sumOf_21 : decode cX2_sumOf 21 = .ok (.getfield 9, 3) := by decide +kernel
theorem dX2_sumOf_24 : decode cX2_sumOf 24 = .ok (.arraylength, 1) := by decide +kernel
theorem dX2_sumOf_25 : decode cX2_sumOf 25 = .ok (.if_icmp .ge 56, 3) := by decide +kernel
theorem dX2_sumOf_28 : decode cX2_sumOf 28 = .ok (.iload 5, 2) := by decide +kernel
theorem dX2_sumOf_30 : decode cX2_sumOf 30 = .ok (.aload_n 0, 1) := by decide +kernel
theorem dX2_sumOf_31 : decode cX2_sumOf 31 = .ok (.getfield 15, 3) := by decide +kernel
theorem dX2_sumOf_34 : decode cX2_sumOf 34 = .ok (.arraylength, 1) := by decide +kernel
theorem dX2_sumOf_35 : decode cX2_sumOf 35 = .ok (.if_icmp .ge 46, 3) := by decide +kernel
theorem dX2_sumOf_38 : decode cX2_sumOf 38 = .ok (.aload_n 0, 1) := by decide +kernel
theorem dX2_sumOf_39 : decode cX2_sumOf 39 = .ok (.iload 4, 2) := by decide +kernel
theorem dX2_sumOf_41 : decode cX2_sumOf 41 = .ok (.aload_n 0, 1) := by decide +kernel
theorem dX2_sumOf_42 : decode cX2_sumOf 42 = .ok (.getfield 15, 3) := by decide +kernel
theorem dX2_sumOf_45 : decode cX2_sumOf 45 = .ok (.iload 5, 2) := by decide +kernel
theorem dX2_sumOf_47 : decode cX2_sumOf 47 = .ok (.iaload, 1) := by decide +kernel
theorem dX2_sumOf_48 : decode cX2_sumOf 48 = .ok (.aload_n 1, 1) := by decide +kernel
theorem dX2_sumOf_49 : decode cX2_sumOf 49 = .ok (.iload_n 2, 1) := by decide +kernel
theorem dX2_sumOf_50 : decode cX2_sumOf 50 = .ok (.invokevirtual 39, 3) := by decide +kernel
theorem dX2_sumOf_53 : decode cX2_sumOf 53 = .ok (.ifCond .eq 13, 3) := by decide +kernel
theorem dX2_sumOf_56 : decode cX2_sumOf 56 = .ok (.iload_n 3, 1) := by decide +kernel
theorem dX2_sumOf_57 : decode cX2_sumOf 57 = .ok (.aload_n 0, 1) := by decide +kernel
theorem dX2_sumOf_58 : decode cX2_sumOf 58 = .ok (.getfield 9, 3) := by decide +kernel
theorem dX2_sumOf_61 : decode cX2_sumOf 61 = .ok (.iload 5, 2) := by decide +kernel
theorem dX2_sumOf_63 : decode cX2_sumOf 63 = .ok (.iaload, 1) := by decide +kernel
theorem dX2_sumOf_64 : decode cX2_sumOf 64 = .ok (.iadd, 1) := by decide +kernel
theorem dX2_sumOf_65 : decode cX2_sumOf 65 = .ok (.istore_n 3, 1) := by decide +kernel
theorem dX2_sumOf_66 : decode cX2_sumOf 66 = .ok (.aload_n 0, 1) := by decide +kernel
theorem dX2_sumOf_67 : decode cX2_sumOf 67 = .ok (.getfield 15, 3) := by decide +kernel
theorem dX2_sumOf_70 : decode cX2_sumOf 70 = .ok (.iload 5, 2) := by decide +kernel
theorem dX2_sumOf_72 : decode cX2_sumOf 72 = .ok (.iaload, 1) := by decide +kernel
theorem dX2_sumOf_73 : decode cX2_sumOf 73 = .ok (.istore 4, 2) := by decide +kernel
theorem dX2_sumOf_75 : decode cX2_sumOf 75 = .ok (.iinc 5 1, 3) := by decide +kernel
theorem dX2_sumOf_78 : decode cX2_sumOf 78 = .ok (.goto (-69), 3) := by decide +kernel
theorem dX2_sumOf_81 : decode cX2_sumOf 81 = .ok (.iload_n 3, 1) := by decide +kernel
theorem dX2_sumOf_82 : decode cX2_sumOf 82 = .ok (.ireturn, 1) := by decide +kernel
theorem dX2_holds_0 : decode cX2_holds 0 = .ok (.iconst 0, 1) := by decide +kernel
theorem dX2_holds_1 : decode cX2_holds 1 = .ok (.istore 5, 2) := by decide +kernel
theorem dX2_holds_3 : decode cX2_holds 3 = .ok (.iconst 0, 1) := by decide +kernel
theorem dX2_holds_4 : decode cX2_holds 4 = .ok (.iload_n 1, 1) := by decide +kernel
theorem dX2_holds_5 : decode cX2_holds 5 = .ok (.invokestatic 43, 3) := by decide +kernel
theorem dX2_holds_8 : decode cX2_holds 8 = .ok (.istore 6, 2) := by decide +kernel
theorem dX2_holds_10 : decode cX2_holds 10 = .ok (.iload 6, 2) := by decide +kernel
theorem dX2_holds_12 : decode cX2_holds 12 = .ok (.iload_n 2, 1) := by decide +kernel
theorem dX2_holds_13 : decode cX2_holds 13 = .ok (.if_icmp .ge 110, 3) := by decide +kernel
theorem dX2_holds_16 : decode cX2_holds 16 = .ok (.iload 6, 2) := by decide +kernel
theorem dX2_holds_18 : decode cX2_holds 18 = .ok (.aload_n 0, 1) := by decide +kernel
theorem dX2_holds_19 : decode cX2_holds 19 = .ok (.getfield 18, 3) := by decide +kernel
theorem dX2_holds_22 : decode cX2_holds 22 = .ok (.arraylength, 1) := by decide +kernel
theorem dX2_holds_23 : decode cX2_holds 23 = .ok (.if_icmp .ge 100, 3) := by decide +kernel
theorem dX2_holds_26 : decode cX2_holds 26 = .ok (.aload_n 0, 1) := by decide +kernel
theorem dX2_holds_27 : decode cX2_holds 27 = .ok (.getfield 18, 3) := by decide +kernel
theorem dX2_holds_30 : decode cX2_holds 30 = .ok (.iload 6, 2) := by decide +kernel
theorem dX2_holds_32 : decode cX2_holds 32 = .ok (.iaload, 1) := by decide +kernel
theorem dX2_holds_33 : decode cX2_holds 33 = .ok (.istore 7, 2) := by decide +kernel
theorem dX2_holds_35 : decode cX2_holds 35 = .ok (.iload 7, 2) := by decide +kernel
theorem dX2_holds_37 : decode cX2_holds 37 = .ok (.bipush 6, 2) := by decide +kernel
theorem dX2_holds_39 : decode cX2_holds 39 = .ok (.if_icmp .ne 12, 3) := by decide +kernel
theorem dX2_holds_42 : decode cX2_holds 42 = .ok (.iload 5, 2) := by decide +kernel
theorem dX2_holds_44 : decode cX2_holds 44 = .ok (.iconst 1, 1) := by decide +kernel
theorem dX2_holds_45 : decode cX2_holds 45 = .ok (.ixor, 1) := by decide +kernel
theorem dX2_holds_46 : decode cX2_holds 46 = .ok (.istore 5, 2) := by decide +kernel
theorem dX2_holds_48 : decode cX2_holds 48 = .ok (.goto 69, 3) := by decide +kernel
theorem dX2_holds_51 : decode cX2_holds 51 = .ok (.iload 7, 2) := by decide +kernel
theorem dX2_holds_53 : decode cX2_holds 53 = .ok (.bipush 7, 2) := by decide +kernel
theorem dX2_holds_55 : decode cX2_holds 55 = .ok (.if_icmp .ne 18, 3) := by decide +kernel
theorem dX2_holds_58 : decode cX2_holds 58 = .ok (.iload 5, 2) := by decide +kernel
theorem dX2_holds_60 : decode cX2_holds 60 = .ok (.iconst 1, 1) := by decide +kernel
theorem dX2_holds_61 : decode cX2_holds 61 = .ok (.ishr, 1) := by decide +kernel
theorem dX2_holds_62 : decode cX2_holds 62 = .ok (.iload 5, 2) := by decide +kernel
theorem dX2_holds_64 : decode cX2_holds 64 = .ok (.bipush (-2), 2) := by decide +kernel
theorem dX2_holds_66 : decode cX2_holds 66 = .ok (.ior, 1) := by decide +kernel
theorem dX2_holds_67 : decode cX2_holds 67 = .ok (.iand, 1) := by decide +kernel
theorem dX2_holds_68 : decode cX2_holds 68 = .ok (.istore 5, 2) := by decide +kernel
theorem dX2_holds_70 : decode cX2_holds 70 = .ok (.goto 47, 3) := by decide +kernel
theorem dX2_holds_73 : decode cX2_holds 73 = .ok (.iload 7, 2) := by decide +kernel
theorem dX2_holds_75 : decode cX2_holds 75 = .ok (.bipush 8, 2) := by decide +kernel
theorem dX2_holds_77 : decode cX2_holds 77 = .ok (.if_icmp .ne 17, 3) := by decide +kernel
theorem dX2_holds_80 : decode cX2_holds 80 = .ok (.iload 5, 2) := by decide +kernel
theorem dX2_holds_82 : decode cX2_holds 82 = .ok (.iconst 1, 1) := by decide +kernel
theorem dX2_holds_83 : decode cX2_holds 83 = .ok (.ishr, 1) := by decide +kernel
theorem dX2_holds_84 : decode cX2_holds 84 = .ok (.iload 5, 2) := by decide +kernel
theorem dX2_holds_86 : decode cX2_holds 86 = .ok (.iconst 1, 1) := by decide +kernel
theorem dX2_holds_87 : decode cX2_holds 87 = .ok (.iand, 1) := by decide +kernel
theorem dX2_holds_88 : decode cX2_holds 88 = .ok (.ior, 1) := by decide +kernel
theorem dX2_holds_89 : decode cX2_holds 89 = .ok (.istore 5, 2) := by decide +kernel
theorem dX2_holds_91 : decode cX2_holds 91 = .ok (.goto 26, 3) := by decide +kernel
theorem dX2_holds_94 : decode cX2_holds 94 = .ok (.iload 5, 2) := by decide +kernel
theorem dX2_holds_96 : decode cX2_holds 96 = .ok (.iconst 1, 1) := by decide +kernel
theorem dX2_holds_97 : decode cX2_holds 97 = .ok (.ishl, 1) := by decide +kernel
theorem dX2_holds_98 : decode cX2_holds 98 = .ok (.iload 7, 2) := by decide +kernel
theorem dX2_holds_100 : decode cX2_holds 100 = .ok (.aload_n 3, 1) := by decide +kernel
theorem dX2_holds_101 : decode cX2_holds 101 = .ok (.iload 4, 2) := by decide +kernel
theorem dX2_holds_103 : decode cX2_holds 103 = .ok (.invokestatic 49, 3) := by decide +kernel
theorem dX2_holds_106 : decode cX2_holds 106 = .ok (.ifCond .eq 7, 3) := by decide +kernel
theorem dX2_holds_109 : decode cX2_holds 109 = .ok (.iconst 1, 1) := by decide +kernel
theorem dX2_holds_110 : decode cX2_holds 110 = .ok (.goto 4, 3) := by decide +kernel
theorem dX2_holds_113 : decode cX2_holds 113 = .ok (.iconst 0, 1) := by decide +kernel
theorem dX2_holds_114 : decode cX2_holds 114 = .ok (.ior, 1) := by decide +kernel
theorem dX2_holds_115 : decode cX2_holds 115 = .ok (.istore 5, 2) := by decide +kernel
theorem dX2_holds_117 : decode cX2_holds 117 = .ok (.iinc 6 1, 3) := by decide +kernel
theorem dX2_holds_120 : decode cX2_holds 120 = .ok (.goto (-110), 3) := by decide +kernel
theorem dX2_holds_123 : decode cX2_holds 123 = .ok (.iload 5, 2) := by decide +kernel
theorem dX2_holds_125 : decode cX2_holds 125 = .ok (.iconst 1, 1) := by decide +kernel
theorem dX2_holds_126 : decode cX2_holds 126 = .ok (.iand, 1) := by decide +kernel
theorem dX2_holds_127 : decode cX2_holds 127 = .ok (.ifCond .eq 7, 3) := by decide +kernel
theorem dX2_holds_130 : decode cX2_holds 130 = .ok (.iconst 1, 1) := by decide +kernel
theorem dX2_holds_131 : decode cX2_holds 131 = .ok (.goto 4, 3) := by decide +kernel
theorem dX2_holds_134 : decode cX2_holds 134 = .ok (.iconst 0, 1) := by decide +kernel
theorem dX2_holds_135 : decode cX2_holds 135 = .ok (.ireturn, 1) := by decide +kernel
theorem dX2_isSo_0 : decode cX2_isSo 0 = .ok (.iload_n 0, 1) := by decide +kernel
theorem dX2_isSo_1 : decode cX2_isSo 1 = .ok (.iconst 4, 1) := by decide +kernel
theorem dX2_isSo_2 : decode cX2_isSo 2 = .ok (.ishr, 1) := by decide +kernel
theorem dX2_isSo_3 : decode cX2_isSo 3 = .ok (.bipush 15, 2) := by decide +kernel
theorem dX2_isSo_5 : decode cX2_isSo 5 = .ok (.iand, 1) := by decide +kernel
theorem dX2_isSo_6 : decode cX2_isSo 6 = .ok (.istore_n 3, 1) := by decide +kernel
theorem dX2_isSo_7 : decode cX2_isSo 7 = .ok (.iload_n 0, 1) := by decide +kernel
theorem dX2_isSo_8 : decode cX2_isSo 8 = .ok (.bipush 8, 2) := by decide +kernel
theorem dX2_isSo_10 : decode cX2_isSo 10 = .ok (.ishr, 1) := by decide +kernel
theorem dX2_isSo_11 : decode cX2_isSo 11 = .ok (.istore 4, 2) := by decide +kernel
theorem dX2_isSo_13 : decode cX2_isSo 13 = .ok (.iload_n 0, 1) := by decide +kernel
theorem dX2_isSo_14 : decode cX2_isSo 14 = .ok (.bipush 15, 2) := by decide +kernel
theorem dX2_isSo_16 : decode cX2_isSo 16 = .ok (.iand, 1) := by decide +kernel
theorem dX2_isSo_17 : decode cX2_isSo 17 = .ok (.aload_n 1, 1) := by decide +kernel
theorem dX2_isSo_18 : decode cX2_isSo 18 = .ok (.iload_n 2, 1) := by decide +kernel
theorem dX2_isSo_19 : decode cX2_isSo 19 = .ok (.invokestatic 53, 3) := by decide +kernel
theorem dX2_isSo_22 : decode cX2_isSo 22 = .ok (.istore 5, 2) := by decide +kernel
theorem dX2_isSo_24 : decode cX2_isSo 24 = .ok (.iload_n 3, 1) := by decide +kernel
theorem dX2_isSo_25 : decode cX2_isSo 25 = .ok (.ifCond .ne 16, 3) := by decide +kernel
theorem dX2_isSo_28 : decode cX2_isSo 28 = .ok (.iload 5, 2) := by decide +kernel
theorem dX2_isSo_30 : decode cX2_isSo 30 = .ok (.iload 4, 2) := by decide +kernel
theorem dX2_isSo_32 : decode cX2_isSo 32 = .ok (.if_icmp .ge 7, 3) := by decide +kernel
theorem dX2_isSo_35 : decode cX2_isSo 35 = .ok (.iconst 1, 1) := by decide +kernel
theorem dX2_isSo_36 : decode cX2_isSo 36 = .ok (.goto 4, 3) := by decide +kernel
theorem dX2_isSo_39 : decode cX2_isSo 39 = .ok (.iconst 0, 1) := by decide +kernel
theorem dX2_isSo_40 : decode cX2_isSo 40 = .ok (.ireturn, 1) := by decide +kernel
theorem dX2_isSo_41 : decode cX2_isSo 41 = .ok (.iload_n 3, 1) := by decide +kernel
theorem dX2_isSo_42 : decode cX2_isSo 42 = .ok (.iconst 1, 1) := by decide +kernel
theorem dX2_isSo_43 : decode cX2_isSo 43 = .ok (.if_icmp .ne 18, 3) := by decide +kernel
theorem dX2_isSo_46 : decode cX2_isSo 46 = .ok (.iload 5, 2) := by decide +kernel
theorem dX2_isSo_48 : decode cX2_isSo 48 = .ok (.iload 4, 2) := by decide +kernel
theorem dX2_isSo_50 : decode cX2_isSo 50 = .ok (.if_icmp .ne 7, 3) := by decide +kernel
theorem dX2_isSo_53 : decode cX2_isSo 53 = .ok (.iconst 1, 1) := by decide +kernel
theorem dX2_isSo_54 : decode cX2_isSo 54 = .ok (.goto 19, 3) := by decide +kernel
theorem dX2_isSo_57 : decode cX2_isSo 57 = .ok (.iconst 0, 1) := by decide +kernel
theorem dX2_isSo_58 : decode cX2_isSo 58 = .ok (.goto 15, 3) := by decide +kernel
theorem dX2_isSo_61 : decode cX2_isSo 61 = .ok (.iload 5, 2) := by decide +kernel
theorem dX2_isSo_63 : decode cX2_isSo 63 = .ok (.iload 4, 2) := by decide +kernel
theorem dX2_isSo_65 : decode cX2_isSo 65 = .ok (.if_icmp .le 7, 3) := by decide +kernel
theorem dX2_isSo_68 : decode cX2_isSo 68 = .ok (.iconst 1, 1) := by decide +kernel
theorem dX2_isSo_69 : decode cX2_isSo 69 = .ok (.goto 4, 3) := by decide +kernel
theorem dX2_isSo_72 : decode cX2_isSo 72 = .ok (.iconst 0, 1) := by decide +kernel
theorem dX2_isSo_73 : decode cX2_isSo 73 = .ok (.ireturn, 1) := by decide +kernel
theorem dX2_measure_0 : decode cX2_measure 0 = .ok (.iload_n 0, 1) := by decide +kernel
theorem dX2_measure_1 : decode cX2_measure 1 = .ok (.tableswitch 63 0 4 #[35, 40, 45, 50, 58], 35) := by decide +kernel
theorem dX2_measure_36 : decode cX2_measure 36 = .ok (.aload_n 1, 1) := by decide +kernel
theorem dX2_measure_37 : decode cX2_measure 37 = .ok (.getfield 57, 3) := by decide +kernel
theorem dX2_measure_40 : decode cX2_measure 40 = .ok (.ireturn, 1) := by decide +kernel
theorem dX2_measure_41 : decode cX2_measure 41 = .ok (.aload_n 1, 1) := by decide +kernel
theorem dX2_measure_42 : decode cX2_measure 42 = .ok (.getfield 62, 3) := by decide +kernel
theorem dX2_measure_45 : decode cX2_measure 45 = .ok (.ireturn, 1) := by decide +kernel
theorem dX2_measure_46 : decode cX2_measure 46 = .ok (.aload_n 1, 1) := by decide +kernel
theorem dX2_measure_47 : decode cX2_measure 47 = .ok (.getfield 65, 3) := by decide +kernel
theorem dX2_measure_50 : decode cX2_measure 50 = .ok (.ireturn, 1) := by decide +kernel
theorem dX2_measure_51 : decode cX2_measure 51 = .ok (.aload_n 1, 1) := by decide +kernel
theorem dX2_measure_52 : decode cX2_measure 52 = .ok (.getfield 68, 3) := by decide +kernel
theorem dX2_measure_55 : decode cX2_measure 55 = .ok (.bipush 10, 2) := by decide +kernel
theorem dX2_measure_57 : decode cX2_measure 57 = .ok (.idiv, 1) := by decide +kernel
theorem dX2_measure_58 : decode cX2_measure 58 = .ok (.ireturn, 1) := by decide +kernel
theorem dX2_measure_59 : decode cX2_measure 59 = .ok (.aload_n 1, 1) := by decide +kernel
theorem dX2_measure_60 : decode cX2_measure 60 = .ok (.getfield 71, 3) := by decide +kernel
theorem dX2_measure_63 : decode cX2_measure 63 = .ok (.ireturn, 1) := by decide +kernel
theorem dX2_measure_64 : decode cX2_measure 64 = .ok (.iload_n 2, 1) := by decide +kernel
theorem dX2_measure_65 : decode cX2_measure 65 = .ok (.bipush 7, 2) := by decide +kernel
theorem dX2_measure_67 : decode cX2_measure 67 = .ok (.irem, 1) := by decide +kernel
theorem dX2_measure_68 : decode cX2_measure 68 = .ok (.ireturn, 1) := by decide +kernel
theorem dX3_init_0 : decode cX3_init 0 = .ok (.aload_n 0, 1) := by decide +kernel
theorem dX3_init_1 : decode cX3_init 1 = .ok (.invokespecial 3, 3) := by decide +kernel
theorem dX3_init_4 : decode cX3_init 4 = .ok (.aload_n 0, 1) := by decide +kernel
theorem dX3_init_5 : decode cX3_init 5 = .ok (.aload_n 1, 1) := by decide +kernel
theorem dX3_init_6 : decode cX3_init 6 = .ok (.putfield 9, 3) := by decide +kernel
theorem dX3_init_9 : decode cX3_init 9 = .ok (.aload_n 0, 1) := by decide +kernel
theorem dX3_init_10 : decode cX3_init 10 = .ok (.aload_n 2, 1) := by decide +kernel
theorem dX3_init_11 : decode cX3_init 11 = .ok (.putfield 15, 3) := by decide +kernel
theorem dX3_init_14 : decode cX3_init 14 = .ok (.return_, 1) := by decide +kernel
theorem dX3_readHouse_0 : decode cX3_readHouse 0 = .ok (.aload_n 0, 1) := by decide +kernel
theorem dX3_readHouse_1 : decode cX3_readHouse 1 = .ok (.getfield 15, 3) := by decide +kernel
theorem dX3_readHouse_4 : decode cX3_readHouse 4 = .ok (.invokevirtual 19, 3) := by decide +kernel
theorem dX3_readHouse_7 : decode cX3_readHouse 7 = .ok (.aload_n 0, 1) := by decide +kernel
theorem dX3_readHouse_8 : decode cX3_readHouse 8 = .ok (.iconst 0, 1) := by decide +kernel
theorem dX3_readHouse_9 : decode cX3_readHouse 9 = .ok (.putfield 24, 3) := by decide +kernel
theorem dX3_readHouse_12 : decode cX3_readHouse 12 = .ok (.aload_n 0, 1) := by decide +kernel
theorem dX3_readHouse_13 : decode cX3_readHouse 13 = .ok (.iconst (-1), 1) := by decide +kernel
theorem dX3_readHouse_14 : decode cX3_readHouse 14 = .ok (.putfield 28, 3) := by decide +kernel
theorem dX3_readHouse_17 : decode cX3_readHouse 17 = .ok (.iconst 1, 1) := by decide +kernel
theorem dX3_readHouse_18 : decode cX3_readHouse 18 = .ok (.istore_n 1, 1) := by decide +kernel
theorem dX3_readHouse_19 : decode cX3_readHouse 19 = .ok (.iload_n 1, 1) := by decide +kernel
theorem dX3_readHouse_20 : decode cX3_readHouse 20 = .ok (.bipush 10, 2) := by decide +kernel
theorem dX3_readHouse_22 : decode cX3_readHouse 22 = .ok (.if_icmp .gt 69, 3) := by decide +kernel
theorem dX3_readHouse_25 : decode cX3_readHouse 25 = .ok (.aload_n 0, 1) := by decide +kernel
theorem dX3_readHouse_26 : decode cX3_readHouse 26 = .ok (.invokevirtual 31, 3) := by decide +kernel
theorem dX3_readHouse_29 : decode cX3_readHouse 29 = .ok (.aload_n 0, 1) := by decide +kernel
theorem dX3_readHouse_30 : decode cX3_readHouse 30 = .ok (.getfield 28, 3) := by decide +kernel
theorem dX3_readHouse_33 : decode cX3_readHouse 33 = .ok (.ifCond .ge 17, 3) := by decide +kernel
theorem dX3_readHouse_36 : decode cX3_readHouse 36 = .ok (.aload_n 0, 1) := by decide +kernel
theorem dX3_readHouse_37 : decode cX3_readHouse 37 = .ok (.getfield 24, 3) := by decide +kernel
theorem dX3_readHouse_40 : decode cX3_readHouse 40 = .ok (.aload_n 0, 1) := by decide +kernel
theorem dX3_readHouse_41 : decode cX3_readHouse 41 = .ok (.getfield 9, 3) := by decide +kernel
theorem dX3_readHouse_44 : decode cX3_readHouse 44 = .ok (.getfield 34, 3) := by decide +kernel
theorem dX3_readHouse_47 : decode cX3_readHouse 47 = .ok (.if_icmp .lt 8, 3) := by decide +kernel
theorem dX3_readHouse_50 : decode cX3_readHouse 50 = .ok (.aload_n 0, 1) := by decide +kernel
theorem dX3_readHouse_51 : decode cX3_readHouse 51 = .ok (.getfield 28, 3) := by decide +kernel
theorem dX3_readHouse_54 : decode cX3_readHouse 54 = .ok (.ireturn, 1) := by decide +kernel
theorem dX3_readHouse_55 : decode cX3_readHouse 55 = .ok (.aload_n 0, 1) := by decide +kernel
theorem dX3_readHouse_56 : decode cX3_readHouse 56 = .ok (.invokevirtual 39, 3) := by decide +kernel
theorem dX3_readHouse_59 : decode cX3_readHouse 59 = .ok (.bipush 59, 2) := by decide +kernel
theorem dX3_readHouse_61 : decode cX3_readHouse 61 = .ok (.if_icmp .ne 9, 3) := by decide +kernel
theorem dX3_readHouse_64 : decode cX3_readHouse 64 = .ok (.iload_n 1, 1) := by decide +kernel
theorem dX3_readHouse_65 : decode cX3_readHouse 65 = .ok (.bipush 10, 2) := by decide +kernel
theorem dX3_readHouse_67 : decode cX3_readHouse 67 = .ok (.if_icmp .ne 8, 3) := by decide +kernel
theorem dX3_readHouse_70 : decode cX3_readHouse 70 = .ok (.aload_n 0, 1) := by decide +kernel
theorem dX3_readHouse_71 : decode cX3_readHouse 71 = .ok (.getfield 24, 3) := by decide +kernel
theorem dX3_readHouse_74 : decode cX3_readHouse 74 = .ok (.ireturn, 1) := by decide +kernel
theorem dX3_readHouse_75 : decode cX3_readHouse 75 = .ok (.aload_n 0, 1) := by decide +kernel
theorem dX3_readHouse_76 : decode cX3_readHouse 76 = .ok (.dup, 1) := by decide +kernel
theorem dX3_readHouse_77 : decode cX3_readHouse 77 = .ok (.getfield 24, 3) := by decide +kernel
theorem dX3_readHouse_80 : decode cX3_readHouse 80 = .ok (.iconst 1, 1) := by decide +kernel
theorem dX3_readHouse_81 : decode cX3_readHouse 81 = .ok (.iadd, 1) := by decide +kernel
theorem dX3_readHouse_82 : decode cX3_readHouse 82 = .ok (.putfield 24, 3) := by decide +kernel
theorem dX3_readHouse_85 : decode cX3_readHouse 85 = .ok (.iinc 1 1, 3) := by decide +kernel
theorem dX3_readHouse_88 : decode cX3_readHouse 88 = .ok (.goto (-69), 3) := by decide +kernel
theorem dX3_readHouse_91 : decode cX3_readHouse 91 = .ok (.aload_n 0, 1) := by decide +kernel
theorem dX3_readHouse_92 : decode cX3_readHouse 92 = .ok (.getfield 28, 3) := by decide +kernel
theorem dX3_readHouse_95 : decode cX3_readHouse 95 = .ok (.ireturn, 1) := by decide +kernel
theorem dX3_readClause_0 : decode cX3_readClause 0 = .ok (.aload_n 0, 1) := by decide +kernel
theorem dX3_readClause_1 : decode cX3_readClause 1 = .ok (.invokevirtual 43, 3) := by decide +kernel
theorem dX3_readClause_4 : decode cX3_readClause 4 = .ok (.istore_n 1, 1) := by decide +kernel
theorem dX3_readClause_5 : decode cX3_readClause 5 = .ok (.aload_n 0, 1) := by decide +kernel
theorem dX3_readClause_6 : decode cX3_readClause 6 = .ok (.iload_n 1, 1) := by decide +kernel
theorem dX3_readClause_7 : decode cX3_readClause 7 = .ok (.ifCond .ne 8, 3) := by decide +kernel
theorem dX3_readClause_10 : decode cX3_readClause 10 = .ok (.ldc 46, 2) := by decide +kernel
theorem dX3_readClause_12 : decode cX3_readClause 12 = .ok (.goto 15, 3) := by decide +kernel
theorem dX3_readClause_15 : decode cX3_readClause 15 = .ok (.iload_n 1, 1) := by decide +kernel
theorem dX3_readClause_16 : decode cX3_readClause 16 = .ok (.iconst 1, 1) := by decide +kernel
theorem dX3_readClause_17 : decode cX3_readClause 17 = .ok (.if_icmp .ne 8, 3) := by decide +kernel
theorem dX3_readClause_20 : decode cX3_readClause 20 = .ok (.ldc 48, 2) := by decide +kernel
theorem dX3_readClause_22 : decode cX3_readClause 22 = .ok (.goto 5, 3) := by decide +kernel
theorem dX3_readClause_25 : decode cX3_readClause 25 = .ok (.ldc 50, 2) := by decide +kernel
theorem dX3_readClause_27 : decode cX3_readClause 27 = .ok (.invokevirtual 52, 3) := by decide +kernel
theorem dX3_readClause_30 : decode cX3_readClause 30 = .ok (.aload_n 0, 1) := by decide +kernel
theorem dX3_readClause_31 : decode cX3_readClause 31 = .ok (.invokevirtual 56, 3) := by decide +kernel
theorem dX3_readClause_34 : decode cX3_readClause 34 = .ok (.istore_n 2, 1) := by decide +kernel
theorem dX3_readClause_35 : decode cX3_readClause 35 = .ok (.iload_n 1, 1) := by decide +kernel
theorem dX3_readClause_36 : decode cX3_readClause 36 = .ok (.ifCond .ne 12, 3) := by decide +kernel
theorem dX3_readClause_39 : decode cX3_readClause 39 = .ok (.aload_n 0, 1) := by decide +kernel
theorem dX3_readClause_40 : decode cX3_readClause 40 = .ok (.getfield 15, 3) := by decide +kernel
theorem dX3_readClause_43 : decode cX3_readClause 43 = .ok (.iload_n 2, 1) := by decide +kernel
theorem dX3_readClause_44 : decode cX3_readClause 44 = .ok (.putfield 59, 3) := by decide +kernel
theorem dX3_readClause_47 : decode cX3_readClause 47 = .ok (.return_, 1) := by decide +kernel
theorem dX3_readClause_48 : decode cX3_readClause 48 = .ok (.aload_n 0, 1) := by decide +kernel
theorem dX3_readClause_49 : decode cX3_readClause 49 = .ok (.ldc 62, 2) := by decide +kernel
theorem dX3_readClause_51 : decode cX3_readClause 51 = .ok (.invokevirtual 52, 3) := by decide +kernel
theorem dX3_readClause_54 : decode cX3_readClause 54 = .ok (.aload_n 0, 1) := by decide +kernel
theorem dX3_readClause_55 : decode cX3_readClause 55 = .ok (.getfield 28, 3) := by decide +kernel
theorem dX3_readClause_58 : decode cX3_readClause 58 = .ok (.ifCond .ge 8, 3) := by decide +kernel
theorem dX3_readClause_61 : decode cX3_readClause 61 = .ok (.aload_n 0, 1) := by decide +kernel
theorem dX3_readClause_62 : decode cX3_readClause 62 = .ok (.iconst 0, 1) := by decide +kernel
theorem dX3_readClause_63 : decode cX3_readClause 63 = .ok (.invokevirtual 64, 3) := by decide +kernel
theorem dX3_readClause_66 : decode cX3_readClause 66 = .ok (.aload_n 0, 1) := by decide +kernel
theorem dX3_readClause_67 : decode cX3_readClause 67 = .ok (.getfield 15, 3) := by decide +kernel
theorem dX3_readClause_70 : decode cX3_readClause 70 = .ok (.iload_n 1, 1) := by decide +kernel
theorem dX3_readClause_71 : decode cX3_readClause 71 = .ok (.iconst 1, 1) := by decide +kernel
theorem dX3_readClause_72 : decode cX3_readClause 72 = .ok (.if_icmp .ne 7, 3) := by decide +kernel
theorem dX3_readClause_75 : decode cX3_readClause 75 = .ok (.iload_n 2, 1) := by decide +kernel
theorem dX3_readClause_76 : decode cX3_readClause 76 = .ok (.goto 5, 3) := by decide +kernel
theorem dX3_readClause_79 : decode cX3_readClause 79 = .ok (.iload_n 2, 1) := by decide +kernel
theorem dX3_readClause_80 : decode cX3_readClause 80 = .ok (.ineg, 1) := by decide +kernel
theorem dX3_readClause_81 : decode cX3_readClause 81 = .ok (.invokevirtual 68, 3) := by decide +kernel
theorem dX3_readClause_84 : decode cX3_readClause 84 = .ok (.return_, 1) := by decide +kernel
theorem dX3_wordAhead_0 : decode cX3_wordAhead 0 = .ok (.aload_n 0, 1) := by decide +kernel
theorem dX3_wordAhead_1 : decode cX3_wordAhead 1 = .ok (.invokevirtual 39, 3) := by decide +kernel
theorem dX3_wordAhead_4 : decode cX3_wordAhead 4 = .ok (.bipush 104, 2) := by decide +kernel
theorem dX3_wordAhead_6 : decode cX3_wordAhead 6 = .ok (.if_icmp .eq 5, 3) := by decide +kernel
theorem dX3_wordAhead_9 : decode cX3_wordAhead 9 = .ok (.iconst 0, 1) := by decide +kernel
theorem dX3_wordAhead_10 : decode cX3_wordAhead 10 = .ok (.ireturn, 1) := by decide +kernel
theorem dX3_wordAhead_11 : decode cX3_wordAhead 11 = .ok (.aload_n 0, 1) := by decide +kernel
theorem dX3_wordAhead_12 : decode cX3_wordAhead 12 = .ok (.getfield 9, 3) := by decide +kernel
theorem dX3_wordAhead_15 : decode cX3_wordAhead 15 = .ok (.aload_n 0, 1) := by decide +kernel
theorem dX3_wordAhead_16 : decode cX3_wordAhead 16 = .ok (.getfield 24, 3) := by decide +kernel
theorem dX3_wordAhead_19 : decode cX3_wordAhead 19 = .ok (.iconst 1, 1) := by decide +kernel
theorem dX3_wordAhead_20 : decode cX3_wordAhead 20 = .ok (.iadd, 1) := by decide +kernel
theorem dX3_wordAhead_21 : decode cX3_wordAhead 21 = .ok (.invokevirtual 71, 3) := by decide +kernel
theorem dX3_wordAhead_24 : decode cX3_wordAhead 24 = .ok (.bipush 97, 2) := by decide +kernel
theorem dX3_wordAhead_26 : decode cX3_wordAhead 26 = .ok (.if_icmp .ne 7, 3) := by decide +kernel
theorem dX3_wordAhead_29 : decode cX3_wordAhead 29 = .ok (.iconst 2, 1) := by decide +kernel
theorem dX3_wordAhead_30 : decode cX3_wordAhead 30 = .ok (.goto 4, 3) := by decide +kernel
theorem dX3_wordAhead_33 : decode cX3_wordAhead 33 = .ok (.iconst 1, 1) := by decide +kernel
theorem dX3_wordAhead_34 : decode cX3_wordAhead 34 = .ok (.ireturn, 1) := by decide +kernel
theorem dX3_readEither_0 : decode cX3_readEither 0 = .ok (.iconst 0, 1) := by decide +kernel
theorem dX3_readEither_1 : decode cX3_readEither 1 = .ok (.istore_n 2, 1) := by decide +kernel
theorem dX3_readEither_2 : decode cX3_readEither 2 = .ok (.iconst 0, 1) := by decide +kernel
theorem dX3_readEither_3 : decode cX3_readEither 3 = .ok (.istore_n 3, 1) := by decide +kernel
theorem dX3_readEither_4 : decode cX3_readEither 4 = .ok (.iconst 0, 1) := by decide +kernel
theorem dX3_readEither_5 : decode cX3_readEither 5 = .ok (.istore 4, 2) := by decide +kernel
theorem dX3_readEither_7 : decode cX3_readEither 7 = .ok (.iload 4, 2) := by decide +kernel
theorem dX3_readEither_9 : decode cX3_readEither 9 = .ok (.bipush 100, 2) := by decide +kernel
theorem dX3_readEither_11 : decode cX3_readEither 11 = .ok (.if_icmp .gt 97, 3) := by decide +kernel
theorem dX3_readEither_14 : decode cX3_readEither 14 = .ok (.aload_n 0, 1) := by decide +kernel
theorem dX3_readEither_15 : decode cX3_readEither 15 = .ok (.iload_n 1, 1) := by decide +kernel
theorem dX3_readEither_16 : decode cX3_readEither 16 = .ok (.invokevirtual 75, 3) := by decide +kernel
theorem dX3_readEither_19 : decode cX3_readEither 19 = .ok (.aload_n 0, 1) := by decide +kernel
theorem dX3_readEither_20 : decode cX3_readEither 20 = .ok (.getfield 28, 3) := by decide +kernel
theorem dX3_readEither_23 : decode cX3_readEither 23 = .ok (.ifCond .lt 4, 3) := by decide +kernel
theorem dX3_readEither_26 : decode cX3_readEither 26 = .ok (.return_, 1) := by decide +kernel
theorem dX3_readEither_27 : decode cX3_readEither 27 = .ok (.iload_n 2, 1) := by decide +kernel
theorem dX3_readEither_28 : decode cX3_readEither 28 = .ok (.ifCond .eq 12, 3) := by decide +kernel
theorem dX3_readEither_31 : decode cX3_readEither 31 = .ok (.aload_n 0, 1) := by decide +kernel
theorem dX3_readEither_32 : decode cX3_readEither 32 = .ok (.getfield 15, 3) := by decide +kernel
theorem dX3_readEither_35 : decode cX3_readEither 35 = .ok (.bipush 7, 2) := by decide +kernel
theorem dX3_readEither_37 : decode cX3_readEither 37 = .ok (.invokevirtual 78, 3) := by decide +kernel
theorem dX3_readEither_40 : decode cX3_readEither 40 = .ok (.aload_n 0, 1) := by decide +kernel
theorem dX3_readEither_41 : decode cX3_readEither 41 = .ok (.invokevirtual 39, 3) := by decide +kernel
theorem dX3_readEither_44 : decode cX3_readEither 44 = .ok (.bipush 38, 2) := by decide +kernel
theorem dX3_readEither_46 : decode cX3_readEither 46 = .ok (.if_icmp .ne 7, 3) := by decide +kernel
theorem dX3_readEither_49 : decode cX3_readEither 49 = .ok (.iconst 1, 1) := by decide +kernel
theorem dX3_readEither_50 : decode cX3_readEither 50 = .ok (.goto 4, 3) := by decide +kernel
theorem dX3_readEither_53 : decode cX3_readEither 53 = .ok (.iconst 0, 1) := by decide +kernel
theorem dX3_readEither_54 : decode cX3_readEither 54 = .ok (.istore_n 2, 1) := by decide +kernel
theorem dX3_readEither_55 : decode cX3_readEither 55 = .ok (.iload_n 2, 1) := by decide +kernel
theorem dX3_readEither_56 : decode cX3_readEither 56 = .ok (.ifCond .ne 36, 3) := by decide +kernel
theorem dX3_readEither_59 : decode cX3_readEither 59 = .ok (.iload_n 3, 1) := by decide +kernel
theorem dX3_readEither_60 : decode cX3_readEither 60 = .ok (.ifCond .eq 12, 3) := by decide +kernel
theorem dX3_readEither_63 : decode cX3_readEither 63 = .ok (.aload_n 0, 1) := by decide +kernel
theorem dX3_readEither_64 : decode cX3_readEither 64 = .ok (.getfield 15, 3) := by decide +kernel
theorem dX3_readEither_67 : decode cX3_readEither 67 = .ok (.bipush 8, 2) := by decide +kernel
theorem dX3_readEither_69 : decode cX3_readEither 69 = .ok (.invokevirtual 78, 3) := by decide +kernel
theorem dX3_readEither_72 : decode cX3_readEither 72 = .ok (.aload_n 0, 1) := by decide +kernel
theorem dX3_readEither_73 : decode cX3_readEither 73 = .ok (.invokevirtual 39, 3) := by decide +kernel
theorem dX3_readEither_76 : decode cX3_readEither 76 = .ok (.bipush 124, 2) := by decide +kernel
theorem dX3_readEither_78 : decode cX3_readEither 78 = .ok (.if_icmp .ne 7, 3) := by decide +kernel
theorem dX3_readEither_81 : decode cX3_readEither 81 = .ok (.iconst 1, 1) := by decide +kernel
theorem dX3_readEither_82 : decode cX3_readEither 82 = .ok (.goto 4, 3) := by decide +kernel
theorem dX3_readEither_85 : decode cX3_readEither 85 = .ok (.iconst 0, 1) := by decide +kernel
theorem dX3_readEither_86 : decode cX3_readEither 86 = .ok (.istore_n 3, 1) := by decide +kernel
theorem dX3_readEither_87 : decode cX3_readEither 87 = .ok (.iload_n 3, 1) := by decide +kernel
theorem dX3_readEither_88 : decode cX3_readEither 88 = .ok (.ifCond .ne 4, 3) := by decide +kernel
theorem dX3_readEither_91 : decode cX3_readEither 91 = .ok (.return_, 1) := by decide +kernel
theorem dX3_readEither_92 : decode cX3_readEither 92 = .ok (.aload_n 0, 1) := by decide +kernel
theorem dX3_readEither_93 : decode cX3_readEither 93 = .ok (.dup, 1) := by decide +kernel
theorem dX3_readEither_94 : decode cX3_readEither 94 = .ok (.getfield 24, 3) := by decide +kernel
theorem dX3_readEither_97 : decode cX3_readEither 97 = .ok (.iconst 1, 1) := by decide +kernel
theorem dX3_readEither_98 : decode cX3_readEither 98 = .ok (.iadd, 1) := by decide +kernel
theorem dX3_readEither_99 : decode cX3_readEither 99 = .ok (.putfield 24, 3) := by decide +kernel
theorem dX3_readEither_102 : decode cX3_readEither 102 = .ok (.iinc 4 1, 3) := by decide +kernel
theorem dX3_readEither_105 : decode cX3_readEither 105 = .ok (.goto (-98), 3) := by decide +kernel
theorem dX3_readEither_108 : decode cX3_readEither 108 = .ok (.return_, 1) := by decide +kernel
theorem dX3_readFactor_0 : decode cX3_readFactor 0 = .ok (.aload_n 0, 1) := by decide +kernel
theorem dX3_readFactor_1 : decode cX3_readFactor 1 = .ok (.invokevirtual 39, 3) := by decide +kernel
theorem dX3_readFactor_4 : decode cX3_readFactor 4 = .ok (.istore_n 2, 1) := by decide +kernel
theorem dX3_readFactor_5 : decode cX3_readFactor 5 = .ok (.iload_n 2, 1) := by decide +kernel
theorem dX3_readFactor_6 : decode cX3_readFactor 6 = .ok (.bipush 33, 2) := by decide +kernel
theorem dX3_readFactor_8 : decode cX3_readFactor 8 = .ok (.if_icmp .eq 33, 3) := by decide +kernel
theorem dX3_readFactor_11 : decode cX3_readFactor 11 = .ok (.iload_n 2, 1) := by decide +kernel
theorem dX3_readFactor_12 : decode cX3_readFactor 12 = .ok (.bipush 40, 2) := by decide +kernel
theorem dX3_readFactor_14 : decode cX3_readFactor 14 = .ok (.if_icmp .eq 27, 3) := by decide +kernel
theorem dX3_readFactor_17 : decode cX3_readFactor 17 = .ok (.aload_n 0, 1) := by decide +kernel
theorem dX3_readFactor_18 : decode cX3_readFactor 18 = .ok (.getfield 15, 3) := by decide +kernel
theorem dX3_readFactor_21 : decode cX3_readFactor 21 = .ok (.aload_n 0, 1) := by decide +kernel
theorem dX3_readFactor_22 : decode cX3_readFactor 22 = .ok (.ldc 81, 2) := by decide +kernel
theorem dX3_readFactor_24 : decode cX3_readFactor 24 = .ok (.invokevirtual 83, 3) := by decide +kernel
theorem dX3_readFactor_27 : decode cX3_readFactor 27 = .ok (.aload_n 0, 1) := by decide +kernel
theorem dX3_readFactor_28 : decode cX3_readFactor 28 = .ok (.ldc 87, 2) := by decide +kernel
theorem dX3_readFactor_30 : decode cX3_readFactor 30 = .ok (.invokevirtual 83, 3) := by decide +kernel
theorem dX3_readFactor_33 : decode cX3_readFactor 33 = .ok (.aload_n 0, 1) := by decide +kernel
theorem dX3_readFactor_34 : decode cX3_readFactor 34 = .ok (.invokevirtual 56, 3) := by decide +kernel
theorem dX3_readFactor_37 : decode cX3_readFactor 37 = .ok (.invokevirtual 89, 3) := by decide +kernel
theorem dX3_readFactor_40 : decode cX3_readFactor 40 = .ok (.return_, 1) := by decide +kernel
theorem dX3_readFactor_41 : decode cX3_readFactor 41 = .ok (.iload_n 1, 1) := by decide +kernel
theorem dX3_readFactor_42 : decode cX3_readFactor 42 = .ok (.iconst 5, 1) := by decide +kernel
theorem dX3_readFactor_43 : decode cX3_readFactor 43 = .ok (.if_icmp .lt 12, 3) := by decide +kernel
theorem dX3_readFactor_46 : decode cX3_readFactor 46 = .ok (.aload_n 0, 1) := by decide +kernel
theorem dX3_readFactor_47 : decode cX3_readFactor 47 = .ok (.aload_n 0, 1) := by decide +kernel
theorem dX3_readFactor_48 : decode cX3_readFactor 48 = .ok (.getfield 24, 3) := by decide +kernel
theorem dX3_readFactor_51 : decode cX3_readFactor 51 = .ok (.putfield 28, 3) := by decide +kernel
theorem dX3_readFactor_54 : decode cX3_readFactor 54 = .ok (.return_, 1) := by decide +kernel
theorem dX3_readFactor_55 : decode cX3_readFactor 55 = .ok (.aload_n 0, 1) := by decide +kernel
theorem dX3_readFactor_56 : decode cX3_readFactor 56 = .ok (.dup, 1) := by decide +kernel
theorem dX3_readFactor_57 : decode cX3_readFactor 57 = .ok (.getfield 24, 3) := by decide +kernel
theorem dX3_readFactor_60 : decode cX3_readFactor 60 = .ok (.iconst 1, 1) := by decide +kernel
theorem dX3_readFactor_61 : decode cX3_readFactor 61 = .ok (.iadd, 1) := by decide +kernel
theorem dX3_readFactor_62 : decode cX3_readFactor 62 = .ok (.putfield 24, 3) := by decide +kernel
theorem dX3_readFactor_65 : decode cX3_readFactor 65 = .ok (.iload_n 2, 1) := by decide +kernel
theorem dX3_readFactor_66 : decode cX3_readFactor 66 = .ok (.bipush 33, 2) := by decide +kernel
theorem dX3_readFactor_68 : decode cX3_readFactor 68 = .ok (.if_icmp .ne 22, 3) := by decide +kernel
theorem dX3_readFactor_71 : decode cX3_readFactor 71 = .ok (.aload_n 0, 1) := by decide +kernel
theorem dX3_readFactor_72 : decode cX3_readFactor 72 = .ok (.iload_n 1, 1) := by decide +kernel
theorem dX3_readFactor_73 : decode cX3_readFactor 73 = .ok (.iconst 1, 1) := by decide +kernel
theorem dX3_readFactor_74 : decode cX3_readFactor 74 = .ok (.iadd, 1) := by decide +kernel
theorem dX3_readFactor_75 : decode cX3_readFactor 75 = .ok (.invokevirtual 75, 3) := by decide +kernel
theorem dX3_readFactor_78 : decode cX3_readFactor 78 = .ok (.aload_n 0, 1) := by decide +kernel
theorem dX3_readFactor_79 : decode cX3_readFactor 79 = .ok (.getfield 15, 3) := by decide +kernel
theorem dX3_readFactor_82 : decode cX3_readFactor 82 = .ok (.bipush 6, 2) := by decide +kernel
theorem dX3_readFactor_84 : decode cX3_readFactor 84 = .ok (.invokevirtual 78, 3) := by decide +kernel
theorem dX3_readFactor_87 : decode cX3_readFactor 87 = .ok (.goto 16, 3) := by decide +kernel
theorem dX3_readFactor_90 : decode cX3_readFactor 90 = .ok (.aload_n 0, 1) := by decide +kernel
theorem dX3_readFactor_91 : decode cX3_readFactor 91 = .ok (.iload_n 1, 1) := by decide +kernel
theorem dX3_readFactor_92 : decode cX3_readFactor 92 = .ok (.iconst 1, 1) := by decide +kernel
theorem dX3_readFactor_93 : decode cX3_readFactor 93 = .ok (.iadd, 1) := by decide +kernel
theorem dX3_readFactor_94 : decode cX3_readFactor 94 = .ok (.invokevirtual 64, 3) := by decide +kernel
theorem dX3_readFactor_97 : decode cX3_readFactor 97 = .ok (.aload_n 0, 1) := by decide +kernel
theorem dX3_readFactor_98 : decode cX3_readFactor 98 = .ok (.ldc 93, 2) := by decide +kernel
theorem dX3_readFactor_100 : decode cX3_readFactor 100 = .ok (.invokevirtual 52, 3) := by decide +kernel
theorem dX3_readFactor_103 : decode cX3_readFactor 103 = .ok (.return_, 1) := by decide +kernel
theorem dX3_readOneOf_0 : decode cX3_readOneOf 0 = .ok (.aload_n 0, 1) := by decide +kernel
theorem dX3_readOneOf_1 : decode cX3_readOneOf 1 = .ok (.getfield 28, 3) := by decide +kernel
theorem dX3_readOneOf_4 : decode cX3_readOneOf 4 = .ok (.ifCond .lt 5, 3) := by decide +kernel
theorem dX3_readOneOf_7 : decode cX3_readOneOf 7 = .ok (.iconst 0, 1) := by decide +kernel
theorem dX3_readOneOf_8 : decode cX3_readOneOf 8 = .ok (.ireturn, 1) := by decide +kernel
theorem dX3_readOneOf_9 : decode cX3_readOneOf 9 = .ok (.aload_n 0, 1) := by decide +kernel
theorem dX3_readOneOf_10 : decode cX3_readOneOf 10 = .ok (.invokevirtual 39, 3) := by decide +kernel
theorem dX3_readOneOf_13 : decode cX3_readOneOf 13 = .ok (.istore_n 2, 1) := by decide +kernel
theorem dX3_readOneOf_14 : decode cX3_readOneOf 14 = .ok (.iconst 0, 1) := by decide +kernel
theorem dX3_readOneOf_15 : decode cX3_readOneOf 15 = .ok (.istore_n 3, 1) := by decide +kernel
theorem dX3_readOneOf_16 : decode cX3_readOneOf 16 = .ok (.iload_n 3, 1) := by decide +kernel
theorem dX3_readOneOf_17 : decode cX3_readOneOf 17 = .ok (.aload_n 1, 1) := by decide +kernel
theorem dX3_readOneOf_18 : decode cX3_readOneOf 18 = .ok (.invokevirtual 95, 3) := by decide +kernel
theorem dX3_readOneOf_21 : decode cX3_readOneOf 21 = .ok (.if_icmp .ge 30, 3) := by decide +kernel
theorem dX3_readOneOf_24 : decode cX3_readOneOf 24 = .ok (.iload_n 2, 1) := by decide +kernel
theorem dX3_readOneOf_25 : decode cX3_readOneOf 25 = .ok (.aload_n 1, 1) := by decide +kernel
theorem dX3_readOneOf_26 : decode cX3_readOneOf 26 = .ok (.iload_n 3, 1) := by decide +kernel
theorem dX3_readOneOf_27 : decode cX3_readOneOf 27 = .ok (.invokevirtual 100, 3) := by decide +kernel
theorem dX3_readOneOf_30 : decode cX3_readOneOf 30 = .ok (.if_icmp .ne 15, 3) := by decide +kernel
theorem dX3_readOneOf_33 : decode cX3_readOneOf 33 = .ok (.aload_n 0, 1) := by decide +kernel
theorem dX3_readOneOf_34 : decode cX3_readOneOf 34 = .ok (.dup, 1) := by decide +kernel
theorem dX3_readOneOf_35 : decode cX3_readOneOf 35 = .ok (.getfield 24, 3) := by decide +kernel
theorem dX3_readOneOf_38 : decode cX3_readOneOf 38 = .ok (.iconst 1, 1) := by decide +kernel
theorem dX3_readOneOf_39 : decode cX3_readOneOf 39 = .ok (.iadd, 1) := by decide +kernel
theorem dX3_readOneOf_40 : decode cX3_readOneOf 40 = .ok (.putfield 24, 3) := by decide +kernel
theorem dX3_readOneOf_43 : decode cX3_readOneOf 43 = .ok (.iload_n 3, 1) := by decide +kernel
theorem dX3_readOneOf_44 : decode cX3_readOneOf 44 = .ok (.ireturn, 1) := by decide +kernel
theorem dX3_readOneOf_45 : decode cX3_readOneOf 45 = .ok (.iinc 3 1, 3) := by decide +kernel
theorem dX3_readOneOf_48 : decode cX3_readOneOf 48 = .ok (.goto (-32), 3) := by decide +kernel
theorem dX3_readOneOf_51 : decode cX3_readOneOf 51 = .ok (.aload_n 0, 1) := by decide +kernel
theorem dX3_readOneOf_52 : decode cX3_readOneOf 52 = .ok (.aload_n 0, 1) := by decide +kernel
theorem dX3_readOneOf_53 : decode cX3_readOneOf 53 = .ok (.getfield 24, 3) := by decide +kernel
theorem dX3_readOneOf_56 : decode cX3_readOneOf 56 = .ok (.putfield 28, 3) := by decide +kernel
theorem dX3_readOneOf_59 : decode cX3_readOneOf 59 = .ok (.iconst 0, 1) := by decide +kernel
theorem dX3_readOneOf_60 : decode cX3_readOneOf 60 = .ok (.ireturn, 1) := by decide +kernel
theorem dX3_readNumber_0 : decode cX3_readNumber 0 = .ok (.aload_n 0, 1) := by decide +kernel
theorem dX3_readNumber_1 : decode cX3_readNumber 1 = .ok (.getfield 28, 3) := by decide +kernel
theorem dX3_readNumber_4 : decode cX3_readNumber 4 = .ok (.ifCond .lt 5, 3) := by decide +kernel
theorem dX3_readNumber_7 : decode cX3_readNumber 7 = .ok (.iconst 0, 1) := by decide +kernel
theorem dX3_readNumber_8 : decode cX3_readNumber 8 = .ok (.ireturn, 1) := by decide +kernel
theorem dX3_readNumber_9 : decode cX3_readNumber 9 = .ok (.aload_n 0, 1) := by decide +kernel
theorem dX3_readNumber_10 : decode cX3_readNumber 10 = .ok (.invokevirtual 39, 3) := by decide +kernel
theorem dX3_readNumber_13 : decode cX3_readNumber 13 = .ok (.invokestatic 104, 3) := by decide +kernel
theorem dX3_readNumber_16 : decode cX3_readNumber 16 = .ok (.ifCond .ne 13, 3) := by decide +kernel
theorem dX3_readNumber_19 : decode cX3_readNumber 19 = .ok (.aload_n 0, 1) := by decide +kernel
theorem dX3_readNumber_20 : decode cX3_readNumber 20 = .ok (.aload_n 0, 1) := by decide +kernel
theorem dX3_readNumber_21 : decode cX3_readNumber 21 = .ok (.getfield 24, 3) := by decide +kernel
theorem dX3_readNumber_24 : decode cX3_readNumber 24 = .ok (.putfield 28, 3) := by decide +kernel
theorem dX3_readNumber_27 : decode cX3_readNumber 27 = .ok (.iconst 0, 1) := by decide +kernel
theorem dX3_readNumber_28 : decode cX3_readNumber 28 = .ok (.ireturn, 1) := by decide +kernel
theorem dX3_readNumber_29 : decode cX3_readNumber 29 = .ok (.aload_n 0, 1) := by decide +kernel
theorem dX3_readNumber_30 : decode cX3_readNumber 30 = .ok (.invokevirtual 39, 3) := by decide +kernel
theorem dX3_readNumber_33 : decode cX3_readNumber 33 = .ok (.bipush 48, 2) := by decide +kernel
theorem dX3_readNumber_35 : decode cX3_readNumber 35 = .ok (.isub, 1) := by decide +kernel
theorem dX3_readNumber_36 : decode cX3_readNumber 36 = .ok (.istore_n 1, 1) := by decide +kernel
theorem dX3_readNumber_37 : decode cX3_readNumber 37 = .ok (.aload_n 0, 1) := by decide +kernel
theorem dX3_readNumber_38 : decode cX3_readNumber 38 = .ok (.dup, 1) := by decide +kernel
theorem dX3_readNumber_39 : decode cX3_readNumber 39 = .ok (.getfield 24, 3) := by decide +kernel
theorem dX3_readNumber_42 : decode cX3_readNumber 42 = .ok (.iconst 1, 1) := by decide +kernel
theorem dX3_readNumber_43 : decode cX3_readNumber 43 = .ok (.iadd, 1) := by decide +kernel
theorem dX3_readNumber_44 : decode cX3_readNumber 44 = .ok (.putfield 24, 3) := by decide +kernel
theorem dX3_readNumber_47 : decode cX3_readNumber 47 = .ok (.iload_n 1, 1) := by decide +kernel
theorem dX3_readNumber_48 : decode cX3_readNumber 48 = .ok (.ifCond .le 36, 3) := by decide +kernel
theorem dX3_readNumber_51 : decode cX3_readNumber 51 = .ok (.aload_n 0, 1) := by decide +kernel
theorem dX3_readNumber_52 : decode cX3_readNumber 52 = .ok (.invokevirtual 39, 3) := by decide +kernel
theorem dX3_readNumber_55 : decode cX3_readNumber 55 = .ok (.invokestatic 104, 3) := by decide +kernel
theorem dX3_readNumber_58 : decode cX3_readNumber 58 = .ok (.ifCond .eq 26, 3) := by decide +kernel
theorem dX3_readNumber_61 : decode cX3_readNumber 61 = .ok (.bipush 10, 2) := by decide +kernel
theorem dX3_readNumber_63 : decode cX3_readNumber 63 = .ok (.iload_n 1, 1) := by decide +kernel
theorem dX3_readNumber_64 : decode cX3_readNumber 64 = .ok (.imul, 1) := by decide +kernel
theorem dX3_readNumber_65 : decode cX3_readNumber 65 = .ok (.aload_n 0, 1) := by decide +kernel
theorem dX3_readNumber_66 : decode cX3_readNumber 66 = .ok (.invokevirtual 39, 3) := by decide +kernel
theorem dX3_readNumber_69 : decode cX3_readNumber 69 = .ok (.iadd, 1) := by decide +kernel
theorem dX3_readNumber_70 : decode cX3_readNumber 70 = .ok (.bipush 48, 2) := by decide +kernel
theorem dX3_readNumber_72 : decode cX3_readNumber 72 = .ok (.isub, 1) := by decide +kernel
theorem dX3_readNumber_73 : decode cX3_readNumber 73 = .ok (.istore_n 1, 1) := by decide +kernel
theorem dX3_readNumber_74 : decode cX3_readNumber 74 = .ok (.aload_n 0, 1) := by decide +kernel
theorem dX3_readNumber_75 : decode cX3_readNumber 75 = .ok (.dup, 1) := by decide +kernel
theorem dX3_readNumber_76 : decode cX3_readNumber 76 = .ok (.getfield 24, 3) := by decide +kernel
theorem dX3_readNumber_79 : decode cX3_readNumber 79 = .ok (.iconst 1, 1) := by decide +kernel
theorem dX3_readNumber_80 : decode cX3_readNumber 80 = .ok (.iadd, 1) := by decide +kernel
theorem dX3_readNumber_81 : decode cX3_readNumber 81 = .ok (.putfield 24, 3) := by decide +kernel
theorem dX3_readNumber_84 : decode cX3_readNumber 84 = .ok (.iload_n 1, 1) := by decide +kernel
theorem dX3_readNumber_85 : decode cX3_readNumber 85 = .ok (.ireturn, 1) := by decide +kernel
theorem dX3_isDigit_0 : decode cX3_isDigit 0 = .ok (.iload_n 0, 1) := by decide +kernel
theorem dX3_isDigit_1 : decode cX3_isDigit 1 = .ok (.bipush 48, 2) := by decide +kernel
theorem dX3_isDigit_3 : decode cX3_isDigit 3 = .ok (.if_icmp .lt 13, 3) := by decide +kernel
theorem dX3_isDigit_6 : decode cX3_isDigit 6 = .ok (.iload_n 0, 1) := by decide +kernel
theorem dX3_isDigit_7 : decode cX3_isDigit 7 = .ok (.bipush 57, 2) := by decide +kernel
theorem dX3_isDigit_9 : decode cX3_isDigit 9 = .ok (.if_icmp .gt 7, 3) := by decide +kernel
theorem dX3_isDigit_12 : decode cX3_isDigit 12 = .ok (.iconst 1, 1) := by decide +kernel
theorem dX3_isDigit_13 : decode cX3_isDigit 13 = .ok (.goto 4, 3) := by decide +kernel
theorem dX3_isDigit_16 : decode cX3_isDigit 16 = .ok (.iconst 0, 1) := by decide +kernel
theorem dX3_isDigit_17 : decode cX3_isDigit 17 = .ok (.ireturn, 1) := by decide +kernel
theorem dX3_take_0 : decode cX3_take 0 = .ok (.iconst 0, 1) := by decide +kernel
theorem dX3_take_1 : decode cX3_take 1 = .ok (.istore_n 2, 1) := by decide +kernel
theorem dX3_take_2 : decode cX3_take 2 = .ok (.iload_n 2, 1) := by decide +kernel
theorem dX3_take_3 : decode cX3_take 3 = .ok (.aload_n 1, 1) := by decide +kernel
theorem dX3_take_4 : decode cX3_take 4 = .ok (.invokevirtual 95, 3) := by decide +kernel
theorem dX3_take_7 : decode cX3_take 7 = .ok (.if_icmp .ge 49, 3) := by decide +kernel
theorem dX3_take_10 : decode cX3_take 10 = .ok (.aload_n 0, 1) := by decide +kernel
theorem dX3_take_11 : decode cX3_take 11 = .ok (.getfield 28, 3) := by decide +kernel
theorem dX3_take_14 : decode cX3_take 14 = .ok (.ifCond .ge 42, 3) := by decide +kernel
theorem dX3_take_17 : decode cX3_take 17 = .ok (.aload_n 0, 1) := by decide +kernel
theorem dX3_take_18 : decode cX3_take 18 = .ok (.invokevirtual 39, 3) := by decide +kernel
theorem dX3_take_21 : decode cX3_take 21 = .ok (.aload_n 1, 1) := by decide +kernel
theorem dX3_take_22 : decode cX3_take 22 = .ok (.iload_n 2, 1) := by decide +kernel
theorem dX3_take_23 : decode cX3_take 23 = .ok (.invokevirtual 100, 3) := by decide +kernel
theorem dX3_take_26 : decode cX3_take 26 = .ok (.if_icmp .ne 16, 3) := by decide +kernel
theorem dX3_take_29 : decode cX3_take 29 = .ok (.aload_n 0, 1) := by decide +kernel
theorem dX3_take_30 : decode cX3_take 30 = .ok (.dup, 1) := by decide +kernel
theorem dX3_take_31 : decode cX3_take 31 = .ok (.getfield 24, 3) := by decide +kernel
theorem dX3_take_34 : decode cX3_take 34 = .ok (.iconst 1, 1) := by decide +kernel
theorem dX3_take_35 : decode cX3_take 35 = .ok (.iadd, 1) := by decide +kernel
theorem dX3_take_36 : decode cX3_take 36 = .ok (.putfield 24, 3) := by decide +kernel
theorem dX3_take_39 : decode cX3_take 39 = .ok (.goto 11, 3) := by decide +kernel
theorem dX3_take_42 : decode cX3_take 42 = .ok (.aload_n 0, 1) := by decide +kernel
theorem dX3_take_43 : decode cX3_take 43 = .ok (.aload_n 0, 1) := by decide +kernel
theorem dX3_take_44 : decode cX3_take 44 = .ok (.getfield 24, 3) := by decide +kernel
theorem dX3_take_47 : decode cX3_take 47 = .ok (.putfield 28, 3) := by decide +kernel
theorem dX3_take_50 : decode cX3_take 50 = .ok (.iinc 2 1, 3) := by decide +kernel
theorem dX3_take_53 : decode cX3_take 53 = .ok (.goto (-51), 3) := by decide +kernel
theorem dX3_take_56 : decode cX3_take 56 = .ok (.return_, 1) := by decide +kernel
theorem dX3_peek_0 : decode cX3_peek 0 = .ok (.aload_n 0, 1) := by decide +kernel
theorem dX3_peek_1 : decode cX3_peek 1 = .ok (.getfield 9, 3) := by decide +kernel
theorem dX3_peek_4 : decode cX3_peek 4 = .ok (.aload_n 0, 1) := by decide +kernel
theorem dX3_peek_5 : decode cX3_peek 5 = .ok (.getfield 24, 3) := by decide +kernel
theorem dX3_peek_8 : decode cX3_peek 8 = .ok (.invokevirtual 71, 3) := by decide +kernel
theorem dX3_peek_11 : decode cX3_peek 11 = .ok (.ireturn, 1) := by decide +kernel
theorem dX4_init_0 : decode cX4_init 0 = .ok (.aload_n 0, 1) := by decide +kernel
theorem dX4_init_1 : decode cX4_init 1 = .ok (.invokespecial 3, 3) := by decide +kernel
theorem dX4_init_4 : decode cX4_init 4 = .ok (.iconst 0, 1) := by decide +kernel
theorem dX4_init_5 : decode cX4_init 5 = .ok (.iload_n 1, 1) := by decide +kernel
theorem dX4_init_6 : decode cX4_init 6 = .ok (.invokestatic 9, 3) := by decide +kernel
theorem dX4_init_9 : decode cX4_init 9 = .ok (.istore_n 2, 1) := by decide +kernel
theorem dX4_init_10 : decode cX4_init 10 = .ok (.aload_n 0, 1) := by decide +kernel
theorem dX4_init_11 : decode cX4_init 11 = .ok (.iload_n 2, 1) := by decide +kernel
theorem dX4_init_12 : decode cX4_init 12 = .ok (.newarray .int, 2) := by decide +kernel
theorem dX4_init_14 : decode cX4_init 14 = .ok (.putfield 15, 3) := by decide +kernel
theorem dX4_init_17 : decode cX4_init 17 = .ok (.aload_n 0, 1) := by decide +kernel
theorem dX4_init_18 : decode cX4_init 18 = .ok (.iload_n 2, 1) := by decide +kernel
theorem dX4_init_19 : decode cX4_init 19 = .ok (.newarray .int, 2) := by decide +kernel
theorem dX4_init_21 : decode cX4_init 21 = .ok (.putfield 21, 3) := by decide +kernel
theorem dX4_init_24 : decode cX4_init 24 = .ok (.aload_n 0, 1) := by decide +kernel
theorem dX4_init_25 : decode cX4_init 25 = .ok (.iload_n 2, 1) := by decide +kernel
theorem dX4_init_26 : decode cX4_init 26 = .ok (.newarray .boolean, 2) := by decide +kernel
theorem dX4_init_28 : decode cX4_init 28 = .ok (.putfield 24, 3) := by decide +kernel
theorem dX4_init_31 : decode cX4_init 31 = .ok (.return_, 1) := by decide +kernel
theorem dX4_has_0 : decode cX4_has 0 = .ok (.iload_n 1, 1) := by decide +kernel
theorem dX4_has_1 : decode cX4_has 1 = .ok (.ifCond .lt 34, 3) := by decide +kernel
theorem dX4_has_4 : decode cX4_has 4 = .ok (.iload_n 1, 1) := by decide +kernel
theorem dX4_has_5 : decode cX4_has 5 = .ok (.aload_n 0, 1) := by decide +kernel
theorem dX4_has_6 : decode cX4_has 6 = .ok (.getfield 15, 3) := by decide +kernel
theorem dX4_has_9 : decode cX4_has 9 = .ok (.arraylength, 1) := by decide +kernel
theorem dX4_has_10 : decode cX4_has 10 = .ok (.if_icmp .ge 25, 3) := by decide +kernel
theorem dX4_has_13 : decode cX4_has 13 = .ok (.iload_n 1, 1) := by decide +kernel
theorem dX4_has_14 : decode cX4_has 14 = .ok (.aload_n 0, 1) := by decide +kernel
theorem dX4_has_15 : decode cX4_has 15 = .ok (.getfield 21, 3) := by decide +kernel
theorem dX4_has_18 : decode cX4_has 18 = .ok (.arraylength, 1) := by decide +kernel
theorem dX4_has_19 : decode cX4_has 19 = .ok (.if_icmp .ge 16, 3) := by decide +kernel
theorem dX4_has_22 : decode cX4_has 22 = .ok (.iload_n 1, 1) := by decide +kernel
theorem dX4_has_23 : decode cX4_has 23 = .ok (.aload_n 0, 1) := by decide +kernel
theorem dX4_has_24 : decode cX4_has 24 = .ok (.getfield 24, 3) := by decide +kernel
theorem dX4_has_27 : decode cX4_has 27 = .ok (.arraylength, 1) := by decide +kernel
theorem dX4_has_28 : decode cX4_has 28 = .ok (.if_icmp .ge 7, 3) := by decide +kernel
theorem dX4_has_31 : decode cX4_has 31 = .ok (.iconst 1, 1) := by decide +kernel
theorem dX4_has_32 : decode cX4_has 32 = .ok (.goto 4, 3) := by decide +kernel
theorem dX4_has_35 : decode cX4_has 35 = .ok (.iconst 0, 1) := by decide +kernel
theorem dX4_has_36 : decode cX4_has 36 = .ok (.ireturn, 1) := by decide +kernel
theorem dX4_add_0 : decode cX4_add 0 = .ok (.aload_n 0, 1) := by decide +kernel
theorem dX4_add_1 : decode cX4_add 1 = .ok (.aload_n 0, 1) := by decide +kernel
theorem dX4_add_2 : decode cX4_add 2 = .ok (.getfield 28, 3) := by decide +kernel
theorem dX4_add_5 : decode cX4_add 5 = .ok (.invokevirtual 32, 3) := by decide +kernel
theorem dX4_add_8 : decode cX4_add 8 = .ok (.ifCond .ne 5, 3) := by decide +kernel
theorem dX4_add_11 : decode cX4_add 11 = .ok (.iconst 0, 1) := by decide +kernel
theorem dX4_add_12 : decode cX4_add 12 = .ok (.ireturn, 1) := by decide +kernel
theorem dX4_add_13 : decode cX4_add 13 = .ok (.aload_n 0, 1) := by decide +kernel
theorem dX4_add_14 : decode cX4_add 14 = .ok (.aload_n 0, 1) := by decide +kernel
theorem dX4_add_15 : decode cX4_add 15 = .ok (.getfield 28, 3) := by decide +kernel
theorem dX4_add_18 : decode cX4_add 18 = .ok (.iload_n 1, 1) := by decide +kernel
theorem dX4_add_19 : decode cX4_add 19 = .ok (.iload_n 2, 1) := by decide +kernel
theorem dX4_add_20 : decode cX4_add 20 = .ok (.iload_n 3, 1) := by decide +kernel
theorem dX4_add_21 : decode cX4_add 21 = .ok (.invokevirtual 36, 3) := by decide +kernel
theorem dX4_add_24 : decode cX4_add 24 = .ok (.aload_n 0, 1) := by decide +kernel
theorem dX4_add_25 : decode cX4_add 25 = .ok (.dup, 1) := by decide +kernel
theorem dX4_add_26 : decode cX4_add 26 = .ok (.getfield 28, 3) := by decide +kernel
theorem dX4_add_29 : decode cX4_add 29 = .ok (.iconst 1, 1) := by decide +kernel
theorem dX4_add_30 : decode cX4_add 30 = .ok (.iadd, 1) := by decide +kernel
theorem dX4_add_31 : decode cX4_add 31 = .ok (.putfield 28, 3) := by decide +kernel
theorem dX4_add_34 : decode cX4_add 34 = .ok (.iconst 1, 1) := by decide +kernel
theorem dX4_add_35 : decode cX4_add 35 = .ok (.ireturn, 1) := by decide +kernel
theorem dX4_setAt_0 : decode cX4_setAt 0 = .ok (.aload_n 0, 1) := by decide +kernel
theorem dX4_setAt_1 : decode cX4_setAt 1 = .ok (.iload_n 1, 1) := by decide +kernel
theorem dX4_setAt_2 : decode cX4_setAt 2 = .ok (.invokevirtual 32, 3) := by decide +kernel
theorem dX4_setAt_5 : decode cX4_setAt 5 = .ok (.ifCond .ne 4, 3) := by decide +kernel
theorem dX4_setAt_8 : decode cX4_setAt 8 = .ok (.return_, 1) := by decide +kernel
theorem dX4_setAt_9 : decode cX4_setAt 9 = .ok (.aload_n 0, 1) := by decide +kernel
theorem dX4_setAt_10 : decode cX4_setAt 10 = .ok (.getfield 15, 3) := by decide +kernel
theorem dX4_setAt_13 : decode cX4_setAt 13 = .ok (.iload_n 1, 1) := by decide +kernel
theorem dX4_setAt_14 : decode cX4_setAt 14 = .ok (.iload_n 2, 1) := by decide +kernel
theorem dX4_setAt_15 : decode cX4_setAt 15 = .ok (.iastore, 1) := by decide +kernel
theorem dX4_setAt_16 : decode cX4_setAt 16 = .ok (.aload_n 0, 1) := by decide +kernel
theorem dX4_setAt_17 : decode cX4_setAt 17 = .ok (.getfield 21, 3) := by decide +kernel
theorem dX4_setAt_20 : decode cX4_setAt 20 = .ok (.iload_n 1, 1) := by decide +kernel
theorem dX4_setAt_21 : decode cX4_setAt 21 = .ok (.iload_n 3, 1) := by decide +kernel
theorem dX4_setAt_22 : decode cX4_setAt 22 = .ok (.iastore, 1) := by decide +kernel
theorem dX4_setAt_23 : decode cX4_setAt 23 = .ok (.aload_n 0, 1) := by decide +kernel
theorem dX4_setAt_24 : decode cX4_setAt 24 = .ok (.getfield 24, 3) := by decide +kernel
theorem dX4_setAt_27 : decode cX4_setAt 27 = .ok (.iload_n 1, 1) := by decide +kernel
theorem dX4_setAt_28 : decode cX4_setAt 28 = .ok (.iload 4, 2) := by decide +kernel
theorem dX4_setAt_30 : decode cX4_setAt 30 = .ok (.bastore, 1) := by decide +kernel
theorem dX4_setAt_31 : decode cX4_setAt 31 = .ok (.return_, 1) := by decide +kernel
theorem dX4_firstAt_0 : decode cX4_firstAt 0 = .ok (.aload_n 0, 1) := by decide +kernel
theorem dX4_firstAt_1 : decode cX4_firstAt 1 = .ok (.iload_n 1, 1) := by decide +kernel
theorem dX4_firstAt_2 : decode cX4_firstAt 2 = .ok (.invokevirtual 32, 3) := by decide +kernel
theorem dX4_firstAt_5 : decode cX4_firstAt 5 = .ok (.ifCond .eq 12, 3) := by decide +kernel
theorem dX4_firstAt_8 : decode cX4_firstAt 8 = .ok (.aload_n 0, 1) := by decide +kernel
theorem dX4_firstAt_9 : decode cX4_firstAt 9 = .ok (.getfield 15, 3) := by decide +kernel
theorem dX4_firstAt_12 : decode cX4_firstAt 12 = .ok (.iload_n 1, 1) := by decide +kernel
theorem dX4_firstAt_13 : decode cX4_firstAt 13 = .ok (.iaload, 1) := by decide +kernel
theorem dX4_firstAt_14 : decode cX4_firstAt 14 = .ok (.goto 4, 3) := by decide +kernel
theorem dX4_firstAt_17 : decode cX4_firstAt 17 = .ok (.iconst (-1), 1) := by decide +kernel
theorem dX4_firstAt_18 : decode cX4_firstAt 18 = .ok (.ireturn, 1) := by decide +kernel
theorem dX4_secondAt_0 : decode cX4_secondAt 0 = .ok (.aload_n 0, 1) := by decide +kernel
theorem dX4_secondAt_1 : decode cX4_secondAt 1 = .ok (.iload_n 1, 1) := by decide +kernel
theorem dX4_secondAt_2 : decode cX4_secondAt 2 = .ok (.invokevirtual 32, 3) := by decide +kernel
theorem dX4_secondAt_5 : decode cX4_secondAt 5 = .ok (.ifCond .eq 12, 3) := by decide +kernel
theorem dX4_secondAt_8 : decode cX4_secondAt 8 = .ok (.aload_n 0, 1) := by decide +kernel
theorem dX4_secondAt_9 : decode cX4_secondAt 9 = .ok (.getfield 21, 3) := by decide +kernel
theorem dX4_secondAt_12 : decode cX4_secondAt 12 = .ok (.iload_n 1, 1) := by decide +kernel
theorem dX4_secondAt_13 : decode cX4_secondAt 13 = .ok (.iaload, 1) := by decide +kernel
theorem dX4_secondAt_14 : decode cX4_secondAt 14 = .ok (.goto 4, 3) := by decide +kernel
theorem dX4_secondAt_17 : decode cX4_secondAt 17 = .ok (.iconst (-1), 1) := by decide +kernel
theorem dX4_secondAt_18 : decode cX4_secondAt 18 = .ok (.ireturn, 1) := by decide +kernel
theorem dX4_isAt_0 : decode cX4_isAt 0 = .ok (.aload_n 0, 1) := by decide +kernel
theorem dX4_isAt_1 : decode cX4_isAt 1 = .ok (.iload_n 1, 1) := by decide +kernel
theorem dX4_isAt_2 : decode cX4_isAt 2 = .ok (.invokevirtual 32, 3) := by decide +kernel
theorem dX4_isAt_5 : decode cX4_isAt 5 = .ok (.ifCond .eq 16, 3) := by decide +kernel
theorem dX4_isAt_8 : decode cX4_isAt 8 = .ok (.aload_n 0, 1) := by decide +kernel
theorem dX4_isAt_9 : decode cX4_isAt 9 = .ok (.getfield 24, 3) := by decide +kernel
theorem dX4_isAt_12 : decode cX4_isAt 12 = .ok (.iload_n 1, 1) := by decide +kernel
theorem dX4_isAt_13 : decode cX4_isAt 13 = .ok (.baload, 1) := by decide +kernel
theorem dX4_isAt_14 : decode cX4_isAt 14 = .ok (.ifCond .eq 7, 3) := by decide +kernel
theorem dX4_isAt_17 : decode cX4_isAt 17 = .ok (.iconst 1, 1) := by decide +kernel
theorem dX4_isAt_18 : decode cX4_isAt 18 = .ok (.goto 4, 3) := by decide +kernel
theorem dX4_isAt_21 : decode cX4_isAt 21 = .ok (.iconst 0, 1) := by decide +kernel
theorem dX4_isAt_22 : decode cX4_isAt 22 = .ok (.ireturn, 1) := by decide +kernel
theorem dX4_copyFrom_0 : decode cX4_copyFrom 0 = .ok (.aload_n 0, 1) := by decide +kernel
theorem dX4_copyFrom_1 : decode cX4_copyFrom 1 = .ok (.aload_n 1, 1) := by decide +kernel
theorem dX4_copyFrom_2 : decode cX4_copyFrom 2 = .ok (.getfield 28, 3) := by decide +kernel
theorem dX4_copyFrom_5 : decode cX4_copyFrom 5 = .ok (.putfield 28, 3) := by decide +kernel
theorem dX4_copyFrom_8 : decode cX4_copyFrom 8 = .ok (.iconst 0, 1) := by decide +kernel
theorem dX4_copyFrom_9 : decode cX4_copyFrom 9 = .ok (.istore_n 2, 1) := by decide +kernel
theorem dX4_copyFrom_10 : decode cX4_copyFrom 10 = .ok (.iload_n 2, 1) := by decide +kernel
theorem dX4_copyFrom_11 : decode cX4_copyFrom 11 = .ok (.aload_n 0, 1) := by decide +kernel
theorem dX4_copyFrom_12 : decode cX4_copyFrom 12 = .ok (.getfield 28, 3) := by decide +kernel
theorem dX4_copyFrom_15 : decode cX4_copyFrom 15 = .ok (.if_icmp .ge 29, 3) := by decide +kernel
theorem dX4_copyFrom_18 : decode cX4_copyFrom 18 = .ok (.aload_n 0, 1) := by decide +kernel
theorem dX4_copyFrom_19 : decode cX4_copyFrom 19 = .ok (.iload_n 2, 1) := by decide +kernel
theorem dX4_copyFrom_20 : decode cX4_copyFrom 20 = .ok (.aload_n 1, 1) := by decide +kernel
theorem dX4_copyFrom_21 : decode cX4_copyFrom 21 = .ok (.iload_n 2, 1) := by decide +kernel
theorem dX4_copyFrom_22 : decode cX4_copyFrom 22 = .ok (.invokevirtual 40, 3) := by decide +kernel
theorem dX4_copyFrom_25 : decode cX4_copyFrom 25 = .ok (.aload_n 1, 1) := by decide +kernel
theorem dX4_copyFrom_26 : decode cX4_copyFrom 26 = .ok (.iload_n 2, 1) := by decide +kernel
theorem dX4_copyFrom_27 : decode cX4_copyFrom 27 = .ok (.invokevirtual 44, 3) := by decide +kernel
theorem dX4_copyFrom_30 : decode cX4_copyFrom 30 = .ok (.aload_n 1, 1) := by decide +kernel
theorem dX4_copyFrom_31 : decode cX4_copyFrom 31 = .ok (.iload_n 2, 1) := by decide +kernel
theorem dX4_copyFrom_32 : decode cX4_copyFrom 32 = .ok (.invokevirtual 47, 3) := by decide +kernel
theorem dX4_copyFrom_35 : decode cX4_copyFrom 35 = .ok (.invokevirtual 36, 3) := by decide +kernel
theorem dX4_copyFrom_38 : decode cX4_copyFrom 38 = .ok (.iinc 2 1, 3) := by decide +kernel
theorem dX4_copyFrom_41 : decode cX4_copyFrom 41 = .ok (.goto (-31), 3) := by decide +kernel
theorem dX4_copyFrom_44 : decode cX4_copyFrom 44 = .ok (.return_, 1) := by decide +kernel
theorem dX5_init_0 : decode cX5_init 0 = .ok (.aload_n 0, 1) := by decide +kernel
theorem dX5_init_1 : decode cX5_init 1 = .ok (.invokespecial 3, 3) := by decide +kernel
theorem dX5_init_4 : decode cX5_init 4 = .ok (.aload_n 0, 1) := by decide +kernel
theorem dX5_init_5 : decode cX5_init 5 = .ok (.new 9, 3) := by decide +kernel
theorem dX5_init_8 : decode cX5_init 8 = .ok (.dup, 1) := by decide +kernel
theorem dX5_init_9 : decode cX5_init 9 = .ok (.invokespecial 11, 3) := by decide +kernel
theorem dX5_init_12 : decode cX5_init 12 = .ok (.putfield 12, 3) := by decide +kernel
theorem dX5_init_15 : decode cX5_init 15 = .ok (.aload_n 0, 1) := by decide +kernel
theorem dX5_init_16 : decode cX5_init 16 = .ok (.new 18, 3) := by decide +kernel
theorem dX5_init_19 : decode cX5_init 19 = .ok (.dup, 1) := by decide +kernel
theorem dX5_init_20 : decode cX5_init 20 = .ok (.invokespecial 20, 3) := by decide +kernel
theorem dX5_init_23 : decode cX5_init 23 = .ok (.putfield 21, 3) := by decide +kernel
theorem dX5_init_26 : decode cX5_init 26 = .ok (.aload_n 0, 1) := by decide +kernel
theorem dX5_init_27 : decode cX5_init 27 = .ok (.bipush 100, 2) := by decide +kernel
theorem dX5_init_29 : decode cX5_init 29 = .ok (.newarray .int, 2) := by decide +kernel
theorem dX5_init_31 : decode cX5_init 31 = .ok (.putfield 25, 3) := by decide +kernel
theorem dX5_init_34 : decode cX5_init 34 = .ok (.aload_n 0, 1) := by decide +kernel
theorem dX5_init_35 : decode cX5_init 35 = .ok (.new 29, 3) := by decide +kernel
theorem dX5_init_38 : decode cX5_init 38 = .ok (.dup, 1) := by decide +kernel
theorem dX5_init_39 : decode cX5_init 39 = .ok (.iconst 5, 1) := by decide +kernel
theorem dX5_init_40 : decode cX5_init 40 = .ok (.invokespecial 31, 3) := by decide +kernel
theorem dX5_init_43 : decode cX5_init 43 = .ok (.putfield 34, 3) := by decide +kernel
theorem dX5_init_46 : decode cX5_init 46 = .ok (.aload_n 0, 1) := by decide +kernel
theorem dX5_init_47 : decode cX5_init 47 = .ok (.new 29, 3) := by decide +kernel
theorem dX5_init_50 : decode cX5_init 50 = .ok (.dup, 1) := by decide +kernel
theorem dX5_init_51 : decode cX5_init 51 = .ok (.bipush 8, 2) := by decide +kernel
theorem dX5_init_53 : decode cX5_init 53 = .ok (.invokespecial 31, 3) := by decide +kernel
theorem dX5_init_56 : decode cX5_init 56 = .ok (.putfield 38, 3) := by decide +kernel
theorem dX5_init_59 : decode cX5_init 59 = .ok (.aload_n 0, 1) := by decide +kernel
theorem dX5_init_60 : decode cX5_init 60 = .ok (.new 29, 3) := by decide +kernel
theorem dX5_init_63 : decode cX5_init 63 = .ok (.dup, 1) := by decide +kernel
theorem dX5_init_64 : decode cX5_init 64 = .ok (.bipush 8, 2) := by decide +kernel
theorem dX5_init_66 : decode cX5_init 66 = .ok (.invokespecial 31, 3) := by decide +kernel
theorem dX5_init_69 : decode cX5_init 69 = .ok (.putfield 41, 3) := by decide +kernel
theorem dX5_init_72 : decode cX5_init 72 = .ok (.return_, 1) := by decide +kernel
theorem dX5_addSign_0 : decode cX5_addSign 0 = .ok (.aload_n 0, 1) := by decide +kernel
theorem dX5_addSign_1 : decode cX5_addSign 1 = .ok (.getfield 44, 3) := by decide +kernel
theorem dX5_addSign_4 : decode cX5_addSign 4 = .ok (.ifCond .lt 15, 3) := by decide +kernel
theorem dX5_addSign_7 : decode cX5_addSign 7 = .ok (.aload_n 0, 1) := by decide +kernel
theorem dX5_addSign_8 : decode cX5_addSign 8 = .ok (.getfield 44, 3) := by decide +kernel
theorem dX5_addSign_11 : decode cX5_addSign 11 = .ok (.aload_n 0, 1) := by decide +kernel
theorem dX5_addSign_12 : decode cX5_addSign 12 = .ok (.getfield 25, 3) := by decide +kernel
theorem dX5_addSign_15 : decode cX5_addSign 15 = .ok (.arraylength, 1) := by decide +kernel
theorem dX5_addSign_16 : decode cX5_addSign 16 = .ok (.if_icmp .lt 5, 3) := by decide +kernel
theorem dX5_addSign_19 : decode cX5_addSign 19 = .ok (.iconst 0, 1) := by decide +kernel
theorem dX5_addSign_20 : decode cX5_addSign 20 = .ok (.ireturn, 1) := by decide +kernel
theorem dX5_addSign_21 : decode cX5_addSign 21 = .ok (.aload_n 0, 1) := by decide +kernel
theorem dX5_addSign_22 : decode cX5_addSign 22 = .ok (.getfield 25, 3) := by decide +kernel
theorem dX5_addSign_25 : decode cX5_addSign 25 = .ok (.aload_n 0, 1) := by decide +kernel
theorem dX5_addSign_26 : decode cX5_addSign 26 = .ok (.getfield 44, 3) := by decide +kernel
theorem dX5_addSign_29 : decode cX5_addSign 29 = .ok (.iload_n 1, 1) := by decide +kernel
theorem dX5_addSign_30 : decode cX5_addSign 30 = .ok (.iastore, 1) := by decide +kernel
theorem dX5_addSign_31 : decode cX5_addSign 31 = .ok (.aload_n 0, 1) := by decide +kernel
theorem dX5_addSign_32 : decode cX5_addSign 32 = .ok (.dup, 1) := by decide +kernel
theorem dX5_addSign_33 : decode cX5_addSign 33 = .ok (.getfield 44, 3) := by decide +kernel
theorem dX5_addSign_36 : decode cX5_addSign 36 = .ok (.iconst 1, 1) := by decide +kernel
theorem dX5_addSign_37 : decode cX5_addSign 37 = .ok (.iadd, 1) := by decide +kernel
theorem dX5_addSign_38 : decode cX5_addSign 38 = .ok (.putfield 44, 3) := by decide +kernel
theorem dX5_addSign_41 : decode cX5_addSign 41 = .ok (.iconst 1, 1) := by decide +kernel
theorem dX5_addSign_42 : decode cX5_addSign 42 = .ok (.ireturn, 1) := by decide +kernel
theorem dX5_signAt_0 : decode cX5_signAt 0 = .ok (.iload_n 1, 1) := by decide +kernel
theorem dX5_signAt_1 : decode cX5_signAt 1 = .ok (.ifCond .lt 29, 3) := by decide +kernel
theorem dX5_signAt_4 : decode cX5_signAt 4 = .ok (.iload_n 1, 1) := by decide +kernel
theorem dX5_signAt_5 : decode cX5_signAt 5 = .ok (.aload_n 0, 1) := by decide +kernel
theorem dX5_signAt_6 : decode cX5_signAt 6 = .ok (.getfield 44, 3) := by decide +kernel
theorem dX5_signAt_9 : decode cX5_signAt 9 = .ok (.if_icmp .ge 21, 3) := by decide +kernel
theorem dX5_signAt_12 : decode cX5_signAt 12 = .ok (.iload_n 1, 1) := by decide +kernel
theorem dX5_signAt_13 : decode cX5_signAt 13 = .ok (.aload_n 0, 1) := by decide +kernel
theorem dX5_signAt_14 : decode cX5_signAt 14 = .ok (.getfield 25, 3) := by decide +kernel
theorem dX5_signAt_17 : decode cX5_signAt 17 = .ok (.arraylength, 1) := by decide +kernel
theorem dX5_signAt_18 : decode cX5_signAt 18 = .ok (.if_icmp .ge 12, 3) := by decide +kernel
theorem dX5_signAt_21 : decode cX5_signAt 21 = .ok (.aload_n 0, 1) := by decide +kernel
theorem dX5_signAt_22 : decode cX5_signAt 22 = .ok (.getfield 25, 3) := by decide +kernel
theorem dX5_signAt_25 : decode cX5_signAt 25 = .ok (.iload_n 1, 1) := by decide +kernel
theorem dX5_signAt_26 : decode cX5_signAt 26 = .ok (.iaload, 1) := by decide +kernel
theorem dX5_signAt_27 : decode cX5_signAt 27 = .ok (.goto 4, 3) := by decide +kernel
theorem dX5_signAt_30 : decode cX5_signAt 30 = .ok (.iconst (-1), 1) := by decide +kernel
theorem dX5_signAt_31 : decode cX5_signAt 31 = .ok (.ireturn, 1) := by decide +kernel
theorem dX5_copyFrom_0 : decode cX5_copyFrom 0 = .ok (.aload_n 0, 1) := by decide +kernel
theorem dX5_copyFrom_1 : decode cX5_copyFrom 1 = .ok (.getfield 12, 3) := by decide +kernel
theorem dX5_copyFrom_4 : decode cX5_copyFrom 4 = .ok (.aload_n 1, 1) := by decide +kernel
theorem dX5_copyFrom_5 : decode cX5_copyFrom 5 = .ok (.getfield 12, 3) := by decide +kernel
theorem dX5_copyFrom_8 : decode cX5_copyFrom 8 = .ok (.invokevirtual 48, 3) := by decide +kernel
theorem dX5_copyFrom_11 : decode cX5_copyFrom 11 = .ok (.aload_n 0, 1) := by decide +kernel
theorem dX5_copyFrom_12 : decode cX5_copyFrom 12 = .ok (.getfield 21, 3) := by decide +kernel
theorem dX5_copyFrom_15 : decode cX5_copyFrom 15 = .ok (.aload_n 1, 1) := by decide +kernel
theorem dX5_copyFrom_16 : decode cX5_copyFrom 16 = .ok (.getfield 21, 3) := by decide +kernel
theorem dX5_copyFrom_19 : decode cX5_copyFrom 19 = .ok (.invokevirtual 52, 3) := by decide +kernel
theorem dX5_copyFrom_22 : decode cX5_copyFrom 22 = .ok (.aload_n 0, 1) := by decide +kernel
theorem dX5_copyFrom_23 : decode cX5_copyFrom 23 = .ok (.aload_n 1, 1) := by decide +kernel
theorem dX5_copyFrom_24 : decode cX5_copyFrom 24 = .ok (.getfield 55, 3) := by decide +kernel
theorem dX5_copyFrom_27 : decode cX5_copyFrom 27 = .ok (.putfield 55, 3) := by decide +kernel
theorem dX5_copyFrom_30 : decode cX5_copyFrom 30 = .ok (.aload_n 1, 1) := by decide +kernel
theorem dX5_copyFrom_31 : decode cX5_copyFrom 31 = .ok (.getfield 25, 3) := by decide +kernel
theorem dX5_copyFrom_34 : decode cX5_copyFrom 34 = .ok (.aload_n 0, 1) := by decide +kernel
theorem dX5_copyFrom_35 : decode cX5_copyFrom 35 = .ok (.getfield 25, 3) := by decide +kernel
theorem dX5_copyFrom_38 : decode cX5_copyFrom 38 = .ok (.invokestatic 58, 3) := by decide +kernel
theorem dX5_copyFrom_41 : decode cX5_copyFrom 41 = .ok (.aload_n 0, 1) := by decide +kernel
theorem dX5_copyFrom_42 : decode cX5_copyFrom 42 = .ok (.aload_n 1, 1) := by decide +kernel
theorem dX5_copyFrom_43 : decode cX5_copyFrom 43 = .ok (.getfield 44, 3) := by decide +kernel
theorem dX5_copyFrom_46 : decode cX5_copyFrom 46 = .ok (.putfield 44, 3) := by decide +kernel
theorem dX5_copyFrom_49 : decode cX5_copyFrom 49 = .ok (.aload_n 0, 1) := by decide +kernel
theorem dX5_copyFrom_50 : decode cX5_copyFrom 50 = .ok (.getfield 34, 3) := by decide +kernel
theorem dX5_copyFrom_53 : decode cX5_copyFrom 53 = .ok (.aload_n 1, 1) := by decide +kernel
theorem dX5_copyFrom_54 : decode cX5_copyFrom 54 = .ok (.getfield 34, 3) := by decide +kernel
theorem dX5_copyFrom_57 : decode cX5_copyFrom 57 = .ok (.invokevirtual 62, 3) := by decide +kernel
theorem dX5_copyFrom_60 : decode cX5_copyFrom 60 = .ok (.aload_n 0, 1) := by decide +kernel
theorem dX5_copyFrom_61 : decode cX5_copyFrom 61 = .ok (.getfield 38, 3) := by decide +kernel
theorem dX5_copyFrom_64 : decode cX5_copyFrom 64 = .ok (.aload_n 1, 1) := by decide +kernel
theorem dX5_copyFrom_65 : decode cX5_copyFrom 65 = .ok (.getfield 38, 3) := by decide +kernel
theorem dX5_copyFrom_68 : decode cX5_copyFrom 68 = .ok (.invokevirtual 62, 3) := by decide +kernel
theorem dX5_copyFrom_71 : decode cX5_copyFrom 71 = .ok (.aload_n 0, 1) := by decide +kernel
theorem dX5_copyFrom_72 : decode cX5_copyFrom 72 = .ok (.getfield 41, 3) := by decide +kernel
theorem dX5_copyFrom_75 : decode cX5_copyFrom 75 = .ok (.aload_n 1, 1) := by decide +kernel
theorem dX5_copyFrom_76 : decode cX5_copyFrom 76 = .ok (.getfield 41, 3) := by decide +kernel
theorem dX5_copyFrom_79 : decode cX5_copyFrom 79 = .ok (.invokevirtual 62, 3) := by decide +kernel
theorem dX5_copyFrom_82 : decode cX5_copyFrom 82 = .ok (.return_, 1) := by decide +kernel
theorem dX6_init_0 : decode cX6_init 0 = .ok (.aload_n 0, 1) := by decide +kernel
theorem dX6_init_1 : decode cX6_init 1 = .ok (.invokespecial 3, 3) := by decide +kernel
theorem dX6_init_4 : decode cX6_init 4 = .ok (.aload_n 0, 1) := by decide +kernel
theorem dX6_init_5 : decode cX6_init 5 = .ok (.bipush 6, 2) := by decide +kernel
theorem dX6_init_7 : decode cX6_init 7 = .ok (.anewarray 9, 3) := by decide +kernel
theorem dX6_init_10 : decode cX6_init 10 = .ok (.putfield 11, 3) := by decide +kernel
theorem dX6_init_13 : decode cX6_init 13 = .ok (.iconst 0, 1) := by decide +kernel
theorem dX6_init_14 : decode cX6_init 14 = .ok (.istore_n 1, 1) := by decide +kernel
theorem dX6_init_15 : decode cX6_init 15 = .ok (.iload_n 1, 1) := by decide +kernel
theorem dX6_init_16 : decode cX6_init 16 = .ok (.aload_n 0, 1) := by decide +kernel
theorem dX6_init_17 : decode cX6_init 17 = .ok (.getfield 11, 3) := by decide +kernel
theorem dX6_init_20 : decode cX6_init 20 = .ok (.arraylength, 1) := by decide +kernel
theorem dX6_init_21 : decode cX6_init 21 = .ok (.if_icmp .ge 23, 3) := by decide +kernel
theorem dX6_init_24 : decode cX6_init 24 = .ok (.aload_n 0, 1) := by decide +kernel
theorem dX6_init_25 : decode cX6_init 25 = .ok (.getfield 11, 3) := by decide +kernel
theorem dX6_init_28 : decode cX6_init 28 = .ok (.iload_n 1, 1) := by decide +kernel
theorem dX6_init_29 : decode cX6_init 29 = .ok (.new 9, 3) := by decide +kernel
theorem dX6_init_32 : decode cX6_init 32 = .ok (.dup, 1) := by decide +kernel
theorem dX6_init_33 : decode cX6_init 33 = .ok (.iload_n 1, 1) := by decide +kernel
theorem dX6_init_34 : decode cX6_init 34 = .ok (.invokespecial 17, 3) := by decide +kernel
theorem dX6_init_37 : decode cX6_init 37 = .ok (.aastore, 1) := by decide +kernel
theorem dX6_init_38 : decode cX6_init 38 = .ok (.iinc 1 1, 3) := by decide +kernel
theorem dX6_init_41 : decode cX6_init 41 = .ok (.goto (-26), 3) := by decide +kernel
theorem dX6_init_44 : decode cX6_init 44 = .ok (.aload_n 0, 1) := by decide +kernel
theorem dX6_init_45 : decode cX6_init 45 = .ok (.iconst 5, 1) := by decide +kernel
theorem dX6_init_46 : decode cX6_init 46 = .ok (.putfield 20, 3) := by decide +kernel
theorem dX6_init_49 : decode cX6_init 49 = .ok (.return_, 1) := by decide +kernel
theorem dX6_find_0 : decode cX6_find 0 = .ok (.iload_n 1, 1) := by decide +kernel
theorem dX6_find_1 : decode cX6_find 1 = .ok (.ifCond .lt 29, 3) := by decide +kernel
theorem dX6_find_4 : decode cX6_find 4 = .ok (.iload_n 1, 1) := by decide +kernel
theorem dX6_find_5 : decode cX6_find 5 = .ok (.aload_n 0, 1) := by decide +kernel
theorem dX6_find_6 : decode cX6_find 6 = .ok (.getfield 24, 3) := by decide +kernel
theorem dX6_find_9 : decode cX6_find 9 = .ok (.if_icmp .ge 21, 3) := by decide +kernel
theorem dX6_find_12 : decode cX6_find 12 = .ok (.iload_n 1, 1) := by decide +kernel
theorem dX6_find_13 : decode cX6_find 13 = .ok (.aload_n 0, 1) := by decide +kernel
theorem dX6_find_14 : decode cX6_find 14 = .ok (.getfield 11, 3) := by decide +kernel
theorem dX6_find_17 : decode cX6_find 17 = .ok (.arraylength, 1) := by decide +kernel
theorem dX6_find_18 : decode cX6_find 18 = .ok (.if_icmp .ge 12, 3) := by decide +kernel
theorem dX6_find_21 : decode cX6_find 21 = .ok (.aload_n 0, 1) := by decide +kernel
theorem dX6_find_22 : decode cX6_find 22 = .ok (.getfield 11, 3) := by decide +kernel
theorem dX6_find_25 : decode cX6_find 25 = .ok (.iload_n 1, 1) := by decide +kernel
theorem dX6_find_26 : decode cX6_find 26 = .ok (.aaload, 1) := by decide +kernel
theorem dX6_find_27 : decode cX6_find 27 = .ok (.goto 4, 3) := by decide +kernel
theorem dX6_find_30 : decode cX6_find 30 = .ok (.aconst_null, 1) := by decide +kernel
theorem dX6_find_31 : decode cX6_find 31 = .ok (.areturn, 1) := by decide +kernel
theorem dX6_addDeed_0 : decode cX6_addDeed 0 = .ok (.aload_n 0, 1) := by decide +kernel
theorem dX6_addDeed_1 : decode cX6_addDeed 1 = .ok (.getfield 24, 3) := by decide +kernel
theorem dX6_addDeed_4 : decode cX6_addDeed 4 = .ok (.ifCond .lt 15, 3) := by decide +kernel
theorem dX6_addDeed_7 : decode cX6_addDeed 7 = .ok (.aload_n 0, 1) := by decide +kernel
theorem dX6_addDeed_8 : decode cX6_addDeed 8 = .ok (.getfield 24, 3) := by decide +kernel
theorem dX6_addDeed_11 : decode cX6_addDeed 11 = .ok (.aload_n 0, 1) := by decide +kernel
theorem dX6_addDeed_12 : decode cX6_addDeed 12 = .ok (.getfield 11, 3) := by decide +kernel
theorem dX6_addDeed_15 : decode cX6_addDeed 15 = .ok (.arraylength, 1) := by decide +kernel
theorem dX6_addDeed_16 : decode cX6_addDeed 16 = .ok (.if_icmp .lt 5, 3) := by decide +kernel
theorem dX6_addDeed_19 : decode cX6_addDeed 19 = .ok (.iconst 0, 1) := by decide +kernel
theorem dX6_addDeed_20 : decode cX6_addDeed 20 = .ok (.ireturn, 1) := by decide +kernel
theorem dX6_addDeed_21 : decode cX6_addDeed 21 = .ok (.aload_n 0, 1) := by decide +kernel
theorem dX6_addDeed_22 : decode cX6_addDeed 22 = .ok (.getfield 11, 3) := by decide +kernel
theorem dX6_addDeed_25 : decode cX6_addDeed 25 = .ok (.aload_n 0, 1) := by decide +kernel
theorem dX6_addDeed_26 : decode cX6_addDeed 26 = .ok (.getfield 24, 3) := by decide +kernel
theorem dX6_addDeed_29 : decode cX6_addDeed 29 = .ok (.aaload, 1) := by decide +kernel
theorem dX6_addDeed_30 : decode cX6_addDeed 30 = .ok (.astore_n 3, 1) := by decide +kernel
theorem dX6_addDeed_31 : decode cX6_addDeed 31 = .ok (.aload_n 3, 1) := by decide +kernel
theorem dX6_addDeed_32 : decode cX6_addDeed 32 = .ok (.ifnonnull 5, 3) := by decide +kernel
theorem dX6_addDeed_35 : decode cX6_addDeed 35 = .ok (.iconst 0, 1) := by decide +kernel
theorem dX6_addDeed_36 : decode cX6_addDeed 36 = .ok (.ireturn, 1) := by decide +kernel
theorem dX6_addDeed_37 : decode cX6_addDeed 37 = .ok (.aload_n 3, 1) := by decide +kernel
theorem dX6_addDeed_38 : decode cX6_addDeed 38 = .ok (.iload_n 1, 1) := by decide +kernel
theorem dX6_addDeed_39 : decode cX6_addDeed 39 = .ok (.iload_n 2, 1) := by decide +kernel
theorem dX6_addDeed_40 : decode cX6_addDeed 40 = .ok (.invokevirtual 27, 3) := by decide +kernel
theorem dX6_addDeed_43 : decode cX6_addDeed 43 = .ok (.aload_n 0, 1) := by decide +kernel
theorem dX6_addDeed_44 : decode cX6_addDeed 44 = .ok (.dup, 1) := by decide +kernel
theorem dX6_addDeed_45 : decode cX6_addDeed 45 = .ok (.getfield 24, 3) := by decide +kernel
theorem dX6_addDeed_48 : decode cX6_addDeed 48 = .ok (.iconst 1, 1) := by decide +kernel
theorem dX6_addDeed_49 : decode cX6_addDeed 49 = .ok (.iadd, 1) := by decide +kernel
theorem dX6_addDeed_50 : decode cX6_addDeed 50 = .ok (.putfield 24, 3) := by decide +kernel
theorem dX6_addDeed_53 : decode cX6_addDeed 53 = .ok (.iconst 1, 1) := by decide +kernel
theorem dX6_addDeed_54 : decode cX6_addDeed 54 = .ok (.ireturn, 1) := by decide +kernel
theorem dX6_copyFrom_0 : decode cX6_copyFrom 0 = .ok (.aload_n 0, 1) := by decide +kernel
theorem dX6_copyFrom_1 : decode cX6_copyFrom 1 = .ok (.aload_n 1, 1) := by decide +kernel
theorem dX6_copyFrom_2 : decode cX6_copyFrom 2 = .ok (.getfield 24, 3) := by decide +kernel
theorem dX6_copyFrom_5 : decode cX6_copyFrom 5 = .ok (.putfield 24, 3) := by decide +kernel
theorem dX6_copyFrom_8 : decode cX6_copyFrom 8 = .ok (.aload_n 0, 1) := by decide +kernel
theorem dX6_copyFrom_9 : decode cX6_copyFrom 9 = .ok (.aload_n 1, 1) := by decide +kernel
theorem dX6_copyFrom_10 : decode cX6_copyFrom 10 = .ok (.getfield 20, 3) := by decide +kernel
theorem dX6_copyFrom_13 : decode cX6_copyFrom 13 = .ok (.putfield 20, 3) := by decide +kernel
theorem dX6_copyFrom_16 : decode cX6_copyFrom 16 = .ok (.aload_n 0, 1) := by decide +kernel
theorem dX6_copyFrom_17 : decode cX6_copyFrom 17 = .ok (.aload_n 1, 1) := by decide +kernel
theorem dX6_copyFrom_18 : decode cX6_copyFrom 18 = .ok (.getfield 31, 3) := by decide +kernel
theorem dX6_copyFrom_21 : decode cX6_copyFrom 21 = .ok (.putfield 31, 3) := by decide +kernel
theorem dX6_copyFrom_24 : decode cX6_copyFrom 24 = .ok (.aload_n 0, 1) := by decide +kernel
theorem dX6_copyFrom_25 : decode cX6_copyFrom 25 = .ok (.aload_n 1, 1) := by decide +kernel
theorem dX6_copyFrom_26 : decode cX6_copyFrom 26 = .ok (.getfield 34, 3) := by decide +kernel
theorem dX6_copyFrom_29 : decode cX6_copyFrom 29 = .ok (.putfield 34, 3) := by decide +kernel
theorem dX6_copyFrom_32 : decode cX6_copyFrom 32 = .ok (.iconst 0, 1) := by decide +kernel
theorem dX6_copyFrom_33 : decode cX6_copyFrom 33 = .ok (.istore_n 2, 1) := by decide +kernel
theorem dX6_copyFrom_34 : decode cX6_copyFrom 34 = .ok (.iload_n 2, 1) := by decide +kernel
theorem dX6_copyFrom_35 : decode cX6_copyFrom 35 = .ok (.aload_n 0, 1) := by decide +kernel
theorem dX6_copyFrom_36 : decode cX6_copyFrom 36 = .ok (.getfield 24, 3) := by decide +kernel
theorem dX6_copyFrom_39 : decode cX6_copyFrom 39 = .ok (.if_icmp .ge 37, 3) := by decide +kernel
theorem dX6_copyFrom_42 : decode cX6_copyFrom 42 = .ok (.aload_n 0, 1) := by decide +kernel
theorem dX6_copyFrom_43 : decode cX6_copyFrom 43 = .ok (.iload_n 2, 1) := by decide +kernel
theorem dX6_copyFrom_44 : decode cX6_copyFrom 44 = .ok (.invokevirtual 37, 3) := by decide +kernel
theorem dX6_copyFrom_47 : decode cX6_copyFrom 47 = .ok (.astore_n 3, 1) := by decide +kernel
theorem dX6_copyFrom_48 : decode cX6_copyFrom 48 = .ok (.aload_n 1, 1) := by decide +kernel
theorem dX6_copyFrom_49 : decode cX6_copyFrom 49 = .ok (.iload_n 2, 1) := by decide +kernel
theorem dX6_copyFrom_50 : decode cX6_copyFrom 50 = .ok (.invokevirtual 37, 3) := by decide +kernel
theorem dX6_copyFrom_53 : decode cX6_copyFrom 53 = .ok (.astore 4, 2) := by decide +kernel
theorem dX6_copyFrom_55 : decode cX6_copyFrom 55 = .ok (.aload_n 3, 1) := by decide +kernel
theorem dX6_copyFrom_56 : decode cX6_copyFrom 56 = .ok (.ifnull 14, 3) := by decide +kernel
theorem dX6_copyFrom_59 : decode cX6_copyFrom 59 = .ok (.aload 4, 2) := by decide +kernel
theorem dX6_copyFrom_61 : decode cX6_copyFrom 61 = .ok (.ifnull 9, 3) := by decide +kernel
theorem dX6_copyFrom_64 : decode cX6_copyFrom 64 = .ok (.aload_n 3, 1) := by decide +kernel
theorem dX6_copyFrom_65 : decode cX6_copyFrom 65 = .ok (.aload 4, 2) := by decide +kernel
theorem dX6_copyFrom_67 : decode cX6_copyFrom 67 = .ok (.invokevirtual 41, 3) := by decide +kernel
theorem dX6_copyFrom_70 : decode cX6_copyFrom 70 = .ok (.iinc 2 1, 3) := by decide +kernel
theorem dX6_copyFrom_73 : decode cX6_copyFrom 73 = .ok (.goto (-39), 3) := by decide +kernel
theorem dX6_copyFrom_76 : decode cX6_copyFrom 76 = .ok (.return_, 1) := by decide +kernel
theorem dX6_goMornings_0 : decode cX6_goMornings 0 = .ok (.iconst 0, 1) := by decide +kernel
theorem dX6_goMornings_1 : decode cX6_goMornings 1 = .ok (.istore_n 3, 1) := by decide +kernel
theorem dX6_goMornings_2 : decode cX6_goMornings 2 = .ok (.iload_n 3, 1) := by decide +kernel
theorem dX6_goMornings_3 : decode cX6_goMornings 3 = .ok (.iload_n 1, 1) := by decide +kernel
theorem dX6_goMornings_4 : decode cX6_goMornings 4 = .ok (.if_icmp .ge 14, 3) := by decide +kernel
theorem dX6_goMornings_7 : decode cX6_goMornings 7 = .ok (.aload_n 0, 1) := by decide +kernel
theorem dX6_goMornings_8 : decode cX6_goMornings 8 = .ok (.aload_n 2, 1) := by decide +kernel
theorem dX6_goMornings_9 : decode cX6_goMornings 9 = .ok (.invokevirtual 45, 3) := by decide +kernel
theorem dX6_goMornings_12 : decode cX6_goMornings 12 = .ok (.iinc 3 1, 3) := by decide +kernel
theorem dX6_goMornings_15 : decode cX6_goMornings 15 = .ok (.goto (-13), 3) := by decide +kernel
theorem dX6_goMornings_18 : decode cX6_goMornings 18 = .ok (.return_, 1) := by decide +kernel
theorem dX6_goMorning_0 : decode cX6_goMorning 0 = .ok (.iconst 0, 1) := by decide +kernel
theorem dX6_goMorning_1 : decode cX6_goMorning 1 = .ok (.istore_n 2, 1) := by decide +kernel
theorem dX6_goMorning_2 : decode cX6_goMorning 2 = .ok (.iload_n 2, 1) := by decide +kernel
theorem dX6_goMorning_3 : decode cX6_goMorning 3 = .ok (.aload_n 0, 1) := by decide +kernel
theorem dX6_goMorning_4 : decode cX6_goMorning 4 = .ok (.getfield 24, 3) := by decide +kernel
theorem dX6_goMorning_7 : decode cX6_goMorning 7 = .ok (.if_icmp .ge 61, 3) := by decide +kernel
theorem dX6_goMorning_10 : decode cX6_goMorning 10 = .ok (.aload_n 0, 1) := by decide +kernel
theorem dX6_goMorning_11 : decode cX6_goMorning 11 = .ok (.iload_n 2, 1) := by decide +kernel
theorem dX6_goMorning_12 : decode cX6_goMorning 12 = .ok (.invokevirtual 37, 3) := by decide +kernel
theorem dX6_goMorning_15 : decode cX6_goMorning 15 = .ok (.astore_n 3, 1) := by decide +kernel
theorem dX6_goMorning_16 : decode cX6_goMorning 16 = .ok (.aload_n 3, 1) := by decide +kernel
theorem dX6_goMorning_17 : decode cX6_goMorning 17 = .ok (.ifnonnull 6, 3) := by decide +kernel
theorem dX6_goMorning_20 : decode cX6_goMorning 20 = .ok (.goto 42, 3) := by decide +kernel
theorem dX6_goMorning_23 : decode cX6_goMorning 23 = .ok (.aload_n 3, 1) := by decide +kernel
theorem dX6_goMorning_24 : decode cX6_goMorning 24 = .ok (.aload_n 3, 1) := by decide +kernel
theorem dX6_goMorning_25 : decode cX6_goMorning 25 = .ok (.aload_n 1, 1) := by decide +kernel
theorem dX6_goMorning_26 : decode cX6_goMorning 26 = .ok (.aload_n 0, 1) := by decide +kernel
theorem dX6_goMorning_27 : decode cX6_goMorning 27 = .ok (.getfield 31, 3) := by decide +kernel
theorem dX6_goMorning_30 : decode cX6_goMorning 30 = .ok (.invokevirtual 49, 3) := by decide +kernel
theorem dX6_goMorning_33 : decode cX6_goMorning 33 = .ok (.aload_n 0, 1) := by decide +kernel
theorem dX6_goMorning_34 : decode cX6_goMorning 34 = .ok (.getfield 20, 3) := by decide +kernel
theorem dX6_goMorning_37 : decode cX6_goMorning 37 = .ok (.invokevirtual 53, 3) := by decide +kernel
theorem dX6_goMorning_40 : decode cX6_goMorning 40 = .ok (.aload_n 3, 1) := by decide +kernel
theorem dX6_goMorning_41 : decode cX6_goMorning 41 = .ok (.getfield 55, 3) := by decide +kernel
theorem dX6_goMorning_44 : decode cX6_goMorning 44 = .ok (.ifCond .eq 18, 3) := by decide +kernel
theorem dX6_goMorning_47 : decode cX6_goMorning 47 = .ok (.aload_n 0, 1) := by decide +kernel
theorem dX6_goMorning_48 : decode cX6_goMorning 48 = .ok (.dup, 1) := by decide +kernel
theorem dX6_goMorning_49 : decode cX6_goMorning 49 = .ok (.getfield 34, 3) := by decide +kernel
theorem dX6_goMorning_52 : decode cX6_goMorning 52 = .ok (.aload_n 3, 1) := by decide +kernel
theorem dX6_goMorning_53 : decode cX6_goMorning 53 = .ok (.getfield 59, 3) := by decide +kernel
theorem dX6_goMorning_56 : decode cX6_goMorning 56 = .ok (.iconst 1, 1) := by decide +kernel
theorem dX6_goMorning_57 : decode cX6_goMorning 57 = .ok (.iadd, 1) := by decide +kernel
theorem dX6_goMorning_58 : decode cX6_goMorning 58 = .ok (.iadd, 1) := by decide +kernel
theorem dX6_goMorning_59 : decode cX6_goMorning 59 = .ok (.putfield 34, 3) := by decide +kernel
theorem dX6_goMorning_62 : decode cX6_goMorning 62 = .ok (.iinc 2 1, 3) := by decide +kernel
theorem dX6_goMorning_65 : decode cX6_goMorning 65 = .ok (.goto (-63), 3) := by decide +kernel
theorem dX6_goMorning_68 : decode cX6_goMorning 68 = .ok (.aload_n 0, 1) := by decide +kernel
theorem dX6_goMorning_69 : decode cX6_goMorning 69 = .ok (.dup, 1) := by decide +kernel
theorem dX6_goMorning_70 : decode cX6_goMorning 70 = .ok (.getfield 31, 3) := by decide +kernel
theorem dX6_goMorning_73 : decode cX6_goMorning 73 = .ok (.iconst 1, 1) := by decide +kernel
theorem dX6_goMorning_74 : decode cX6_goMorning 74 = .ok (.iadd, 1) := by decide +kernel
theorem dX6_goMorning_75 : decode cX6_goMorning 75 = .ok (.putfield 31, 3) := by decide +kernel
theorem dX6_goMorning_78 : decode cX6_goMorning 78 = .ok (.return_, 1) := by decide +kernel
theorem dX6_leftBits_0 : decode cX6_leftBits 0 = .ok (.iconst 0, 1) := by decide +kernel
theorem dX6_leftBits_1 : decode cX6_leftBits 1 = .ok (.istore_n 1, 1) := by decide +kernel
theorem dX6_leftBits_2 : decode cX6_leftBits 2 = .ok (.iconst 0, 1) := by decide +kernel
theorem dX6_leftBits_3 : decode cX6_leftBits 3 = .ok (.istore_n 2, 1) := by decide +kernel
theorem dX6_leftBits_4 : decode cX6_leftBits 4 = .ok (.iload_n 2, 1) := by decide +kernel
theorem dX6_leftBits_5 : decode cX6_leftBits 5 = .ok (.aload_n 0, 1) := by decide +kernel
theorem dX6_leftBits_6 : decode cX6_leftBits 6 = .ok (.getfield 24, 3) := by decide +kernel
theorem dX6_leftBits_9 : decode cX6_leftBits 9 = .ok (.if_icmp .ge 32, 3) := by decide +kernel
theorem dX6_leftBits_12 : decode cX6_leftBits 12 = .ok (.aload_n 0, 1) := by decide +kernel
theorem dX6_leftBits_13 : decode cX6_leftBits 13 = .ok (.iload_n 2, 1) := by decide +kernel
theorem dX6_leftBits_14 : decode cX6_leftBits 14 = .ok (.invokevirtual 37, 3) := by decide +kernel
theorem dX6_leftBits_17 : decode cX6_leftBits 17 = .ok (.astore_n 3, 1) := by decide +kernel
theorem dX6_leftBits_18 : decode cX6_leftBits 18 = .ok (.aload_n 3, 1) := by decide +kernel
theorem dX6_leftBits_19 : decode cX6_leftBits 19 = .ok (.ifnull 16, 3) := by decide +kernel
theorem dX6_leftBits_22 : decode cX6_leftBits 22 = .ok (.aload_n 3, 1) := by decide +kernel
theorem dX6_leftBits_23 : decode cX6_leftBits 23 = .ok (.getfield 55, 3) := by decide +kernel
theorem dX6_leftBits_26 : decode cX6_leftBits 26 = .ok (.ifCond .eq 9, 3) := by decide +kernel
theorem dX6_leftBits_29 : decode cX6_leftBits 29 = .ok (.iload_n 1, 1) := by decide +kernel
theorem dX6_leftBits_30 : decode cX6_leftBits 30 = .ok (.iconst 1, 1) := by decide +kernel
theorem dX6_leftBits_31 : decode cX6_leftBits 31 = .ok (.iload_n 2, 1) := by decide +kernel
theorem dX6_leftBits_32 : decode cX6_leftBits 32 = .ok (.ishl, 1) := by decide +kernel
theorem dX6_leftBits_33 : decode cX6_leftBits 33 = .ok (.ior, 1) := by decide +kernel
theorem dX6_leftBits_34 : decode cX6_leftBits 34 = .ok (.istore_n 1, 1) := by decide +kernel
theorem dX6_leftBits_35 : decode cX6_leftBits 35 = .ok (.iinc 2 1, 3) := by decide +kernel
theorem dX6_leftBits_38 : decode cX6_leftBits 38 = .ok (.goto (-34), 3) := by decide +kernel
theorem dX6_leftBits_41 : decode cX6_leftBits 41 = .ok (.iload_n 1, 1) := by decide +kernel
theorem dX6_leftBits_42 : decode cX6_leftBits 42 = .ok (.ireturn, 1) := by decide +kernel
theorem dX6_traces_0 : decode cX6_traces 0 = .ok (.iconst 0, 1) := by decide +kernel
theorem dX6_traces_1 : decode cX6_traces 1 = .ok (.istore_n 1, 1) := by decide +kernel
theorem dX6_traces_2 : decode cX6_traces 2 = .ok (.iconst 0, 1) := by decide +kernel
theorem dX6_traces_3 : decode cX6_traces 3 = .ok (.istore_n 2, 1) := by decide +kernel
theorem dX6_traces_4 : decode cX6_traces 4 = .ok (.iload_n 2, 1) := by decide +kernel
theorem dX6_traces_5 : decode cX6_traces 5 = .ok (.aload_n 0, 1) := by decide +kernel
theorem dX6_traces_6 : decode cX6_traces 6 = .ok (.getfield 24, 3) := by decide +kernel
theorem dX6_traces_9 : decode cX6_traces 9 = .ok (.if_icmp .ge 26, 3) := by decide +kernel
theorem dX6_traces_12 : decode cX6_traces 12 = .ok (.aload_n 0, 1) := by decide +kernel
theorem dX6_traces_13 : decode cX6_traces 13 = .ok (.iload_n 2, 1) := by decide +kernel
theorem dX6_traces_14 : decode cX6_traces 14 = .ok (.invokevirtual 37, 3) := by decide +kernel
theorem dX6_traces_17 : decode cX6_traces 17 = .ok (.astore_n 3, 1) := by decide +kernel
theorem dX6_traces_18 : decode cX6_traces 18 = .ok (.aload_n 3, 1) := by decide +kernel
theorem dX6_traces_19 : decode cX6_traces 19 = .ok (.ifnull 10, 3) := by decide +kernel
theorem dX6_traces_22 : decode cX6_traces 22 = .ok (.iload_n 1, 1) := by decide +kernel
theorem dX6_traces_23 : decode cX6_traces 23 = .ok (.aload_n 3, 1) := by decide +kernel
theorem dX6_traces_24 : decode cX6_traces 24 = .ok (.getfield 62, 3) := by decide +kernel
theorem dX6_traces_27 : decode cX6_traces 27 = .ok (.iadd, 1) := by decide +kernel
theorem dX6_traces_28 : decode cX6_traces 28 = .ok (.istore_n 1, 1) := by decide +kernel
theorem dX6_traces_29 : decode cX6_traces 29 = .ok (.iinc 2 1, 3) := by decide +kernel
theorem dX6_traces_32 : decode cX6_traces 32 = .ok (.goto (-28), 3) := by decide +kernel
theorem dX6_traces_35 : decode cX6_traces 35 = .ok (.iload_n 1, 1) := by decide +kernel
theorem dX6_traces_36 : decode cX6_traces 36 = .ok (.ireturn, 1) := by decide +kernel
theorem dX7_init_0 : decode cX7_init 0 = .ok (.aload_n 0, 1) := by decide +kernel
theorem dX7_init_1 : decode cX7_init 1 = .ok (.invokespecial 3, 3) := by decide +kernel
theorem dX7_init_4 : decode cX7_init 4 = .ok (.aload_n 0, 1) := by decide +kernel
theorem dX7_init_5 : decode cX7_init 5 = .ok (.new 9, 3) := by decide +kernel
theorem dX7_init_8 : decode cX7_init 8 = .ok (.dup, 1) := by decide +kernel
theorem dX7_init_9 : decode cX7_init 9 = .ok (.invokespecial 11, 3) := by decide +kernel
theorem dX7_init_12 : decode cX7_init 12 = .ok (.putfield 12, 3) := by decide +kernel
theorem dX7_init_15 : decode cX7_init 15 = .ok (.aload_n 0, 1) := by decide +kernel
theorem dX7_init_16 : decode cX7_init 16 = .ok (.new 9, 3) := by decide +kernel
theorem dX7_init_19 : decode cX7_init 19 = .ok (.dup, 1) := by decide +kernel
theorem dX7_init_20 : decode cX7_init 20 = .ok (.invokespecial 11, 3) := by decide +kernel
theorem dX7_init_23 : decode cX7_init 23 = .ok (.putfield 18, 3) := by decide +kernel
theorem dX7_init_26 : decode cX7_init 26 = .ok (.aload_n 0, 1) := by decide +kernel
theorem dX7_init_27 : decode cX7_init 27 = .ok (.new 21, 3) := by decide +kernel
theorem dX7_init_30 : decode cX7_init 30 = .ok (.dup, 1) := by decide +kernel
theorem dX7_init_31 : decode cX7_init 31 = .ok (.invokespecial 23, 3) := by decide +kernel
theorem dX7_init_34 : decode cX7_init 34 = .ok (.putfield 24, 3) := by decide +kernel
theorem dX7_init_37 : decode cX7_init 37 = .ok (.aload_n 0, 1) := by decide +kernel
theorem dX7_init_38 : decode cX7_init 38 = .ok (.new 28, 3) := by decide +kernel
theorem dX7_init_41 : decode cX7_init 41 = .ok (.dup, 1) := by decide +kernel
theorem dX7_init_42 : decode cX7_init 42 = .ok (.aload_n 0, 1) := by decide +kernel
theorem dX7_init_43 : decode cX7_init 43 = .ok (.getfield 12, 3) := by decide +kernel
theorem dX7_init_46 : decode cX7_init 46 = .ok (.aload_n 0, 1) := by decide +kernel
theorem dX7_init_47 : decode cX7_init 47 = .ok (.getfield 24, 3) := by decide +kernel
theorem dX7_init_50 : decode cX7_init 50 = .ok (.invokespecial 30, 3) := by decide +kernel
theorem dX7_init_53 : decode cX7_init 53 = .ok (.putfield 33, 3) := by decide +kernel
theorem dX7_init_56 : decode cX7_init 56 = .ok (.aload_n 0, 1) := by decide +kernel
theorem dX7_init_57 : decode cX7_init 57 = .ok (.new 37, 3) := by decide +kernel
theorem dX7_init_60 : decode cX7_init 60 = .ok (.dup, 1) := by decide +kernel
theorem dX7_init_61 : decode cX7_init 61 = .ok (.invokespecial 39, 3) := by decide +kernel
theorem dX7_init_64 : decode cX7_init 64 = .ok (.putfield 40, 3) := by decide +kernel
theorem dX7_init_67 : decode cX7_init 67 = .ok (.aload_n 0, 1) := by decide +kernel
theorem dX7_init_68 : decode cX7_init 68 = .ok (.new 44, 3) := by decide +kernel
theorem dX7_init_71 : decode cX7_init 71 = .ok (.dup, 1) := by decide +kernel
theorem dX7_init_72 : decode cX7_init 72 = .ok (.iconst 0, 1) := by decide +kernel
theorem dX7_init_73 : decode cX7_init 73 = .ok (.invokespecial 46, 3) := by decide +kernel
theorem dX7_init_76 : decode cX7_init 76 = .ok (.putfield 49, 3) := by decide +kernel
theorem dX7_init_79 : decode cX7_init 79 = .ok (.aload_n 0, 1) := by decide +kernel
theorem dX7_init_80 : decode cX7_init 80 = .ok (.new 53, 3) := by decide +kernel
theorem dX7_init_83 : decode cX7_init 83 = .ok (.dup, 1) := by decide +kernel
theorem dX7_init_84 : decode cX7_init 84 = .ok (.invokespecial 55, 3) := by decide +kernel
theorem dX7_init_87 : decode cX7_init 87 = .ok (.putfield 56, 3) := by decide +kernel
theorem dX7_init_90 : decode cX7_init 90 = .ok (.aload_n 0, 1) := by decide +kernel
theorem dX7_init_91 : decode cX7_init 91 = .ok (.bipush 10, 2) := by decide +kernel
theorem dX7_init_93 : decode cX7_init 93 = .ok (.newarray .int, 2) := by decide +kernel
theorem dX7_init_95 : decode cX7_init 95 = .ok (.putfield 60, 3) := by decide +kernel
theorem dX7_init_98 : decode cX7_init 98 = .ok (.aload_n 0, 1) := by decide +kernel
theorem dX7_init_99 : decode cX7_init 99 = .ok (.bipush 10, 2) := by decide +kernel
theorem dX7_init_101 : decode cX7_init 101 = .ok (.newarray .int, 2) := by decide +kernel
theorem dX7_init_103 : decode cX7_init 103 = .ok (.putfield 64, 3) := by decide +kernel
theorem dX7_init_106 : decode cX7_init 106 = .ok (.return_, 1) := by decide +kernel
theorem dX7_feed_0 : decode cX7_feed 0 = .ok (.iload_n 1, 1) := by decide +kernel
theorem dX7_feed_1 : decode cX7_feed 1 = .ok (.bipush 127, 2) := by decide +kernel
theorem dX7_feed_3 : decode cX7_feed 3 = .ok (.invokestatic 67, 3) := by decide +kernel
theorem dX7_feed_6 : decode cX7_feed 6 = .ok (.ifCond .eq 6, 3) := by decide +kernel
theorem dX7_feed_9 : decode cX7_feed 9 = .ok (.bipush (-2), 2) := by decide +kernel
theorem dX7_feed_11 : decode cX7_feed 11 = .ok (.ireturn, 1) := by decide +kernel
theorem dX7_feed_12 : decode cX7_feed 12 = .ok (.aload_n 0, 1) := by decide +kernel
theorem dX7_feed_13 : decode cX7_feed 13 = .ok (.getfield 12, 3) := by decide +kernel
theorem dX7_feed_16 : decode cX7_feed 16 = .ok (.iload_n 1, 1) := by decide +kernel
theorem dX7_feed_17 : decode cX7_feed 17 = .ok (.invokevirtual 71, 3) := by decide +kernel
theorem dX7_feed_20 : decode cX7_feed 20 = .ok (.ifCond .eq 13, 3) := by decide +kernel
theorem dX7_feed_23 : decode cX7_feed 23 = .ok (.aload_n 0, 1) := by decide +kernel
theorem dX7_feed_24 : decode cX7_feed 24 = .ok (.getfield 12, 3) := by decide +kernel
theorem dX7_feed_27 : decode cX7_feed 27 = .ok (.getfield 75, 3) := by decide +kernel
theorem dX7_feed_30 : decode cX7_feed 30 = .ok (.goto 5, 3) := by decide +kernel
theorem dX7_feed_33 : decode cX7_feed 33 = .ok (.bipush (-4), 2) := by decide +kernel
theorem dX7_feed_35 : decode cX7_feed 35 = .ok (.ireturn, 1) := by decide +kernel
theorem dX7_house_0 : decode cX7_house 0 = .ok (.aload_n 0, 1) := by decide +kernel
theorem dX7_house_1 : decode cX7_house 1 = .ok (.getfield 12, 3) := by decide +kernel
theorem dX7_house_4 : decode cX7_house 4 = .ok (.getfield 79, 3) := by decide +kernel
theorem dX7_house_7 : decode cX7_house 7 = .ok (.iconst 5, 1) := by decide +kernel
theorem dX7_house_8 : decode cX7_house 8 = .ok (.if_icmp .lt 6, 3) := by decide +kernel
theorem dX7_house_11 : decode cX7_house 11 = .ok (.bipush (-4), 2) := by decide +kernel
theorem dX7_house_13 : decode cX7_house 13 = .ok (.ireturn, 1) := by decide +kernel
theorem dX7_house_14 : decode cX7_house 14 = .ok (.aload_n 0, 1) := by decide +kernel
theorem dX7_house_15 : decode cX7_house 15 = .ok (.getfield 33, 3) := by decide +kernel
theorem dX7_house_18 : decode cX7_house 18 = .ok (.invokevirtual 82, 3) := by decide +kernel
theorem dX7_house_21 : decode cX7_house 21 = .ok (.istore_n 1, 1) := by decide +kernel
theorem dX7_house_22 : decode cX7_house 22 = .ok (.aload_n 0, 1) := by decide +kernel
theorem dX7_house_23 : decode cX7_house 23 = .ok (.getfield 12, 3) := by decide +kernel
theorem dX7_house_26 : decode cX7_house 26 = .ok (.iconst 0, 1) := by decide +kernel
theorem dX7_house_27 : decode cX7_house 27 = .ok (.putfield 75, 3) := by decide +kernel
theorem dX7_house_30 : decode cX7_house 30 = .ok (.iload_n 1, 1) := by decide +kernel
theorem dX7_house_31 : decode cX7_house 31 = .ok (.ifCond .lt 8, 3) := by decide +kernel
theorem dX7_house_34 : decode cX7_house 34 = .ok (.bipush (-10), 2) := by decide +kernel
theorem dX7_house_36 : decode cX7_house 36 = .ok (.iload_n 1, 1) := by decide +kernel
theorem dX7_house_37 : decode cX7_house 37 = .ok (.isub, 1) := by decide +kernel
theorem dX7_house_38 : decode cX7_house 38 = .ok (.ireturn, 1) := by decide +kernel
theorem dX7_house_39 : decode cX7_house 39 = .ok (.aload_n 0, 1) := by decide +kernel
theorem dX7_house_40 : decode cX7_house 40 = .ok (.getfield 12, 3) := by decide +kernel
theorem dX7_house_43 : decode cX7_house 43 = .ok (.getfield 86, 3) := by decide +kernel
theorem dX7_house_46 : decode cX7_house 46 = .ok (.aload_n 0, 1) := by decide +kernel
theorem dX7_house_47 : decode cX7_house 47 = .ok (.getfield 24, 3) := by decide +kernel
theorem dX7_house_50 : decode cX7_house 50 = .ok (.invokevirtual 89, 3) := by decide +kernel
theorem dX7_house_53 : decode cX7_house 53 = .ok (.aload_n 0, 1) := by decide +kernel
theorem dX7_house_54 : decode cX7_house 54 = .ok (.getfield 12, 3) := by decide +kernel
theorem dX7_house_57 : decode cX7_house 57 = .ok (.dup, 1) := by decide +kernel
theorem dX7_house_58 : decode cX7_house 58 = .ok (.getfield 79, 3) := by decide +kernel
theorem dX7_house_61 : decode cX7_house 61 = .ok (.iconst 1, 1) := by decide +kernel
theorem dX7_house_62 : decode cX7_house 62 = .ok (.iadd, 1) := by decide +kernel
theorem dX7_house_63 : decode cX7_house 63 = .ok (.putfield 79, 3) := by decide +kernel
theorem dX7_house_66 : decode cX7_house 66 = .ok (.aload_n 0, 1) := by decide +kernel
theorem dX7_house_67 : decode cX7_house 67 = .ok (.getfield 12, 3) := by decide +kernel
theorem dX7_house_70 : decode cX7_house 70 = .ok (.getfield 79, 3) := by decide +kernel
theorem dX7_house_73 : decode cX7_house 73 = .ok (.iconst 1, 1) := by decide +kernel
theorem dX7_house_74 : decode cX7_house 74 = .ok (.isub, 1) := by decide +kernel
theorem dX7_house_75 : decode cX7_house 75 = .ok (.ireturn, 1) := by decide +kernel
theorem dX7_deed_0 : decode cX7_deed 0 = .ok (.iload_n 1, 1) := by decide +kernel
theorem dX7_deed_1 : decode cX7_deed 1 = .ok (.bipush 6, 2) := by decide +kernel
theorem dX7_deed_3 : decode cX7_deed 3 = .ok (.invokestatic 67, 3) := by decide +kernel
theorem dX7_deed_6 : decode cX7_deed 6 = .ok (.ifCond .eq 5, 3) := by decide +kernel
theorem dX7_deed_9 : decode cX7_deed 9 = .ok (.iconst (-1), 1) := by decide +kernel
theorem dX7_deed_10 : decode cX7_deed 10 = .ok (.ireturn, 1) := by decide +kernel
theorem dX7_deed_11 : decode cX7_deed 11 = .ok (.iload_n 2, 1) := by decide +kernel
theorem dX7_deed_12 : decode cX7_deed 12 = .ok (.bipush 9, 2) := by decide +kernel
theorem dX7_deed_14 : decode cX7_deed 14 = .ok (.invokestatic 67, 3) := by decide +kernel
theorem dX7_deed_17 : decode cX7_deed 17 = .ok (.ifCond .eq 6, 3) := by decide +kernel
theorem dX7_deed_20 : decode cX7_deed 20 = .ok (.bipush (-2), 2) := by decide +kernel
theorem dX7_deed_22 : decode cX7_deed 22 = .ok (.ireturn, 1) := by decide +kernel
theorem dX7_deed_23 : decode cX7_deed 23 = .ok (.aload_n 0, 1) := by decide +kernel
theorem dX7_deed_24 : decode cX7_deed 24 = .ok (.getfield 12, 3) := by decide +kernel
theorem dX7_deed_27 : decode cX7_deed 27 = .ok (.getfield 93, 3) := by decide +kernel
theorem dX7_deed_30 : decode cX7_deed 30 = .ok (.iload_n 1, 1) := by decide +kernel
theorem dX7_deed_31 : decode cX7_deed 31 = .ok (.iload_n 2, 1) := by decide +kernel
theorem dX7_deed_32 : decode cX7_deed 32 = .ok (.invokevirtual 96, 3) := by decide +kernel
theorem dX7_deed_35 : decode cX7_deed 35 = .ok (.ifCond .eq 18, 3) := by decide +kernel
theorem dX7_deed_38 : decode cX7_deed 38 = .ok (.aload_n 0, 1) := by decide +kernel
theorem dX7_deed_39 : decode cX7_deed 39 = .ok (.getfield 12, 3) := by decide +kernel
theorem dX7_deed_42 : decode cX7_deed 42 = .ok (.getfield 93, 3) := by decide +kernel
theorem dX7_deed_45 : decode cX7_deed 45 = .ok (.getfield 99, 3) := by decide +kernel
theorem dX7_deed_48 : decode cX7_deed 48 = .ok (.iconst 1, 1) := by decide +kernel
theorem dX7_deed_49 : decode cX7_deed 49 = .ok (.isub, 1) := by decide +kernel
theorem dX7_deed_50 : decode cX7_deed 50 = .ok (.goto 5, 3) := by decide +kernel
theorem dX7_deed_53 : decode cX7_deed 53 = .ok (.bipush (-4), 2) := by decide +kernel
theorem dX7_deed_55 : decode cX7_deed 55 = .ok (.ireturn, 1) := by decide +kernel
theorem dX7_of_0 : decode cX7_of 0 = .ok (.aload_n 0, 1) := by decide +kernel
theorem dX7_of_1 : decode cX7_of 1 = .ok (.getfield 12, 3) := by decide +kernel
theorem dX7_of_4 : decode cX7_of 4 = .ok (.getfield 93, 3) := by decide +kernel
theorem dX7_of_7 : decode cX7_of 7 = .ok (.iload_n 1, 1) := by decide +kernel
theorem dX7_of_8 : decode cX7_of 8 = .ok (.invokevirtual 102, 3) := by decide +kernel
theorem dX7_of_11 : decode cX7_of 11 = .ok (.astore_n 3, 1) := by decide +kernel
theorem dX7_of_12 : decode cX7_of 12 = .ok (.aload_n 3, 1) := by decide +kernel
theorem dX7_of_13 : decode cX7_of 13 = .ok (.ifnonnull 6, 3) := by decide +kernel
theorem dX7_of_16 : decode cX7_of 16 = .ok (.ldc 106, 2) := by decide +kernel
theorem dX7_of_18 : decode cX7_of 18 = .ok (.ireturn, 1) := by decide +kernel
theorem dX7_of_19 : decode cX7_of 19 = .ok (.iload_n 2, 1) := by decide +kernel
theorem dX7_of_20 : decode cX7_of 20 = .ok (.tableswitch 132 0 8 #[52, 57, 62, 75, 80, 85, 90, 95, 117], 52) := by decide +kernel
theorem dX7_of_72 : decode cX7_of 72 = .ok (.aload_n 3, 1) := by decide +kernel
theorem dX7_of_73 : decode cX7_of 73 = .ok (.getfield 107, 3) := by decide +kernel
theorem dX7_of_76 : decode cX7_of 76 = .ok (.ireturn, 1) := by decide +kernel
theorem dX7_of_77 : decode cX7_of 77 = .ok (.aload_n 3, 1) := by decide +kernel
theorem dX7_of_78 : decode cX7_of 78 = .ok (.getfield 110, 3) := by decide +kernel
theorem dX7_of_81 : decode cX7_of 81 = .ok (.ireturn, 1) := by decide +kernel
theorem dX7_of_82 : decode cX7_of 82 = .ok (.aload_n 3, 1) := by decide +kernel
theorem dX7_of_83 : decode cX7_of 83 = .ok (.getfield 113, 3) := by decide +kernel
theorem dX7_of_86 : decode cX7_of 86 = .ok (.ifCond .eq 7, 3) := by decide +kernel
theorem dX7_of_89 : decode cX7_of 89 = .ok (.iconst 1, 1) := by decide +kernel
theorem dX7_of_90 : decode cX7_of 90 = .ok (.goto 4, 3) := by decide +kernel
theorem dX7_of_93 : decode cX7_of 93 = .ok (.iconst 0, 1) := by decide +kernel
theorem dX7_of_94 : decode cX7_of 94 = .ok (.ireturn, 1) := by decide +kernel
theorem dX7_of_95 : decode cX7_of 95 = .ok (.aload_n 3, 1) := by decide +kernel
theorem dX7_of_96 : decode cX7_of 96 = .ok (.getfield 117, 3) := by decide +kernel
theorem dX7_of_99 : decode cX7_of 99 = .ok (.ireturn, 1) := by decide +kernel
theorem dX7_of_100 : decode cX7_of 100 = .ok (.aload_n 3, 1) := by decide +kernel
theorem dX7_of_101 : decode cX7_of 101 = .ok (.getfield 120, 3) := by decide +kernel
theorem dX7_of_104 : decode cX7_of 104 = .ok (.ireturn, 1) := by decide +kernel
theorem dX7_of_105 : decode cX7_of 105 = .ok (.aload_n 3, 1) := by decide +kernel
theorem dX7_of_106 : decode cX7_of 106 = .ok (.getfield 123, 3) := by decide +kernel
theorem dX7_of_109 : decode cX7_of 109 = .ok (.ireturn, 1) := by decide +kernel
theorem dX7_of_110 : decode cX7_of 110 = .ok (.aload_n 3, 1) := by decide +kernel
theorem dX7_of_111 : decode cX7_of 111 = .ok (.getfield 126, 3) := by decide +kernel
theorem dX7_of_114 : decode cX7_of 114 = .ok (.ireturn, 1) := by decide +kernel
theorem dX7_of_115 : decode cX7_of 115 = .ok (.aload_n 3, 1) := by decide +kernel
theorem dX7_of_116 : decode cX7_of 116 = .ok (.aload_n 0, 1) := by decide +kernel
theorem dX7_of_117 : decode cX7_of 117 = .ok (.getfield 12, 3) := by decide +kernel
theorem dX7_of_120 : decode cX7_of 120 = .ok (.getfield 86, 3) := by decide +kernel
theorem dX7_of_123 : decode cX7_of 123 = .ok (.aload_n 0, 1) := by decide +kernel
theorem dX7_of_124 : decode cX7_of 124 = .ok (.getfield 12, 3) := by decide +kernel
theorem dX7_of_127 : decode cX7_of 127 = .ok (.getfield 93, 3) := by decide +kernel
theorem dX7_of_130 : decode cX7_of 130 = .ok (.getfield 129, 3) := by decide +kernel
theorem dX7_of_133 : decode cX7_of 133 = .ok (.invokevirtual 132, 3) := by decide +kernel
theorem dX7_of_136 : decode cX7_of 136 = .ok (.ireturn, 1) := by decide +kernel
theorem dX7_of_137 : decode cX7_of 137 = .ok (.aload_n 3, 1) := by decide +kernel
theorem dX7_of_138 : decode cX7_of 138 = .ok (.aload_n 0, 1) := by decide +kernel
theorem dX7_of_139 : decode cX7_of 139 = .ok (.getfield 12, 3) := by decide +kernel
theorem dX7_of_142 : decode cX7_of 142 = .ok (.getfield 86, 3) := by decide +kernel
theorem dX7_of_145 : decode cX7_of 145 = .ok (.getfield 136, 3) := by decide +kernel
theorem dX7_of_148 : decode cX7_of 148 = .ok (.invokevirtual 139, 3) := by decide +kernel
theorem dX7_of_151 : decode cX7_of 151 = .ok (.ireturn, 1) := by decide +kernel
theorem dX7_of_152 : decode cX7_of 152 = .ok (.ldc 106, 2) := by decide +kernel
theorem dX7_of_154 : decode cX7_of 154 = .ok (.ireturn, 1) := by decide +kernel
theorem dX7_row_0 : decode cX7_row 0 = .ok (.aload_n 0, 1) := by decide +kernel
theorem dX7_row_1 : decode cX7_row 1 = .ok (.getfield 12, 3) := by decide +kernel
theorem dX7_row_4 : decode cX7_row 4 = .ok (.getfield 93, 3) := by decide +kernel
theorem dX7_row_7 : decode cX7_row 7 = .ok (.iload_n 1, 1) := by decide +kernel
theorem dX7_row_8 : decode cX7_row 8 = .ok (.invokevirtual 102, 3) := by decide +kernel
theorem dX7_row_11 : decode cX7_row 11 = .ok (.astore 4, 2) := by decide +kernel
theorem dX7_row_13 : decode cX7_row 13 = .ok (.aload 4, 2) := by decide +kernel
theorem dX7_row_15 : decode cX7_row 15 = .ok (.ifnull 11, 3) := by decide +kernel
theorem dX7_row_18 : decode cX7_row 18 = .ok (.iload_n 2, 1) := by decide +kernel
theorem dX7_row_19 : decode cX7_row 19 = .ok (.iconst 3, 1) := by decide +kernel
theorem dX7_row_20 : decode cX7_row 20 = .ok (.invokestatic 67, 3) := by decide +kernel
theorem dX7_row_23 : decode cX7_row 23 = .ok (.ifCond .eq 5, 3) := by decide +kernel
theorem dX7_row_26 : decode cX7_row 26 = .ok (.iconst (-1), 1) := by decide +kernel
theorem dX7_row_27 : decode cX7_row 27 = .ok (.ireturn, 1) := by decide +kernel
theorem dX7_row_28 : decode cX7_row 28 = .ok (.iload_n 3, 1) := by decide +kernel
theorem dX7_row_29 : decode cX7_row 29 = .ok (.bipush 9, 2) := by decide +kernel
theorem dX7_row_31 : decode cX7_row 31 = .ok (.invokestatic 67, 3) := by decide +kernel
theorem dX7_row_34 : decode cX7_row 34 = .ok (.ifCond .eq 6, 3) := by decide +kernel
theorem dX7_row_37 : decode cX7_row 37 = .ok (.bipush (-2), 2) := by decide +kernel
theorem dX7_row_39 : decode cX7_row 39 = .ok (.ireturn, 1) := by decide +kernel
theorem dX7_row_40 : decode cX7_row 40 = .ok (.aload 4, 2) := by decide +kernel
theorem dX7_row_42 : decode cX7_row 42 = .ok (.getfield 107, 3) := by decide +kernel
theorem dX7_row_45 : decode cX7_row 45 = .ok (.bipush 6, 2) := by decide +kernel
theorem dX7_row_47 : decode cX7_row 47 = .ok (.if_icmp .eq 6, 3) := by decide +kernel
theorem dX7_row_50 : decode cX7_row 50 = .ok (.bipush (-3), 2) := by decide +kernel
theorem dX7_row_52 : decode cX7_row 52 = .ok (.ireturn, 1) := by decide +kernel
theorem dX7_row_53 : decode cX7_row 53 = .ok (.aload 4, 2) := by decide +kernel
theorem dX7_row_55 : decode cX7_row 55 = .ok (.iload_n 2, 1) := by decide +kernel
theorem dX7_row_56 : decode cX7_row 56 = .ok (.invokevirtual 143, 3) := by decide +kernel
theorem dX7_row_59 : decode cX7_row 59 = .ok (.istore 5, 2) := by decide +kernel
theorem dX7_row_61 : decode cX7_row 61 = .ok (.aload 4, 2) := by decide +kernel
theorem dX7_row_63 : decode cX7_row 63 = .ok (.iload_n 2, 1) := by decide +kernel
theorem dX7_row_64 : decode cX7_row 64 = .ok (.iload_n 3, 1) := by decide +kernel
theorem dX7_row_65 : decode cX7_row 65 = .ok (.invokevirtual 146, 3) := by decide +kernel
theorem dX7_row_68 : decode cX7_row 68 = .ok (.iload 5, 2) := by decide +kernel
theorem dX7_row_70 : decode cX7_row 70 = .ok (.ireturn, 1) := by decide +kernel
theorem dX7_set_0 : decode cX7_set 0 = .ok (.aload_n 0, 1) := by decide +kernel
theorem dX7_set_1 : decode cX7_set 1 = .ok (.getfield 12, 3) := by decide +kernel
theorem dX7_set_4 : decode cX7_set 4 = .ok (.getfield 93, 3) := by decide +kernel
theorem dX7_set_7 : decode cX7_set 7 = .ok (.iload_n 1, 1) := by decide +kernel
theorem dX7_set_8 : decode cX7_set 8 = .ok (.invokevirtual 102, 3) := by decide +kernel
theorem dX7_set_11 : decode cX7_set 11 = .ok (.astore 4, 2) := by decide +kernel
theorem dX7_set_13 : decode cX7_set 13 = .ok (.aload 4, 2) := by decide +kernel
theorem dX7_set_15 : decode cX7_set 15 = .ok (.ifnull 11, 3) := by decide +kernel
theorem dX7_set_18 : decode cX7_set 18 = .ok (.iload_n 2, 1) := by decide +kernel
theorem dX7_set_19 : decode cX7_set 19 = .ok (.iconst 2, 1) := by decide +kernel
theorem dX7_set_20 : decode cX7_set 20 = .ok (.invokestatic 67, 3) := by decide +kernel
theorem dX7_set_23 : decode cX7_set 23 = .ok (.ifCond .eq 5, 3) := by decide +kernel
theorem dX7_set_26 : decode cX7_set 26 = .ok (.iconst (-1), 1) := by decide +kernel
theorem dX7_set_27 : decode cX7_set 27 = .ok (.ireturn, 1) := by decide +kernel
theorem dX7_set_28 : decode cX7_set 28 = .ok (.iload_n 3, 1) := by decide +kernel
theorem dX7_set_29 : decode cX7_set 29 = .ok (.iload_n 2, 1) := by decide +kernel
theorem dX7_set_30 : decode cX7_set 30 = .ok (.iconst 2, 1) := by decide +kernel
theorem dX7_set_31 : decode cX7_set 31 = .ok (.if_icmp .ne 8, 3) := by decide +kernel
theorem dX7_set_34 : decode cX7_set 34 = .ok (.bipush 9, 2) := by decide +kernel
theorem dX7_set_36 : decode cX7_set 36 = .ok (.goto 5, 3) := by decide +kernel
theorem dX7_set_39 : decode cX7_set 39 = .ok (.bipush 99, 2) := by decide +kernel
theorem dX7_set_41 : decode cX7_set 41 = .ok (.invokestatic 67, 3) := by decide +kernel
theorem dX7_set_44 : decode cX7_set 44 = .ok (.ifCond .eq 6, 3) := by decide +kernel
theorem dX7_set_47 : decode cX7_set 47 = .ok (.bipush (-2), 2) := by decide +kernel
theorem dX7_set_49 : decode cX7_set 49 = .ok (.ireturn, 1) := by decide +kernel
theorem dX7_set_50 : decode cX7_set 50 = .ok (.iload_n 2, 1) := by decide +kernel
theorem dX7_set_51 : decode cX7_set 51 = .ok (.ifCond .ne 19, 3) := by decide +kernel
theorem dX7_set_54 : decode cX7_set 54 = .ok (.aload 4, 2) := by decide +kernel
theorem dX7_set_56 : decode cX7_set 56 = .ok (.getfield 117, 3) := by decide +kernel
theorem dX7_set_59 : decode cX7_set 59 = .ok (.istore 5, 2) := by decide +kernel
theorem dX7_set_61 : decode cX7_set 61 = .ok (.aload 4, 2) := by decide +kernel
theorem dX7_set_63 : decode cX7_set 63 = .ok (.iload_n 3, 1) := by decide +kernel
theorem dX7_set_64 : decode cX7_set 64 = .ok (.putfield 117, 3) := by decide +kernel
theorem dX7_set_67 : decode cX7_set 67 = .ok (.goto 37, 3) := by decide +kernel
theorem dX7_set_70 : decode cX7_set 70 = .ok (.iload_n 2, 1) := by decide +kernel
theorem dX7_set_71 : decode cX7_set 71 = .ok (.iconst 1, 1) := by decide +kernel
theorem dX7_set_72 : decode cX7_set 72 = .ok (.if_icmp .ne 19, 3) := by decide +kernel
theorem dX7_set_75 : decode cX7_set 75 = .ok (.aload 4, 2) := by decide +kernel
theorem dX7_set_77 : decode cX7_set 77 = .ok (.getfield 120, 3) := by decide +kernel
theorem dX7_set_80 : decode cX7_set 80 = .ok (.istore 5, 2) := by decide +kernel
theorem dX7_set_82 : decode cX7_set 82 = .ok (.aload 4, 2) := by decide +kernel
theorem dX7_set_84 : decode cX7_set 84 = .ok (.iload_n 3, 1) := by decide +kernel
theorem dX7_set_85 : decode cX7_set 85 = .ok (.putfield 120, 3) := by decide +kernel
theorem dX7_set_88 : decode cX7_set 88 = .ok (.goto 16, 3) := by decide +kernel
theorem dX7_set_91 : decode cX7_set 91 = .ok (.aload 4, 2) := by decide +kernel
theorem dX7_set_93 : decode cX7_set 93 = .ok (.getfield 123, 3) := by decide +kernel
theorem dX7_set_96 : decode cX7_set 96 = .ok (.istore 5, 2) := by decide +kernel
theorem dX7_set_98 : decode cX7_set 98 = .ok (.aload 4, 2) := by decide +kernel
theorem dX7_set_100 : decode cX7_set 100 = .ok (.iload_n 3, 1) := by decide +kernel
theorem dX7_set_101 : decode cX7_set 101 = .ok (.putfield 123, 3) := by decide +kernel
theorem dX7_set_104 : decode cX7_set 104 = .ok (.iload 5, 2) := by decide +kernel
theorem dX7_set_106 : decode cX7_set 106 = .ok (.ireturn, 1) := by decide +kernel
theorem dX7_hurry_0 : decode cX7_hurry 0 = .ok (.iload_n 1, 1) := by decide +kernel
theorem dX7_hurry_1 : decode cX7_hurry 1 = .ok (.bipush 20, 2) := by decide +kernel
theorem dX7_hurry_3 : decode cX7_hurry 3 = .ok (.invokestatic 67, 3) := by decide +kernel
theorem dX7_hurry_6 : decode cX7_hurry 6 = .ok (.ifCond .eq 6, 3) := by decide +kernel
theorem dX7_hurry_9 : decode cX7_hurry 9 = .ok (.bipush (-2), 2) := by decide +kernel
theorem dX7_hurry_11 : decode cX7_hurry 11 = .ok (.ireturn, 1) := by decide +kernel
theorem dX7_hurry_12 : decode cX7_hurry 12 = .ok (.aload_n 0, 1) := by decide +kernel
theorem dX7_hurry_13 : decode cX7_hurry 13 = .ok (.getfield 12, 3) := by decide +kernel
theorem dX7_hurry_16 : decode cX7_hurry 16 = .ok (.getfield 93, 3) := by decide +kernel
theorem dX7_hurry_19 : decode cX7_hurry 19 = .ok (.getfield 150, 3) := by decide +kernel
theorem dX7_hurry_22 : decode cX7_hurry 22 = .ok (.istore_n 2, 1) := by decide +kernel
theorem dX7_hurry_23 : decode cX7_hurry 23 = .ok (.aload_n 0, 1) := by decide +kernel
theorem dX7_hurry_24 : decode cX7_hurry 24 = .ok (.getfield 12, 3) := by decide +kernel
theorem dX7_hurry_27 : decode cX7_hurry 27 = .ok (.getfield 93, 3) := by decide +kernel
theorem dX7_hurry_30 : decode cX7_hurry 30 = .ok (.iload_n 1, 1) := by decide +kernel
theorem dX7_hurry_31 : decode cX7_hurry 31 = .ok (.putfield 150, 3) := by decide +kernel
theorem dX7_hurry_34 : decode cX7_hurry 34 = .ok (.iload_n 2, 1) := by decide +kernel
theorem dX7_hurry_35 : decode cX7_hurry 35 = .ok (.ireturn, 1) := by decide +kernel
theorem dX7_look_0 : decode cX7_look 0 = .ok (.aload_n 0, 1) := by decide +kernel
theorem dX7_look_1 : decode cX7_look 1 = .ok (.getfield 12, 3) := by decide +kernel
theorem dX7_look_4 : decode cX7_look 4 = .ok (.getfield 93, 3) := by decide +kernel
theorem dX7_look_7 : decode cX7_look 7 = .ok (.iload_n 1, 1) := by decide +kernel
theorem dX7_look_8 : decode cX7_look 8 = .ok (.invokevirtual 102, 3) := by decide +kernel
theorem dX7_look_11 : decode cX7_look 11 = .ok (.astore_n 2, 1) := by decide +kernel
theorem dX7_look_12 : decode cX7_look 12 = .ok (.aload_n 2, 1) := by decide +kernel
theorem dX7_look_13 : decode cX7_look 13 = .ok (.ifnonnull 5, 3) := by decide +kernel
theorem dX7_look_16 : decode cX7_look 16 = .ok (.iconst (-1), 1) := by decide +kernel
theorem dX7_look_17 : decode cX7_look 17 = .ok (.ireturn, 1) := by decide +kernel
theorem dX7_look_18 : decode cX7_look 18 = .ok (.aload_n 2, 1) := by decide +kernel
theorem dX7_look_19 : decode cX7_look 19 = .ok (.getfield 113, 3) := by decide +kernel
theorem dX7_look_22 : decode cX7_look 22 = .ok (.istore_n 3, 1) := by decide +kernel
theorem dX7_look_23 : decode cX7_look 23 = .ok (.aload_n 2, 1) := by decide +kernel
theorem dX7_look_24 : decode cX7_look 24 = .ok (.invokevirtual 153, 3) := by decide +kernel
theorem dX7_look_27 : decode cX7_look 27 = .ok (.iload_n 3, 1) := by decide +kernel
theorem dX7_look_28 : decode cX7_look 28 = .ok (.ifCond .eq 7, 3) := by decide +kernel
theorem dX7_look_31 : decode cX7_look 31 = .ok (.iconst 1, 1) := by decide +kernel
theorem dX7_look_32 : decode cX7_look 32 = .ok (.goto 4, 3) := by decide +kernel
theorem dX7_look_35 : decode cX7_look 35 = .ok (.iconst 0, 1) := by decide +kernel
theorem dX7_look_36 : decode cX7_look 36 = .ok (.ireturn, 1) := by decide +kernel
theorem dX7_doubt_0 : decode cX7_doubt 0 = .ok (.aload_n 0, 1) := by decide +kernel
theorem dX7_doubt_1 : decode cX7_doubt 1 = .ok (.getfield 12, 3) := by decide +kernel
theorem dX7_doubt_4 : decode cX7_doubt 4 = .ok (.getfield 93, 3) := by decide +kernel
theorem dX7_doubt_7 : decode cX7_doubt 7 = .ok (.iload_n 1, 1) := by decide +kernel
theorem dX7_doubt_8 : decode cX7_doubt 8 = .ok (.invokevirtual 102, 3) := by decide +kernel
theorem dX7_doubt_11 : decode cX7_doubt 11 = .ok (.astore_n 3, 1) := by decide +kernel
theorem dX7_doubt_12 : decode cX7_doubt 12 = .ok (.aload_n 3, 1) := by decide +kernel
theorem dX7_doubt_13 : decode cX7_doubt 13 = .ok (.ifnull 12, 3) := by decide +kernel
theorem dX7_doubt_16 : decode cX7_doubt 16 = .ok (.iload_n 2, 1) := by decide +kernel
theorem dX7_doubt_17 : decode cX7_doubt 17 = .ok (.bipush 60, 2) := by decide +kernel
theorem dX7_doubt_19 : decode cX7_doubt 19 = .ok (.invokestatic 67, 3) := by decide +kernel
theorem dX7_doubt_22 : decode cX7_doubt 22 = .ok (.ifCond .eq 6, 3) := by decide +kernel
theorem dX7_doubt_25 : decode cX7_doubt 25 = .ok (.ldc 106, 2) := by decide +kernel
theorem dX7_doubt_27 : decode cX7_doubt 27 = .ok (.ireturn, 1) := by decide +kernel
theorem dX7_doubt_28 : decode cX7_doubt 28 = .ok (.aload_n 3, 1) := by decide +kernel
theorem dX7_doubt_29 : decode cX7_doubt 29 = .ok (.iload_n 2, 1) := by decide +kernel
theorem dX7_doubt_30 : decode cX7_doubt 30 = .ok (.aload_n 0, 1) := by decide +kernel
theorem dX7_doubt_31 : decode cX7_doubt 31 = .ok (.getfield 12, 3) := by decide +kernel
theorem dX7_doubt_34 : decode cX7_doubt 34 = .ok (.getfield 86, 3) := by decide +kernel
theorem dX7_doubt_37 : decode cX7_doubt 37 = .ok (.getfield 136, 3) := by decide +kernel
theorem dX7_doubt_40 : decode cX7_doubt 40 = .ok (.invokevirtual 156, 3) := by decide +kernel
theorem dX7_doubt_43 : decode cX7_doubt 43 = .ok (.ireturn, 1) := by decide +kernel
theorem dX7_told_0 : decode cX7_told 0 = .ok (.iload_n 1, 1) := by decide +kernel
theorem dX7_told_1 : decode cX7_told 1 = .ok (.tableswitch 90 0 4 #[35, 46, 57, 68, 79], 35) := by decide +kernel
theorem dX7_told_36 : decode cX7_told 36 = .ok (.aload_n 0, 1) := by decide +kernel
theorem dX7_told_37 : decode cX7_told 37 = .ok (.getfield 12, 3) := by decide +kernel
theorem dX7_told_40 : decode cX7_told 40 = .ok (.getfield 93, 3) := by decide +kernel
theorem dX7_told_43 : decode cX7_told 43 = .ok (.getfield 129, 3) := by decide +kernel
theorem dX7_told_46 : decode cX7_told 46 = .ok (.ireturn, 1) := by decide +kernel
theorem dX7_told_47 : decode cX7_told 47 = .ok (.aload_n 0, 1) := by decide +kernel
theorem dX7_told_48 : decode cX7_told 48 = .ok (.getfield 12, 3) := by decide +kernel
theorem dX7_told_51 : decode cX7_told 51 = .ok (.getfield 86, 3) := by decide +kernel
theorem dX7_told_54 : decode cX7_told 54 = .ok (.getfield 136, 3) := by decide +kernel
theorem dX7_told_57 : decode cX7_told 57 = .ok (.ireturn, 1) := by decide +kernel
theorem dX7_told_58 : decode cX7_told 58 = .ok (.aload_n 0, 1) := by decide +kernel
theorem dX7_told_59 : decode cX7_told 59 = .ok (.getfield 12, 3) := by decide +kernel
theorem dX7_told_62 : decode cX7_told 62 = .ok (.getfield 93, 3) := by decide +kernel
theorem dX7_told_65 : decode cX7_told 65 = .ok (.getfield 150, 3) := by decide +kernel
theorem dX7_told_68 : decode cX7_told 68 = .ok (.ireturn, 1) := by decide +kernel
theorem dX7_told_69 : decode cX7_told 69 = .ok (.aload_n 0, 1) := by decide +kernel
theorem dX7_told_70 : decode cX7_told 70 = .ok (.getfield 12, 3) := by decide +kernel
theorem dX7_told_73 : decode cX7_told 73 = .ok (.getfield 93, 3) := by decide +kernel
theorem dX7_told_76 : decode cX7_told 76 = .ok (.getfield 160, 3) := by decide +kernel
theorem dX7_told_79 : decode cX7_told 79 = .ok (.ireturn, 1) := by decide +kernel
theorem dX7_told_80 : decode cX7_told 80 = .ok (.aload_n 0, 1) := by decide +kernel
theorem dX7_told_81 : decode cX7_told 81 = .ok (.getfield 12, 3) := by decide +kernel
theorem dX7_told_84 : decode cX7_told 84 = .ok (.getfield 93, 3) := by decide +kernel
theorem dX7_told_87 : decode cX7_told 87 = .ok (.invokevirtual 163, 3) := by decide +kernel
theorem dX7_told_90 : decode cX7_told 90 = .ok (.ireturn, 1) := by decide +kernel
theorem dX7_told_91 : decode cX7_told 91 = .ok (.iconst (-1), 1) := by decide +kernel
theorem dX7_told_92 : decode cX7_told 92 = .ok (.ireturn, 1) := by decide +kernel
theorem dX7_pass_0 : decode cX7_pass 0 = .ok (.iload_n 1, 1) := by decide +kernel
theorem dX7_pass_1 : decode cX7_pass 1 = .ok (.bipush 60, 2) := by decide +kernel
theorem dX7_pass_3 : decode cX7_pass 3 = .ok (.invokestatic 67, 3) := by decide +kernel
theorem dX7_pass_6 : decode cX7_pass 6 = .ok (.ifCond .eq 6, 3) := by decide +kernel
theorem dX7_pass_9 : decode cX7_pass 9 = .ok (.bipush (-2), 2) := by decide +kernel
theorem dX7_pass_11 : decode cX7_pass 11 = .ok (.ireturn, 1) := by decide +kernel
theorem dX7_pass_12 : decode cX7_pass 12 = .ok (.aload_n 0, 1) := by decide +kernel
theorem dX7_pass_13 : decode cX7_pass 13 = .ok (.getfield 12, 3) := by decide +kernel
theorem dX7_pass_16 : decode cX7_pass 16 = .ok (.getfield 93, 3) := by decide +kernel
theorem dX7_pass_19 : decode cX7_pass 19 = .ok (.getfield 129, 3) := by decide +kernel
theorem dX7_pass_22 : decode cX7_pass 22 = .ok (.iload_n 1, 1) := by decide +kernel
theorem dX7_pass_23 : decode cX7_pass 23 = .ok (.iadd, 1) := by decide +kernel
theorem dX7_pass_24 : decode cX7_pass 24 = .ok (.sipush 9999, 3) := by decide +kernel
theorem dX7_pass_27 : decode cX7_pass 27 = .ok (.if_icmp .le 6, 3) := by decide +kernel
theorem dX7_pass_30 : decode cX7_pass 30 = .ok (.bipush (-3), 2) := by decide +kernel
theorem dX7_pass_32 : decode cX7_pass 32 = .ok (.ireturn, 1) := by decide +kernel
theorem dX7_pass_33 : decode cX7_pass 33 = .ok (.aload_n 0, 1) := by decide +kernel
theorem dX7_pass_34 : decode cX7_pass 34 = .ok (.getfield 12, 3) := by decide +kernel
theorem dX7_pass_37 : decode cX7_pass 37 = .ok (.getfield 93, 3) := by decide +kernel
theorem dX7_pass_40 : decode cX7_pass 40 = .ok (.iload_n 1, 1) := by decide +kernel
theorem dX7_pass_41 : decode cX7_pass 41 = .ok (.aload_n 0, 1) := by decide +kernel
theorem dX7_pass_42 : decode cX7_pass 42 = .ok (.getfield 12, 3) := by decide +kernel
theorem dX7_pass_45 : decode cX7_pass 45 = .ok (.getfield 86, 3) := by decide +kernel
theorem dX7_pass_48 : decode cX7_pass 48 = .ok (.invokevirtual 166, 3) := by decide +kernel
theorem dX7_pass_51 : decode cX7_pass 51 = .ok (.aload_n 0, 1) := by decide +kernel
theorem dX7_pass_52 : decode cX7_pass 52 = .ok (.getfield 12, 3) := by decide +kernel
theorem dX7_pass_55 : decode cX7_pass 55 = .ok (.getfield 93, 3) := by decide +kernel
theorem dX7_pass_58 : decode cX7_pass 58 = .ok (.aload_n 0, 1) := by decide +kernel
theorem dX7_pass_59 : decode cX7_pass 59 = .ok (.getfield 12, 3) := by decide +kernel
theorem dX7_pass_62 : decode cX7_pass 62 = .ok (.getfield 93, 3) := by decide +kernel
theorem dX7_pass_65 : decode cX7_pass 65 = .ok (.getfield 160, 3) := by decide +kernel
theorem dX7_pass_68 : decode cX7_pass 68 = .ok (.ldc 170, 2) := by decide +kernel
theorem dX7_pass_70 : decode cX7_pass 70 = .ok (.invokestatic 171, 3) := by decide +kernel
theorem dX7_pass_73 : decode cX7_pass 73 = .ok (.putfield 160, 3) := by decide +kernel
theorem dX7_pass_76 : decode cX7_pass 76 = .ok (.aload_n 0, 1) := by decide +kernel
theorem dX7_pass_77 : decode cX7_pass 77 = .ok (.getfield 12, 3) := by decide +kernel
theorem dX7_pass_80 : decode cX7_pass 80 = .ok (.getfield 93, 3) := by decide +kernel
theorem dX7_pass_83 : decode cX7_pass 83 = .ok (.getfield 129, 3) := by decide +kernel
theorem dX7_pass_86 : decode cX7_pass 86 = .ok (.ireturn, 1) := by decide +kernel
theorem dX7_on_0 : decode cX7_on 0 = .ok (.aload_n 0, 1) := by decide +kernel
theorem dX7_on_1 : decode cX7_on 1 = .ok (.getfield 12, 3) := by decide +kernel
theorem dX7_on_4 : decode cX7_on 4 = .ok (.getfield 93, 3) := by decide +kernel
theorem dX7_on_7 : decode cX7_on 7 = .ok (.iload_n 2, 1) := by decide +kernel
theorem dX7_on_8 : decode cX7_on 8 = .ok (.bipush 10, 2) := by decide +kernel
theorem dX7_on_10 : decode cX7_on 10 = .ok (.isub, 1) := by decide +kernel
theorem dX7_on_11 : decode cX7_on 11 = .ok (.invokevirtual 102, 3) := by decide +kernel
theorem dX7_on_14 : decode cX7_on 14 = .ok (.ifnull 7, 3) := by decide +kernel
theorem dX7_on_17 : decode cX7_on 17 = .ok (.iconst 1, 1) := by decide +kernel
theorem dX7_on_18 : decode cX7_on 18 = .ok (.goto 4, 3) := by decide +kernel
theorem dX7_on_21 : decode cX7_on 21 = .ok (.iconst 0, 1) := by decide +kernel
theorem dX7_on_22 : decode cX7_on 22 = .ok (.istore_n 3, 1) := by decide +kernel
theorem dX7_on_23 : decode cX7_on 23 = .ok (.aload_n 0, 1) := by decide +kernel
theorem dX7_on_24 : decode cX7_on 24 = .ok (.getfield 12, 3) := by decide +kernel
theorem dX7_on_27 : decode cX7_on 27 = .ok (.getfield 93, 3) := by decide +kernel
theorem dX7_on_30 : decode cX7_on 30 = .ok (.iload_n 2, 1) := by decide +kernel
theorem dX7_on_31 : decode cX7_on 31 = .ok (.bipush 20, 2) := by decide +kernel
theorem dX7_on_33 : decode cX7_on 33 = .ok (.isub, 1) := by decide +kernel
theorem dX7_on_34 : decode cX7_on 34 = .ok (.invokevirtual 102, 3) := by decide +kernel
theorem dX7_on_37 : decode cX7_on 37 = .ok (.ifnull 7, 3) := by decide +kernel
theorem dX7_on_40 : decode cX7_on 40 = .ok (.iconst 1, 1) := by decide +kernel
theorem dX7_on_41 : decode cX7_on 41 = .ok (.goto 4, 3) := by decide +kernel
theorem dX7_on_44 : decode cX7_on 44 = .ok (.iconst 0, 1) := by decide +kernel
theorem dX7_on_45 : decode cX7_on 45 = .ok (.istore 4, 2) := by decide +kernel
theorem dX7_on_47 : decode cX7_on 47 = .ok (.iload_n 2, 1) := by decide +kernel
theorem dX7_on_48 : decode cX7_on 48 = .ok (.iconst 1, 1) := by decide +kernel
theorem dX7_on_49 : decode cX7_on 49 = .ok (.invokestatic 67, 3) := by decide +kernel
theorem dX7_on_52 : decode cX7_on 52 = .ok (.ifCond .eq 14, 3) := by decide +kernel
theorem dX7_on_55 : decode cX7_on 55 = .ok (.iload_n 3, 1) := by decide +kernel
theorem dX7_on_56 : decode cX7_on 56 = .ok (.ifCond .ne 10, 3) := by decide +kernel
theorem dX7_on_59 : decode cX7_on 59 = .ok (.iload 4, 2) := by decide +kernel
theorem dX7_on_61 : decode cX7_on 61 = .ok (.ifCond .ne 5, 3) := by decide +kernel
theorem dX7_on_64 : decode cX7_on 64 = .ok (.iconst (-1), 1) := by decide +kernel
theorem dX7_on_65 : decode cX7_on 65 = .ok (.ireturn, 1) := by decide +kernel
theorem dX7_on_66 : decode cX7_on 66 = .ok (.iload_n 1, 1) := by decide +kernel
theorem dX7_on_67 : decode cX7_on 67 = .ok (.bipush 60, 2) := by decide +kernel
theorem dX7_on_69 : decode cX7_on 69 = .ok (.invokestatic 67, 3) := by decide +kernel
theorem dX7_on_72 : decode cX7_on 72 = .ok (.ifCond .eq 6, 3) := by decide +kernel
theorem dX7_on_75 : decode cX7_on 75 = .ok (.bipush (-2), 2) := by decide +kernel
theorem dX7_on_77 : decode cX7_on 77 = .ok (.ireturn, 1) := by decide +kernel
theorem dX7_on_78 : decode cX7_on 78 = .ok (.aload_n 0, 1) := by decide +kernel
theorem dX7_on_79 : decode cX7_on 79 = .ok (.getfield 40, 3) := by decide +kernel
theorem dX7_on_82 : decode cX7_on 82 = .ok (.aload_n 0, 1) := by decide +kernel
theorem dX7_on_83 : decode cX7_on 83 = .ok (.getfield 12, 3) := by decide +kernel
theorem dX7_on_86 : decode cX7_on 86 = .ok (.getfield 93, 3) := by decide +kernel
theorem dX7_on_89 : decode cX7_on 89 = .ok (.invokevirtual 176, 3) := by decide +kernel
theorem dX7_on_92 : decode cX7_on 92 = .ok (.aload_n 0, 1) := by decide +kernel
theorem dX7_on_93 : decode cX7_on 93 = .ok (.getfield 40, 3) := by decide +kernel
theorem dX7_on_96 : decode cX7_on 96 = .ok (.iload_n 1, 1) := by decide +kernel
theorem dX7_on_97 : decode cX7_on 97 = .ok (.aload_n 0, 1) := by decide +kernel
theorem dX7_on_98 : decode cX7_on 98 = .ok (.getfield 12, 3) := by decide +kernel
theorem dX7_on_101 : decode cX7_on 101 = .ok (.getfield 86, 3) := by decide +kernel
theorem dX7_on_104 : decode cX7_on 104 = .ok (.invokevirtual 166, 3) := by decide +kernel
theorem dX7_on_107 : decode cX7_on 107 = .ok (.iload_n 2, 1) := by decide +kernel
theorem dX7_on_108 : decode cX7_on 108 = .ok (.ifCond .ne 11, 3) := by decide +kernel
theorem dX7_on_111 : decode cX7_on 111 = .ok (.aload_n 0, 1) := by decide +kernel
theorem dX7_on_112 : decode cX7_on 112 = .ok (.getfield 40, 3) := by decide +kernel
theorem dX7_on_115 : decode cX7_on 115 = .ok (.invokevirtual 163, 3) := by decide +kernel
theorem dX7_on_118 : decode cX7_on 118 = .ok (.ireturn, 1) := by decide +kernel
theorem dX7_on_119 : decode cX7_on 119 = .ok (.iload_n 2, 1) := by decide +kernel
theorem dX7_on_120 : decode cX7_on 120 = .ok (.iconst 1, 1) := by decide +kernel
theorem dX7_on_121 : decode cX7_on 121 = .ok (.if_icmp .ne 11, 3) := by decide +kernel
theorem dX7_on_124 : decode cX7_on 124 = .ok (.aload_n 0, 1) := by decide +kernel
theorem dX7_on_125 : decode cX7_on 125 = .ok (.getfield 40, 3) := by decide +kernel
theorem dX7_on_128 : decode cX7_on 128 = .ok (.getfield 160, 3) := by decide +kernel
theorem dX7_on_131 : decode cX7_on 131 = .ok (.ireturn, 1) := by decide +kernel
theorem dX7_on_132 : decode cX7_on 132 = .ok (.aload_n 0, 1) := by decide +kernel
theorem dX7_on_133 : decode cX7_on 133 = .ok (.getfield 40, 3) := by decide +kernel
theorem dX7_on_136 : decode cX7_on 136 = .ok (.iload_n 3, 1) := by decide +kernel
theorem dX7_on_137 : decode cX7_on 137 = .ok (.ifCond .eq 10, 3) := by decide +kernel
theorem dX7_on_140 : decode cX7_on 140 = .ok (.iload_n 2, 1) := by decide +kernel
theorem dX7_on_141 : decode cX7_on 141 = .ok (.bipush 10, 2) := by decide +kernel
theorem dX7_on_143 : decode cX7_on 143 = .ok (.isub, 1) := by decide +kernel
theorem dX7_on_144 : decode cX7_on 144 = .ok (.goto 7, 3) := by decide +kernel
theorem dX7_on_147 : decode cX7_on 147 = .ok (.iload_n 2, 1) := by decide +kernel
theorem dX7_on_148 : decode cX7_on 148 = .ok (.bipush 20, 2) := by decide +kernel
theorem dX7_on_150 : decode cX7_on 150 = .ok (.isub, 1) := by decide +kernel
theorem dX7_on_151 : decode cX7_on 151 = .ok (.invokevirtual 102, 3) := by decide +kernel
theorem dX7_on_154 : decode cX7_on 154 = .ok (.astore 5, 2) := by decide +kernel
theorem dX7_on_156 : decode cX7_on 156 = .ok (.aload 5, 2) := by decide +kernel
theorem dX7_on_158 : decode cX7_on 158 = .ok (.ifnonnull 5, 3) := by decide +kernel
theorem dX7_on_161 : decode cX7_on 161 = .ok (.iconst (-1), 1) := by decide +kernel
theorem dX7_on_162 : decode cX7_on 162 = .ok (.ireturn, 1) := by decide +kernel
theorem dX7_on_163 : decode cX7_on 163 = .ok (.iload_n 3, 1) := by decide +kernel
theorem dX7_on_164 : decode cX7_on 164 = .ok (.ifCond .eq 11, 3) := by decide +kernel
theorem dX7_on_167 : decode cX7_on 167 = .ok (.aload 5, 2) := by decide +kernel
theorem dX7_on_169 : decode cX7_on 169 = .ok (.getfield 117, 3) := by decide +kernel
theorem dX7_on_172 : decode cX7_on 172 = .ok (.goto 8, 3) := by decide +kernel
theorem dX7_on_175 : decode cX7_on 175 = .ok (.aload 5, 2) := by decide +kernel
theorem dX7_on_177 : decode cX7_on 177 = .ok (.getfield 120, 3) := by decide +kernel
theorem dX7_on_180 : decode cX7_on 180 = .ok (.ireturn, 1) := by decide +kernel
theorem dX7_best_0 : decode cX7_best 0 = .ok (.iload_n 2, 1) := by decide +kernel
theorem dX7_best_1 : decode cX7_best 1 = .ok (.iconst 1, 1) := by decide +kernel
theorem dX7_best_2 : decode cX7_best 2 = .ok (.invokestatic 67, 3) := by decide +kernel
theorem dX7_best_5 : decode cX7_best 5 = .ok (.ifCond .eq 5, 3) := by decide +kernel
theorem dX7_best_8 : decode cX7_best 8 = .ok (.iconst (-1), 1) := by decide +kernel
theorem dX7_best_9 : decode cX7_best 9 = .ok (.ireturn, 1) := by decide +kernel
theorem dX7_best_10 : decode cX7_best 10 = .ok (.iload_n 1, 1) := by decide +kernel
theorem dX7_best_11 : decode cX7_best 11 = .ok (.bipush 30, 2) := by decide +kernel
theorem dX7_best_13 : decode cX7_best 13 = .ok (.invokestatic 67, 3) := by decide +kernel
theorem dX7_best_16 : decode cX7_best 16 = .ok (.ifCond .eq 6, 3) := by decide +kernel
theorem dX7_best_19 : decode cX7_best 19 = .ok (.bipush (-2), 2) := by decide +kernel
theorem dX7_best_21 : decode cX7_best 21 = .ok (.ireturn, 1) := by decide +kernel
theorem dX7_best_22 : decode cX7_best 22 = .ok (.iconst 0, 1) := by decide +kernel
theorem dX7_best_23 : decode cX7_best 23 = .ok (.istore_n 3, 1) := by decide +kernel
theorem dX7_best_24 : decode cX7_best 24 = .ok (.iconst 0, 1) := by decide +kernel
theorem dX7_best_25 : decode cX7_best 25 = .ok (.istore 4, 2) := by decide +kernel
theorem dX7_best_27 : decode cX7_best 27 = .ok (.iconst 0, 1) := by decide +kernel
theorem dX7_best_28 : decode cX7_best 28 = .ok (.istore 5, 2) := by decide +kernel
theorem dX7_best_30 : decode cX7_best 30 = .ok (.iload 5, 2) := by decide +kernel
theorem dX7_best_32 : decode cX7_best 32 = .ok (.iconst 1, 1) := by decide +kernel
theorem dX7_best_33 : decode cX7_best 33 = .ok (.aload_n 0, 1) := by decide +kernel
theorem dX7_best_34 : decode cX7_best 34 = .ok (.getfield 12, 3) := by decide +kernel
theorem dX7_best_37 : decode cX7_best 37 = .ok (.getfield 93, 3) := by decide +kernel
theorem dX7_best_40 : decode cX7_best 40 = .ok (.getfield 99, 3) := by decide +kernel
theorem dX7_best_43 : decode cX7_best 43 = .ok (.ishl, 1) := by decide +kernel
theorem dX7_best_44 : decode cX7_best 44 = .ok (.if_icmp .ge 40, 3) := by decide +kernel
theorem dX7_best_47 : decode cX7_best 47 = .ok (.aload_n 0, 1) := by decide +kernel
theorem dX7_best_48 : decode cX7_best 48 = .ok (.iload 5, 2) := by decide +kernel
theorem dX7_best_50 : decode cX7_best 50 = .ok (.invokevirtual 179, 3) := by decide +kernel
theorem dX7_best_53 : decode cX7_best 53 = .ok (.iload_n 1, 1) := by decide +kernel
theorem dX7_best_54 : decode cX7_best 54 = .ok (.if_icmp .gt 24, 3) := by decide +kernel
theorem dX7_best_57 : decode cX7_best 57 = .ok (.aload_n 0, 1) := by decide +kernel
theorem dX7_best_58 : decode cX7_best 58 = .ok (.iload 5, 2) := by decide +kernel
theorem dX7_best_60 : decode cX7_best 60 = .ok (.invokevirtual 182, 3) := by decide +kernel
theorem dX7_best_63 : decode cX7_best 63 = .ok (.iload_n 3, 1) := by decide +kernel
theorem dX7_best_64 : decode cX7_best 64 = .ok (.if_icmp .le 14, 3) := by decide +kernel
theorem dX7_best_67 : decode cX7_best 67 = .ok (.aload_n 0, 1) := by decide +kernel
theorem dX7_best_68 : decode cX7_best 68 = .ok (.iload 5, 2) := by decide +kernel
theorem dX7_best_70 : decode cX7_best 70 = .ok (.invokevirtual 182, 3) := by decide +kernel
theorem dX7_best_73 : decode cX7_best 73 = .ok (.istore_n 3, 1) := by decide +kernel
theorem dX7_best_74 : decode cX7_best 74 = .ok (.iload 5, 2) := by decide +kernel
theorem dX7_best_76 : decode cX7_best 76 = .ok (.istore 4, 2) := by decide +kernel
theorem dX7_best_78 : decode cX7_best 78 = .ok (.iinc 5 1, 3) := by decide +kernel
theorem dX7_best_81 : decode cX7_best 81 = .ok (.goto (-51), 3) := by decide +kernel
theorem dX7_best_84 : decode cX7_best 84 = .ok (.iload_n 2, 1) := by decide +kernel
theorem dX7_best_85 : decode cX7_best 85 = .ok (.ifCond .ne 8, 3) := by decide +kernel
theorem dX7_best_88 : decode cX7_best 88 = .ok (.iload 4, 2) := by decide +kernel
theorem dX7_best_90 : decode cX7_best 90 = .ok (.goto 4, 3) := by decide +kernel
theorem dX7_best_93 : decode cX7_best 93 = .ok (.iload_n 3, 1) := by decide +kernel
theorem dX7_best_94 : decode cX7_best 94 = .ok (.ireturn, 1) := by decide +kernel
theorem dX7_renew_0 : decode cX7_renew 0 = .ok (.aload_n 0, 1) := by decide +kernel
theorem dX7_renew_1 : decode cX7_renew 1 = .ok (.getfield 12, 3) := by decide +kernel
theorem dX7_renew_4 : decode cX7_renew 4 = .ok (.getfield 93, 3) := by decide +kernel
theorem dX7_renew_7 : decode cX7_renew 7 = .ok (.iload_n 1, 1) := by decide +kernel
theorem dX7_renew_8 : decode cX7_renew 8 = .ok (.invokevirtual 102, 3) := by decide +kernel
theorem dX7_renew_11 : decode cX7_renew 11 = .ok (.astore 4, 2) := by decide +kernel
theorem dX7_renew_13 : decode cX7_renew 13 = .ok (.aload 4, 2) := by decide +kernel
theorem dX7_renew_15 : decode cX7_renew 15 = .ok (.ifnonnull 5, 3) := by decide +kernel
theorem dX7_renew_18 : decode cX7_renew 18 = .ok (.iconst (-1), 1) := by decide +kernel
theorem dX7_renew_19 : decode cX7_renew 19 = .ok (.ireturn, 1) := by decide +kernel
theorem dX7_renew_20 : decode cX7_renew 20 = .ok (.iload_n 2, 1) := by decide +kernel
theorem dX7_renew_21 : decode cX7_renew 21 = .ok (.iconst 1, 1) := by decide +kernel
theorem dX7_renew_22 : decode cX7_renew 22 = .ok (.if_icmp .lt 18, 3) := by decide +kernel
theorem dX7_renew_25 : decode cX7_renew 25 = .ok (.iload_n 2, 1) := by decide +kernel
theorem dX7_renew_26 : decode cX7_renew 26 = .ok (.bipush 8, 2) := by decide +kernel
theorem dX7_renew_28 : decode cX7_renew 28 = .ok (.if_icmp .gt 12, 3) := by decide +kernel
theorem dX7_renew_31 : decode cX7_renew 31 = .ok (.iload_n 3, 1) := by decide +kernel
theorem dX7_renew_32 : decode cX7_renew 32 = .ok (.bipush 99, 2) := by decide +kernel
theorem dX7_renew_34 : decode cX7_renew 34 = .ok (.invokestatic 67, 3) := by decide +kernel
theorem dX7_renew_37 : decode cX7_renew 37 = .ok (.ifCond .eq 6, 3) := by decide +kernel
theorem dX7_renew_40 : decode cX7_renew 40 = .ok (.bipush (-2), 2) := by decide +kernel
theorem dX7_renew_42 : decode cX7_renew 42 = .ok (.ireturn, 1) := by decide +kernel
theorem dX7_renew_43 : decode cX7_renew 43 = .ok (.iconst 0, 1) := by decide +kernel
theorem dX7_renew_44 : decode cX7_renew 44 = .ok (.istore 5, 2) := by decide +kernel
theorem dX7_renew_46 : decode cX7_renew 46 = .ok (.iload 5, 2) := by decide +kernel
theorem dX7_renew_48 : decode cX7_renew 48 = .ok (.aload_n 0, 1) := by decide +kernel
theorem dX7_renew_49 : decode cX7_renew 49 = .ok (.getfield 64, 3) := by decide +kernel
theorem dX7_renew_52 : decode cX7_renew 52 = .ok (.arraylength, 1) := by decide +kernel
theorem dX7_renew_53 : decode cX7_renew 53 = .ok (.if_icmp .ge 17, 3) := by decide +kernel
theorem dX7_renew_56 : decode cX7_renew 56 = .ok (.aload_n 0, 1) := by decide +kernel
theorem dX7_renew_57 : decode cX7_renew 57 = .ok (.getfield 64, 3) := by decide +kernel
theorem dX7_renew_60 : decode cX7_renew 60 = .ok (.iload 5, 2) := by decide +kernel
theorem dX7_renew_62 : decode cX7_renew 62 = .ok (.iconst 0, 1) := by decide +kernel
theorem dX7_renew_63 : decode cX7_renew 63 = .ok (.iastore, 1) := by decide +kernel
theorem dX7_renew_64 : decode cX7_renew 64 = .ok (.iinc 5 1, 3) := by decide +kernel
theorem dX7_renew_67 : decode cX7_renew 67 = .ok (.goto (-21), 3) := by decide +kernel
theorem dX7_renew_70 : decode cX7_renew 70 = .ok (.iload_n 2, 1) := by decide +kernel
theorem dX7_renew_71 : decode cX7_renew 71 = .ok (.iconst 1, 1) := by decide +kernel
theorem dX7_renew_72 : decode cX7_renew 72 = .ok (.isub, 1) := by decide +kernel
theorem dX7_renew_73 : decode cX7_renew 73 = .ok (.istore 5, 2) := by decide +kernel
theorem dX7_renew_75 : decode cX7_renew 75 = .ok (.iload 5, 2) := by decide +kernel
theorem dX7_renew_77 : decode cX7_renew 77 = .ok (.ifCond .lt 18, 3) := by decide +kernel
theorem dX7_renew_80 : decode cX7_renew 80 = .ok (.aload_n 0, 1) := by decide +kernel
theorem dX7_renew_81 : decode cX7_renew 81 = .ok (.aload 4, 2) := by decide +kernel
theorem dX7_renew_83 : decode cX7_renew 83 = .ok (.iload 5, 2) := by decide +kernel
theorem dX7_renew_85 : decode cX7_renew 85 = .ok (.iload_n 3, 1) := by decide +kernel
theorem dX7_renew_86 : decode cX7_renew 86 = .ok (.invokevirtual 185, 3) := by decide +kernel
theorem dX7_renew_89 : decode cX7_renew 89 = .ok (.iinc 5 (-1), 3) := by decide +kernel
theorem dX7_renew_92 : decode cX7_renew 92 = .ok (.goto (-17), 3) := by decide +kernel
theorem dX7_renew_95 : decode cX7_renew 95 = .ok (.aload_n 0, 1) := by decide +kernel
theorem dX7_renew_96 : decode cX7_renew 96 = .ok (.aload 4, 2) := by decide +kernel
theorem dX7_renew_98 : decode cX7_renew 98 = .ok (.getfield 123, 3) := by decide +kernel
theorem dX7_renew_101 : decode cX7_renew 101 = .ok (.invokevirtual 189, 3) := by decide +kernel
theorem dX7_renew_104 : decode cX7_renew 104 = .ok (.istore 5, 2) := by decide +kernel
theorem dX7_renew_106 : decode cX7_renew 106 = .ok (.iload 5, 2) := by decide +kernel
theorem dX7_renew_108 : decode cX7_renew 108 = .ok (.ldc 192, 2) := by decide +kernel
theorem dX7_renew_110 : decode cX7_renew 110 = .ok (.if_icmp .lt 8, 3) := by decide +kernel
theorem dX7_renew_113 : decode cX7_renew 113 = .ok (.bipush (-5), 2) := by decide +kernel
theorem dX7_renew_115 : decode cX7_renew 115 = .ok (.goto 9, 3) := by decide +kernel
theorem dX7_renew_118 : decode cX7_renew 118 = .ok (.iload 5, 2) := by decide +kernel
theorem dX7_renew_120 : decode cX7_renew 120 = .ok (.sipush 256, 3) := by decide +kernel
theorem dX7_renew_123 : decode cX7_renew 123 = .ok (.irem, 1) := by decide +kernel
theorem dX7_renew_124 : decode cX7_renew 124 = .ok (.ireturn, 1) := by decide +kernel
theorem dX7_see_0 : decode cX7_see 0 = .ok (.iload_n 1, 1) := by decide +kernel
theorem dX7_see_1 : decode cX7_see 1 = .ok (.iconst (-1), 1) := by decide +kernel
theorem dX7_see_2 : decode cX7_see 2 = .ok (.if_icmp .ne 16, 3) := by decide +kernel
theorem dX7_see_5 : decode cX7_see 5 = .ok (.aload_n 0, 1) := by decide +kernel
theorem dX7_see_6 : decode cX7_see 6 = .ok (.getfield 12, 3) := by decide +kernel
theorem dX7_see_9 : decode cX7_see 9 = .ok (.getfield 193, 3) := by decide +kernel
theorem dX7_see_12 : decode cX7_see 12 = .ok (.iconst 0, 1) := by decide +kernel
theorem dX7_see_13 : decode cX7_see 13 = .ok (.putfield 197, 3) := by decide +kernel
theorem dX7_see_16 : decode cX7_see 16 = .ok (.iconst 0, 1) := by decide +kernel
theorem dX7_see_17 : decode cX7_see 17 = .ok (.ireturn, 1) := by decide +kernel
theorem dX7_see_18 : decode cX7_see 18 = .ok (.aload_n 0, 1) := by decide +kernel
theorem dX7_see_19 : decode cX7_see 19 = .ok (.getfield 12, 3) := by decide +kernel
theorem dX7_see_22 : decode cX7_see 22 = .ok (.getfield 93, 3) := by decide +kernel
theorem dX7_see_25 : decode cX7_see 25 = .ok (.iload_n 1, 1) := by decide +kernel
theorem dX7_see_26 : decode cX7_see 26 = .ok (.invokevirtual 102, 3) := by decide +kernel
theorem dX7_see_29 : decode cX7_see 29 = .ok (.ifnonnull 5, 3) := by decide +kernel
theorem dX7_see_32 : decode cX7_see 32 = .ok (.iconst (-1), 1) := by decide +kernel
theorem dX7_see_33 : decode cX7_see 33 = .ok (.ireturn, 1) := by decide +kernel
theorem dX7_see_34 : decode cX7_see 34 = .ok (.iload_n 2, 1) := by decide +kernel
theorem dX7_see_35 : decode cX7_see 35 = .ok (.bipush 20, 2) := by decide +kernel
theorem dX7_see_37 : decode cX7_see 37 = .ok (.invokestatic 67, 3) := by decide +kernel
theorem dX7_see_40 : decode cX7_see 40 = .ok (.ifCond .eq 6, 3) := by decide +kernel
theorem dX7_see_43 : decode cX7_see 43 = .ok (.bipush (-2), 2) := by decide +kernel
theorem dX7_see_45 : decode cX7_see 45 = .ok (.ireturn, 1) := by decide +kernel
theorem dX7_see_46 : decode cX7_see 46 = .ok (.aload_n 0, 1) := by decide +kernel
theorem dX7_see_47 : decode cX7_see 47 = .ok (.getfield 12, 3) := by decide +kernel
theorem dX7_see_50 : decode cX7_see 50 = .ok (.getfield 193, 3) := by decide +kernel
theorem dX7_see_53 : decode cX7_see 53 = .ok (.iload_n 1, 1) := by decide +kernel
theorem dX7_see_54 : decode cX7_see 54 = .ok (.iload_n 2, 1) := by decide +kernel
theorem dX7_see_55 : decode cX7_see 55 = .ok (.iload_n 3, 1) := by decide +kernel
theorem dX7_see_56 : decode cX7_see 56 = .ok (.invokevirtual 200, 3) := by decide +kernel
theorem dX7_see_59 : decode cX7_see 59 = .ok (.ifCond .eq 16, 3) := by decide +kernel
theorem dX7_see_62 : decode cX7_see 62 = .ok (.aload_n 0, 1) := by decide +kernel
theorem dX7_see_63 : decode cX7_see 63 = .ok (.getfield 12, 3) := by decide +kernel
theorem dX7_see_66 : decode cX7_see 66 = .ok (.getfield 193, 3) := by decide +kernel
theorem dX7_see_69 : decode cX7_see 69 = .ok (.getfield 197, 3) := by decide +kernel
theorem dX7_see_72 : decode cX7_see 72 = .ok (.goto 5, 3) := by decide +kernel
theorem dX7_see_75 : decode cX7_see 75 = .ok (.bipush (-4), 2) := by decide +kernel
theorem dX7_see_77 : decode cX7_see 77 = .ok (.ireturn, 1) := by decide +kernel
theorem dX7_hurries_0 : decode cX7_hurries 0 = .ok (.iload_n 1, 1) := by decide +kernel
theorem dX7_hurries_1 : decode cX7_hurries 1 = .ok (.iconst 1, 1) := by decide +kernel
theorem dX7_hurries_2 : decode cX7_hurries 2 = .ok (.invokestatic 67, 3) := by decide +kernel
theorem dX7_hurries_5 : decode cX7_hurries 5 = .ok (.ifCond .eq 5, 3) := by decide +kernel
theorem dX7_hurries_8 : decode cX7_hurries 8 = .ok (.iconst (-1), 1) := by decide +kernel
theorem dX7_hurries_9 : decode cX7_hurries 9 = .ok (.ireturn, 1) := by decide +kernel
theorem dX7_hurries_10 : decode cX7_hurries 10 = .ok (.iconst 0, 1) := by decide +kernel
theorem dX7_hurries_11 : decode cX7_hurries 11 = .ok (.istore_n 2, 1) := by decide +kernel
theorem dX7_hurries_12 : decode cX7_hurries 12 = .ok (.bipush (-5), 2) := by decide +kernel
theorem dX7_hurries_14 : decode cX7_hurries 14 = .ok (.istore_n 3, 1) := by decide +kernel
theorem dX7_hurries_15 : decode cX7_hurries 15 = .ok (.bipush 20, 2) := by decide +kernel
theorem dX7_hurries_17 : decode cX7_hurries 17 = .ok (.istore 4, 2) := by decide +kernel
theorem dX7_hurries_19 : decode cX7_hurries 19 = .ok (.iload 4, 2) := by decide +kernel
theorem dX7_hurries_21 : decode cX7_hurries 21 = .ok (.ifCond .lt 27, 3) := by decide +kernel
theorem dX7_hurries_24 : decode cX7_hurries 24 = .ok (.aload_n 0, 1) := by decide +kernel
theorem dX7_hurries_25 : decode cX7_hurries 25 = .ok (.iload 4, 2) := by decide +kernel
theorem dX7_hurries_27 : decode cX7_hurries 27 = .ok (.iconst (-1), 1) := by decide +kernel
theorem dX7_hurries_28 : decode cX7_hurries 28 = .ok (.iconst 0, 1) := by decide +kernel
theorem dX7_hurries_29 : decode cX7_hurries 29 = .ok (.iconst 0, 1) := by decide +kernel
theorem dX7_hurries_30 : decode cX7_hurries 30 = .ok (.invokevirtual 204, 3) := by decide +kernel
theorem dX7_hurries_33 : decode cX7_hurries 33 = .ok (.ifCond .eq 9, 3) := by decide +kernel
theorem dX7_hurries_36 : decode cX7_hurries 36 = .ok (.iinc 2 1, 3) := by decide +kernel
theorem dX7_hurries_39 : decode cX7_hurries 39 = .ok (.iload 4, 2) := by decide +kernel
theorem dX7_hurries_41 : decode cX7_hurries 41 = .ok (.istore_n 3, 1) := by decide +kernel
theorem dX7_hurries_42 : decode cX7_hurries 42 = .ok (.iinc 4 (-1), 3) := by decide +kernel
theorem dX7_hurries_45 : decode cX7_hurries 45 = .ok (.goto (-26), 3) := by decide +kernel
theorem dX7_hurries_48 : decode cX7_hurries 48 = .ok (.iload_n 1, 1) := by decide +kernel
theorem dX7_hurries_49 : decode cX7_hurries 49 = .ok (.ifCond .ne 7, 3) := by decide +kernel
theorem dX7_hurries_52 : decode cX7_hurries 52 = .ok (.iload_n 2, 1) := by decide +kernel
theorem dX7_hurries_53 : decode cX7_hurries 53 = .ok (.goto 4, 3) := by decide +kernel
theorem dX7_hurries_56 : decode cX7_hurries 56 = .ok (.iload_n 3, 1) := by decide +kernel
theorem dX7_hurries_57 : decode cX7_hurries 57 = .ok (.ireturn, 1) := by decide +kernel
theorem dX7_firm_0 : decode cX7_firm 0 = .ok (.aload_n 0, 1) := by decide +kernel
theorem dX7_firm_1 : decode cX7_firm 1 = .ok (.getfield 12, 3) := by decide +kernel
theorem dX7_firm_4 : decode cX7_firm 4 = .ok (.getfield 93, 3) := by decide +kernel
theorem dX7_firm_7 : decode cX7_firm 7 = .ok (.iload_n 1, 1) := by decide +kernel
theorem dX7_firm_8 : decode cX7_firm 8 = .ok (.invokevirtual 102, 3) := by decide +kernel
theorem dX7_firm_11 : decode cX7_firm 11 = .ok (.astore_n 3, 1) := by decide +kernel
theorem dX7_firm_12 : decode cX7_firm 12 = .ok (.aload_n 3, 1) := by decide +kernel
theorem dX7_firm_13 : decode cX7_firm 13 = .ok (.ifnull 11, 3) := by decide +kernel
theorem dX7_firm_16 : decode cX7_firm 16 = .ok (.iload_n 2, 1) := by decide +kernel
theorem dX7_firm_17 : decode cX7_firm 17 = .ok (.iconst 1, 1) := by decide +kernel
theorem dX7_firm_18 : decode cX7_firm 18 = .ok (.invokestatic 67, 3) := by decide +kernel
theorem dX7_firm_21 : decode cX7_firm 21 = .ok (.ifCond .eq 5, 3) := by decide +kernel
theorem dX7_firm_24 : decode cX7_firm 24 = .ok (.iconst (-1), 1) := by decide +kernel
theorem dX7_firm_25 : decode cX7_firm 25 = .ok (.ireturn, 1) := by decide +kernel
theorem dX7_firm_26 : decode cX7_firm 26 = .ok (.iconst 0, 1) := by decide +kernel
theorem dX7_firm_27 : decode cX7_firm 27 = .ok (.istore 4, 2) := by decide +kernel
theorem dX7_firm_29 : decode cX7_firm 29 = .ok (.bipush (-5), 2) := by decide +kernel
theorem dX7_firm_31 : decode cX7_firm 31 = .ok (.istore 5, 2) := by decide +kernel
theorem dX7_firm_33 : decode cX7_firm 33 = .ok (.bipush 9, 2) := by decide +kernel
theorem dX7_firm_35 : decode cX7_firm 35 = .ok (.istore 6, 2) := by decide +kernel
theorem dX7_firm_37 : decode cX7_firm 37 = .ok (.iload 6, 2) := by decide +kernel
theorem dX7_firm_39 : decode cX7_firm 39 = .ok (.ifCond .lt 40, 3) := by decide +kernel
theorem dX7_firm_42 : decode cX7_firm 42 = .ok (.aload_n 0, 1) := by decide +kernel
theorem dX7_firm_43 : decode cX7_firm 43 = .ok (.aload_n 0, 1) := by decide +kernel
theorem dX7_firm_44 : decode cX7_firm 44 = .ok (.getfield 12, 3) := by decide +kernel
theorem dX7_firm_47 : decode cX7_firm 47 = .ok (.getfield 93, 3) := by decide +kernel
theorem dX7_firm_50 : decode cX7_firm 50 = .ok (.getfield 150, 3) := by decide +kernel
theorem dX7_firm_53 : decode cX7_firm 53 = .ok (.iload_n 1, 1) := by decide +kernel
theorem dX7_firm_54 : decode cX7_firm 54 = .ok (.iload 6, 2) := by decide +kernel
theorem dX7_firm_56 : decode cX7_firm 56 = .ok (.aload_n 3, 1) := by decide +kernel
theorem dX7_firm_57 : decode cX7_firm 57 = .ok (.getfield 120, 3) := by decide +kernel
theorem dX7_firm_60 : decode cX7_firm 60 = .ok (.invokevirtual 204, 3) := by decide +kernel
theorem dX7_firm_63 : decode cX7_firm 63 = .ok (.ifCond .eq 10, 3) := by decide +kernel
theorem dX7_firm_66 : decode cX7_firm 66 = .ok (.iinc 4 1, 3) := by decide +kernel
theorem dX7_firm_69 : decode cX7_firm 69 = .ok (.iload 6, 2) := by decide +kernel
theorem dX7_firm_71 : decode cX7_firm 71 = .ok (.istore 5, 2) := by decide +kernel
theorem dX7_firm_73 : decode cX7_firm 73 = .ok (.iinc 6 (-1), 3) := by decide +kernel
theorem dX7_firm_76 : decode cX7_firm 76 = .ok (.goto (-39), 3) := by decide +kernel
theorem dX7_firm_79 : decode cX7_firm 79 = .ok (.iload_n 2, 1) := by decide +kernel
theorem dX7_firm_80 : decode cX7_firm 80 = .ok (.ifCond .ne 8, 3) := by decide +kernel
theorem dX7_firm_83 : decode cX7_firm 83 = .ok (.iload 4, 2) := by decide +kernel
theorem dX7_firm_85 : decode cX7_firm 85 = .ok (.goto 5, 3) := by decide +kernel
theorem dX7_firm_88 : decode cX7_firm 88 = .ok (.iload 5, 2) := by decide +kernel
theorem dX7_firm_90 : decode cX7_firm 90 = .ok (.ireturn, 1) := by decide +kernel
theorem dX7_alikes_0 : decode cX7_alikes 0 = .ok (.aload_n 0, 1) := by decide +kernel
theorem dX7_alikes_1 : decode cX7_alikes 1 = .ok (.getfield 12, 3) := by decide +kernel
theorem dX7_alikes_4 : decode cX7_alikes 4 = .ok (.getfield 93, 3) := by decide +kernel
theorem dX7_alikes_7 : decode cX7_alikes 7 = .ok (.iload_n 1, 1) := by decide +kernel
theorem dX7_alikes_8 : decode cX7_alikes 8 = .ok (.invokevirtual 102, 3) := by decide +kernel
theorem dX7_alikes_11 : decode cX7_alikes 11 = .ok (.astore_n 2, 1) := by decide +kernel
theorem dX7_alikes_12 : decode cX7_alikes 12 = .ok (.aload_n 2, 1) := by decide +kernel
theorem dX7_alikes_13 : decode cX7_alikes 13 = .ok (.ifnonnull 5, 3) := by decide +kernel
theorem dX7_alikes_16 : decode cX7_alikes 16 = .ok (.iconst (-1), 1) := by decide +kernel
theorem dX7_alikes_17 : decode cX7_alikes 17 = .ok (.ireturn, 1) := by decide +kernel
theorem dX7_alikes_18 : decode cX7_alikes 18 = .ok (.iconst 0, 1) := by decide +kernel
theorem dX7_alikes_19 : decode cX7_alikes 19 = .ok (.istore_n 3, 1) := by decide +kernel
theorem dX7_alikes_20 : decode cX7_alikes 20 = .ok (.iconst 0, 1) := by decide +kernel
theorem dX7_alikes_21 : decode cX7_alikes 21 = .ok (.istore 4, 2) := by decide +kernel
theorem dX7_alikes_23 : decode cX7_alikes 23 = .ok (.iload 4, 2) := by decide +kernel
theorem dX7_alikes_25 : decode cX7_alikes 25 = .ok (.bipush 9, 2) := by decide +kernel
theorem dX7_alikes_27 : decode cX7_alikes 27 = .ok (.if_icmp .gt 43, 3) := by decide +kernel
theorem dX7_alikes_30 : decode cX7_alikes 30 = .ok (.aload_n 0, 1) := by decide +kernel
theorem dX7_alikes_31 : decode cX7_alikes 31 = .ok (.aload_n 0, 1) := by decide +kernel
theorem dX7_alikes_32 : decode cX7_alikes 32 = .ok (.getfield 12, 3) := by decide +kernel
theorem dX7_alikes_35 : decode cX7_alikes 35 = .ok (.getfield 93, 3) := by decide +kernel
theorem dX7_alikes_38 : decode cX7_alikes 38 = .ok (.getfield 150, 3) := by decide +kernel
theorem dX7_alikes_41 : decode cX7_alikes 41 = .ok (.iload_n 1, 1) := by decide +kernel
theorem dX7_alikes_42 : decode cX7_alikes 42 = .ok (.aload_n 2, 1) := by decide +kernel
theorem dX7_alikes_43 : decode cX7_alikes 43 = .ok (.getfield 110, 3) := by decide +kernel
theorem dX7_alikes_46 : decode cX7_alikes 46 = .ok (.bipush 10, 2) := by decide +kernel
theorem dX7_alikes_48 : decode cX7_alikes 48 = .ok (.iload 4, 2) := by decide +kernel
theorem dX7_alikes_50 : decode cX7_alikes 50 = .ok (.imul, 1) := by decide +kernel
theorem dX7_alikes_51 : decode cX7_alikes 51 = .ok (.invokevirtual 204, 3) := by decide +kernel
theorem dX7_alikes_54 : decode cX7_alikes 54 = .ok (.ifCond .eq 10, 3) := by decide +kernel
theorem dX7_alikes_57 : decode cX7_alikes 57 = .ok (.iload_n 3, 1) := by decide +kernel
theorem dX7_alikes_58 : decode cX7_alikes 58 = .ok (.iconst 1, 1) := by decide +kernel
theorem dX7_alikes_59 : decode cX7_alikes 59 = .ok (.iload 4, 2) := by decide +kernel
theorem dX7_alikes_61 : decode cX7_alikes 61 = .ok (.ishl, 1) := by decide +kernel
theorem dX7_alikes_62 : decode cX7_alikes 62 = .ok (.ior, 1) := by decide +kernel
theorem dX7_alikes_63 : decode cX7_alikes 63 = .ok (.istore_n 3, 1) := by decide +kernel
theorem dX7_alikes_64 : decode cX7_alikes 64 = .ok (.iinc 4 1, 3) := by decide +kernel
theorem dX7_alikes_67 : decode cX7_alikes 67 = .ok (.goto (-44), 3) := by decide +kernel
theorem dX7_alikes_70 : decode cX7_alikes 70 = .ok (.iload_n 3, 1) := by decide +kernel
theorem dX7_alikes_71 : decode cX7_alikes 71 = .ok (.ireturn, 1) := by decide +kernel
theorem dX7_odds_0 : decode cX7_odds 0 = .ok (.aload_n 0, 1) := by decide +kernel
theorem dX7_odds_1 : decode cX7_odds 1 = .ok (.getfield 12, 3) := by decide +kernel
theorem dX7_odds_4 : decode cX7_odds 4 = .ok (.getfield 93, 3) := by decide +kernel
theorem dX7_odds_7 : decode cX7_odds 7 = .ok (.iload_n 1, 1) := by decide +kernel
theorem dX7_odds_8 : decode cX7_odds 8 = .ok (.invokevirtual 102, 3) := by decide +kernel
theorem dX7_odds_11 : decode cX7_odds 11 = .ok (.astore 4, 2) := by decide +kernel
theorem dX7_odds_13 : decode cX7_odds 13 = .ok (.aload 4, 2) := by decide +kernel
theorem dX7_odds_15 : decode cX7_odds 15 = .ok (.ifnull 20, 3) := by decide +kernel
theorem dX7_odds_18 : decode cX7_odds 18 = .ok (.iload_n 2, 1) := by decide +kernel
theorem dX7_odds_19 : decode cX7_odds 19 = .ok (.bipush 60, 2) := by decide +kernel
theorem dX7_odds_21 : decode cX7_odds 21 = .ok (.invokestatic 67, 3) := by decide +kernel
theorem dX7_odds_24 : decode cX7_odds 24 = .ok (.ifCond .ne 11, 3) := by decide +kernel
theorem dX7_odds_27 : decode cX7_odds 27 = .ok (.iload_n 3, 1) := by decide +kernel
theorem dX7_odds_28 : decode cX7_odds 28 = .ok (.iconst 1, 1) := by decide +kernel
theorem dX7_odds_29 : decode cX7_odds 29 = .ok (.invokestatic 67, 3) := by decide +kernel
theorem dX7_odds_32 : decode cX7_odds 32 = .ok (.ifCond .eq 7, 3) := by decide +kernel
theorem dX7_odds_35 : decode cX7_odds 35 = .ok (.ldc2_w 208, 3) := by decide +kernel
theorem dX7_odds_38 : decode cX7_odds 38 = .ok (.lreturn, 1) := by decide +kernel
theorem dX7_odds_39 : decode cX7_odds 39 = .ok (.iconst 0, 1) := by decide +kernel
theorem dX7_odds_40 : decode cX7_odds 40 = .ok (.istore 5, 2) := by decide +kernel
theorem dX7_odds_42 : decode cX7_odds 42 = .ok (.iconst 0, 1) := by decide +kernel
theorem dX7_odds_43 : decode cX7_odds 43 = .ok (.istore 6, 2) := by decide +kernel
theorem dX7_odds_45 : decode cX7_odds 45 = .ok (.iload 6, 2) := by decide +kernel
theorem dX7_odds_47 : decode cX7_odds 47 = .ok (.bipush 20, 2) := by decide +kernel
theorem dX7_odds_49 : decode cX7_odds 49 = .ok (.if_icmp .gt 38, 3) := by decide +kernel
theorem dX7_odds_52 : decode cX7_odds 52 = .ok (.aload_n 0, 1) := by decide +kernel
theorem dX7_odds_53 : decode cX7_odds 53 = .ok (.getfield 49, 3) := by decide +kernel
theorem dX7_odds_56 : decode cX7_odds 56 = .ok (.aload 4, 2) := by decide +kernel
theorem dX7_odds_58 : decode cX7_odds 58 = .ok (.invokevirtual 210, 3) := by decide +kernel
theorem dX7_odds_61 : decode cX7_odds 61 = .ok (.aload_n 0, 1) := by decide +kernel
theorem dX7_odds_62 : decode cX7_odds 62 = .ok (.iload_n 2, 1) := by decide +kernel
theorem dX7_odds_63 : decode cX7_odds 63 = .ok (.iload 6, 2) := by decide +kernel
theorem dX7_odds_65 : decode cX7_odds 65 = .ok (.invokevirtual 213, 3) := by decide +kernel
theorem dX7_odds_68 : decode cX7_odds 68 = .ok (.aload_n 0, 1) := by decide +kernel
theorem dX7_odds_69 : decode cX7_odds 69 = .ok (.getfield 49, 3) := by decide +kernel
theorem dX7_odds_72 : decode cX7_odds 72 = .ok (.getfield 113, 3) := by decide +kernel
theorem dX7_odds_75 : decode cX7_odds 75 = .ok (.ifCond .eq 6, 3) := by decide +kernel
theorem dX7_odds_78 : decode cX7_odds 78 = .ok (.iinc 5 1, 3) := by decide +kernel
theorem dX7_odds_81 : decode cX7_odds 81 = .ok (.iinc 6 1, 3) := by decide +kernel
theorem dX7_odds_84 : decode cX7_odds 84 = .ok (.goto (-39), 3) := by decide +kernel
theorem dX7_odds_87 : decode cX7_odds 87 = .ok (.iload 5, 2) := by decide +kernel
theorem dX7_odds_89 : decode cX7_odds 89 = .ok (.i2l, 1) := by decide +kernel
theorem dX7_odds_90 : decode cX7_odds 90 = .ok (.ldc2_w 216, 3) := by decide +kernel
theorem dX7_odds_93 : decode cX7_odds 93 = .ok (.iload_n 3, 1) := by decide +kernel
theorem dX7_odds_94 : decode cX7_odds 94 = .ok (.invokestatic 218, 3) := by decide +kernel
theorem dX7_odds_97 : decode cX7_odds 97 = .ok (.lreturn, 1) := by decide +kernel
theorem dX7_mean_0 : decode cX7_mean 0 = .ok (.iload_n 1, 1) := by decide +kernel
theorem dX7_mean_1 : decode cX7_mean 1 = .ok (.iconst 1, 1) := by decide +kernel
theorem dX7_mean_2 : decode cX7_mean 2 = .ok (.invokestatic 67, 3) := by decide +kernel
theorem dX7_mean_5 : decode cX7_mean 5 = .ok (.ifCond .ne 16, 3) := by decide +kernel
theorem dX7_mean_8 : decode cX7_mean 8 = .ok (.aload_n 0, 1) := by decide +kernel
theorem dX7_mean_9 : decode cX7_mean 9 = .ok (.getfield 12, 3) := by decide +kernel
theorem dX7_mean_12 : decode cX7_mean 12 = .ok (.getfield 93, 3) := by decide +kernel
theorem dX7_mean_15 : decode cX7_mean 15 = .ok (.getfield 99, 3) := by decide +kernel
theorem dX7_mean_18 : decode cX7_mean 18 = .ok (.ifCond .ne 7, 3) := by decide +kernel
theorem dX7_mean_21 : decode cX7_mean 21 = .ok (.ldc2_w 208, 3) := by decide +kernel
theorem dX7_mean_24 : decode cX7_mean 24 = .ok (.lreturn, 1) := by decide +kernel
theorem dX7_mean_25 : decode cX7_mean 25 = .ok (.aload_n 0, 1) := by decide +kernel
theorem dX7_mean_26 : decode cX7_mean 26 = .ok (.getfield 12, 3) := by decide +kernel
theorem dX7_mean_29 : decode cX7_mean 29 = .ok (.getfield 93, 3) := by decide +kernel
theorem dX7_mean_32 : decode cX7_mean 32 = .ok (.invokevirtual 222, 3) := by decide +kernel
theorem dX7_mean_35 : decode cX7_mean 35 = .ok (.i2l, 1) := by decide +kernel
theorem dX7_mean_36 : decode cX7_mean 36 = .ok (.aload_n 0, 1) := by decide +kernel
theorem dX7_mean_37 : decode cX7_mean 37 = .ok (.getfield 12, 3) := by decide +kernel
theorem dX7_mean_40 : decode cX7_mean 40 = .ok (.getfield 93, 3) := by decide +kernel
theorem dX7_mean_43 : decode cX7_mean 43 = .ok (.getfield 99, 3) := by decide +kernel
theorem dX7_mean_46 : decode cX7_mean 46 = .ok (.i2l, 1) := by decide +kernel
theorem dX7_mean_47 : decode cX7_mean 47 = .ok (.iload_n 1, 1) := by decide +kernel
theorem dX7_mean_48 : decode cX7_mean 48 = .ok (.invokestatic 218, 3) := by decide +kernel
theorem dX7_mean_51 : decode cX7_mean 51 = .ok (.lreturn, 1) := by decide +kernel
theorem dX7_plan_0 : decode cX7_plan 0 = .ok (.iload_n 1, 1) := by decide +kernel
theorem dX7_plan_1 : decode cX7_plan 1 = .ok (.iconst (-1), 1) := by decide +kernel
theorem dX7_plan_2 : decode cX7_plan 2 = .ok (.if_icmp .ne 16, 3) := by decide +kernel
theorem dX7_plan_5 : decode cX7_plan 5 = .ok (.aload_n 0, 1) := by decide +kernel
theorem dX7_plan_6 : decode cX7_plan 6 = .ok (.getfield 12, 3) := by decide +kernel
theorem dX7_plan_9 : decode cX7_plan 9 = .ok (.getfield 225, 3) := by decide +kernel
theorem dX7_plan_12 : decode cX7_plan 12 = .ok (.iconst 0, 1) := by decide +kernel
theorem dX7_plan_13 : decode cX7_plan 13 = .ok (.putfield 197, 3) := by decide +kernel
theorem dX7_plan_16 : decode cX7_plan 16 = .ok (.iconst 0, 1) := by decide +kernel
theorem dX7_plan_17 : decode cX7_plan 17 = .ok (.ireturn, 1) := by decide +kernel
theorem dX7_plan_18 : decode cX7_plan 18 = .ok (.iload_n 1, 1) := by decide +kernel
theorem dX7_plan_19 : decode cX7_plan 19 = .ok (.iconst 3, 1) := by decide +kernel
theorem dX7_plan_20 : decode cX7_plan 20 = .ok (.invokestatic 67, 3) := by decide +kernel
theorem dX7_plan_23 : decode cX7_plan 23 = .ok (.ifCond .eq 5, 3) := by decide +kernel
theorem dX7_plan_26 : decode cX7_plan 26 = .ok (.iconst (-1), 1) := by decide +kernel
theorem dX7_plan_27 : decode cX7_plan 27 = .ok (.ireturn, 1) := by decide +kernel
theorem dX7_plan_28 : decode cX7_plan 28 = .ok (.iload_n 1, 1) := by decide +kernel
theorem dX7_plan_29 : decode cX7_plan 29 = .ok (.iconst 1, 1) := by decide +kernel
theorem dX7_plan_30 : decode cX7_plan 30 = .ok (.if_icmp .eq 8, 3) := by decide +kernel
theorem dX7_plan_33 : decode cX7_plan 33 = .ok (.iload_n 1, 1) := by decide +kernel
theorem dX7_plan_34 : decode cX7_plan 34 = .ok (.iconst 2, 1) := by decide +kernel
theorem dX7_plan_35 : decode cX7_plan 35 = .ok (.if_icmp .ne 19, 3) := by decide +kernel
theorem dX7_plan_38 : decode cX7_plan 38 = .ok (.aload_n 0, 1) := by decide +kernel
theorem dX7_plan_39 : decode cX7_plan 39 = .ok (.getfield 12, 3) := by decide +kernel
theorem dX7_plan_42 : decode cX7_plan 42 = .ok (.getfield 93, 3) := by decide +kernel
theorem dX7_plan_45 : decode cX7_plan 45 = .ok (.iload_n 2, 1) := by decide +kernel
theorem dX7_plan_46 : decode cX7_plan 46 = .ok (.invokevirtual 102, 3) := by decide +kernel
theorem dX7_plan_49 : decode cX7_plan 49 = .ok (.ifnonnull 5, 3) := by decide +kernel
theorem dX7_plan_52 : decode cX7_plan 52 = .ok (.iconst (-1), 1) := by decide +kernel
theorem dX7_plan_53 : decode cX7_plan 53 = .ok (.ireturn, 1) := by decide +kernel
theorem dX7_plan_54 : decode cX7_plan 54 = .ok (.iload_n 1, 1) := by decide +kernel
theorem dX7_plan_55 : decode cX7_plan 55 = .ok (.iconst 3, 1) := by decide +kernel
theorem dX7_plan_56 : decode cX7_plan 56 = .ok (.if_icmp .ne 15, 3) := by decide +kernel
theorem dX7_plan_59 : decode cX7_plan 59 = .ok (.iload_n 2, 1) := by decide +kernel
theorem dX7_plan_60 : decode cX7_plan 60 = .ok (.bipush 20, 2) := by decide +kernel
theorem dX7_plan_62 : decode cX7_plan 62 = .ok (.invokestatic 67, 3) := by decide +kernel
theorem dX7_plan_65 : decode cX7_plan 65 = .ok (.ifCond .eq 6, 3) := by decide +kernel
theorem dX7_plan_68 : decode cX7_plan 68 = .ok (.bipush (-2), 2) := by decide +kernel
theorem dX7_plan_70 : decode cX7_plan 70 = .ok (.ireturn, 1) := by decide +kernel
theorem dX7_plan_71 : decode cX7_plan 71 = .ok (.aload_n 0, 1) := by decide +kernel
theorem dX7_plan_72 : decode cX7_plan 72 = .ok (.getfield 12, 3) := by decide +kernel
theorem dX7_plan_75 : decode cX7_plan 75 = .ok (.getfield 225, 3) := by decide +kernel
theorem dX7_plan_78 : decode cX7_plan 78 = .ok (.iload_n 1, 1) := by decide +kernel
theorem dX7_plan_79 : decode cX7_plan 79 = .ok (.iload_n 2, 1) := by decide +kernel
theorem dX7_plan_80 : decode cX7_plan 80 = .ok (.iconst 0, 1) := by decide +kernel
theorem dX7_plan_81 : decode cX7_plan 81 = .ok (.invokevirtual 200, 3) := by decide +kernel
theorem dX7_plan_84 : decode cX7_plan 84 = .ok (.ifCond .eq 16, 3) := by decide +kernel
theorem dX7_plan_87 : decode cX7_plan 87 = .ok (.aload_n 0, 1) := by decide +kernel
theorem dX7_plan_88 : decode cX7_plan 88 = .ok (.getfield 12, 3) := by decide +kernel
theorem dX7_plan_91 : decode cX7_plan 91 = .ok (.getfield 225, 3) := by decide +kernel
theorem dX7_plan_94 : decode cX7_plan 94 = .ok (.getfield 197, 3) := by decide +kernel
theorem dX7_plan_97 : decode cX7_plan 97 = .ok (.goto 5, 3) := by decide +kernel
theorem dX7_plan_100 : decode cX7_plan 100 = .ok (.bipush (-4), 2) := by decide +kernel
theorem dX7_plan_102 : decode cX7_plan 102 = .ok (.ireturn, 1) := by decide +kernel
theorem dX7_done_0 : decode cX7_done 0 = .ok (.iload_n 1, 1) := by decide +kernel
theorem dX7_done_1 : decode cX7_done 1 = .ok (.iconst 1, 1) := by decide +kernel
theorem dX7_done_2 : decode cX7_done 2 = .ok (.invokestatic 67, 3) := by decide +kernel
theorem dX7_done_5 : decode cX7_done 5 = .ok (.ifCond .eq 5, 3) := by decide +kernel
theorem dX7_done_8 : decode cX7_done 8 = .ok (.iconst (-1), 1) := by decide +kernel
theorem dX7_done_9 : decode cX7_done 9 = .ok (.ireturn, 1) := by decide +kernel
theorem dX7_done_10 : decode cX7_done 10 = .ok (.aload_n 0, 1) := by decide +kernel
theorem dX7_done_11 : decode cX7_done 11 = .ok (.getfield 40, 3) := by decide +kernel
theorem dX7_done_14 : decode cX7_done 14 = .ok (.aload_n 0, 1) := by decide +kernel
theorem dX7_done_15 : decode cX7_done 15 = .ok (.getfield 12, 3) := by decide +kernel
theorem dX7_done_18 : decode cX7_done 18 = .ok (.getfield 93, 3) := by decide +kernel
theorem dX7_done_21 : decode cX7_done 21 = .ok (.invokevirtual 176, 3) := by decide +kernel
theorem dX7_done_24 : decode cX7_done 24 = .ok (.iconst 0, 1) := by decide +kernel
theorem dX7_done_25 : decode cX7_done 25 = .ok (.istore_n 2, 1) := by decide +kernel
theorem dX7_done_26 : decode cX7_done 26 = .ok (.iload_n 2, 1) := by decide +kernel
theorem dX7_done_27 : decode cX7_done 27 = .ok (.aload_n 0, 1) := by decide +kernel
theorem dX7_done_28 : decode cX7_done 28 = .ok (.getfield 12, 3) := by decide +kernel
theorem dX7_done_31 : decode cX7_done 31 = .ok (.getfield 225, 3) := by decide +kernel
theorem dX7_done_34 : decode cX7_done 34 = .ok (.getfield 197, 3) := by decide +kernel
theorem dX7_done_37 : decode cX7_done 37 = .ok (.if_icmp .ge 35, 3) := by decide +kernel
theorem dX7_done_40 : decode cX7_done 40 = .ok (.aload_n 0, 1) := by decide +kernel
theorem dX7_done_41 : decode cX7_done 41 = .ok (.aload_n 0, 1) := by decide +kernel
theorem dX7_done_42 : decode cX7_done 42 = .ok (.getfield 12, 3) := by decide +kernel
theorem dX7_done_45 : decode cX7_done 45 = .ok (.getfield 225, 3) := by decide +kernel
theorem dX7_done_48 : decode cX7_done 48 = .ok (.iload_n 2, 1) := by decide +kernel
theorem dX7_done_49 : decode cX7_done 49 = .ok (.invokevirtual 228, 3) := by decide +kernel
theorem dX7_done_52 : decode cX7_done 52 = .ok (.aload_n 0, 1) := by decide +kernel
theorem dX7_done_53 : decode cX7_done 53 = .ok (.getfield 12, 3) := by decide +kernel
theorem dX7_done_56 : decode cX7_done 56 = .ok (.getfield 225, 3) := by decide +kernel
theorem dX7_done_59 : decode cX7_done 59 = .ok (.iload_n 2, 1) := by decide +kernel
theorem dX7_done_60 : decode cX7_done 60 = .ok (.invokevirtual 231, 3) := by decide +kernel
theorem dX7_done_63 : decode cX7_done 63 = .ok (.invokevirtual 234, 3) := by decide +kernel
theorem dX7_done_66 : decode cX7_done 66 = .ok (.iinc 2 1, 3) := by decide +kernel
theorem dX7_done_69 : decode cX7_done 69 = .ok (.goto (-43), 3) := by decide +kernel
theorem dX7_done_72 : decode cX7_done 72 = .ok (.iload_n 1, 1) := by decide +kernel
theorem dX7_done_73 : decode cX7_done 73 = .ok (.ifCond .ne 13, 3) := by decide +kernel
theorem dX7_done_76 : decode cX7_done 76 = .ok (.aload_n 0, 1) := by decide +kernel
theorem dX7_done_77 : decode cX7_done 77 = .ok (.getfield 40, 3) := by decide +kernel
theorem dX7_done_80 : decode cX7_done 80 = .ok (.getfield 160, 3) := by decide +kernel
theorem dX7_done_83 : decode cX7_done 83 = .ok (.goto 10, 3) := by decide +kernel
theorem dX7_done_86 : decode cX7_done 86 = .ok (.aload_n 0, 1) := by decide +kernel
theorem dX7_done_87 : decode cX7_done 87 = .ok (.getfield 40, 3) := by decide +kernel
theorem dX7_done_90 : decode cX7_done 90 = .ok (.invokevirtual 163, 3) := by decide +kernel
theorem dX7_done_93 : decode cX7_done 93 = .ok (.ireturn, 1) := by decide +kernel
theorem dX7_book_0 : decode cX7_book 0 = .ok (.iload_n 1, 1) := by decide +kernel
theorem dX7_book_1 : decode cX7_book 1 = .ok (.iconst (-1), 1) := by decide +kernel
theorem dX7_book_2 : decode cX7_book 2 = .ok (.if_icmp .ne 16, 3) := by decide +kernel
theorem dX7_book_5 : decode cX7_book 5 = .ok (.aload_n 0, 1) := by decide +kernel
theorem dX7_book_6 : decode cX7_book 6 = .ok (.getfield 12, 3) := by decide +kernel
theorem dX7_book_9 : decode cX7_book 9 = .ok (.getfield 237, 3) := by decide +kernel
theorem dX7_book_12 : decode cX7_book 12 = .ok (.iconst 0, 1) := by decide +kernel
theorem dX7_book_13 : decode cX7_book 13 = .ok (.putfield 197, 3) := by decide +kernel
theorem dX7_book_16 : decode cX7_book 16 = .ok (.iconst 0, 1) := by decide +kernel
theorem dX7_book_17 : decode cX7_book 17 = .ok (.ireturn, 1) := by decide +kernel
theorem dX7_book_18 : decode cX7_book 18 = .ok (.aload_n 0, 1) := by decide +kernel
theorem dX7_book_19 : decode cX7_book 19 = .ok (.getfield 12, 3) := by decide +kernel
theorem dX7_book_22 : decode cX7_book 22 = .ok (.getfield 93, 3) := by decide +kernel
theorem dX7_book_25 : decode cX7_book 25 = .ok (.iload_n 1, 1) := by decide +kernel
theorem dX7_book_26 : decode cX7_book 26 = .ok (.invokevirtual 102, 3) := by decide +kernel
theorem dX7_book_29 : decode cX7_book 29 = .ok (.ifnonnull 5, 3) := by decide +kernel
theorem dX7_book_32 : decode cX7_book 32 = .ok (.iconst (-1), 1) := by decide +kernel
theorem dX7_book_33 : decode cX7_book 33 = .ok (.ireturn, 1) := by decide +kernel
theorem dX7_book_34 : decode cX7_book 34 = .ok (.iload_n 2, 1) := by decide +kernel
theorem dX7_book_35 : decode cX7_book 35 = .ok (.bipush 99, 2) := by decide +kernel
theorem dX7_book_37 : decode cX7_book 37 = .ok (.invokestatic 67, 3) := by decide +kernel
theorem dX7_book_40 : decode cX7_book 40 = .ok (.ifCond .eq 6, 3) := by decide +kernel
theorem dX7_book_43 : decode cX7_book 43 = .ok (.bipush (-2), 2) := by decide +kernel
theorem dX7_book_45 : decode cX7_book 45 = .ok (.ireturn, 1) := by decide +kernel
theorem dX7_book_46 : decode cX7_book 46 = .ok (.aload_n 0, 1) := by decide +kernel
theorem dX7_book_47 : decode cX7_book 47 = .ok (.getfield 12, 3) := by decide +kernel
theorem dX7_book_50 : decode cX7_book 50 = .ok (.getfield 237, 3) := by decide +kernel
theorem dX7_book_53 : decode cX7_book 53 = .ok (.iload_n 1, 1) := by decide +kernel
theorem dX7_book_54 : decode cX7_book 54 = .ok (.iload_n 2, 1) := by decide +kernel
theorem dX7_book_55 : decode cX7_book 55 = .ok (.iconst 0, 1) := by decide +kernel
theorem dX7_book_56 : decode cX7_book 56 = .ok (.invokevirtual 200, 3) := by decide +kernel
theorem dX7_book_59 : decode cX7_book 59 = .ok (.ifCond .eq 16, 3) := by decide +kernel
theorem dX7_book_62 : decode cX7_book 62 = .ok (.aload_n 0, 1) := by decide +kernel
theorem dX7_book_63 : decode cX7_book 63 = .ok (.getfield 12, 3) := by decide +kernel
theorem dX7_book_66 : decode cX7_book 66 = .ok (.getfield 237, 3) := by decide +kernel
theorem dX7_book_69 : decode cX7_book 69 = .ok (.getfield 197, 3) := by decide +kernel
theorem dX7_book_72 : decode cX7_book 72 = .ok (.goto 5, 3) := by decide +kernel
theorem dX7_book_75 : decode cX7_book 75 = .ok (.bipush (-4), 2) := by decide +kernel
theorem dX7_book_77 : decode cX7_book 77 = .ok (.ireturn, 1) := by decide +kernel
theorem dX7_struck_0 : decode cX7_struck 0 = .ok (.iconst 0, 1) := by decide +kernel
theorem dX7_struck_1 : decode cX7_struck 1 = .ok (.istore_n 1, 1) := by decide +kernel
theorem dX7_struck_2 : decode cX7_struck 2 = .ok (.iload_n 1, 1) := by decide +kernel
theorem dX7_struck_3 : decode cX7_struck 3 = .ok (.aload_n 0, 1) := by decide +kernel
theorem dX7_struck_4 : decode cX7_struck 4 = .ok (.getfield 12, 3) := by decide +kernel
theorem dX7_struck_7 : decode cX7_struck 7 = .ok (.getfield 237, 3) := by decide +kernel
theorem dX7_struck_10 : decode cX7_struck 10 = .ok (.getfield 197, 3) := by decide +kernel
theorem dX7_struck_13 : decode cX7_struck 13 = .ok (.if_icmp .ge 55, 3) := by decide +kernel
theorem dX7_struck_16 : decode cX7_struck 16 = .ok (.aload_n 0, 1) := by decide +kernel
theorem dX7_struck_17 : decode cX7_struck 17 = .ok (.getfield 12, 3) := by decide +kernel
theorem dX7_struck_20 : decode cX7_struck 20 = .ok (.getfield 93, 3) := by decide +kernel
theorem dX7_struck_23 : decode cX7_struck 23 = .ok (.aload_n 0, 1) := by decide +kernel
theorem dX7_struck_24 : decode cX7_struck 24 = .ok (.getfield 12, 3) := by decide +kernel
theorem dX7_struck_27 : decode cX7_struck 27 = .ok (.getfield 237, 3) := by decide +kernel
theorem dX7_struck_30 : decode cX7_struck 30 = .ok (.iload_n 1, 1) := by decide +kernel
theorem dX7_struck_31 : decode cX7_struck 31 = .ok (.invokevirtual 228, 3) := by decide +kernel
theorem dX7_struck_34 : decode cX7_struck 34 = .ok (.invokevirtual 102, 3) := by decide +kernel
theorem dX7_struck_37 : decode cX7_struck 37 = .ok (.astore_n 2, 1) := by decide +kernel
theorem dX7_struck_38 : decode cX7_struck 38 = .ok (.aload_n 2, 1) := by decide +kernel
theorem dX7_struck_39 : decode cX7_struck 39 = .ok (.ifnull 21, 3) := by decide +kernel
theorem dX7_struck_42 : decode cX7_struck 42 = .ok (.aload_n 2, 1) := by decide +kernel
theorem dX7_struck_43 : decode cX7_struck 43 = .ok (.getfield 117, 3) := by decide +kernel
theorem dX7_struck_46 : decode cX7_struck 46 = .ok (.aload_n 0, 1) := by decide +kernel
theorem dX7_struck_47 : decode cX7_struck 47 = .ok (.getfield 12, 3) := by decide +kernel
theorem dX7_struck_50 : decode cX7_struck 50 = .ok (.getfield 237, 3) := by decide +kernel
theorem dX7_struck_53 : decode cX7_struck 53 = .ok (.iload_n 1, 1) := by decide +kernel
theorem dX7_struck_54 : decode cX7_struck 54 = .ok (.invokevirtual 231, 3) := by decide +kernel
theorem dX7_struck_57 : decode cX7_struck 57 = .ok (.if_icmp .eq 5, 3) := by decide +kernel
theorem dX7_struck_60 : decode cX7_struck 60 = .ok (.iload_n 1, 1) := by decide +kernel
theorem dX7_struck_61 : decode cX7_struck 61 = .ok (.ireturn, 1) := by decide +kernel
theorem dX7_struck_62 : decode cX7_struck 62 = .ok (.iinc 1 1, 3) := by decide +kernel
theorem dX7_struck_65 : decode cX7_struck 65 = .ok (.goto (-63), 3) := by decide +kernel
theorem dX7_struck_68 : decode cX7_struck 68 = .ok (.bipush (-5), 2) := by decide +kernel
theorem dX7_struck_70 : decode cX7_struck 70 = .ok (.ireturn, 1) := by decide +kernel
theorem dX7_act_0 : decode cX7_act 0 = .ok (.aload_n 0, 1) := by decide +kernel
theorem dX7_act_1 : decode cX7_act 1 = .ok (.getfield 56, 3) := by decide +kernel
theorem dX7_act_4 : decode cX7_act 4 = .ok (.iconst 0, 1) := by decide +kernel
theorem dX7_act_5 : decode cX7_act 5 = .ok (.putfield 240, 3) := by decide +kernel
theorem dX7_act_8 : decode cX7_act 8 = .ok (.aload_n 0, 1) := by decide +kernel
theorem dX7_act_9 : decode cX7_act 9 = .ok (.getfield 12, 3) := by decide +kernel
theorem dX7_act_12 : decode cX7_act 12 = .ok (.getfield 93, 3) := by decide +kernel
theorem dX7_act_15 : decode cX7_act 15 = .ok (.iload_n 1, 1) := by decide +kernel
theorem dX7_act_16 : decode cX7_act 16 = .ok (.invokevirtual 102, 3) := by decide +kernel
theorem dX7_act_19 : decode cX7_act 19 = .ok (.astore 4, 2) := by decide +kernel
theorem dX7_act_21 : decode cX7_act 21 = .ok (.aload 4, 2) := by decide +kernel
theorem dX7_act_23 : decode cX7_act 23 = .ok (.ifnonnull 5, 3) := by decide +kernel
theorem dX7_act_26 : decode cX7_act 26 = .ok (.iconst 0, 1) := by decide +kernel
theorem dX7_act_27 : decode cX7_act 27 = .ok (.ireturn, 1) := by decide +kernel
theorem dX7_act_28 : decode cX7_act 28 = .ok (.iload_n 2, 1) := by decide +kernel
theorem dX7_act_29 : decode cX7_act 29 = .ok (.tableswitch 78 0 2 #[27, 44, 61], 27) := by decide +kernel
theorem dX7_act_56 : decode cX7_act 56 = .ok (.aload_n 0, 1) := by decide +kernel
theorem dX7_act_57 : decode cX7_act 57 = .ok (.getfield 56, 3) := by decide +kernel
theorem dX7_act_60 : decode cX7_act 60 = .ok (.aload 4, 2) := by decide +kernel
theorem dX7_act_62 : decode cX7_act 62 = .ok (.aload 4, 2) := by decide +kernel
theorem dX7_act_64 : decode cX7_act 64 = .ok (.getfield 107, 3) := by decide +kernel
theorem dX7_act_67 : decode cX7_act 67 = .ok (.iload_n 3, 1) := by decide +kernel
theorem dX7_act_68 : decode cX7_act 68 = .ok (.iconst 0, 1) := by decide +kernel
theorem dX7_act_69 : decode cX7_act 69 = .ok (.invokevirtual 243, 3) := by decide +kernel
theorem dX7_act_72 : decode cX7_act 72 = .ok (.ireturn, 1) := by decide +kernel
theorem dX7_act_73 : decode cX7_act 73 = .ok (.aload_n 0, 1) := by decide +kernel
theorem dX7_act_74 : decode cX7_act 74 = .ok (.getfield 56, 3) := by decide +kernel
theorem dX7_act_77 : decode cX7_act 77 = .ok (.aload 4, 2) := by decide +kernel
theorem dX7_act_79 : decode cX7_act 79 = .ok (.aload 4, 2) := by decide +kernel
theorem dX7_act_81 : decode cX7_act 81 = .ok (.getfield 107, 3) := by decide +kernel
theorem dX7_act_84 : decode cX7_act 84 = .ok (.iload_n 3, 1) := by decide +kernel
theorem dX7_act_85 : decode cX7_act 85 = .ok (.iconst 0, 1) := by decide +kernel
theorem dX7_act_86 : decode cX7_act 86 = .ok (.invokevirtual 247, 3) := by decide +kernel
theorem dX7_act_89 : decode cX7_act 89 = .ok (.ireturn, 1) := by decide +kernel
theorem dX7_act_90 : decode cX7_act 90 = .ok (.aload_n 0, 1) := by decide +kernel
theorem dX7_act_91 : decode cX7_act 91 = .ok (.getfield 56, 3) := by decide +kernel
theorem dX7_act_94 : decode cX7_act 94 = .ok (.aload 4, 2) := by decide +kernel
theorem dX7_act_96 : decode cX7_act 96 = .ok (.aload 4, 2) := by decide +kernel
theorem dX7_act_98 : decode cX7_act 98 = .ok (.getfield 107, 3) := by decide +kernel
theorem dX7_act_101 : decode cX7_act 101 = .ok (.iload_n 3, 1) := by decide +kernel
theorem dX7_act_102 : decode cX7_act 102 = .ok (.iconst 0, 1) := by decide +kernel
theorem dX7_act_103 : decode cX7_act 103 = .ok (.invokevirtual 250, 3) := by decide +kernel
theorem dX7_act_106 : decode cX7_act 106 = .ok (.ireturn, 1) := by decide +kernel
theorem dX7_act_107 : decode cX7_act 107 = .ok (.iconst 0, 1) := by decide +kernel
theorem dX7_act_108 : decode cX7_act 108 = .ok (.ireturn, 1) := by decide +kernel
theorem dX7_trace_0 : decode cX7_trace 0 = .ok (.aload_n 0, 1) := by decide +kernel
theorem dX7_trace_1 : decode cX7_trace 1 = .ok (.getfield 56, 3) := by decide +kernel
theorem dX7_trace_4 : decode cX7_trace 4 = .ok (.iload_n 1, 1) := by decide +kernel
theorem dX7_trace_5 : decode cX7_trace 5 = .ok (.invokevirtual 253, 3) := by decide +kernel
theorem dX7_trace_8 : decode cX7_trace 8 = .ok (.ireturn, 1) := by decide +kernel
theorem dX7_as_0 : decode cX7_as 0 = .ok (.aload_n 0, 1) := by decide +kernel
theorem dX7_as_1 : decode cX7_as 1 = .ok (.getfield 12, 3) := by decide +kernel
theorem dX7_as_4 : decode cX7_as 4 = .ok (.getfield 93, 3) := by decide +kernel
theorem dX7_as_7 : decode cX7_as 7 = .ok (.iload_n 1, 1) := by decide +kernel
theorem dX7_as_8 : decode cX7_as 8 = .ok (.invokevirtual 102, 3) := by decide +kernel
theorem dX7_as_11 : decode cX7_as 11 = .ok (.astore_n 3, 1) := by decide +kernel
theorem dX7_as_12 : decode cX7_as 12 = .ok (.aload_n 3, 1) := by decide +kernel
theorem dX7_as_13 : decode cX7_as 13 = .ok (.ifnull 12, 3) := by decide +kernel
theorem dX7_as_16 : decode cX7_as 16 = .ok (.iload_n 2, 1) := by decide +kernel
theorem dX7_as_17 : decode cX7_as 17 = .ok (.bipush 6, 2) := by decide +kernel
theorem dX7_as_19 : decode cX7_as 19 = .ok (.invokestatic 67, 3) := by decide +kernel
theorem dX7_as_22 : decode cX7_as 22 = .ok (.ifCond .eq 5, 3) := by decide +kernel
theorem dX7_as_25 : decode cX7_as 25 = .ok (.iconst (-1), 1) := by decide +kernel
theorem dX7_as_26 : decode cX7_as 26 = .ok (.ireturn, 1) := by decide +kernel
theorem dX7_as_27 : decode cX7_as 27 = .ok (.aload_n 3, 1) := by decide +kernel
theorem dX7_as_28 : decode cX7_as 28 = .ok (.getfield 107, 3) := by decide +kernel
theorem dX7_as_31 : decode cX7_as 31 = .ok (.istore 4, 2) := by decide +kernel
theorem dX7_as_33 : decode cX7_as 33 = .ok (.iconst 0, 1) := by decide +kernel
theorem dX7_as_34 : decode cX7_as 34 = .ok (.istore 5, 2) := by decide +kernel
theorem dX7_as_36 : decode cX7_as 36 = .ok (.iload 5, 2) := by decide +kernel
theorem dX7_as_38 : decode cX7_as 38 = .ok (.iconst 3, 1) := by decide +kernel
theorem dX7_as_39 : decode cX7_as 39 = .ok (.if_icmp .ge 27, 3) := by decide +kernel
theorem dX7_as_42 : decode cX7_as 42 = .ok (.iload 4, 2) := by decide +kernel
theorem dX7_as_44 : decode cX7_as 44 = .ok (.iload_n 2, 1) := by decide +kernel
theorem dX7_as_45 : decode cX7_as 45 = .ok (.if_icmp .ne 8, 3) := by decide +kernel
theorem dX7_as_48 : decode cX7_as 48 = .ok (.aload_n 3, 1) := by decide +kernel
theorem dX7_as_49 : decode cX7_as 49 = .ok (.getfield 110, 3) := by decide +kernel
theorem dX7_as_52 : decode cX7_as 52 = .ok (.ireturn, 1) := by decide +kernel
theorem dX7_as_53 : decode cX7_as 53 = .ok (.iload 4, 2) := by decide +kernel
theorem dX7_as_55 : decode cX7_as 55 = .ok (.invokestatic 256, 3) := by decide +kernel
theorem dX7_as_58 : decode cX7_as 58 = .ok (.istore 4, 2) := by decide +kernel
theorem dX7_as_60 : decode cX7_as 60 = .ok (.iinc 5 1, 3) := by decide +kernel
theorem dX7_as_63 : decode cX7_as 63 = .ok (.goto (-27), 3) := by decide +kernel
theorem dX7_as_66 : decode cX7_as 66 = .ok (.bipush (-6), 2) := by decide +kernel
theorem dX7_as_68 : decode cX7_as 68 = .ok (.ireturn, 1) := by decide +kernel
theorem dX7_image_0 : decode cX7_image 0 = .ok (.aload_n 0, 1) := by decide +kernel
theorem dX7_image_1 : decode cX7_image 1 = .ok (.getfield 18, 3) := by decide +kernel
theorem dX7_image_4 : decode cX7_image 4 = .ok (.aload_n 0, 1) := by decide +kernel
theorem dX7_image_5 : decode cX7_image 5 = .ok (.getfield 12, 3) := by decide +kernel
theorem dX7_image_8 : decode cX7_image 8 = .ok (.invokevirtual 259, 3) := by decide +kernel
theorem dX7_image_11 : decode cX7_image 11 = .ok (.aload_n 0, 1) := by decide +kernel
theorem dX7_image_12 : decode cX7_image 12 = .ok (.iconst 1, 1) := by decide +kernel
theorem dX7_image_13 : decode cX7_image 13 = .ok (.putfield 262, 3) := by decide +kernel
theorem dX7_image_16 : decode cX7_image 16 = .ok (.aload_n 0, 1) := by decide +kernel
theorem dX7_image_17 : decode cX7_image 17 = .ok (.getfield 12, 3) := by decide +kernel
theorem dX7_image_20 : decode cX7_image 20 = .ok (.getfield 93, 3) := by decide +kernel
theorem dX7_image_23 : decode cX7_image 23 = .ok (.getfield 99, 3) := by decide +kernel
theorem dX7_image_26 : decode cX7_image 26 = .ok (.ireturn, 1) := by decide +kernel
theorem dX7_undo_0 : decode cX7_undo 0 = .ok (.aload_n 0, 1) := by decide +kernel
theorem dX7_undo_1 : decode cX7_undo 1 = .ok (.getfield 262, 3) := by decide +kernel
theorem dX7_undo_4 : decode cX7_undo 4 = .ok (.ifCond .ne 6, 3) := by decide +kernel
theorem dX7_undo_7 : decode cX7_undo 7 = .ok (.bipush (-3), 2) := by decide +kernel
theorem dX7_undo_9 : decode cX7_undo 9 = .ok (.ireturn, 1) := by decide +kernel
theorem dX7_undo_10 : decode cX7_undo 10 = .ok (.aload_n 0, 1) := by decide +kernel
theorem dX7_undo_11 : decode cX7_undo 11 = .ok (.getfield 12, 3) := by decide +kernel
theorem dX7_undo_14 : decode cX7_undo 14 = .ok (.aload_n 0, 1) := by decide +kernel
theorem dX7_undo_15 : decode cX7_undo 15 = .ok (.getfield 18, 3) := by decide +kernel
theorem dX7_undo_18 : decode cX7_undo 18 = .ok (.invokevirtual 259, 3) := by decide +kernel
theorem dX7_undo_21 : decode cX7_undo 21 = .ok (.aload_n 0, 1) := by decide +kernel
theorem dX7_undo_22 : decode cX7_undo 22 = .ok (.getfield 12, 3) := by decide +kernel
theorem dX7_undo_25 : decode cX7_undo 25 = .ok (.getfield 93, 3) := by decide +kernel
theorem dX7_undo_28 : decode cX7_undo 28 = .ok (.getfield 99, 3) := by decide +kernel
theorem dX7_undo_31 : decode cX7_undo 31 = .ok (.ireturn, 1) := by decide +kernel
theorem dX7_count_0 : decode cX7_count 0 = .ok (.iload_n 1, 1) := by decide +kernel
theorem dX7_count_1 : decode cX7_count 1 = .ok (.tableswitch 111 0 6 #[43, 54, 62, 73, 84, 95, 103], 43) := by decide +kernel
theorem dX7_count_44 : decode cX7_count 44 = .ok (.aload_n 0, 1) := by decide +kernel
theorem dX7_count_45 : decode cX7_count 45 = .ok (.getfield 12, 3) := by decide +kernel
theorem dX7_count_48 : decode cX7_count 48 = .ok (.getfield 93, 3) := by decide +kernel
theorem dX7_count_51 : decode cX7_count 51 = .ok (.getfield 99, 3) := by decide +kernel
theorem dX7_count_54 : decode cX7_count 54 = .ok (.ireturn, 1) := by decide +kernel
theorem dX7_count_55 : decode cX7_count 55 = .ok (.aload_n 0, 1) := by decide +kernel
theorem dX7_count_56 : decode cX7_count 56 = .ok (.getfield 12, 3) := by decide +kernel
theorem dX7_count_59 : decode cX7_count 59 = .ok (.getfield 79, 3) := by decide +kernel
theorem dX7_count_62 : decode cX7_count 62 = .ok (.ireturn, 1) := by decide +kernel
theorem dX7_count_63 : decode cX7_count 63 = .ok (.aload_n 0, 1) := by decide +kernel
theorem dX7_count_64 : decode cX7_count 64 = .ok (.getfield 12, 3) := by decide +kernel
theorem dX7_count_67 : decode cX7_count 67 = .ok (.getfield 193, 3) := by decide +kernel
theorem dX7_count_70 : decode cX7_count 70 = .ok (.getfield 197, 3) := by decide +kernel
theorem dX7_count_73 : decode cX7_count 73 = .ok (.ireturn, 1) := by decide +kernel
theorem dX7_count_74 : decode cX7_count 74 = .ok (.aload_n 0, 1) := by decide +kernel
theorem dX7_count_75 : decode cX7_count 75 = .ok (.getfield 12, 3) := by decide +kernel
theorem dX7_count_78 : decode cX7_count 78 = .ok (.getfield 225, 3) := by decide +kernel
theorem dX7_count_81 : decode cX7_count 81 = .ok (.getfield 197, 3) := by decide +kernel
theorem dX7_count_84 : decode cX7_count 84 = .ok (.ireturn, 1) := by decide +kernel
theorem dX7_count_85 : decode cX7_count 85 = .ok (.aload_n 0, 1) := by decide +kernel
theorem dX7_count_86 : decode cX7_count 86 = .ok (.getfield 12, 3) := by decide +kernel
theorem dX7_count_89 : decode cX7_count 89 = .ok (.getfield 237, 3) := by decide +kernel
theorem dX7_count_92 : decode cX7_count 92 = .ok (.getfield 197, 3) := by decide +kernel
theorem dX7_count_95 : decode cX7_count 95 = .ok (.ireturn, 1) := by decide +kernel
theorem dX7_count_96 : decode cX7_count 96 = .ok (.aload_n 0, 1) := by decide +kernel
theorem dX7_count_97 : decode cX7_count 97 = .ok (.getfield 12, 3) := by decide +kernel
theorem dX7_count_100 : decode cX7_count 100 = .ok (.getfield 75, 3) := by decide +kernel
theorem dX7_count_103 : decode cX7_count 103 = .ok (.ireturn, 1) := by decide +kernel
theorem dX7_count_104 : decode cX7_count 104 = .ok (.aload_n 0, 1) := by decide +kernel
theorem dX7_count_105 : decode cX7_count 105 = .ok (.getfield 56, 3) := by decide +kernel
theorem dX7_count_108 : decode cX7_count 108 = .ok (.getfield 240, 3) := by decide +kernel
theorem dX7_count_111 : decode cX7_count 111 = .ok (.ireturn, 1) := by decide +kernel
theorem dX7_count_112 : decode cX7_count 112 = .ok (.iconst (-1), 1) := by decide +kernel
theorem dX7_count_113 : decode cX7_count 113 = .ok (.ireturn, 1) := by decide +kernel
theorem dX7_isOff_0 : decode cX7_isOff 0 = .ok (.iload_n 0, 1) := by decide +kernel
theorem dX7_isOff_1 : decode cX7_isOff 1 = .ok (.ifCond .lt 8, 3) := by decide +kernel
theorem dX7_isOff_4 : decode cX7_isOff 4 = .ok (.iload_n 0, 1) := by decide +kernel
theorem dX7_isOff_5 : decode cX7_isOff 5 = .ok (.iload_n 1, 1) := by decide +kernel
theorem dX7_isOff_6 : decode cX7_isOff 6 = .ok (.if_icmp .le 7, 3) := by decide +kernel
theorem dX7_isOff_9 : decode cX7_isOff 9 = .ok (.iconst 1, 1) := by decide +kernel
theorem dX7_isOff_10 : decode cX7_isOff 10 = .ok (.goto 4, 3) := by decide +kernel
theorem dX7_isOff_13 : decode cX7_isOff 13 = .ok (.iconst 0, 1) := by decide +kernel
theorem dX7_isOff_14 : decode cX7_isOff 14 = .ok (.ireturn, 1) := by decide +kernel
theorem dX7_above_0 : decode cX7_above 0 = .ok (.iload_n 0, 1) := by decide +kernel
theorem dX7_above_1 : decode cX7_above 1 = .ok (.ifCond .lt 19, 3) := by decide +kernel
theorem dX7_above_4 : decode cX7_above 4 = .ok (.iload_n 0, 1) := by decide +kernel
theorem dX7_above_5 : decode cX7_above 5 = .ok (.getstatic 265, 3) := by decide +kernel
theorem dX7_above_8 : decode cX7_above 8 = .ok (.arraylength, 1) := by decide +kernel
theorem dX7_above_9 : decode cX7_above 9 = .ok (.if_icmp .ge 11, 3) := by decide +kernel
theorem dX7_above_12 : decode cX7_above 12 = .ok (.getstatic 265, 3) := by decide +kernel
theorem dX7_above_15 : decode cX7_above 15 = .ok (.iload_n 0, 1) := by decide +kernel
theorem dX7_above_16 : decode cX7_above 16 = .ok (.iaload, 1) := by decide +kernel
theorem dX7_above_17 : decode cX7_above 17 = .ok (.goto 4, 3) := by decide +kernel
theorem dX7_above_20 : decode cX7_above 20 = .ok (.iconst (-1), 1) := by decide +kernel
theorem dX7_above_21 : decode cX7_above 21 = .ok (.ireturn, 1) := by decide +kernel
theorem dX7_within_0 : decode cX7_within 0 = .ok (.iconst 0, 1) := by decide +kernel
theorem dX7_within_1 : decode cX7_within 1 = .ok (.iload_n 1, 1) := by decide +kernel
theorem dX7_within_2 : decode cX7_within 2 = .ok (.iload_n 0, 1) := by decide +kernel
theorem dX7_within_3 : decode cX7_within 3 = .ok (.invokestatic 171, 3) := by decide +kernel
theorem dX7_within_6 : decode cX7_within 6 = .ok (.invokestatic 268, 3) := by decide +kernel
theorem dX7_within_9 : decode cX7_within 9 = .ok (.ireturn, 1) := by decide +kernel
theorem dX7_copyInts_0 : decode cX7_copyInts 0 = .ok (.iconst 0, 1) := by decide +kernel
theorem dX7_copyInts_1 : decode cX7_copyInts 1 = .ok (.istore_n 2, 1) := by decide +kernel
theorem dX7_copyInts_2 : decode cX7_copyInts 2 = .ok (.iload_n 2, 1) := by decide +kernel
theorem dX7_copyInts_3 : decode cX7_copyInts 3 = .ok (.aload_n 0, 1) := by decide +kernel
theorem dX7_copyInts_4 : decode cX7_copyInts 4 = .ok (.arraylength, 1) := by decide +kernel
theorem dX7_copyInts_5 : decode cX7_copyInts 5 = .ok (.if_icmp .ge 21, 3) := by decide +kernel
theorem dX7_copyInts_8 : decode cX7_copyInts 8 = .ok (.iload_n 2, 1) := by decide +kernel
theorem dX7_copyInts_9 : decode cX7_copyInts 9 = .ok (.aload_n 1, 1) := by decide +kernel
theorem dX7_copyInts_10 : decode cX7_copyInts 10 = .ok (.arraylength, 1) := by decide +kernel
theorem dX7_copyInts_11 : decode cX7_copyInts 11 = .ok (.if_icmp .ge 15, 3) := by decide +kernel
theorem dX7_copyInts_14 : decode cX7_copyInts 14 = .ok (.aload_n 1, 1) := by decide +kernel
theorem dX7_copyInts_15 : decode cX7_copyInts 15 = .ok (.iload_n 2, 1) := by decide +kernel
theorem dX7_copyInts_16 : decode cX7_copyInts 16 = .ok (.aload_n 0, 1) := by decide +kernel
theorem dX7_copyInts_17 : decode cX7_copyInts 17 = .ok (.iload_n 2, 1) := by decide +kernel
theorem dX7_copyInts_18 : decode cX7_copyInts 18 = .ok (.iaload, 1) := by decide +kernel
theorem dX7_copyInts_19 : decode cX7_copyInts 19 = .ok (.iastore, 1) := by decide +kernel
theorem dX7_copyInts_20 : decode cX7_copyInts 20 = .ok (.iinc 2 1, 3) := by decide +kernel
theorem dX7_copyInts_23 : decode cX7_copyInts 23 = .ok (.goto (-21), 3) := by decide +kernel
theorem dX7_copyInts_26 : decode cX7_copyInts 26 = .ok (.return_, 1) := by decide +kernel
theorem dX7_lowest_0 : decode cX7_lowest 0 = .ok (.lload_n 0, 1) := by decide +kernel
theorem dX7_lowest_1 : decode cX7_lowest 1 = .ok (.lstore 5, 2) := by decide +kernel
theorem dX7_lowest_3 : decode cX7_lowest 3 = .ok (.lload_n 2, 1) := by decide +kernel
theorem dX7_lowest_4 : decode cX7_lowest 4 = .ok (.lstore 7, 2) := by decide +kernel
theorem dX7_lowest_6 : decode cX7_lowest 6 = .ok (.iconst 0, 1) := by decide +kernel
theorem dX7_lowest_7 : decode cX7_lowest 7 = .ok (.istore 9, 2) := by decide +kernel
theorem dX7_lowest_9 : decode cX7_lowest 9 = .ok (.iload 9, 2) := by decide +kernel
theorem dX7_lowest_11 : decode cX7_lowest 11 = .ok (.bipush 100, 2) := by decide +kernel
theorem dX7_lowest_13 : decode cX7_lowest 13 = .ok (.if_icmp .ge 31, 3) := by decide +kernel
theorem dX7_lowest_16 : decode cX7_lowest 16 = .ok (.lload 7, 2) := by decide +kernel
theorem dX7_lowest_18 : decode cX7_lowest 18 = .ok (.lconst 0, 1) := by decide +kernel
theorem dX7_lowest_19 : decode cX7_lowest 19 = .ok (.lcmp, 1) := by decide +kernel
theorem dX7_lowest_20 : decode cX7_lowest 20 = .ok (.ifCond .eq 24, 3) := by decide +kernel
theorem dX7_lowest_23 : decode cX7_lowest 23 = .ok (.lload 5, 2) := by decide +kernel
theorem dX7_lowest_25 : decode cX7_lowest 25 = .ok (.lload 7, 2) := by decide +kernel
theorem dX7_lowest_27 : decode cX7_lowest 27 = .ok (.lrem, 1) := by decide +kernel
theorem dX7_lowest_28 : decode cX7_lowest 28 = .ok (.lstore 10, 2) := by decide +kernel
theorem dX7_lowest_30 : decode cX7_lowest 30 = .ok (.lload 7, 2) := by decide +kernel
theorem dX7_lowest_32 : decode cX7_lowest 32 = .ok (.lstore 5, 2) := by decide +kernel
theorem dX7_lowest_34 : decode cX7_lowest 34 = .ok (.lload 10, 2) := by decide +kernel
theorem dX7_lowest_36 : decode cX7_lowest 36 = .ok (.lstore 7, 2) := by decide +kernel
theorem dX7_lowest_38 : decode cX7_lowest 38 = .ok (.iinc 9 1, 3) := by decide +kernel
theorem dX7_lowest_41 : decode cX7_lowest 41 = .ok (.goto (-32), 3) := by decide +kernel
theorem dX7_lowest_44 : decode cX7_lowest 44 = .ok (.lload 5, 2) := by decide +kernel
theorem dX7_lowest_46 : decode cX7_lowest 46 = .ok (.lconst 0, 1) := by decide +kernel
theorem dX7_lowest_47 : decode cX7_lowest 47 = .ok (.lcmp, 1) := by decide +kernel
theorem dX7_lowest_48 : decode cX7_lowest 48 = .ok (.ifCond .ne 7, 3) := by decide +kernel
theorem dX7_lowest_51 : decode cX7_lowest 51 = .ok (.ldc2_w 208, 3) := by decide +kernel
theorem dX7_lowest_54 : decode cX7_lowest 54 = .ok (.lreturn, 1) := by decide +kernel
theorem dX7_lowest_55 : decode cX7_lowest 55 = .ok (.iload 4, 2) := by decide +kernel
theorem dX7_lowest_57 : decode cX7_lowest 57 = .ok (.ifCond .ne 10, 3) := by decide +kernel
theorem dX7_lowest_60 : decode cX7_lowest 60 = .ok (.lload_n 0, 1) := by decide +kernel
theorem dX7_lowest_61 : decode cX7_lowest 61 = .ok (.lload 5, 2) := by decide +kernel
theorem dX7_lowest_63 : decode cX7_lowest 63 = .ok (.ldiv, 1) := by decide +kernel
theorem dX7_lowest_64 : decode cX7_lowest 64 = .ok (.goto 7, 3) := by decide +kernel
theorem dX7_lowest_67 : decode cX7_lowest 67 = .ok (.lload_n 2, 1) := by decide +kernel
theorem dX7_lowest_68 : decode cX7_lowest 68 = .ok (.lload 5, 2) := by decide +kernel
theorem dX7_lowest_70 : decode cX7_lowest 70 = .ok (.ldiv, 1) := by decide +kernel
theorem dX7_lowest_71 : decode cX7_lowest 71 = .ok (.lreturn, 1) := by decide +kernel
theorem dX7_goOne_0 : decode cX7_goOne 0 = .ok (.iconst 0, 1) := by decide +kernel
theorem dX7_goOne_1 : decode cX7_goOne 1 = .ok (.istore_n 3, 1) := by decide +kernel
theorem dX7_goOne_2 : decode cX7_goOne 2 = .ok (.iload_n 3, 1) := by decide +kernel
theorem dX7_goOne_3 : decode cX7_goOne 3 = .ok (.iload_n 1, 1) := by decide +kernel
theorem dX7_goOne_4 : decode cX7_goOne 4 = .ok (.if_icmp .ge 43, 3) := by decide +kernel
theorem dX7_goOne_7 : decode cX7_goOne 7 = .ok (.aload_n 0, 1) := by decide +kernel
theorem dX7_goOne_8 : decode cX7_goOne 8 = .ok (.getfield 49, 3) := by decide +kernel
theorem dX7_goOne_11 : decode cX7_goOne 11 = .ok (.aload_n 0, 1) := by decide +kernel
theorem dX7_goOne_12 : decode cX7_goOne 12 = .ok (.getfield 49, 3) := by decide +kernel
theorem dX7_goOne_15 : decode cX7_goOne 15 = .ok (.aload_n 0, 1) := by decide +kernel
theorem dX7_goOne_16 : decode cX7_goOne 16 = .ok (.getfield 12, 3) := by decide +kernel
theorem dX7_goOne_19 : decode cX7_goOne 19 = .ok (.getfield 86, 3) := by decide +kernel
theorem dX7_goOne_22 : decode cX7_goOne 22 = .ok (.aload_n 0, 1) := by decide +kernel
theorem dX7_goOne_23 : decode cX7_goOne 23 = .ok (.getfield 12, 3) := by decide +kernel
theorem dX7_goOne_26 : decode cX7_goOne 26 = .ok (.getfield 93, 3) := by decide +kernel
theorem dX7_goOne_29 : decode cX7_goOne 29 = .ok (.getfield 129, 3) := by decide +kernel
theorem dX7_goOne_32 : decode cX7_goOne 32 = .ok (.iload_n 3, 1) := by decide +kernel
theorem dX7_goOne_33 : decode cX7_goOne 33 = .ok (.iadd, 1) := by decide +kernel
theorem dX7_goOne_34 : decode cX7_goOne 34 = .ok (.invokevirtual 132, 3) := by decide +kernel
theorem dX7_goOne_37 : decode cX7_goOne 37 = .ok (.iload_n 2, 1) := by decide +kernel
theorem dX7_goOne_38 : decode cX7_goOne 38 = .ok (.invokevirtual 271, 3) := by decide +kernel
theorem dX7_goOne_41 : decode cX7_goOne 41 = .ok (.iinc 3 1, 3) := by decide +kernel
theorem dX7_goOne_44 : decode cX7_goOne 44 = .ok (.goto (-42), 3) := by decide +kernel
theorem dX7_goOne_47 : decode cX7_goOne 47 = .ok (.return_, 1) := by decide +kernel
theorem dX7_isSeenSo_0 : decode cX7_isSeenSo 0 = .ok (.iconst 0, 1) := by decide +kernel
theorem dX7_isSeenSo_1 : decode cX7_isSeenSo 1 = .ok (.istore 5, 2) := by decide +kernel
theorem dX7_isSeenSo_3 : decode cX7_isSeenSo 3 = .ok (.iload 5, 2) := by decide +kernel
theorem dX7_isSeenSo_5 : decode cX7_isSeenSo 5 = .ok (.aload_n 0, 1) := by decide +kernel
theorem dX7_isSeenSo_6 : decode cX7_isSeenSo 6 = .ok (.getfield 12, 3) := by decide +kernel
theorem dX7_isSeenSo_9 : decode cX7_isSeenSo 9 = .ok (.getfield 193, 3) := by decide +kernel
theorem dX7_isSeenSo_12 : decode cX7_isSeenSo 12 = .ok (.getfield 197, 3) := by decide +kernel
theorem dX7_isSeenSo_15 : decode cX7_isSeenSo 15 = .ok (.if_icmp .ge 116, 3) := by decide +kernel
theorem dX7_isSeenSo_18 : decode cX7_isSeenSo 18 = .ok (.aload_n 0, 1) := by decide +kernel
theorem dX7_isSeenSo_19 : decode cX7_isSeenSo 19 = .ok (.getfield 12, 3) := by decide +kernel
theorem dX7_isSeenSo_22 : decode cX7_isSeenSo 22 = .ok (.getfield 93, 3) := by decide +kernel
theorem dX7_isSeenSo_25 : decode cX7_isSeenSo 25 = .ok (.aload_n 0, 1) := by decide +kernel
theorem dX7_isSeenSo_26 : decode cX7_isSeenSo 26 = .ok (.getfield 12, 3) := by decide +kernel
theorem dX7_isSeenSo_29 : decode cX7_isSeenSo 29 = .ok (.getfield 193, 3) := by decide +kernel
theorem dX7_isSeenSo_32 : decode cX7_isSeenSo 32 = .ok (.iload 5, 2) := by decide +kernel
theorem dX7_isSeenSo_34 : decode cX7_isSeenSo 34 = .ok (.invokevirtual 228, 3) := by decide +kernel
theorem dX7_isSeenSo_37 : decode cX7_isSeenSo 37 = .ok (.invokevirtual 102, 3) := by decide +kernel
theorem dX7_isSeenSo_40 : decode cX7_isSeenSo 40 = .ok (.astore 6, 2) := by decide +kernel
theorem dX7_isSeenSo_42 : decode cX7_isSeenSo 42 = .ok (.aload 6, 2) := by decide +kernel
theorem dX7_isSeenSo_44 : decode cX7_isSeenSo 44 = .ok (.ifnonnull 5, 3) := by decide +kernel
theorem dX7_isSeenSo_47 : decode cX7_isSeenSo 47 = .ok (.iconst 0, 1) := by decide +kernel
theorem dX7_isSeenSo_48 : decode cX7_isSeenSo 48 = .ok (.ireturn, 1) := by decide +kernel
theorem dX7_isSeenSo_49 : decode cX7_isSeenSo 49 = .ok (.aload_n 0, 1) := by decide +kernel
theorem dX7_isSeenSo_50 : decode cX7_isSeenSo 50 = .ok (.getfield 49, 3) := by decide +kernel
theorem dX7_isSeenSo_53 : decode cX7_isSeenSo 53 = .ok (.aload 6, 2) := by decide +kernel
theorem dX7_isSeenSo_55 : decode cX7_isSeenSo 55 = .ok (.invokevirtual 210, 3) := by decide +kernel
theorem dX7_isSeenSo_58 : decode cX7_isSeenSo 58 = .ok (.aload 6, 2) := by decide +kernel
theorem dX7_isSeenSo_60 : decode cX7_isSeenSo 60 = .ok (.getfield 274, 3) := by decide +kernel
theorem dX7_isSeenSo_63 : decode cX7_isSeenSo 63 = .ok (.iload_n 2, 1) := by decide +kernel
theorem dX7_isSeenSo_64 : decode cX7_isSeenSo 64 = .ok (.if_icmp .ne 20, 3) := by decide +kernel
theorem dX7_isSeenSo_67 : decode cX7_isSeenSo 67 = .ok (.aload_n 0, 1) := by decide +kernel
theorem dX7_isSeenSo_68 : decode cX7_isSeenSo 68 = .ok (.getfield 49, 3) := by decide +kernel
theorem dX7_isSeenSo_71 : decode cX7_isSeenSo 71 = .ok (.iload_n 3, 1) := by decide +kernel
theorem dX7_isSeenSo_72 : decode cX7_isSeenSo 72 = .ok (.putfield 110, 3) := by decide +kernel
theorem dX7_isSeenSo_75 : decode cX7_isSeenSo 75 = .ok (.aload_n 0, 1) := by decide +kernel
theorem dX7_isSeenSo_76 : decode cX7_isSeenSo 76 = .ok (.getfield 49, 3) := by decide +kernel
theorem dX7_isSeenSo_79 : decode cX7_isSeenSo 79 = .ok (.iload 4, 2) := by decide +kernel
theorem dX7_isSeenSo_81 : decode cX7_isSeenSo 81 = .ok (.putfield 120, 3) := by decide +kernel
theorem dX7_isSeenSo_84 : decode cX7_isSeenSo 84 = .ok (.aload_n 0, 1) := by decide +kernel
theorem dX7_isSeenSo_85 : decode cX7_isSeenSo 85 = .ok (.aload_n 0, 1) := by decide +kernel
theorem dX7_isSeenSo_86 : decode cX7_isSeenSo 86 = .ok (.getfield 12, 3) := by decide +kernel
theorem dX7_isSeenSo_89 : decode cX7_isSeenSo 89 = .ok (.getfield 193, 3) := by decide +kernel
theorem dX7_isSeenSo_92 : decode cX7_isSeenSo 92 = .ok (.iload 5, 2) := by decide +kernel
theorem dX7_isSeenSo_94 : decode cX7_isSeenSo 94 = .ok (.invokevirtual 231, 3) := by decide +kernel
theorem dX7_isSeenSo_97 : decode cX7_isSeenSo 97 = .ok (.iload_n 1, 1) := by decide +kernel
theorem dX7_isSeenSo_98 : decode cX7_isSeenSo 98 = .ok (.invokevirtual 213, 3) := by decide +kernel
theorem dX7_isSeenSo_101 : decode cX7_isSeenSo 101 = .ok (.aload_n 0, 1) := by decide +kernel
theorem dX7_isSeenSo_102 : decode cX7_isSeenSo 102 = .ok (.getfield 49, 3) := by decide +kernel
theorem dX7_isSeenSo_105 : decode cX7_isSeenSo 105 = .ok (.getfield 113, 3) := by decide +kernel
theorem dX7_isSeenSo_108 : decode cX7_isSeenSo 108 = .ok (.aload_n 0, 1) := by decide +kernel
theorem dX7_isSeenSo_109 : decode cX7_isSeenSo 109 = .ok (.getfield 12, 3) := by decide +kernel
theorem dX7_isSeenSo_112 : decode cX7_isSeenSo 112 = .ok (.getfield 193, 3) := by decide +kernel
theorem dX7_isSeenSo_115 : decode cX7_isSeenSo 115 = .ok (.iload 5, 2) := by decide +kernel
theorem dX7_isSeenSo_117 : decode cX7_isSeenSo 117 = .ok (.invokevirtual 277, 3) := by decide +kernel
theorem dX7_isSeenSo_120 : decode cX7_isSeenSo 120 = .ok (.if_icmp .eq 5, 3) := by decide +kernel
theorem dX7_isSeenSo_123 : decode cX7_isSeenSo 123 = .ok (.iconst 0, 1) := by decide +kernel
theorem dX7_isSeenSo_124 : decode cX7_isSeenSo 124 = .ok (.ireturn, 1) := by decide +kernel
theorem dX7_isSeenSo_125 : decode cX7_isSeenSo 125 = .ok (.iinc 5 1, 3) := by decide +kernel
theorem dX7_isSeenSo_128 : decode cX7_isSeenSo 128 = .ok (.goto (-125), 3) := by decide +kernel
theorem dX7_isSeenSo_131 : decode cX7_isSeenSo 131 = .ok (.iconst 1, 1) := by decide +kernel
theorem dX7_isSeenSo_132 : decode cX7_isSeenSo 132 = .ok (.ireturn, 1) := by decide +kernel
theorem dX7_minutesOf_0 : decode cX7_minutesOf 0 = .ok (.iconst 0, 1) := by decide +kernel
theorem dX7_minutesOf_1 : decode cX7_minutesOf 1 = .ok (.istore_n 2, 1) := by decide +kernel
theorem dX7_minutesOf_2 : decode cX7_minutesOf 2 = .ok (.iconst 0, 1) := by decide +kernel
theorem dX7_minutesOf_3 : decode cX7_minutesOf 3 = .ok (.istore_n 3, 1) := by decide +kernel
theorem dX7_minutesOf_4 : decode cX7_minutesOf 4 = .ok (.iload_n 3, 1) := by decide +kernel
theorem dX7_minutesOf_5 : decode cX7_minutesOf 5 = .ok (.aload_n 0, 1) := by decide +kernel
theorem dX7_minutesOf_6 : decode cX7_minutesOf 6 = .ok (.getfield 12, 3) := by decide +kernel
theorem dX7_minutesOf_9 : decode cX7_minutesOf 9 = .ok (.getfield 93, 3) := by decide +kernel
theorem dX7_minutesOf_12 : decode cX7_minutesOf 12 = .ok (.getfield 99, 3) := by decide +kernel
theorem dX7_minutesOf_15 : decode cX7_minutesOf 15 = .ok (.if_icmp .ge 47, 3) := by decide +kernel
theorem dX7_minutesOf_18 : decode cX7_minutesOf 18 = .ok (.aload_n 0, 1) := by decide +kernel
theorem dX7_minutesOf_19 : decode cX7_minutesOf 19 = .ok (.getfield 12, 3) := by decide +kernel
theorem dX7_minutesOf_22 : decode cX7_minutesOf 22 = .ok (.getfield 93, 3) := by decide +kernel
theorem dX7_minutesOf_25 : decode cX7_minutesOf 25 = .ok (.iload_n 3, 1) := by decide +kernel
theorem dX7_minutesOf_26 : decode cX7_minutesOf 26 = .ok (.invokevirtual 102, 3) := by decide +kernel
theorem dX7_minutesOf_29 : decode cX7_minutesOf 29 = .ok (.astore 4, 2) := by decide +kernel
theorem dX7_minutesOf_31 : decode cX7_minutesOf 31 = .ok (.aload 4, 2) := by decide +kernel
theorem dX7_minutesOf_33 : decode cX7_minutesOf 33 = .ok (.ifnull 23, 3) := by decide +kernel
theorem dX7_minutesOf_36 : decode cX7_minutesOf 36 = .ok (.iload_n 1, 1) := by decide +kernel
theorem dX7_minutesOf_37 : decode cX7_minutesOf 37 = .ok (.iload_n 3, 1) := by decide +kernel
theorem dX7_minutesOf_38 : decode cX7_minutesOf 38 = .ok (.ishr, 1) := by decide +kernel
theorem dX7_minutesOf_39 : decode cX7_minutesOf 39 = .ok (.iconst 1, 1) := by decide +kernel
theorem dX7_minutesOf_40 : decode cX7_minutesOf 40 = .ok (.iand, 1) := by decide +kernel
theorem dX7_minutesOf_41 : decode cX7_minutesOf 41 = .ok (.ifCond .eq 15, 3) := by decide +kernel
theorem dX7_minutesOf_44 : decode cX7_minutesOf 44 = .ok (.iload_n 2, 1) := by decide +kernel
theorem dX7_minutesOf_45 : decode cX7_minutesOf 45 = .ok (.aload 4, 2) := by decide +kernel
theorem dX7_minutesOf_47 : decode cX7_minutesOf 47 = .ok (.getfield 110, 3) := by decide +kernel
theorem dX7_minutesOf_50 : decode cX7_minutesOf 50 = .ok (.iconst 4, 1) := by decide +kernel
theorem dX7_minutesOf_51 : decode cX7_minutesOf 51 = .ok (.irem, 1) := by decide +kernel
theorem dX7_minutesOf_52 : decode cX7_minutesOf 52 = .ok (.iconst 1, 1) := by decide +kernel
theorem dX7_minutesOf_53 : decode cX7_minutesOf 53 = .ok (.iadd, 1) := by decide +kernel
theorem dX7_minutesOf_54 : decode cX7_minutesOf 54 = .ok (.iadd, 1) := by decide +kernel
theorem dX7_minutesOf_55 : decode cX7_minutesOf 55 = .ok (.istore_n 2, 1) := by decide +kernel
theorem dX7_minutesOf_56 : decode cX7_minutesOf 56 = .ok (.iinc 3 1, 3) := by decide +kernel
theorem dX7_minutesOf_59 : decode cX7_minutesOf 59 = .ok (.goto (-55), 3) := by decide +kernel
theorem dX7_minutesOf_62 : decode cX7_minutesOf 62 = .ok (.iload_n 2, 1) := by decide +kernel
theorem dX7_minutesOf_63 : decode cX7_minutesOf 63 = .ok (.ireturn, 1) := by decide +kernel
theorem dX7_worthOf_0 : decode cX7_worthOf 0 = .ok (.iconst 0, 1) := by decide +kernel
theorem dX7_worthOf_1 : decode cX7_worthOf 1 = .ok (.istore_n 2, 1) := by decide +kernel
theorem dX7_worthOf_2 : decode cX7_worthOf 2 = .ok (.iconst 0, 1) := by decide +kernel
theorem dX7_worthOf_3 : decode cX7_worthOf 3 = .ok (.istore_n 3, 1) := by decide +kernel
theorem dX7_worthOf_4 : decode cX7_worthOf 4 = .ok (.iload_n 3, 1) := by decide +kernel
theorem dX7_worthOf_5 : decode cX7_worthOf 5 = .ok (.aload_n 0, 1) := by decide +kernel
theorem dX7_worthOf_6 : decode cX7_worthOf 6 = .ok (.getfield 12, 3) := by decide +kernel
theorem dX7_worthOf_9 : decode cX7_worthOf 9 = .ok (.getfield 93, 3) := by decide +kernel
theorem dX7_worthOf_12 : decode cX7_worthOf 12 = .ok (.getfield 99, 3) := by decide +kernel
theorem dX7_worthOf_15 : decode cX7_worthOf 15 = .ok (.if_icmp .ge 67, 3) := by decide +kernel
theorem dX7_worthOf_18 : decode cX7_worthOf 18 = .ok (.aload_n 0, 1) := by decide +kernel
theorem dX7_worthOf_19 : decode cX7_worthOf 19 = .ok (.getfield 12, 3) := by decide +kernel
theorem dX7_worthOf_22 : decode cX7_worthOf 22 = .ok (.getfield 93, 3) := by decide +kernel
theorem dX7_worthOf_25 : decode cX7_worthOf 25 = .ok (.iload_n 3, 1) := by decide +kernel
theorem dX7_worthOf_26 : decode cX7_worthOf 26 = .ok (.invokevirtual 102, 3) := by decide +kernel
theorem dX7_worthOf_29 : decode cX7_worthOf 29 = .ok (.astore 4, 2) := by decide +kernel
theorem dX7_worthOf_31 : decode cX7_worthOf 31 = .ok (.aload 4, 2) := by decide +kernel
theorem dX7_worthOf_33 : decode cX7_worthOf 33 = .ok (.ifnull 43, 3) := by decide +kernel
theorem dX7_worthOf_36 : decode cX7_worthOf 36 = .ok (.iload_n 1, 1) := by decide +kernel
theorem dX7_worthOf_37 : decode cX7_worthOf 37 = .ok (.iload_n 3, 1) := by decide +kernel
theorem dX7_worthOf_38 : decode cX7_worthOf 38 = .ok (.ishr, 1) := by decide +kernel
theorem dX7_worthOf_39 : decode cX7_worthOf 39 = .ok (.iconst 1, 1) := by decide +kernel
theorem dX7_worthOf_40 : decode cX7_worthOf 40 = .ok (.iand, 1) := by decide +kernel
theorem dX7_worthOf_41 : decode cX7_worthOf 41 = .ok (.ifCond .eq 35, 3) := by decide +kernel
theorem dX7_worthOf_44 : decode cX7_worthOf 44 = .ok (.iload_n 2, 1) := by decide +kernel
theorem dX7_worthOf_45 : decode cX7_worthOf 45 = .ok (.iconst 0, 1) := by decide +kernel
theorem dX7_worthOf_46 : decode cX7_worthOf 46 = .ok (.aload 4, 2) := by decide +kernel
theorem dX7_worthOf_48 : decode cX7_worthOf 48 = .ok (.bipush 20, 2) := by decide +kernel
theorem dX7_worthOf_50 : decode cX7_worthOf 50 = .ok (.aload_n 0, 1) := by decide +kernel
theorem dX7_worthOf_51 : decode cX7_worthOf 51 = .ok (.getfield 12, 3) := by decide +kernel
theorem dX7_worthOf_54 : decode cX7_worthOf 54 = .ok (.getfield 86, 3) := by decide +kernel
theorem dX7_worthOf_57 : decode cX7_worthOf 57 = .ok (.getfield 136, 3) := by decide +kernel
theorem dX7_worthOf_60 : decode cX7_worthOf 60 = .ok (.invokevirtual 156, 3) := by decide +kernel
theorem dX7_worthOf_63 : decode cX7_worthOf 63 = .ok (.invokestatic 268, 3) := by decide +kernel
theorem dX7_worthOf_66 : decode cX7_worthOf 66 = .ok (.aload 4, 2) := by decide +kernel
theorem dX7_worthOf_68 : decode cX7_worthOf 68 = .ok (.getfield 110, 3) := by decide +kernel
theorem dX7_worthOf_71 : decode cX7_worthOf 71 = .ok (.iconst 1, 1) := by decide +kernel
theorem dX7_worthOf_72 : decode cX7_worthOf 72 = .ok (.iadd, 1) := by decide +kernel
theorem dX7_worthOf_73 : decode cX7_worthOf 73 = .ok (.imul, 1) := by decide +kernel
theorem dX7_worthOf_74 : decode cX7_worthOf 74 = .ok (.iadd, 1) := by decide +kernel
theorem dX7_worthOf_75 : decode cX7_worthOf 75 = .ok (.istore_n 2, 1) := by decide +kernel
theorem dX7_worthOf_76 : decode cX7_worthOf 76 = .ok (.iinc 3 1, 3) := by decide +kernel
theorem dX7_worthOf_79 : decode cX7_worthOf 79 = .ok (.goto (-75), 3) := by decide +kernel
theorem dX7_worthOf_82 : decode cX7_worthOf 82 = .ok (.iload_n 2, 1) := by decide +kernel
theorem dX7_worthOf_83 : decode cX7_worthOf 83 = .ok (.ireturn, 1) := by decide +kernel
theorem dX7_planFrom_0 : decode cX7_planFrom 0 = .ok (.iconst 0, 1) := by decide +kernel
theorem dX7_planFrom_1 : decode cX7_planFrom 1 = .ok (.istore 4, 2) := by decide +kernel
theorem dX7_planFrom_3 : decode cX7_planFrom 3 = .ok (.iload 4, 2) := by decide +kernel
theorem dX7_planFrom_5 : decode cX7_planFrom 5 = .ok (.aload_n 0, 1) := by decide +kernel
theorem dX7_planFrom_6 : decode cX7_planFrom 6 = .ok (.getfield 60, 3) := by decide +kernel
theorem dX7_planFrom_9 : decode cX7_planFrom 9 = .ok (.arraylength, 1) := by decide +kernel
theorem dX7_planFrom_10 : decode cX7_planFrom 10 = .ok (.if_icmp .ge 25, 3) := by decide +kernel
theorem dX7_planFrom_13 : decode cX7_planFrom 13 = .ok (.aload_n 0, 1) := by decide +kernel
theorem dX7_planFrom_14 : decode cX7_planFrom 14 = .ok (.getfield 60, 3) := by decide +kernel
theorem dX7_planFrom_17 : decode cX7_planFrom 17 = .ok (.iload 4, 2) := by decide +kernel
theorem dX7_planFrom_19 : decode cX7_planFrom 19 = .ok (.aload_n 0, 1) := by decide +kernel
theorem dX7_planFrom_20 : decode cX7_planFrom 20 = .ok (.aload_n 1, 1) := by decide +kernel
theorem dX7_planFrom_21 : decode cX7_planFrom 21 = .ok (.iload_n 2, 1) := by decide +kernel
theorem dX7_planFrom_22 : decode cX7_planFrom 22 = .ok (.iload_n 3, 1) := by decide +kernel
theorem dX7_planFrom_23 : decode cX7_planFrom 23 = .ok (.iload 4, 2) := by decide +kernel
theorem dX7_planFrom_25 : decode cX7_planFrom 25 = .ok (.invokevirtual 280, 3) := by decide +kernel
theorem dX7_planFrom_28 : decode cX7_planFrom 28 = .ok (.iastore, 1) := by decide +kernel
theorem dX7_planFrom_29 : decode cX7_planFrom 29 = .ok (.iinc 4 1, 3) := by decide +kernel
theorem dX7_planFrom_32 : decode cX7_planFrom 32 = .ok (.goto (-29), 3) := by decide +kernel
theorem dX7_planFrom_35 : decode cX7_planFrom 35 = .ok (.aload_n 0, 1) := by decide +kernel
theorem dX7_planFrom_36 : decode cX7_planFrom 36 = .ok (.aload_n 1, 1) := by decide +kernel
theorem dX7_planFrom_37 : decode cX7_planFrom 37 = .ok (.iload_n 2, 1) := by decide +kernel
theorem dX7_planFrom_38 : decode cX7_planFrom 38 = .ok (.iload_n 3, 1) := by decide +kernel
theorem dX7_planFrom_39 : decode cX7_planFrom 39 = .ok (.bipush 9, 2) := by decide +kernel
theorem dX7_planFrom_41 : decode cX7_planFrom 41 = .ok (.invokevirtual 280, 3) := by decide +kernel
theorem dX7_planFrom_44 : decode cX7_planFrom 44 = .ok (.sipush 256, 3) := by decide +kernel
theorem dX7_planFrom_47 : decode cX7_planFrom 47 = .ok (.iadd, 1) := by decide +kernel
theorem dX7_planFrom_48 : decode cX7_planFrom 48 = .ok (.iconst 1, 1) := by decide +kernel
theorem dX7_planFrom_49 : decode cX7_planFrom 49 = .ok (.iload_n 2, 1) := by decide +kernel
theorem dX7_planFrom_50 : decode cX7_planFrom 50 = .ok (.ishl, 1) := by decide +kernel
theorem dX7_planFrom_51 : decode cX7_planFrom 51 = .ok (.iadd, 1) := by decide +kernel
theorem dX7_planFrom_52 : decode cX7_planFrom 52 = .ok (.istore 4, 2) := by decide +kernel
theorem dX7_planFrom_54 : decode cX7_planFrom 54 = .ok (.iconst 0, 1) := by decide +kernel
theorem dX7_planFrom_55 : decode cX7_planFrom 55 = .ok (.istore 5, 2) := by decide +kernel
theorem dX7_planFrom_57 : decode cX7_planFrom 57 = .ok (.iload 5, 2) := by decide +kernel
theorem dX7_planFrom_59 : decode cX7_planFrom 59 = .ok (.aload_n 0, 1) := by decide +kernel
theorem dX7_planFrom_60 : decode cX7_planFrom 60 = .ok (.getfield 60, 3) := by decide +kernel
theorem dX7_planFrom_63 : decode cX7_planFrom 63 = .ok (.arraylength, 1) := by decide +kernel
theorem dX7_planFrom_64 : decode cX7_planFrom 64 = .ok (.if_icmp .ge 38, 3) := by decide +kernel
theorem dX7_planFrom_67 : decode cX7_planFrom 67 = .ok (.iload 5, 2) := by decide +kernel
theorem dX7_planFrom_69 : decode cX7_planFrom 69 = .ok (.aload_n 0, 1) := by decide +kernel
theorem dX7_planFrom_70 : decode cX7_planFrom 70 = .ok (.getfield 64, 3) := by decide +kernel
theorem dX7_planFrom_73 : decode cX7_planFrom 73 = .ok (.arraylength, 1) := by decide +kernel
theorem dX7_planFrom_74 : decode cX7_planFrom 74 = .ok (.if_icmp .ge 28, 3) := by decide +kernel
theorem dX7_planFrom_77 : decode cX7_planFrom 77 = .ok (.aload_n 0, 1) := by decide +kernel
theorem dX7_planFrom_78 : decode cX7_planFrom 78 = .ok (.getfield 64, 3) := by decide +kernel
theorem dX7_planFrom_81 : decode cX7_planFrom 81 = .ok (.iload 5, 2) := by decide +kernel
theorem dX7_planFrom_83 : decode cX7_planFrom 83 = .ok (.aload_n 0, 1) := by decide +kernel
theorem dX7_planFrom_84 : decode cX7_planFrom 84 = .ok (.getfield 60, 3) := by decide +kernel
theorem dX7_planFrom_87 : decode cX7_planFrom 87 = .ok (.iload 5, 2) := by decide +kernel
theorem dX7_planFrom_89 : decode cX7_planFrom 89 = .ok (.iaload, 1) := by decide +kernel
theorem dX7_planFrom_90 : decode cX7_planFrom 90 = .ok (.iload 4, 2) := by decide +kernel
theorem dX7_planFrom_92 : decode cX7_planFrom 92 = .ok (.invokestatic 171, 3) := by decide +kernel
theorem dX7_planFrom_95 : decode cX7_planFrom 95 = .ok (.iastore, 1) := by decide +kernel
theorem dX7_planFrom_96 : decode cX7_planFrom 96 = .ok (.iinc 5 1, 3) := by decide +kernel
theorem dX7_planFrom_99 : decode cX7_planFrom 99 = .ok (.goto (-42), 3) := by decide +kernel
theorem dX7_planFrom_102 : decode cX7_planFrom 102 = .ok (.return_, 1) := by decide +kernel
theorem dX7_planWithout_0 : decode cX7_planWithout 0 = .ok (.aload_n 0, 1) := by decide +kernel
theorem dX7_planWithout_1 : decode cX7_planWithout 1 = .ok (.getfield 49, 3) := by decide +kernel
theorem dX7_planWithout_4 : decode cX7_planWithout 4 = .ok (.aload_n 1, 1) := by decide +kernel
theorem dX7_planWithout_5 : decode cX7_planWithout 5 = .ok (.invokevirtual 210, 3) := by decide +kernel
theorem dX7_planWithout_8 : decode cX7_planWithout 8 = .ok (.aload_n 0, 1) := by decide +kernel
theorem dX7_planWithout_9 : decode cX7_planWithout 9 = .ok (.getfield 49, 3) := by decide +kernel
theorem dX7_planWithout_12 : decode cX7_planWithout 12 = .ok (.bipush 99, 2) := by decide +kernel
theorem dX7_planWithout_14 : decode cX7_planWithout 14 = .ok (.aload_n 1, 1) := by decide +kernel
theorem dX7_planWithout_15 : decode cX7_planWithout 15 = .ok (.getfield 120, 3) := by decide +kernel
theorem dX7_planWithout_18 : decode cX7_planWithout 18 = .ok (.iload_n 2, 1) := by decide +kernel
theorem dX7_planWithout_19 : decode cX7_planWithout 19 = .ok (.iadd, 1) := by decide +kernel
theorem dX7_planWithout_20 : decode cX7_planWithout 20 = .ok (.invokestatic 171, 3) := by decide +kernel
theorem dX7_planWithout_23 : decode cX7_planWithout 23 = .ok (.putfield 120, 3) := by decide +kernel
theorem dX7_planWithout_26 : decode cX7_planWithout 26 = .ok (.aload_n 0, 1) := by decide +kernel
theorem dX7_planWithout_27 : decode cX7_planWithout 27 = .ok (.getfield 49, 3) := by decide +kernel
theorem dX7_planWithout_30 : decode cX7_planWithout 30 = .ok (.iload 4, 2) := by decide +kernel
theorem dX7_planWithout_32 : decode cX7_planWithout 32 = .ok (.putfield 123, 3) := by decide +kernel
theorem dX7_planWithout_35 : decode cX7_planWithout 35 = .ok (.aload_n 0, 1) := by decide +kernel
theorem dX7_planWithout_36 : decode cX7_planWithout 36 = .ok (.getfield 49, 3) := by decide +kernel
theorem dX7_planWithout_39 : decode cX7_planWithout 39 = .ok (.aload_n 0, 1) := by decide +kernel
theorem dX7_planWithout_40 : decode cX7_planWithout 40 = .ok (.getfield 49, 3) := by decide +kernel
theorem dX7_planWithout_43 : decode cX7_planWithout 43 = .ok (.aload_n 0, 1) := by decide +kernel
theorem dX7_planWithout_44 : decode cX7_planWithout 44 = .ok (.getfield 12, 3) := by decide +kernel
theorem dX7_planWithout_47 : decode cX7_planWithout 47 = .ok (.getfield 86, 3) := by decide +kernel
theorem dX7_planWithout_50 : decode cX7_planWithout 50 = .ok (.aload_n 0, 1) := by decide +kernel
theorem dX7_planWithout_51 : decode cX7_planWithout 51 = .ok (.getfield 12, 3) := by decide +kernel
theorem dX7_planWithout_54 : decode cX7_planWithout 54 = .ok (.getfield 93, 3) := by decide +kernel
theorem dX7_planWithout_57 : decode cX7_planWithout 57 = .ok (.getfield 129, 3) := by decide +kernel
theorem dX7_planWithout_60 : decode cX7_planWithout 60 = .ok (.iload_n 2, 1) := by decide +kernel
theorem dX7_planWithout_61 : decode cX7_planWithout 61 = .ok (.iadd, 1) := by decide +kernel
theorem dX7_planWithout_62 : decode cX7_planWithout 62 = .ok (.invokevirtual 132, 3) := by decide +kernel
theorem dX7_planWithout_65 : decode cX7_planWithout 65 = .ok (.aload_n 0, 1) := by decide +kernel
theorem dX7_planWithout_66 : decode cX7_planWithout 66 = .ok (.getfield 12, 3) := by decide +kernel
theorem dX7_planWithout_69 : decode cX7_planWithout 69 = .ok (.getfield 93, 3) := by decide +kernel
theorem dX7_planWithout_72 : decode cX7_planWithout 72 = .ok (.getfield 150, 3) := by decide +kernel
theorem dX7_planWithout_75 : decode cX7_planWithout 75 = .ok (.invokevirtual 271, 3) := by decide +kernel
theorem dX7_planWithout_78 : decode cX7_planWithout 78 = .ok (.aload_n 0, 1) := by decide +kernel
theorem dX7_planWithout_79 : decode cX7_planWithout 79 = .ok (.getfield 49, 3) := by decide +kernel
theorem dX7_planWithout_82 : decode cX7_planWithout 82 = .ok (.getfield 117, 3) := by decide +kernel
theorem dX7_planWithout_85 : decode cX7_planWithout 85 = .ok (.iload_n 3, 1) := by decide +kernel
theorem dX7_planWithout_86 : decode cX7_planWithout 86 = .ok (.if_icmp .ge 8, 3) := by decide +kernel
theorem dX7_planWithout_89 : decode cX7_planWithout 89 = .ok (.ldc 192, 2) := by decide +kernel
theorem dX7_planWithout_91 : decode cX7_planWithout 91 = .ok (.goto 14, 3) := by decide +kernel
theorem dX7_planWithout_94 : decode cX7_planWithout 94 = .ok (.aload_n 0, 1) := by decide +kernel
theorem dX7_planWithout_95 : decode cX7_planWithout 95 = .ok (.aload_n 0, 1) := by decide +kernel
theorem dX7_planWithout_96 : decode cX7_planWithout 96 = .ok (.getfield 49, 3) := by decide +kernel
theorem dX7_planWithout_99 : decode cX7_planWithout 99 = .ok (.getfield 123, 3) := by decide +kernel
theorem dX7_planWithout_102 : decode cX7_planWithout 102 = .ok (.invokevirtual 189, 3) := by decide +kernel
theorem dX7_planWithout_105 : decode cX7_planWithout 105 = .ok (.ireturn, 1) := by decide +kernel
theorem dX7_planAt_0 : decode cX7_planAt 0 = .ok (.iload_n 1, 1) := by decide +kernel
theorem dX7_planAt_1 : decode cX7_planAt 1 = .ok (.ifCond .lt 21, 3) := by decide +kernel
theorem dX7_planAt_4 : decode cX7_planAt 4 = .ok (.iload_n 1, 1) := by decide +kernel
theorem dX7_planAt_5 : decode cX7_planAt 5 = .ok (.aload_n 0, 1) := by decide +kernel
theorem dX7_planAt_6 : decode cX7_planAt 6 = .ok (.getfield 64, 3) := by decide +kernel
theorem dX7_planAt_9 : decode cX7_planAt 9 = .ok (.arraylength, 1) := by decide +kernel
theorem dX7_planAt_10 : decode cX7_planAt 10 = .ok (.if_icmp .ge 12, 3) := by decide +kernel
theorem dX7_planAt_13 : decode cX7_planAt 13 = .ok (.aload_n 0, 1) := by decide +kernel
theorem dX7_planAt_14 : decode cX7_planAt 14 = .ok (.getfield 64, 3) := by decide +kernel
theorem dX7_planAt_17 : decode cX7_planAt 17 = .ok (.iload_n 1, 1) := by decide +kernel
theorem dX7_planAt_18 : decode cX7_planAt 18 = .ok (.iaload, 1) := by decide +kernel
theorem dX7_planAt_19 : decode cX7_planAt 19 = .ok (.goto 5, 3) := by decide +kernel
theorem dX7_planAt_22 : decode cX7_planAt 22 = .ok (.ldc 192, 2) := by decide +kernel
theorem dX7_planAt_24 : decode cX7_planAt 24 = .ok (.ireturn, 1) := by decide +kernel
theorem dX7_goStep_0 : decode cX7_goStep 0 = .ok (.iload_n 1, 1) := by decide +kernel
theorem dX7_goStep_1 : decode cX7_goStep 1 = .ok (.ifCond .ne 17, 3) := by decide +kernel
theorem dX7_goStep_4 : decode cX7_goStep 4 = .ok (.aload_n 0, 1) := by decide +kernel
theorem dX7_goStep_5 : decode cX7_goStep 5 = .ok (.getfield 40, 3) := by decide +kernel
theorem dX7_goStep_8 : decode cX7_goStep 8 = .ok (.aload_n 0, 1) := by decide +kernel
theorem dX7_goStep_9 : decode cX7_goStep 9 = .ok (.getfield 12, 3) := by decide +kernel
theorem dX7_goStep_12 : decode cX7_goStep 12 = .ok (.getfield 86, 3) := by decide +kernel
theorem dX7_goStep_15 : decode cX7_goStep 15 = .ok (.invokevirtual 283, 3) := by decide +kernel
theorem dX7_goStep_18 : decode cX7_goStep 18 = .ok (.iload_n 1, 1) := by decide +kernel
theorem dX7_goStep_19 : decode cX7_goStep 19 = .ok (.iconst 3, 1) := by decide +kernel
theorem dX7_goStep_20 : decode cX7_goStep 20 = .ok (.if_icmp .ne 11, 3) := by decide +kernel
theorem dX7_goStep_23 : decode cX7_goStep 23 = .ok (.aload_n 0, 1) := by decide +kernel
theorem dX7_goStep_24 : decode cX7_goStep 24 = .ok (.getfield 40, 3) := by decide +kernel
theorem dX7_goStep_27 : decode cX7_goStep 27 = .ok (.iload_n 2, 1) := by decide +kernel
theorem dX7_goStep_28 : decode cX7_goStep 28 = .ok (.putfield 150, 3) := by decide +kernel
theorem dX7_goStep_31 : decode cX7_goStep 31 = .ok (.aload_n 0, 1) := by decide +kernel
theorem dX7_goStep_32 : decode cX7_goStep 32 = .ok (.getfield 40, 3) := by decide +kernel
theorem dX7_goStep_35 : decode cX7_goStep 35 = .ok (.iload_n 2, 1) := by decide +kernel
theorem dX7_goStep_36 : decode cX7_goStep 36 = .ok (.invokevirtual 102, 3) := by decide +kernel
theorem dX7_goStep_39 : decode cX7_goStep 39 = .ok (.astore_n 3, 1) := by decide +kernel
theorem dX7_goStep_40 : decode cX7_goStep 40 = .ok (.aload_n 3, 1) := by decide +kernel
theorem dX7_goStep_41 : decode cX7_goStep 41 = .ok (.ifnonnull 4, 3) := by decide +kernel
theorem dX7_goStep_44 : decode cX7_goStep 44 = .ok (.return_, 1) := by decide +kernel
theorem dX7_goStep_45 : decode cX7_goStep 45 = .ok (.iload_n 1, 1) := by decide +kernel
theorem dX7_goStep_46 : decode cX7_goStep 46 = .ok (.iconst 1, 1) := by decide +kernel
theorem dX7_goStep_47 : decode cX7_goStep 47 = .ok (.if_icmp .ne 7, 3) := by decide +kernel
theorem dX7_goStep_50 : decode cX7_goStep 50 = .ok (.aload_n 3, 1) := by decide +kernel
theorem dX7_goStep_51 : decode cX7_goStep 51 = .ok (.invokevirtual 153, 3) := by decide +kernel
theorem dX7_goStep_54 : decode cX7_goStep 54 = .ok (.iload_n 1, 1) := by decide +kernel
theorem dX7_goStep_55 : decode cX7_goStep 55 = .ok (.iconst 2, 1) := by decide +kernel
theorem dX7_goStep_56 : decode cX7_goStep 56 = .ok (.if_icmp .ne 9, 3) := by decide +kernel
theorem dX7_goStep_59 : decode cX7_goStep 59 = .ok (.aload_n 3, 1) := by decide +kernel
theorem dX7_goStep_60 : decode cX7_goStep 60 = .ok (.bipush 9, 2) := by decide +kernel
theorem dX7_goStep_62 : decode cX7_goStep 62 = .ok (.putfield 123, 3) := by decide +kernel
theorem dX7_goStep_65 : decode cX7_goStep 65 = .ok (.return_, 1) := by decide +kernel
theorem dJ9_max_7cf53_0 : decode cJ9_max_7cf53 0 = .ok (.iload_n 0, 1) := by decide +kernel
theorem dJ9_max_7cf53_1 : decode cJ9_max_7cf53 1 = .ok (.iload_n 1, 1) := by decide +kernel
theorem dJ9_max_7cf53_2 : decode cJ9_max_7cf53 2 = .ok (.if_icmp .lt 7, 3) := by decide +kernel
theorem dJ9_max_7cf53_5 : decode cJ9_max_7cf53 5 = .ok (.iload_n 0, 1) := by decide +kernel
theorem dJ9_max_7cf53_6 : decode cJ9_max_7cf53 6 = .ok (.goto 4, 3) := by decide +kernel
theorem dJ9_max_7cf53_9 : decode cJ9_max_7cf53 9 = .ok (.iload_n 1, 1) := by decide +kernel
theorem dJ9_max_7cf53_10 : decode cJ9_max_7cf53 10 = .ok (.ireturn, 1) := by decide +kernel
theorem dJ9_min_7cf53_0 : decode cJ9_min_7cf53 0 = .ok (.iload_n 0, 1) := by decide +kernel
theorem dJ9_min_7cf53_1 : decode cJ9_min_7cf53 1 = .ok (.iload_n 1, 1) := by decide +kernel
theorem dJ9_min_7cf53_2 : decode cJ9_min_7cf53 2 = .ok (.if_icmp .gt 7, 3) := by decide +kernel
theorem dJ9_min_7cf53_5 : decode cJ9_min_7cf53 5 = .ok (.iload_n 0, 1) := by decide +kernel
theorem dJ9_min_7cf53_6 : decode cJ9_min_7cf53 6 = .ok (.goto 4, 3) := by decide +kernel
theorem dJ9_min_7cf53_9 : decode cJ9_min_7cf53 9 = .ok (.iload_n 1, 1) := by decide +kernel
theorem dJ9_min_7cf53_10 : decode cJ9_min_7cf53 10 = .ok (.ireturn, 1) := by decide +kernel
theorem dJ0_length_8abf5_0 : decode cJ0_length_8abf5 0 = .ok (.aload_n 0, 1) := by decide +kernel
theorem dJ0_length_8abf5_1 : decode cJ0_length_8abf5 1 = .ok (.getfield 9, 3) := by decide +kernel
theorem dJ0_length_8abf5_4 : decode cJ0_length_8abf5 4 = .ok (.arraylength, 1) := by decide +kernel
theorem dJ0_length_8abf5_5 : decode cJ0_length_8abf5 5 = .ok (.aload_n 0, 1) := by decide +kernel
theorem dJ0_length_8abf5_6 : decode cJ0_length_8abf5 6 = .ok (.invokevirtual 335, 3) := by decide +kernel
theorem dJ0_length_8abf5_9 : decode cJ0_length_8abf5 9 = .ok (.ishr, 1) := by decide +kernel
theorem dJ0_length_8abf5_10 : decode cJ0_length_8abf5 10 = .ok (.ireturn, 1) := by decide +kernel
theorem dJ0_charAt_5068e_0 : decode cJ0_charAt_5068e 0 = .ok (.aload_n 0, 1) := by decide +kernel
theorem dJ0_charAt_5068e_1 : decode cJ0_charAt_5068e 1 = .ok (.invokevirtual 492, 3) := by decide +kernel
theorem dJ0_charAt_5068e_4 : decode cJ0_charAt_5068e 4 = .ok (.ifCond .eq 12, 3) := by decide +kernel
theorem dJ0_charAt_5068e_7 : decode cJ0_charAt_5068e 7 = .ok (.aload_n 0, 1) := by decide +kernel
theorem dJ0_charAt_5068e_8 : decode cJ0_charAt_5068e 8 = .ok (.getfield 9, 3) := by decide +kernel
theorem dJ0_charAt_5068e_11 : decode cJ0_charAt_5068e 11 = .ok (.iload_n 1, 1) := by decide +kernel
theorem dJ0_charAt_5068e_12 : decode cJ0_charAt_5068e 12 = .ok (.invokestatic 495, 3) := by decide +kernel
theorem dJ0_charAt_5068e_15 : decode cJ0_charAt_5068e 15 = .ok (.ireturn, 1) := by decide +kernel
theorem dJ0_charAt_5068e_16 : decode cJ0_charAt_5068e 16 = .ok (.aload_n 0, 1) := by decide +kernel
theorem dJ0_charAt_5068e_17 : decode cJ0_charAt_5068e 17 = .ok (.getfield 9, 3) := by decide +kernel
theorem dJ0_charAt_5068e_20 : decode cJ0_charAt_5068e 20 = .ok (.iload_n 1, 1) := by decide +kernel
theorem dJ0_charAt_5068e_21 : decode cJ0_charAt_5068e 21 = .ok (.invokestatic 498, 3) := by decide +kernel
theorem dJ0_charAt_5068e_24 : decode cJ0_charAt_5068e 24 = .ok (.ireturn, 1) := by decide +kernel
theorem dJ0_coder_7d493_0 : decode cJ0_coder_7d493 0 = .ok (.getstatic 38, 3) := by decide +kernel
theorem dJ0_coder_7d493_3 : decode cJ0_coder_7d493 3 = .ok (.ifCond .eq 10, 3) := by decide +kernel
theorem dJ0_coder_7d493_6 : decode cJ0_coder_7d493 6 = .ok (.aload_n 0, 1) := by decide +kernel
theorem dJ0_coder_7d493_7 : decode cJ0_coder_7d493 7 = .ok (.getfield 15, 3) := by decide +kernel
theorem dJ0_coder_7d493_10 : decode cJ0_coder_7d493 10 = .ok (.goto 4, 3) := by decide +kernel
theorem dJ0_coder_7d493_13 : decode cJ0_coder_7d493 13 = .ok (.iconst 1, 1) := by decide +kernel
theorem dJ0_coder_7d493_14 : decode cJ0_coder_7d493 14 = .ok (.ireturn, 1) := by decide +kernel
theorem dJ0_isLatin1_aae02_0 : decode cJ0_isLatin1_aae02 0 = .ok (.getstatic 38, 3) := by decide +kernel
theorem dJ0_isLatin1_aae02_3 : decode cJ0_isLatin1_aae02 3 = .ok (.ifCond .eq 14, 3) := by decide +kernel
theorem dJ0_isLatin1_aae02_6 : decode cJ0_isLatin1_aae02 6 = .ok (.aload_n 0, 1) := by decide +kernel
theorem dJ0_isLatin1_aae02_7 : decode cJ0_isLatin1_aae02 7 = .ok (.getfield 15, 3) := by decide +kernel
theorem dJ0_isLatin1_aae02_10 : decode cJ0_isLatin1_aae02 10 = .ok (.ifCond .ne 7, 3) := by decide +kernel
theorem dJ0_isLatin1_aae02_13 : decode cJ0_isLatin1_aae02 13 = .ok (.iconst 1, 1) := by decide +kernel
theorem dJ0_isLatin1_aae02_14 : decode cJ0_isLatin1_aae02 14 = .ok (.goto 4, 3) := by decide +kernel
theorem dJ0_isLatin1_aae02_17 : decode cJ0_isLatin1_aae02 17 = .ok (.iconst 0, 1) := by decide +kernel
theorem dJ0_isLatin1_aae02_18 : decode cJ0_isLatin1_aae02 18 = .ok (.ireturn, 1) := by decide +kernel
theorem dJ0_checkIndex_df160_0 : decode cJ0_checkIndex_df160 0 = .ok (.iload_n 0, 1) := by decide +kernel
theorem dJ0_checkIndex_df160_1 : decode cJ0_checkIndex_df160 1 = .ok (.iload_n 1, 1) := by decide +kernel
theorem dJ0_checkIndex_df160_2 : decode cJ0_checkIndex_df160 2 = .ok (.getstatic 1053, 3) := by decide +kernel
theorem dJ0_checkIndex_df160_5 : decode cJ0_checkIndex_df160 5 = .ok (.invokestatic 1059, 3) := by decide +kernel
theorem dJ0_checkIndex_df160_8 : decode cJ0_checkIndex_df160 8 = .ok (.pop, 1) := by decide +kernel
theorem dJ0_checkIndex_df160_9 : decode cJ0_checkIndex_df160 9 = .ok (.return_, 1) := by decide +kernel
theorem dJ1_charAt_3b067_0 : decode cJ1_charAt_3b067 0 = .ok (.iload_n 1, 1) := by decide +kernel
theorem dJ1_charAt_3b067_1 : decode cJ1_charAt_3b067 1 = .ok (.aload_n 0, 1) := by decide +kernel
theorem dJ1_charAt_3b067_2 : decode cJ1_charAt_3b067 2 = .ok (.arraylength, 1) := by decide +kernel
theorem dJ1_charAt_3b067_3 : decode cJ1_charAt_3b067 3 = .ok (.invokestatic 9, 3) := by decide +kernel
theorem dJ1_charAt_3b067_6 : decode cJ1_charAt_3b067 6 = .ok (.aload_n 0, 1) := by decide +kernel
theorem dJ1_charAt_3b067_7 : decode cJ1_charAt_3b067 7 = .ok (.iload_n 1, 1) := by decide +kernel
theorem dJ1_charAt_3b067_8 : decode cJ1_charAt_3b067 8 = .ok (.baload, 1) := by decide +kernel
theorem dJ1_charAt_3b067_9 : decode cJ1_charAt_3b067 9 = .ok (.sipush 255, 3) := by decide +kernel
theorem dJ1_charAt_3b067_12 : decode cJ1_charAt_3b067 12 = .ok (.iand, 1) := by decide +kernel
theorem dJ1_charAt_3b067_13 : decode cJ1_charAt_3b067 13 = .ok (.i2c, 1) := by decide +kernel
theorem dJ1_charAt_3b067_14 : decode cJ1_charAt_3b067 14 = .ok (.ireturn, 1) := by decide +kernel
theorem dJ2_getChar_3b067_0 : decode cJ2_getChar_3b067 0 = .ok (.getstatic 44, 3) := by decide +kernel
theorem dJ2_getChar_3b067_3 : decode cJ2_getChar_3b067 3 = .ok (.ifCond .ne 25, 3) := by decide +kernel
theorem dJ2_getChar_3b067_6 : decode cJ2_getChar_3b067 6 = .ok (.iload_n 1, 1) := by decide +kernel
theorem dJ2_getChar_3b067_7 : decode cJ2_getChar_3b067 7 = .ok (.ifCond .lt 11, 3) := by decide +kernel
theorem dJ2_getChar_3b067_10 : decode cJ2_getChar_3b067 10 = .ok (.iload_n 1, 1) := by decide +kernel
theorem dJ2_getChar_3b067_11 : decode cJ2_getChar_3b067 11 = .ok (.aload_n 0, 1) := by decide +kernel
theorem dJ2_getChar_3b067_12 : decode cJ2_getChar_3b067 12 = .ok (.invokestatic 48, 3) := by decide +kernel
theorem dJ2_getChar_3b067_15 : decode cJ2_getChar_3b067 15 = .ok (.if_icmp .lt 13, 3) := by decide +kernel
theorem dJ2_getChar_3b067_18 : decode cJ2_getChar_3b067 18 = .ok (.new 52, 3) := by decide +kernel
theorem dJ2_getChar_3b067_21 : decode cJ2_getChar_3b067 21 = .ok (.dup, 1) := by decide +kernel
theorem dJ2_getChar_3b067_22 : decode cJ2_getChar_3b067 22 = .ok (.ldc 54, 2) := by decide +kernel
theorem dJ2_getChar_3b067_24 : decode cJ2_getChar_3b067 24 = .ok (.invokespecial 56, 3) := by decide +kernel
theorem dJ2_getChar_3b067_27 : decode cJ2_getChar_3b067 27 = .ok (.athrow, 1) := by decide +kernel
theorem dJ2_getChar_3b067_28 : decode cJ2_getChar_3b067 28 = .ok (.iload_n 1, 1) := by decide +kernel
theorem dJ2_getChar_3b067_29 : decode cJ2_getChar_3b067 29 = .ok (.iconst 1, 1) := by decide +kernel
theorem dJ2_getChar_3b067_30 : decode cJ2_getChar_3b067 30 = .ok (.ishl, 1) := by decide +kernel
theorem dJ2_getChar_3b067_31 : decode cJ2_getChar_3b067 31 = .ok (.istore_n 1, 1) := by decide +kernel
theorem dJ2_getChar_3b067_32 : decode cJ2_getChar_3b067 32 = .ok (.aload_n 0, 1) := by decide +kernel
theorem dJ2_getChar_3b067_33 : decode cJ2_getChar_3b067 33 = .ok (.iload_n 1, 1) := by decide +kernel
theorem dJ2_getChar_3b067_34 : decode cJ2_getChar_3b067 34 = .ok (.iinc 1 1, 3) := by decide +kernel
theorem dJ2_getChar_3b067_37 : decode cJ2_getChar_3b067 37 = .ok (.baload, 1) := by decide +kernel
theorem dJ2_getChar_3b067_38 : decode cJ2_getChar_3b067 38 = .ok (.sipush 255, 3) := by decide +kernel
theorem dJ2_getChar_3b067_41 : decode cJ2_getChar_3b067 41 = .ok (.iand, 1) := by decide +kernel
theorem dJ2_getChar_3b067_42 : decode cJ2_getChar_3b067 42 = .ok (.getstatic 59, 3) := by decide +kernel
theorem dJ2_getChar_3b067_45 : decode cJ2_getChar_3b067 45 = .ok (.ishl, 1) := by decide +kernel
theorem dJ2_getChar_3b067_46 : decode cJ2_getChar_3b067 46 = .ok (.aload_n 0, 1) := by decide +kernel
theorem dJ2_getChar_3b067_47 : decode cJ2_getChar_3b067 47 = .ok (.iload_n 1, 1) := by decide +kernel
theorem dJ2_getChar_3b067_48 : decode cJ2_getChar_3b067 48 = .ok (.baload, 1) := by decide +kernel
theorem dJ2_getChar_3b067_49 : decode cJ2_getChar_3b067 49 = .ok (.sipush 255, 3) := by decide +kernel
theorem dJ2_getChar_3b067_52 : decode cJ2_getChar_3b067 52 = .ok (.iand, 1) := by decide +kernel
theorem dJ2_getChar_3b067_53 : decode cJ2_getChar_3b067 53 = .ok (.getstatic 63, 3) := by decide +kernel
theorem dJ2_getChar_3b067_56 : decode cJ2_getChar_3b067 56 = .ok (.ishl, 1) := by decide +kernel
theorem dJ2_getChar_3b067_57 : decode cJ2_getChar_3b067 57 = .ok (.ior, 1) := by decide +kernel
theorem dJ2_getChar_3b067_58 : decode cJ2_getChar_3b067 58 = .ok (.i2c, 1) := by decide +kernel
theorem dJ2_getChar_3b067_59 : decode cJ2_getChar_3b067 59 = .ok (.ireturn, 1) := by decide +kernel
theorem dJ2_length_9d52b_0 : decode cJ2_length_9d52b 0 = .ok (.aload_n 0, 1) := by decide +kernel
theorem dJ2_length_9d52b_1 : decode cJ2_length_9d52b 1 = .ok (.arraylength, 1) := by decide +kernel
theorem dJ2_length_9d52b_2 : decode cJ2_length_9d52b 2 = .ok (.iconst 1, 1) := by decide +kernel
theorem dJ2_length_9d52b_3 : decode cJ2_length_9d52b 3 = .ok (.ishr, 1) := by decide +kernel
theorem dJ2_length_9d52b_4 : decode cJ2_length_9d52b 4 = .ok (.ireturn, 1) := by decide +kernel
theorem dJ2_charAt_3b067_0 : decode cJ2_charAt_3b067 0 = .ok (.iload_n 1, 1) := by decide +kernel
theorem dJ2_charAt_3b067_1 : decode cJ2_charAt_3b067 1 = .ok (.aload_n 0, 1) := by decide +kernel
theorem dJ2_charAt_3b067_2 : decode cJ2_charAt_3b067 2 = .ok (.invokestatic 67, 3) := by decide +kernel
theorem dJ2_charAt_3b067_5 : decode cJ2_charAt_3b067 5 = .ok (.aload_n 0, 1) := by decide +kernel
theorem dJ2_charAt_3b067_6 : decode cJ2_charAt_3b067 6 = .ok (.iload_n 1, 1) := by decide +kernel
theorem dJ2_charAt_3b067_7 : decode cJ2_charAt_3b067 7 = .ok (.invokestatic 71, 3) := by decide +kernel
theorem dJ2_charAt_3b067_10 : decode cJ2_charAt_3b067 10 = .ok (.ireturn, 1) := by decide +kernel
theorem dJ2_checkIndex_2214a_0 : decode cJ2_checkIndex_2214a 0 = .ok (.iload_n 0, 1) := by decide +kernel
theorem dJ2_checkIndex_2214a_1 : decode cJ2_checkIndex_2214a 1 = .ok (.aload_n 1, 1) := by decide +kernel
theorem dJ2_checkIndex_2214a_2 : decode cJ2_checkIndex_2214a 2 = .ok (.invokestatic 48, 3) := by decide +kernel
theorem dJ2_checkIndex_2214a_5 : decode cJ2_checkIndex_2214a 5 = .ok (.invokestatic 414, 3) := by decide +kernel
theorem dJ2_checkIndex_2214a_8 : decode cJ2_checkIndex_2214a 8 = .ok (.return_, 1) := by decide +kernel
theorem dJ3_checkIndex_8e157_0 : decode cJ3_checkIndex_8e157 0 = .ok (.iload_n 0, 1) := by decide +kernel
theorem dJ3_checkIndex_8e157_1 : decode cJ3_checkIndex_8e157 1 = .ok (.ifCond .lt 8, 3) := by decide +kernel
theorem dJ3_checkIndex_8e157_4 : decode cJ3_checkIndex_8e157 4 = .ok (.iload_n 0, 1) := by decide +kernel
theorem dJ3_checkIndex_8e157_5 : decode cJ3_checkIndex_8e157 5 = .ok (.iload_n 1, 1) := by decide +kernel
theorem dJ3_checkIndex_8e157_6 : decode cJ3_checkIndex_8e157 6 = .ok (.if_icmp .lt 10, 3) := by decide +kernel
theorem dJ3_checkIndex_8e157_9 : decode cJ3_checkIndex_8e157 9 = .ok (.aload_n 2, 1) := by decide +kernel
theorem dJ3_checkIndex_8e157_10 : decode cJ3_checkIndex_8e157 10 = .ok (.iload_n 0, 1) := by decide +kernel
theorem dJ3_checkIndex_8e157_11 : decode cJ3_checkIndex_8e157 11 = .ok (.iload_n 1, 1) := by decide +kernel
theorem dJ3_checkIndex_8e157_12 : decode cJ3_checkIndex_8e157 12 = .ok (.invokestatic 95, 3) := by decide +kernel
theorem dJ3_checkIndex_8e157_15 : decode cJ3_checkIndex_8e157 15 = .ok (.athrow, 1) := by decide +kernel
theorem dJ3_checkIndex_8e157_16 : decode cJ3_checkIndex_8e157 16 = .ok (.iload_n 0, 1) := by decide +kernel
theorem dJ3_checkIndex_8e157_17 : decode cJ3_checkIndex_8e157 17 = .ok (.ireturn, 1) := by decide +kernel
