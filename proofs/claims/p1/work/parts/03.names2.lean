theorem dX4_init_0 : decode cX4_init 0 = .ok (.aload_n 0, 1) := by decide +kernel
theorem dX4_init_1 : decode cX4_init 1 = .ok (.invokespecial 1, 3) := by decide +kernel
theorem dX4_init_4 : decode cX4_init 4 = .ok (.aload_n 0, 1) := by decide +kernel
theorem dX4_init_5 : decode cX4_init 5 = .ok (.sipush 16384, 3) := by decide +kernel
theorem dX4_init_8 : decode cX4_init 8 = .ok (.newarray .int, 2) := by decide +kernel
theorem dX4_init_10 : decode cX4_init 10 = .ok (.putfield 7, 3) := by decide +kernel
theorem dX4_init_13 : decode cX4_init 13 = .ok (.aload_n 0, 1) := by decide +kernel
theorem dX4_init_14 : decode cX4_init 14 = .ok (.sipush 16384, 3) := by decide +kernel
theorem dX4_init_17 : decode cX4_init 17 = .ok (.newarray .int, 2) := by decide +kernel
theorem dX4_init_19 : decode cX4_init 19 = .ok (.putfield 13, 3) := by decide +kernel
theorem dX4_init_22 : decode cX4_init 22 = .ok (.aload_n 0, 1) := by decide +kernel
theorem dX4_init_23 : decode cX4_init 23 = .ok (.iconst 4, 1) := by decide +kernel
theorem dX4_init_24 : decode cX4_init 24 = .ok (.newarray .int, 2) := by decide +kernel
theorem dX4_init_26 : decode cX4_init 26 = .ok (.putfield 16, 3) := by decide +kernel
theorem dX4_init_29 : decode cX4_init 29 = .ok (.aload_n 0, 1) := by decide +kernel
theorem dX4_init_30 : decode cX4_init 30 = .ok (.iconst 4, 1) := by decide +kernel
theorem dX4_init_31 : decode cX4_init 31 = .ok (.newarray .int, 2) := by decide +kernel
theorem dX4_init_33 : decode cX4_init 33 = .ok (.putfield 19, 3) := by decide +kernel
theorem dX4_init_36 : decode cX4_init 36 = .ok (.aload_n 0, 1) := by decide +kernel
theorem dX4_init_37 : decode cX4_init 37 = .ok (.iconst 4, 1) := by decide +kernel
theorem dX4_init_38 : decode cX4_init 38 = .ok (.newarray .int, 2) := by decide +kernel
theorem dX4_init_40 : decode cX4_init 40 = .ok (.putfield 22, 3) := by decide +kernel
theorem dX4_init_43 : decode cX4_init 43 = .ok (.aload_n 0, 1) := by decide +kernel
theorem dX4_init_44 : decode cX4_init 44 = .ok (.iconst 4, 1) := by decide +kernel
theorem dX4_init_45 : decode cX4_init 45 = .ok (.newarray .int, 2) := by decide +kernel
theorem dX4_init_47 : decode cX4_init 47 = .ok (.putfield 25, 3) := by decide +kernel
theorem dX4_init_50 : decode cX4_init 50 = .ok (.aload_n 0, 1) := by decide +kernel
theorem dX4_init_51 : decode cX4_init 51 = .ok (.iconst 4, 1) := by decide +kernel
theorem dX4_init_52 : decode cX4_init 52 = .ok (.newarray .int, 2) := by decide +kernel
theorem dX4_init_54 : decode cX4_init 54 = .ok (.dup, 1) := by decide +kernel
theorem dX4_init_55 : decode cX4_init 55 = .ok (.iconst 0, 1) := by decide +kernel
theorem dX4_init_56 : decode cX4_init 56 = .ok (.iconst (-1), 1) := by decide +kernel
theorem dX4_init_57 : decode cX4_init 57 = .ok (.iastore, 1) := by decide +kernel
theorem dX4_init_58 : decode cX4_init 58 = .ok (.dup, 1) := by decide +kernel
theorem dX4_init_59 : decode cX4_init 59 = .ok (.iconst 1, 1) := by decide +kernel
theorem dX4_init_60 : decode cX4_init 60 = .ok (.iconst (-1), 1) := by decide +kernel
theorem dX4_init_61 : decode cX4_init 61 = .ok (.iastore, 1) := by decide +kernel
theorem dX4_init_62 : decode cX4_init 62 = .ok (.dup, 1) := by decide +kernel
theorem dX4_init_63 : decode cX4_init 63 = .ok (.iconst 2, 1) := by decide +kernel
theorem dX4_init_64 : decode cX4_init 64 = .ok (.iconst (-1), 1) := by decide +kernel
theorem dX4_init_65 : decode cX4_init 65 = .ok (.iastore, 1) := by decide +kernel
theorem dX4_init_66 : decode cX4_init 66 = .ok (.dup, 1) := by decide +kernel
theorem dX4_init_67 : decode cX4_init 67 = .ok (.iconst 3, 1) := by decide +kernel
theorem dX4_init_68 : decode cX4_init 68 = .ok (.iconst (-1), 1) := by decide +kernel
theorem dX4_init_69 : decode cX4_init 69 = .ok (.iastore, 1) := by decide +kernel
theorem dX4_init_70 : decode cX4_init 70 = .ok (.putfield 28, 3) := by decide +kernel
theorem dX4_init_73 : decode cX4_init 73 = .ok (.aload_n 0, 1) := by decide +kernel
theorem dX4_init_74 : decode cX4_init 74 = .ok (.iconst 4, 1) := by decide +kernel
theorem dX4_init_75 : decode cX4_init 75 = .ok (.newarray .int, 2) := by decide +kernel
theorem dX4_init_77 : decode cX4_init 77 = .ok (.dup, 1) := by decide +kernel
theorem dX4_init_78 : decode cX4_init 78 = .ok (.iconst 0, 1) := by decide +kernel
theorem dX4_init_79 : decode cX4_init 79 = .ok (.iconst (-1), 1) := by decide +kernel
theorem dX4_init_80 : decode cX4_init 80 = .ok (.iastore, 1) := by decide +kernel
theorem dX4_init_81 : decode cX4_init 81 = .ok (.dup, 1) := by decide +kernel
theorem dX4_init_82 : decode cX4_init 82 = .ok (.iconst 1, 1) := by decide +kernel
theorem dX4_init_83 : decode cX4_init 83 = .ok (.iconst (-1), 1) := by decide +kernel
theorem dX4_init_84 : decode cX4_init 84 = .ok (.iastore, 1) := by decide +kernel
theorem dX4_init_85 : decode cX4_init 85 = .ok (.dup, 1) := by decide +kernel
theorem dX4_init_86 : decode cX4_init 86 = .ok (.iconst 2, 1) := by decide +kernel
theorem dX4_init_87 : decode cX4_init 87 = .ok (.iconst (-1), 1) := by decide +kernel
theorem dX4_init_88 : decode cX4_init 88 = .ok (.iastore, 1) := by decide +kernel
theorem dX4_init_89 : decode cX4_init 89 = .ok (.dup, 1) := by decide +kernel
theorem dX4_init_90 : decode cX4_init 90 = .ok (.iconst 3, 1) := by decide +kernel
theorem dX4_init_91 : decode cX4_init 91 = .ok (.iconst (-1), 1) := by decide +kernel
theorem dX4_init_92 : decode cX4_init 92 = .ok (.iastore, 1) := by decide +kernel
theorem dX4_init_93 : decode cX4_init 93 = .ok (.putfield 31, 3) := by decide +kernel
theorem dX4_init_96 : decode cX4_init 96 = .ok (.aload_n 0, 1) := by decide +kernel
theorem dX4_init_97 : decode cX4_init 97 = .ok (.iconst 4, 1) := by decide +kernel
theorem dX4_init_98 : decode cX4_init 98 = .ok (.newarray .int, 2) := by decide +kernel
theorem dX4_init_100 : decode cX4_init 100 = .ok (.putfield 34, 3) := by decide +kernel
theorem dX4_init_103 : decode cX4_init 103 = .ok (.aload_n 0, 1) := by decide +kernel
theorem dX4_init_104 : decode cX4_init 104 = .ok (.iconst 4, 1) := by decide +kernel
theorem dX4_init_105 : decode cX4_init 105 = .ok (.newarray .int, 2) := by decide +kernel
theorem dX4_init_107 : decode cX4_init 107 = .ok (.putfield 37, 3) := by decide +kernel
theorem dX4_init_110 : decode cX4_init 110 = .ok (.aload_n 0, 1) := by decide +kernel
theorem dX4_init_111 : decode cX4_init 111 = .ok (.bipush 16, 2) := by decide +kernel
theorem dX4_init_113 : decode cX4_init 113 = .ok (.newarray .int, 2) := by decide +kernel
theorem dX4_init_115 : decode cX4_init 115 = .ok (.putfield 40, 3) := by decide +kernel
theorem dX4_init_118 : decode cX4_init 118 = .ok (.aload_n 0, 1) := by decide +kernel
theorem dX4_init_119 : decode cX4_init 119 = .ok (.bipush 16, 2) := by decide +kernel
theorem dX4_init_121 : decode cX4_init 121 = .ok (.newarray .int, 2) := by decide +kernel
theorem dX4_init_123 : decode cX4_init 123 = .ok (.putfield 43, 3) := by decide +kernel
theorem dX4_init_126 : decode cX4_init 126 = .ok (.aload_n 0, 1) := by decide +kernel
theorem dX4_init_127 : decode cX4_init 127 = .ok (.sipush 256, 3) := by decide +kernel
theorem dX4_init_130 : decode cX4_init 130 = .ok (.newarray .int, 2) := by decide +kernel
theorem dX4_init_132 : decode cX4_init 132 = .ok (.putfield 46, 3) := by decide +kernel
theorem dX4_init_135 : decode cX4_init 135 = .ok (.aload_n 0, 1) := by decide +kernel
theorem dX4_init_136 : decode cX4_init 136 = .ok (.sipush 256, 3) := by decide +kernel
theorem dX4_init_139 : decode cX4_init 139 = .ok (.newarray .int, 2) := by decide +kernel
theorem dX4_init_141 : decode cX4_init 141 = .ok (.putfield 49, 3) := by decide +kernel
theorem dX4_init_144 : decode cX4_init 144 = .ok (.aload_n 0, 1) := by decide +kernel
theorem dX4_init_145 : decode cX4_init 145 = .ok (.sipush 16384, 3) := by decide +kernel
theorem dX4_init_148 : decode cX4_init 148 = .ok (.newarray .int, 2) := by decide +kernel
theorem dX4_init_150 : decode cX4_init 150 = .ok (.putfield 52, 3) := by decide +kernel
theorem dX4_init_153 : decode cX4_init 153 = .ok (.aload_n 0, 1) := by decide +kernel
theorem dX4_init_154 : decode cX4_init 154 = .ok (.bipush 16, 2) := by decide +kernel
theorem dX4_init_156 : decode cX4_init 156 = .ok (.newarray .int, 2) := by decide +kernel
theorem dX4_init_158 : decode cX4_init 158 = .ok (.putfield 55, 3) := by decide +kernel
theorem dX4_init_161 : decode cX4_init 161 = .ok (.aload_n 0, 1) := by decide +kernel
theorem dX4_init_162 : decode cX4_init 162 = .ok (.bipush 16, 2) := by decide +kernel
theorem dX4_init_164 : decode cX4_init 164 = .ok (.newarray .int, 2) := by decide +kernel
theorem dX4_init_166 : decode cX4_init 166 = .ok (.putfield 58, 3) := by decide +kernel
theorem dX4_init_169 : decode cX4_init 169 = .ok (.aload_n 0, 1) := by decide +kernel
theorem dX4_init_170 : decode cX4_init 170 = .ok (.bipush 16, 2) := by decide +kernel
theorem dX4_init_172 : decode cX4_init 172 = .ok (.newarray .boolean, 2) := by decide +kernel
theorem dX4_init_174 : decode cX4_init 174 = .ok (.putfield 61, 3) := by decide +kernel
theorem dX4_init_177 : decode cX4_init 177 = .ok (.return_, 1) := by decide +kernel
theorem dX4_thrown_0 : decode cX4_thrown 0 = .ok (.aload_n 0, 1) := by decide +kernel
theorem dX4_thrown_1 : decode cX4_thrown 1 = .ok (.getfield 65, 3) := by decide +kernel
theorem dX4_thrown_4 : decode cX4_thrown 4 = .ok (.ireturn, 1) := by decide +kernel
theorem dX4_fail_0 : decode cX4_fail 0 = .ok (.aload_n 0, 1) := by decide +kernel
theorem dX4_fail_1 : decode cX4_fail 1 = .ok (.iload_n 1, 1) := by decide +kernel
theorem dX4_fail_2 : decode cX4_fail 2 = .ok (.putfield 65, 3) := by decide +kernel
theorem dX4_fail_5 : decode cX4_fail 5 = .ok (.iconst 0, 1) := by decide +kernel
theorem dX4_fail_6 : decode cX4_fail 6 = .ok (.ireturn, 1) := by decide +kernel
theorem dX4_within_0 : decode cX4_within 0 = .ok (.iload_n 0, 1) := by decide +kernel
theorem dX4_within_1 : decode cX4_within 1 = .ok (.iload_n 1, 1) := by decide +kernel
theorem dX4_within_2 : decode cX4_within 2 = .ok (.if_icmp .lt 12, 3) := by decide +kernel
theorem dX4_within_5 : decode cX4_within 5 = .ok (.iload_n 0, 1) := by decide +kernel
theorem dX4_within_6 : decode cX4_within 6 = .ok (.iload_n 2, 1) := by decide +kernel
theorem dX4_within_7 : decode cX4_within 7 = .ok (.if_icmp .gt 7, 3) := by decide +kernel
theorem dX4_within_10 : decode cX4_within 10 = .ok (.iconst 1, 1) := by decide +kernel
theorem dX4_within_11 : decode cX4_within 11 = .ok (.goto 4, 3) := by decide +kernel
theorem dX4_within_14 : decode cX4_within 14 = .ok (.iconst 0, 1) := by decide +kernel
theorem dX4_within_15 : decode cX4_within 15 = .ok (.ireturn, 1) := by decide +kernel
set_option maxRecDepth 20000 in
theorem ggX4_isNode_X4_within : GoodIn wsX4_isNode wsX4_within := goodIn_r _ [4] (by decide +kernel) (by decide +kernel)
set_option maxRecDepth 20000 in
theorem gX4_isNode_X4_within : GoodIn wsX4_isNode (va_wsS RX4 69 yX4_within wsX4_within) := goodIn_app (goodIn_of _ (by decide +kernel)) ggX4_isNode_X4_within
theorem dX4_isNode_0 : decode cX4_isNode 0 = .ok (.iload_n 0, 1) := by decide +kernel
theorem dX4_isNode_1 : decode cX4_isNode 1 = .ok (.iconst 0, 1) := by decide +kernel
theorem dX4_isNode_2 : decode cX4_isNode 2 = .ok (.iconst 3, 1) := by decide +kernel
theorem dX4_isNode_3 : decode cX4_isNode 3 = .ok (.invokestatic 69, 3) := by decide +kernel
theorem dX4_isNode_6 : decode cX4_isNode 6 = .ok (.ireturn, 1) := by decide +kernel
theorem dX4_at_0 : decode cX4_at 0 = .ok (.sipush 4096, 3) := by decide +kernel
theorem dX4_at_3 : decode cX4_at 3 = .ok (.iload_n 0, 1) := by decide +kernel
theorem dX4_at_4 : decode cX4_at 4 = .ok (.imul, 1) := by decide +kernel
theorem dX4_at_5 : decode cX4_at 5 = .ok (.iload_n 1, 1) := by decide +kernel
theorem dX4_at_6 : decode cX4_at 6 = .ok (.iadd, 1) := by decide +kernel
theorem dX4_at_7 : decode cX4_at 7 = .ok (.ireturn, 1) := by decide +kernel
set_option maxRecDepth 20000 in
theorem ggX4_wordAt_X4_at : GoodIn wsX4_wordAt wsX4_at := goodIn_r _ [5] (by decide +kernel) (by decide +kernel)
set_option maxRecDepth 20000 in
theorem gX4_wordAt_X4_at : GoodIn wsX4_wordAt (va_wsS RX4 73 yX4_at wsX4_at) := goodIn_app (goodIn_of _ (by decide +kernel)) ggX4_wordAt_X4_at
theorem dX4_wordAt_0 : decode cX4_wordAt 0 = .ok (.iconst 0, 1) := by decide +kernel
theorem dX4_wordAt_1 : decode cX4_wordAt 1 = .ok (.istore_n 3, 1) := by decide +kernel
theorem dX4_wordAt_2 : decode cX4_wordAt 2 = .ok (.iconst 0, 1) := by decide +kernel
theorem dX4_wordAt_3 : decode cX4_wordAt 3 = .ok (.istore 4, 2) := by decide +kernel
theorem dX4_wordAt_5 : decode cX4_wordAt 5 = .ok (.iload 4, 2) := by decide +kernel
theorem dX4_wordAt_7 : decode cX4_wordAt 7 = .ok (.iconst 4, 1) := by decide +kernel
theorem dX4_wordAt_8 : decode cX4_wordAt 8 = .ok (.if_icmp .ge 28, 3) := by decide +kernel
theorem dX4_wordAt_11 : decode cX4_wordAt 11 = .ok (.iload_n 3, 1) := by decide +kernel
theorem dX4_wordAt_12 : decode cX4_wordAt 12 = .ok (.bipush 8, 2) := by decide +kernel
theorem dX4_wordAt_14 : decode cX4_wordAt 14 = .ok (.ishl, 1) := by decide +kernel
theorem dX4_wordAt_15 : decode cX4_wordAt 15 = .ok (.aload_n 0, 1) := by decide +kernel
theorem dX4_wordAt_16 : decode cX4_wordAt 16 = .ok (.getfield 7, 3) := by decide +kernel
theorem dX4_wordAt_19 : decode cX4_wordAt 19 = .ok (.iload_n 1, 1) := by decide +kernel
theorem dX4_wordAt_20 : decode cX4_wordAt 20 = .ok (.iload_n 2, 1) := by decide +kernel
theorem dX4_wordAt_21 : decode cX4_wordAt 21 = .ok (.iload 4, 2) := by decide +kernel
theorem dX4_wordAt_23 : decode cX4_wordAt 23 = .ok (.iadd, 1) := by decide +kernel
theorem dX4_wordAt_24 : decode cX4_wordAt 24 = .ok (.invokestatic 73, 3) := by decide +kernel
theorem dX4_wordAt_27 : decode cX4_wordAt 27 = .ok (.iaload, 1) := by decide +kernel
theorem dX4_wordAt_28 : decode cX4_wordAt 28 = .ok (.ior, 1) := by decide +kernel
theorem dX4_wordAt_29 : decode cX4_wordAt 29 = .ok (.istore_n 3, 1) := by decide +kernel
theorem dX4_wordAt_30 : decode cX4_wordAt 30 = .ok (.iinc 4 1, 3) := by decide +kernel
theorem dX4_wordAt_33 : decode cX4_wordAt 33 = .ok (.goto (-28), 3) := by decide +kernel
theorem dX4_wordAt_36 : decode cX4_wordAt 36 = .ok (.iload_n 3, 1) := by decide +kernel
theorem dX4_wordAt_37 : decode cX4_wordAt 37 = .ok (.ireturn, 1) := by decide +kernel
set_option maxRecDepth 20000 in
theorem ggX4_sumAt_X4_at : GoodIn wsX4_sumAt wsX4_at := goodIn_r _ [6] (by decide +kernel) (by decide +kernel)
set_option maxRecDepth 20000 in
theorem gX4_sumAt_X4_at : GoodIn wsX4_sumAt (va_wsS RX4 73 yX4_at wsX4_at) := goodIn_app (goodIn_of _ (by decide +kernel)) ggX4_sumAt_X4_at
theorem dX4_sumAt_0 : decode cX4_sumAt 0 = .ok (.iconst (-1), 1) := by decide +kernel
theorem dX4_sumAt_1 : decode cX4_sumAt 1 = .ok (.istore_n 3, 1) := by decide +kernel
theorem dX4_sumAt_2 : decode cX4_sumAt 2 = .ok (.iconst 0, 1) := by decide +kernel
theorem dX4_sumAt_3 : decode cX4_sumAt 3 = .ok (.istore 4, 2) := by decide +kernel
theorem dX4_sumAt_5 : decode cX4_sumAt 5 = .ok (.iload 4, 2) := by decide +kernel
theorem dX4_sumAt_7 : decode cX4_sumAt 7 = .ok (.bipush 12, 2) := by decide +kernel
theorem dX4_sumAt_9 : decode cX4_sumAt 9 = .ok (.if_icmp .ge 61, 3) := by decide +kernel
theorem dX4_sumAt_12 : decode cX4_sumAt 12 = .ok (.iload_n 3, 1) := by decide +kernel
theorem dX4_sumAt_13 : decode cX4_sumAt 13 = .ok (.aload_n 0, 1) := by decide +kernel
theorem dX4_sumAt_14 : decode cX4_sumAt 14 = .ok (.getfield 7, 3) := by decide +kernel
theorem dX4_sumAt_17 : decode cX4_sumAt 17 = .ok (.iload_n 1, 1) := by decide +kernel
theorem dX4_sumAt_18 : decode cX4_sumAt 18 = .ok (.iload_n 2, 1) := by decide +kernel
theorem dX4_sumAt_19 : decode cX4_sumAt 19 = .ok (.iload 4, 2) := by decide +kernel
theorem dX4_sumAt_21 : decode cX4_sumAt 21 = .ok (.iadd, 1) := by decide +kernel
theorem dX4_sumAt_22 : decode cX4_sumAt 22 = .ok (.invokestatic 73, 3) := by decide +kernel
theorem dX4_sumAt_25 : decode cX4_sumAt 25 = .ok (.iaload, 1) := by decide +kernel
theorem dX4_sumAt_26 : decode cX4_sumAt 26 = .ok (.ixor, 1) := by decide +kernel
theorem dX4_sumAt_27 : decode cX4_sumAt 27 = .ok (.istore_n 3, 1) := by decide +kernel
theorem dX4_sumAt_28 : decode cX4_sumAt 28 = .ok (.iconst 0, 1) := by decide +kernel
theorem dX4_sumAt_29 : decode cX4_sumAt 29 = .ok (.istore 5, 2) := by decide +kernel
theorem dX4_sumAt_31 : decode cX4_sumAt 31 = .ok (.iload 5, 2) := by decide +kernel
theorem dX4_sumAt_33 : decode cX4_sumAt 33 = .ok (.bipush 8, 2) := by decide +kernel
theorem dX4_sumAt_35 : decode cX4_sumAt 35 = .ok (.if_icmp .ge 29, 3) := by decide +kernel
theorem dX4_sumAt_38 : decode cX4_sumAt 38 = .ok (.iload_n 3, 1) := by decide +kernel
theorem dX4_sumAt_39 : decode cX4_sumAt 39 = .ok (.iconst 1, 1) := by decide +kernel
theorem dX4_sumAt_40 : decode cX4_sumAt 40 = .ok (.iand, 1) := by decide +kernel
theorem dX4_sumAt_41 : decode cX4_sumAt 41 = .ok (.iconst 1, 1) := by decide +kernel
theorem dX4_sumAt_42 : decode cX4_sumAt 42 = .ok (.if_icmp .ne 12, 3) := by decide +kernel
theorem dX4_sumAt_45 : decode cX4_sumAt 45 = .ok (.iload_n 3, 1) := by decide +kernel
theorem dX4_sumAt_46 : decode cX4_sumAt 46 = .ok (.iconst 1, 1) := by decide +kernel
theorem dX4_sumAt_47 : decode cX4_sumAt 47 = .ok (.iushr, 1) := by decide +kernel
theorem dX4_sumAt_48 : decode cX4_sumAt 48 = .ok (.ldc 77, 2) := by decide +kernel
theorem dX4_sumAt_50 : decode cX4_sumAt 50 = .ok (.ixor, 1) := by decide +kernel
theorem dX4_sumAt_51 : decode cX4_sumAt 51 = .ok (.goto 6, 3) := by decide +kernel
theorem dX4_sumAt_54 : decode cX4_sumAt 54 = .ok (.iload_n 3, 1) := by decide +kernel
theorem dX4_sumAt_55 : decode cX4_sumAt 55 = .ok (.iconst 1, 1) := by decide +kernel
theorem dX4_sumAt_56 : decode cX4_sumAt 56 = .ok (.iushr, 1) := by decide +kernel
theorem dX4_sumAt_57 : decode cX4_sumAt 57 = .ok (.istore_n 3, 1) := by decide +kernel
theorem dX4_sumAt_58 : decode cX4_sumAt 58 = .ok (.iinc 5 1, 3) := by decide +kernel
theorem dX4_sumAt_61 : decode cX4_sumAt 61 = .ok (.goto (-30), 3) := by decide +kernel
theorem dX4_sumAt_64 : decode cX4_sumAt 64 = .ok (.iinc 4 1, 3) := by decide +kernel
theorem dX4_sumAt_67 : decode cX4_sumAt 67 = .ok (.goto (-62), 3) := by decide +kernel
theorem dX4_sumAt_70 : decode cX4_sumAt 70 = .ok (.iload_n 3, 1) := by decide +kernel
theorem dX4_sumAt_71 : decode cX4_sumAt 71 = .ok (.iconst (-1), 1) := by decide +kernel
theorem dX4_sumAt_72 : decode cX4_sumAt 72 = .ok (.ixor, 1) := by decide +kernel
theorem dX4_sumAt_73 : decode cX4_sumAt 73 = .ok (.ireturn, 1) := by decide +kernel
set_option maxRecDepth 20000 in
theorem ggX4_kindAt_X4_at : GoodIn wsX4_kindAt wsX4_at := goodIn_r _ [5] (by decide +kernel) (by decide +kernel)
set_option maxRecDepth 20000 in
theorem gX4_kindAt_X4_at : GoodIn wsX4_kindAt (va_wsS RX4 73 yX4_at wsX4_at) := goodIn_app (goodIn_of _ (by decide +kernel)) ggX4_kindAt_X4_at
theorem dX4_kindAt_0 : decode cX4_kindAt 0 = .ok (.aload_n 0, 1) := by decide +kernel
theorem dX4_kindAt_1 : decode cX4_kindAt 1 = .ok (.getfield 7, 3) := by decide +kernel
theorem dX4_kindAt_4 : decode cX4_kindAt 4 = .ok (.iload_n 1, 1) := by decide +kernel
theorem dX4_kindAt_5 : decode cX4_kindAt 5 = .ok (.iload_n 2, 1) := by decide +kernel
theorem dX4_kindAt_6 : decode cX4_kindAt 6 = .ok (.invokestatic 73, 3) := by decide +kernel
theorem dX4_kindAt_9 : decode cX4_kindAt 9 = .ok (.iaload, 1) := by decide +kernel
theorem dX4_kindAt_10 : decode cX4_kindAt 10 = .ok (.ireturn, 1) := by decide +kernel
set_option maxRecDepth 20000 in
theorem ggX4_timelineAt_X4_at : GoodIn wsX4_timelineAt wsX4_at := goodIn_r _ [5] (by decide +kernel) (by decide +kernel)
set_option maxRecDepth 20000 in
theorem gX4_timelineAt_X4_at : GoodIn wsX4_timelineAt (va_wsS RX4 73 yX4_at wsX4_at) := goodIn_app (goodIn_of _ (by decide +kernel)) ggX4_timelineAt_X4_at
theorem dX4_timelineAt_0 : decode cX4_timelineAt 0 = .ok (.iload_n 2, 1) := by decide +kernel
theorem dX4_timelineAt_1 : decode cX4_timelineAt 1 = .ok (.ifCond .ge 7, 3) := by decide +kernel
theorem dX4_timelineAt_4 : decode cX4_timelineAt 4 = .ok (.iconst 0, 1) := by decide +kernel
theorem dX4_timelineAt_5 : decode cX4_timelineAt 5 = .ok (.goto 15, 3) := by decide +kernel
theorem dX4_timelineAt_8 : decode cX4_timelineAt 8 = .ok (.aload_n 0, 1) := by decide +kernel
theorem dX4_timelineAt_9 : decode cX4_timelineAt 9 = .ok (.getfield 7, 3) := by decide +kernel
theorem dX4_timelineAt_12 : decode cX4_timelineAt 12 = .ok (.iload_n 1, 1) := by decide +kernel
theorem dX4_timelineAt_13 : decode cX4_timelineAt 13 = .ok (.iload_n 2, 1) := by decide +kernel
theorem dX4_timelineAt_14 : decode cX4_timelineAt 14 = .ok (.iconst 1, 1) := by decide +kernel
theorem dX4_timelineAt_15 : decode cX4_timelineAt 15 = .ok (.iadd, 1) := by decide +kernel
theorem dX4_timelineAt_16 : decode cX4_timelineAt 16 = .ok (.invokestatic 73, 3) := by decide +kernel
theorem dX4_timelineAt_19 : decode cX4_timelineAt 19 = .ok (.iaload, 1) := by decide +kernel
theorem dX4_timelineAt_20 : decode cX4_timelineAt 20 = .ok (.ireturn, 1) := by decide +kernel
set_option maxRecDepth 20000 in
theorem ggX4_isGood_X4_sumAt : GoodIn wsX4_isGood wsX4_sumAt := goodIn_r _ [5, 6, 7, 8, 9, 4, 10, 26, 27, 28, 29, 30, 31, 32, 33, 34, 35, 36, 37, 38, 39, 40, 41, 42, 43, 44, 45, 46] (by decide +kernel) (by decide +kernel)
set_option maxRecDepth 20000 in
theorem gX4_isGood_X4_sumAt : GoodIn wsX4_isGood (wsV RX4 78 RX4 yX4_sumAt wsX4_sumAt) := goodIn_app (goodIn_of _ (by decide +kernel)) ggX4_isGood_X4_sumAt
set_option maxRecDepth 20000 in
theorem ggX4_isGood_X4_wordAt : GoodIn wsX4_isGood wsX4_wordAt := goodIn_r _ [14, 6, 8, 9, 4, 10, 26, 27, 28, 29, 30, 31, 32, 33, 34, 35, 36, 37, 38, 39, 40, 41, 42, 43, 44, 45, 46] (by decide +kernel) (by decide +kernel)
set_option maxRecDepth 20000 in
theorem gX4_isGood_X4_wordAt : GoodIn wsX4_isGood (wsV RX4 81 RX4 yX4_wordAt wsX4_wordAt) := goodIn_app (goodIn_of _ (by decide +kernel)) ggX4_isGood_X4_wordAt
set_option maxRecDepth 20000 in
theorem ggX4_isGood_X4_kindAt : GoodIn wsX4_isGood wsX4_kindAt := goodIn_r _ [18, 6, 8, 9, 4, 10, 26, 27, 28, 29, 30, 31, 32, 33, 34, 35, 36, 37, 38, 39, 40, 41, 42, 43, 44, 45, 46] (by decide +kernel) (by decide +kernel)
set_option maxRecDepth 20000 in
theorem gX4_isGood_X4_kindAt : GoodIn wsX4_isGood (wsV RX4 84 RX4 yX4_kindAt wsX4_kindAt) := goodIn_app (goodIn_of _ (by decide +kernel)) ggX4_isGood_X4_kindAt
set_option maxRecDepth 20000 in
theorem ggX4_isGood_X4_within : GoodIn wsX4_isGood wsX4_within := goodIn_r _ [21] (by decide +kernel) (by decide +kernel)
set_option maxRecDepth 20000 in
theorem gX4_isGood_X4_within : GoodIn wsX4_isGood (va_wsS RX4 69 yX4_within wsX4_within) := goodIn_app (goodIn_of _ (by decide +kernel)) ggX4_isGood_X4_within
set_option maxRecDepth 20000 in
theorem ggX4_isGood_X4_timelineAt : GoodIn wsX4_isGood wsX4_timelineAt := goodIn_r _ [25, 6, 8, 9, 4, 10, 26, 27, 28, 29, 30, 31, 32, 33, 34, 35, 36, 37, 38, 39, 40, 41, 42, 43, 44, 45, 46] (by decide +kernel) (by decide +kernel)
set_option maxRecDepth 20000 in
theorem gX4_isGood_X4_timelineAt : GoodIn wsX4_isGood (wsV RX4 87 RX4 yX4_timelineAt wsX4_timelineAt) := goodIn_app (goodIn_of _ (by decide +kernel)) ggX4_isGood_X4_timelineAt
theorem dX4_isGood_0 : decode cX4_isGood 0 = .ok (.iload_n 2, 1) := by decide +kernel
theorem dX4_isGood_1 : decode cX4_isGood 1 = .ok (.bipush 16, 2) := by decide +kernel
theorem dX4_isGood_3 : decode cX4_isGood 3 = .ok (.iadd, 1) := by decide +kernel
theorem dX4_isGood_4 : decode cX4_isGood 4 = .ok (.sipush 4096, 3) := by decide +kernel
theorem dX4_isGood_7 : decode cX4_isGood 7 = .ok (.if_icmp .gt 48, 3) := by decide +kernel
theorem dX4_isGood_10 : decode cX4_isGood 10 = .ok (.aload_n 0, 1) := by decide +kernel
theorem dX4_isGood_11 : decode cX4_isGood 11 = .ok (.iload_n 1, 1) := by decide +kernel
theorem dX4_isGood_12 : decode cX4_isGood 12 = .ok (.iload_n 2, 1) := by decide +kernel
theorem dX4_isGood_13 : decode cX4_isGood 13 = .ok (.invokevirtual 78, 3) := by decide +kernel
theorem dX4_isGood_16 : decode cX4_isGood 16 = .ok (.aload_n 0, 1) := by decide +kernel
theorem dX4_isGood_17 : decode cX4_isGood 17 = .ok (.iload_n 1, 1) := by decide +kernel
theorem dX4_isGood_18 : decode cX4_isGood 18 = .ok (.iload_n 2, 1) := by decide +kernel
theorem dX4_isGood_19 : decode cX4_isGood 19 = .ok (.bipush 12, 2) := by decide +kernel
theorem dX4_isGood_21 : decode cX4_isGood 21 = .ok (.iadd, 1) := by decide +kernel
theorem dX4_isGood_22 : decode cX4_isGood 22 = .ok (.invokevirtual 81, 3) := by decide +kernel
theorem dX4_isGood_25 : decode cX4_isGood 25 = .ok (.if_icmp .ne 30, 3) := by decide +kernel
theorem dX4_isGood_28 : decode cX4_isGood 28 = .ok (.aload_n 0, 1) := by decide +kernel
theorem dX4_isGood_29 : decode cX4_isGood 29 = .ok (.iload_n 1, 1) := by decide +kernel
theorem dX4_isGood_30 : decode cX4_isGood 30 = .ok (.iload_n 2, 1) := by decide +kernel
theorem dX4_isGood_31 : decode cX4_isGood 31 = .ok (.bipush 8, 2) := by decide +kernel
theorem dX4_isGood_33 : decode cX4_isGood 33 = .ok (.iadd, 1) := by decide +kernel
theorem dX4_isGood_34 : decode cX4_isGood 34 = .ok (.invokevirtual 81, 3) := by decide +kernel
theorem dX4_isGood_37 : decode cX4_isGood 37 = .ok (.iload_n 2, 1) := by decide +kernel
theorem dX4_isGood_38 : decode cX4_isGood 38 = .ok (.if_icmp .ne 17, 3) := by decide +kernel
theorem dX4_isGood_41 : decode cX4_isGood 41 = .ok (.aload_n 0, 1) := by decide +kernel
theorem dX4_isGood_42 : decode cX4_isGood 42 = .ok (.iload_n 1, 1) := by decide +kernel
theorem dX4_isGood_43 : decode cX4_isGood 43 = .ok (.iload_n 2, 1) := by decide +kernel
theorem dX4_isGood_44 : decode cX4_isGood 44 = .ok (.invokevirtual 84, 3) := by decide +kernel
theorem dX4_isGood_47 : decode cX4_isGood 47 = .ok (.iconst 1, 1) := by decide +kernel
theorem dX4_isGood_48 : decode cX4_isGood 48 = .ok (.iconst 3, 1) := by decide +kernel
theorem dX4_isGood_49 : decode cX4_isGood 49 = .ok (.invokestatic 69, 3) := by decide +kernel
theorem dX4_isGood_52 : decode cX4_isGood 52 = .ok (.ifCond .ne 5, 3) := by decide +kernel
theorem dX4_isGood_55 : decode cX4_isGood 55 = .ok (.iconst 0, 1) := by decide +kernel
theorem dX4_isGood_56 : decode cX4_isGood 56 = .ok (.ireturn, 1) := by decide +kernel
theorem dX4_isGood_57 : decode cX4_isGood 57 = .ok (.aload_n 0, 1) := by decide +kernel
theorem dX4_isGood_58 : decode cX4_isGood 58 = .ok (.iload_n 1, 1) := by decide +kernel
theorem dX4_isGood_59 : decode cX4_isGood 59 = .ok (.iload_n 2, 1) := by decide +kernel
theorem dX4_isGood_60 : decode cX4_isGood 60 = .ok (.bipush 16, 2) := by decide +kernel
theorem dX4_isGood_62 : decode cX4_isGood 62 = .ok (.isub, 1) := by decide +kernel
theorem dX4_isGood_63 : decode cX4_isGood 63 = .ok (.invokevirtual 87, 3) := by decide +kernel
theorem dX4_isGood_66 : decode cX4_isGood 66 = .ok (.istore_n 3, 1) := by decide +kernel
theorem dX4_isGood_67 : decode cX4_isGood 67 = .ok (.aload_n 0, 1) := by decide +kernel
theorem dX4_isGood_68 : decode cX4_isGood 68 = .ok (.iload_n 1, 1) := by decide +kernel
theorem dX4_isGood_69 : decode cX4_isGood 69 = .ok (.iload_n 2, 1) := by decide +kernel
theorem dX4_isGood_70 : decode cX4_isGood 70 = .ok (.invokevirtual 87, 3) := by decide +kernel
theorem dX4_isGood_73 : decode cX4_isGood 73 = .ok (.istore 4, 2) := by decide +kernel
theorem dX4_isGood_75 : decode cX4_isGood 75 = .ok (.iload 4, 2) := by decide +kernel
theorem dX4_isGood_77 : decode cX4_isGood 77 = .ok (.iload_n 3, 1) := by decide +kernel
theorem dX4_isGood_78 : decode cX4_isGood 78 = .ok (.if_icmp .eq 19, 3) := by decide +kernel
theorem dX4_isGood_81 : decode cX4_isGood 81 = .ok (.iload 4, 2) := by decide +kernel
theorem dX4_isGood_83 : decode cX4_isGood 83 = .ok (.iload_n 3, 1) := by decide +kernel
theorem dX4_isGood_84 : decode cX4_isGood 84 = .ok (.if_icmp .le 17, 3) := by decide +kernel
theorem dX4_isGood_87 : decode cX4_isGood 87 = .ok (.aload_n 0, 1) := by decide +kernel
theorem dX4_isGood_88 : decode cX4_isGood 88 = .ok (.iload_n 1, 1) := by decide +kernel
theorem dX4_isGood_89 : decode cX4_isGood 89 = .ok (.iload_n 2, 1) := by decide +kernel
theorem dX4_isGood_90 : decode cX4_isGood 90 = .ok (.invokevirtual 84, 3) := by decide +kernel
theorem dX4_isGood_93 : decode cX4_isGood 93 = .ok (.iconst 3, 1) := by decide +kernel
theorem dX4_isGood_94 : decode cX4_isGood 94 = .ok (.if_icmp .ne 7, 3) := by decide +kernel
theorem dX4_isGood_97 : decode cX4_isGood 97 = .ok (.iconst 1, 1) := by decide +kernel
theorem dX4_isGood_98 : decode cX4_isGood 98 = .ok (.goto 4, 3) := by decide +kernel
theorem dX4_isGood_101 : decode cX4_isGood 101 = .ok (.iconst 0, 1) := by decide +kernel
theorem dX4_isGood_102 : decode cX4_isGood 102 = .ok (.ireturn, 1) := by decide +kernel
set_option maxRecDepth 20000 in
theorem ggX4_write_X4_timelineAt : GoodIn wsX4_write wsX4_timelineAt := goodIn_r _ [9, 3, 10, 11, 8, 12, 22, 23, 24, 25, 26, 27, 28, 29, 30, 31, 32, 33, 34, 35, 36, 37, 38, 39, 40, 41, 42] (by decide +kernel) (by decide +kernel)
set_option maxRecDepth 20000 in
theorem gX4_write_X4_timelineAt : GoodIn wsX4_write (wsV RX4 87 RX4 yX4_timelineAt wsX4_timelineAt) := goodIn_app (goodIn_of _ (by decide +kernel)) ggX4_write_X4_timelineAt
set_option maxRecDepth 20000 in
theorem ggX4_write_X4_at : GoodIn wsX4_write wsX4_at := goodIn_r _ [12] (by decide +kernel) (by decide +kernel)
set_option maxRecDepth 20000 in
theorem gX4_write_X4_at : GoodIn wsX4_write (va_wsS RX4 73 yX4_at wsX4_at) := goodIn_app (goodIn_of _ (by decide +kernel)) ggX4_write_X4_at
set_option maxRecDepth 20000 in
theorem ggX4_write_X4_putWord : GoodIn wsX4_write wsX4_putWord := goodIn_r _ [16, 3, 10, 11, 8, 12, 22, 23, 24, 25, 26, 27, 28, 29, 30, 31, 32, 33, 34, 35, 36, 37, 38, 39, 40, 41, 42] (by decide +kernel) (by decide +kernel)
set_option maxRecDepth 20000 in
theorem gX4_write_X4_putWord : GoodIn wsX4_write (wsV RX4 93 RX4 yX4_putWord wsX4_putWord) := goodIn_app (goodIn_of _ (by decide +kernel)) ggX4_write_X4_putWord
set_option maxRecDepth 20000 in
theorem ggX4_write_X4_sumAt : GoodIn wsX4_write wsX4_sumAt := goodIn_r _ [20, 3, 21, 10, 11, 8, 12, 22, 23, 24, 25, 26, 27, 28, 29, 30, 31, 32, 33, 34, 35, 36, 37, 38, 39, 40, 41, 42] (by decide +kernel) (by decide +kernel)
set_option maxRecDepth 20000 in
theorem gX4_write_X4_sumAt : GoodIn wsX4_write (wsV RX4 78 RX4 yX4_sumAt wsX4_sumAt) := goodIn_app (goodIn_of _ (by decide +kernel)) ggX4_write_X4_sumAt
theorem dX4_write_0 : decode cX4_write 0 = .ok (.aload_n 0, 1) := by decide +kernel
theorem dX4_write_1 : decode cX4_write 1 = .ok (.getfield 19, 3) := by decide +kernel
theorem dX4_write_4 : decode cX4_write 4 = .ok (.iload_n 1, 1) := by decide +kernel
theorem dX4_write_5 : decode cX4_write 5 = .ok (.iaload, 1) := by decide +kernel
theorem dX4_write_6 : decode cX4_write 6 = .ok (.istore 5, 2) := by decide +kernel
theorem dX4_write_8 : decode cX4_write 8 = .ok (.iload_n 2, 1) := by decide +kernel
theorem dX4_write_9 : decode cX4_write 9 = .ok (.iconst 3, 1) := by decide +kernel
theorem dX4_write_10 : decode cX4_write 10 = .ok (.if_icmp .ne 10, 3) := by decide +kernel
theorem dX4_write_13 : decode cX4_write 13 = .ok (.aload_n 0, 1) := by decide +kernel
theorem dX4_write_14 : decode cX4_write 14 = .ok (.getfield 90, 3) := by decide +kernel
theorem dX4_write_17 : decode cX4_write 17 = .ok (.goto 13, 3) := by decide +kernel
theorem dX4_write_20 : decode cX4_write 20 = .ok (.aload_n 0, 1) := by decide +kernel
theorem dX4_write_21 : decode cX4_write 21 = .ok (.iload_n 1, 1) := by decide +kernel
theorem dX4_write_22 : decode cX4_write 22 = .ok (.iload 5, 2) := by decide +kernel
theorem dX4_write_24 : decode cX4_write 24 = .ok (.bipush 16, 2) := by decide +kernel
theorem dX4_write_26 : decode cX4_write 26 = .ok (.isub, 1) := by decide +kernel
theorem dX4_write_27 : decode cX4_write 27 = .ok (.invokevirtual 87, 3) := by decide +kernel
theorem dX4_write_30 : decode cX4_write 30 = .ok (.istore 6, 2) := by decide +kernel
theorem dX4_write_32 : decode cX4_write 32 = .ok (.aload_n 0, 1) := by decide +kernel
theorem dX4_write_33 : decode cX4_write 33 = .ok (.getfield 7, 3) := by decide +kernel
theorem dX4_write_36 : decode cX4_write 36 = .ok (.iload_n 1, 1) := by decide +kernel
theorem dX4_write_37 : decode cX4_write 37 = .ok (.iload 5, 2) := by decide +kernel
theorem dX4_write_39 : decode cX4_write 39 = .ok (.invokestatic 73, 3) := by decide +kernel
theorem dX4_write_42 : decode cX4_write 42 = .ok (.iload_n 2, 1) := by decide +kernel
theorem dX4_write_43 : decode cX4_write 43 = .ok (.iastore, 1) := by decide +kernel
theorem dX4_write_44 : decode cX4_write 44 = .ok (.aload_n 0, 1) := by decide +kernel
theorem dX4_write_45 : decode cX4_write 45 = .ok (.getfield 7, 3) := by decide +kernel
theorem dX4_write_48 : decode cX4_write 48 = .ok (.iload_n 1, 1) := by decide +kernel
theorem dX4_write_49 : decode cX4_write 49 = .ok (.iload 5, 2) := by decide +kernel
theorem dX4_write_51 : decode cX4_write 51 = .ok (.iconst 1, 1) := by decide +kernel
theorem dX4_write_52 : decode cX4_write 52 = .ok (.iadd, 1) := by decide +kernel
theorem dX4_write_53 : decode cX4_write 53 = .ok (.invokestatic 73, 3) := by decide +kernel
theorem dX4_write_56 : decode cX4_write 56 = .ok (.iload 6, 2) := by decide +kernel
theorem dX4_write_58 : decode cX4_write 58 = .ok (.iastore, 1) := by decide +kernel
theorem dX4_write_59 : decode cX4_write 59 = .ok (.aload_n 0, 1) := by decide +kernel
theorem dX4_write_60 : decode cX4_write 60 = .ok (.getfield 7, 3) := by decide +kernel
theorem dX4_write_63 : decode cX4_write 63 = .ok (.iload_n 1, 1) := by decide +kernel
theorem dX4_write_64 : decode cX4_write 64 = .ok (.iload 5, 2) := by decide +kernel
theorem dX4_write_66 : decode cX4_write 66 = .ok (.iconst 2, 1) := by decide +kernel
theorem dX4_write_67 : decode cX4_write 67 = .ok (.iadd, 1) := by decide +kernel
theorem dX4_write_68 : decode cX4_write 68 = .ok (.invokestatic 73, 3) := by decide +kernel
theorem dX4_write_71 : decode cX4_write 71 = .ok (.iload_n 3, 1) := by decide +kernel
theorem dX4_write_72 : decode cX4_write 72 = .ok (.bipush 8, 2) := by decide +kernel
theorem dX4_write_74 : decode cX4_write 74 = .ok (.ishr, 1) := by decide +kernel
theorem dX4_write_75 : decode cX4_write 75 = .ok (.sipush 255, 3) := by decide +kernel
theorem dX4_write_78 : decode cX4_write 78 = .ok (.iand, 1) := by decide +kernel
theorem dX4_write_79 : decode cX4_write 79 = .ok (.iastore, 1) := by decide +kernel
theorem dX4_write_80 : decode cX4_write 80 = .ok (.aload_n 0, 1) := by decide +kernel
theorem dX4_write_81 : decode cX4_write 81 = .ok (.getfield 7, 3) := by decide +kernel
theorem dX4_write_84 : decode cX4_write 84 = .ok (.iload_n 1, 1) := by decide +kernel
theorem dX4_write_85 : decode cX4_write 85 = .ok (.iload 5, 2) := by decide +kernel
theorem dX4_write_87 : decode cX4_write 87 = .ok (.iconst 3, 1) := by decide +kernel
theorem dX4_write_88 : decode cX4_write 88 = .ok (.iadd, 1) := by decide +kernel
theorem dX4_write_89 : decode cX4_write 89 = .ok (.invokestatic 73, 3) := by decide +kernel
theorem dX4_write_92 : decode cX4_write 92 = .ok (.iload_n 3, 1) := by decide +kernel
theorem dX4_write_93 : decode cX4_write 93 = .ok (.sipush 255, 3) := by decide +kernel
theorem dX4_write_96 : decode cX4_write 96 = .ok (.iand, 1) := by decide +kernel
theorem dX4_write_97 : decode cX4_write 97 = .ok (.iastore, 1) := by decide +kernel
theorem dX4_write_98 : decode cX4_write 98 = .ok (.aload_n 0, 1) := by decide +kernel
theorem dX4_write_99 : decode cX4_write 99 = .ok (.iload_n 1, 1) := by decide +kernel
theorem dX4_write_100 : decode cX4_write 100 = .ok (.iload 5, 2) := by decide +kernel
theorem dX4_write_102 : decode cX4_write 102 = .ok (.iconst 4, 1) := by decide +kernel
theorem dX4_write_103 : decode cX4_write 103 = .ok (.iadd, 1) := by decide +kernel
theorem dX4_write_104 : decode cX4_write 104 = .ok (.iload 4, 2) := by decide +kernel
theorem dX4_write_106 : decode cX4_write 106 = .ok (.invokevirtual 93, 3) := by decide +kernel
theorem dX4_write_109 : decode cX4_write 109 = .ok (.aload_n 0, 1) := by decide +kernel
theorem dX4_write_110 : decode cX4_write 110 = .ok (.iload_n 1, 1) := by decide +kernel
theorem dX4_write_111 : decode cX4_write 111 = .ok (.iload 5, 2) := by decide +kernel
theorem dX4_write_113 : decode cX4_write 113 = .ok (.bipush 8, 2) := by decide +kernel
theorem dX4_write_115 : decode cX4_write 115 = .ok (.iadd, 1) := by decide +kernel
theorem dX4_write_116 : decode cX4_write 116 = .ok (.iload 5, 2) := by decide +kernel
theorem dX4_write_118 : decode cX4_write 118 = .ok (.invokevirtual 93, 3) := by decide +kernel
theorem dX4_write_121 : decode cX4_write 121 = .ok (.aload_n 0, 1) := by decide +kernel
theorem dX4_write_122 : decode cX4_write 122 = .ok (.iload_n 1, 1) := by decide +kernel
theorem dX4_write_123 : decode cX4_write 123 = .ok (.iload 5, 2) := by decide +kernel
theorem dX4_write_125 : decode cX4_write 125 = .ok (.bipush 12, 2) := by decide +kernel
theorem dX4_write_127 : decode cX4_write 127 = .ok (.iadd, 1) := by decide +kernel
theorem dX4_write_128 : decode cX4_write 128 = .ok (.aload_n 0, 1) := by decide +kernel
theorem dX4_write_129 : decode cX4_write 129 = .ok (.iload_n 1, 1) := by decide +kernel
theorem dX4_write_130 : decode cX4_write 130 = .ok (.iload 5, 2) := by decide +kernel
theorem dX4_write_132 : decode cX4_write 132 = .ok (.invokevirtual 78, 3) := by decide +kernel
theorem dX4_write_135 : decode cX4_write 135 = .ok (.invokevirtual 93, 3) := by decide +kernel
theorem dX4_write_138 : decode cX4_write 138 = .ok (.aload_n 0, 1) := by decide +kernel
theorem dX4_write_139 : decode cX4_write 139 = .ok (.getfield 19, 3) := by decide +kernel
theorem dX4_write_142 : decode cX4_write 142 = .ok (.iload_n 1, 1) := by decide +kernel
theorem dX4_write_143 : decode cX4_write 143 = .ok (.dup2, 1) := by decide +kernel
theorem dX4_write_144 : decode cX4_write 144 = .ok (.iaload, 1) := by decide +kernel
theorem dX4_write_145 : decode cX4_write 145 = .ok (.bipush 16, 2) := by decide +kernel
theorem dX4_write_147 : decode cX4_write 147 = .ok (.iadd, 1) := by decide +kernel
theorem dX4_write_148 : decode cX4_write 148 = .ok (.iastore, 1) := by decide +kernel
theorem dX4_write_149 : decode cX4_write 149 = .ok (.aload_n 0, 1) := by decide +kernel
theorem dX4_write_150 : decode cX4_write 150 = .ok (.getfield 25, 3) := by decide +kernel
theorem dX4_write_153 : decode cX4_write 153 = .ok (.iload_n 1, 1) := by decide +kernel
theorem dX4_write_154 : decode cX4_write 154 = .ok (.aload_n 0, 1) := by decide +kernel
theorem dX4_write_155 : decode cX4_write 155 = .ok (.getfield 19, 3) := by decide +kernel
theorem dX4_write_158 : decode cX4_write 158 = .ok (.iload_n 1, 1) := by decide +kernel
theorem dX4_write_159 : decode cX4_write 159 = .ok (.iaload, 1) := by decide +kernel
theorem dX4_write_160 : decode cX4_write 160 = .ok (.iastore, 1) := by decide +kernel
theorem dX4_write_161 : decode cX4_write 161 = .ok (.return_, 1) := by decide +kernel
set_option maxRecDepth 20000 in
theorem ggX4_putWord_X4_at : GoodIn wsX4_putWord wsX4_at := goodIn_r _ [5] (by decide +kernel) (by decide +kernel)
set_option maxRecDepth 20000 in
theorem gX4_putWord_X4_at : GoodIn wsX4_putWord (va_wsS RX4 73 yX4_at wsX4_at) := goodIn_app (goodIn_of _ (by decide +kernel)) ggX4_putWord_X4_at
theorem dX4_putWord_0 : decode cX4_putWord 0 = .ok (.iconst 0, 1) := by decide +kernel
theorem dX4_putWord_1 : decode cX4_putWord 1 = .ok (.istore 4, 2) := by decide +kernel
theorem dX4_putWord_3 : decode cX4_putWord 3 = .ok (.iload 4, 2) := by decide +kernel
theorem dX4_putWord_5 : decode cX4_putWord 5 = .ok (.iconst 4, 1) := by decide +kernel
theorem dX4_putWord_6 : decode cX4_putWord 6 = .ok (.if_icmp .ge 36, 3) := by decide +kernel
theorem dX4_putWord_9 : decode cX4_putWord 9 = .ok (.aload_n 0, 1) := by decide +kernel
theorem dX4_putWord_10 : decode cX4_putWord 10 = .ok (.getfield 7, 3) := by decide +kernel
theorem dX4_putWord_13 : decode cX4_putWord 13 = .ok (.iload_n 1, 1) := by decide +kernel
theorem dX4_putWord_14 : decode cX4_putWord 14 = .ok (.iload_n 2, 1) := by decide +kernel
theorem dX4_putWord_15 : decode cX4_putWord 15 = .ok (.iload 4, 2) := by decide +kernel
theorem dX4_putWord_17 : decode cX4_putWord 17 = .ok (.iadd, 1) := by decide +kernel
theorem dX4_putWord_18 : decode cX4_putWord 18 = .ok (.invokestatic 73, 3) := by decide +kernel
theorem dX4_putWord_21 : decode cX4_putWord 21 = .ok (.iload_n 3, 1) := by decide +kernel
theorem dX4_putWord_22 : decode cX4_putWord 22 = .ok (.bipush 24, 2) := by decide +kernel
theorem dX4_putWord_24 : decode cX4_putWord 24 = .ok (.bipush 8, 2) := by decide +kernel
theorem dX4_putWord_26 : decode cX4_putWord 26 = .ok (.iload 4, 2) := by decide +kernel
theorem dX4_putWord_28 : decode cX4_putWord 28 = .ok (.imul, 1) := by decide +kernel
theorem dX4_putWord_29 : decode cX4_putWord 29 = .ok (.isub, 1) := by decide +kernel
theorem dX4_putWord_30 : decode cX4_putWord 30 = .ok (.ishr, 1) := by decide +kernel
theorem dX4_putWord_31 : decode cX4_putWord 31 = .ok (.sipush 255, 3) := by decide +kernel
theorem dX4_putWord_34 : decode cX4_putWord 34 = .ok (.iand, 1) := by decide +kernel
theorem dX4_putWord_35 : decode cX4_putWord 35 = .ok (.iastore, 1) := by decide +kernel
theorem dX4_putWord_36 : decode cX4_putWord 36 = .ok (.iinc 4 1, 3) := by decide +kernel
theorem dX4_putWord_39 : decode cX4_putWord 39 = .ok (.goto (-36), 3) := by decide +kernel
theorem dX4_putWord_42 : decode cX4_putWord 42 = .ok (.return_, 1) := by decide +kernel
set_option maxRecDepth 20000 in
theorem ggX4_sync_X4_at : GoodIn wsX4_sync wsX4_at := goodIn_r _ [8] (by decide +kernel) (by decide +kernel)
set_option maxRecDepth 20000 in
theorem gX4_sync_X4_at : GoodIn wsX4_sync (va_wsS RX4 73 yX4_at wsX4_at) := goodIn_app (goodIn_of _ (by decide +kernel)) ggX4_sync_X4_at
theorem dX4_sync_0 : decode cX4_sync 0 = .ok (.aload_n 0, 1) := by decide +kernel
theorem dX4_sync_1 : decode cX4_sync 1 = .ok (.getfield 22, 3) := by decide +kernel
theorem dX4_sync_4 : decode cX4_sync 4 = .ok (.iload_n 1, 1) := by decide +kernel
theorem dX4_sync_5 : decode cX4_sync 5 = .ok (.iaload, 1) := by decide +kernel
theorem dX4_sync_6 : decode cX4_sync 6 = .ok (.istore_n 2, 1) := by decide +kernel
theorem dX4_sync_7 : decode cX4_sync 7 = .ok (.iload_n 2, 1) := by decide +kernel
theorem dX4_sync_8 : decode cX4_sync 8 = .ok (.aload_n 0, 1) := by decide +kernel
theorem dX4_sync_9 : decode cX4_sync 9 = .ok (.getfield 19, 3) := by decide +kernel
theorem dX4_sync_12 : decode cX4_sync 12 = .ok (.iload_n 1, 1) := by decide +kernel
theorem dX4_sync_13 : decode cX4_sync 13 = .ok (.iaload, 1) := by decide +kernel
theorem dX4_sync_14 : decode cX4_sync 14 = .ok (.if_icmp .ge 29, 3) := by decide +kernel
theorem dX4_sync_17 : decode cX4_sync 17 = .ok (.aload_n 0, 1) := by decide +kernel
theorem dX4_sync_18 : decode cX4_sync 18 = .ok (.getfield 13, 3) := by decide +kernel
theorem dX4_sync_21 : decode cX4_sync 21 = .ok (.iload_n 1, 1) := by decide +kernel
theorem dX4_sync_22 : decode cX4_sync 22 = .ok (.iload_n 2, 1) := by decide +kernel
theorem dX4_sync_23 : decode cX4_sync 23 = .ok (.invokestatic 73, 3) := by decide +kernel
theorem dX4_sync_26 : decode cX4_sync 26 = .ok (.aload_n 0, 1) := by decide +kernel
theorem dX4_sync_27 : decode cX4_sync 27 = .ok (.getfield 7, 3) := by decide +kernel
theorem dX4_sync_30 : decode cX4_sync 30 = .ok (.iload_n 1, 1) := by decide +kernel
theorem dX4_sync_31 : decode cX4_sync 31 = .ok (.iload_n 2, 1) := by decide +kernel
theorem dX4_sync_32 : decode cX4_sync 32 = .ok (.invokestatic 73, 3) := by decide +kernel
theorem dX4_sync_35 : decode cX4_sync 35 = .ok (.iaload, 1) := by decide +kernel
theorem dX4_sync_36 : decode cX4_sync 36 = .ok (.iastore, 1) := by decide +kernel
theorem dX4_sync_37 : decode cX4_sync 37 = .ok (.iinc 2 1, 3) := by decide +kernel
theorem dX4_sync_40 : decode cX4_sync 40 = .ok (.goto (-33), 3) := by decide +kernel
theorem dX4_sync_43 : decode cX4_sync 43 = .ok (.aload_n 0, 1) := by decide +kernel
theorem dX4_sync_44 : decode cX4_sync 44 = .ok (.getfield 22, 3) := by decide +kernel
theorem dX4_sync_47 : decode cX4_sync 47 = .ok (.iload_n 1, 1) := by decide +kernel
theorem dX4_sync_48 : decode cX4_sync 48 = .ok (.aload_n 0, 1) := by decide +kernel
theorem dX4_sync_49 : decode cX4_sync 49 = .ok (.getfield 19, 3) := by decide +kernel
theorem dX4_sync_52 : decode cX4_sync 52 = .ok (.iload_n 1, 1) := by decide +kernel
theorem dX4_sync_53 : decode cX4_sync 53 = .ok (.iaload, 1) := by decide +kernel
theorem dX4_sync_54 : decode cX4_sync 54 = .ok (.iastore, 1) := by decide +kernel
theorem dX4_sync_55 : decode cX4_sync 55 = .ok (.return_, 1) := by decide +kernel
theorem dX4_forgetMessages_0 : decode cX4_forgetMessages 0 = .ok (.iconst 0, 1) := by decide +kernel
theorem dX4_forgetMessages_1 : decode cX4_forgetMessages 1 = .ok (.istore_n 2, 1) := by decide +kernel
theorem dX4_forgetMessages_2 : decode cX4_forgetMessages 2 = .ok (.iload_n 2, 1) := by decide +kernel
theorem dX4_forgetMessages_3 : decode cX4_forgetMessages 3 = .ok (.iconst 4, 1) := by decide +kernel
theorem dX4_forgetMessages_4 : decode cX4_forgetMessages 4 = .ok (.if_icmp .ge 31, 3) := by decide +kernel
theorem dX4_forgetMessages_7 : decode cX4_forgetMessages 7 = .ok (.aload_n 0, 1) := by decide +kernel
theorem dX4_forgetMessages_8 : decode cX4_forgetMessages 8 = .ok (.getfield 43, 3) := by decide +kernel
theorem dX4_forgetMessages_11 : decode cX4_forgetMessages 11 = .ok (.iconst 4, 1) := by decide +kernel
theorem dX4_forgetMessages_12 : decode cX4_forgetMessages 12 = .ok (.iload_n 1, 1) := by decide +kernel
theorem dX4_forgetMessages_13 : decode cX4_forgetMessages 13 = .ok (.imul, 1) := by decide +kernel
theorem dX4_forgetMessages_14 : decode cX4_forgetMessages 14 = .ok (.iload_n 2, 1) := by decide +kernel
theorem dX4_forgetMessages_15 : decode cX4_forgetMessages 15 = .ok (.iadd, 1) := by decide +kernel
theorem dX4_forgetMessages_16 : decode cX4_forgetMessages 16 = .ok (.iconst 0, 1) := by decide +kernel
theorem dX4_forgetMessages_17 : decode cX4_forgetMessages 17 = .ok (.iastore, 1) := by decide +kernel
theorem dX4_forgetMessages_18 : decode cX4_forgetMessages 18 = .ok (.aload_n 0, 1) := by decide +kernel
theorem dX4_forgetMessages_19 : decode cX4_forgetMessages 19 = .ok (.getfield 43, 3) := by decide +kernel
theorem dX4_forgetMessages_22 : decode cX4_forgetMessages 22 = .ok (.iconst 4, 1) := by decide +kernel
theorem dX4_forgetMessages_23 : decode cX4_forgetMessages 23 = .ok (.iload_n 2, 1) := by decide +kernel
theorem dX4_forgetMessages_24 : decode cX4_forgetMessages 24 = .ok (.imul, 1) := by decide +kernel
theorem dX4_forgetMessages_25 : decode cX4_forgetMessages 25 = .ok (.iload_n 1, 1) := by decide +kernel
theorem dX4_forgetMessages_26 : decode cX4_forgetMessages 26 = .ok (.iadd, 1) := by decide +kernel
theorem dX4_forgetMessages_27 : decode cX4_forgetMessages 27 = .ok (.iconst 0, 1) := by decide +kernel
theorem dX4_forgetMessages_28 : decode cX4_forgetMessages 28 = .ok (.iastore, 1) := by decide +kernel
theorem dX4_forgetMessages_29 : decode cX4_forgetMessages 29 = .ok (.iinc 2 1, 3) := by decide +kernel
theorem dX4_forgetMessages_32 : decode cX4_forgetMessages 32 = .ok (.goto (-30), 3) := by decide +kernel
theorem dX4_forgetMessages_35 : decode cX4_forgetMessages 35 = .ok (.return_, 1) := by decide +kernel
set_option maxRecDepth 20000 in
theorem ggX4_leave_X4_forgetMessages : GoodIn wsX4_leave wsX4_forgetMessages := goodIn_r _ [9, 10, 11, 12, 13, 14, 15, 16, 17, 18, 19, 20, 21, 22, 23, 24, 25, 26, 27, 28, 29, 30, 31] (by decide +kernel) (by decide +kernel)
set_option maxRecDepth 20000 in
theorem gX4_leave_X4_forgetMessages : GoodIn wsX4_leave (wsV RX4 97 RX4 yX4_forgetMessages wsX4_forgetMessages) := goodIn_app (goodIn_of _ (by decide +kernel)) ggX4_leave_X4_forgetMessages
theorem dX4_leave_0 : decode cX4_leave 0 = .ok (.aload_n 0, 1) := by decide +kernel
theorem dX4_leave_1 : decode cX4_leave 1 = .ok (.iload_n 1, 1) := by decide +kernel
theorem dX4_leave_2 : decode cX4_leave 2 = .ok (.invokevirtual 97, 3) := by decide +kernel
theorem dX4_leave_5 : decode cX4_leave 5 = .ok (.iconst 0, 1) := by decide +kernel
theorem dX4_leave_6 : decode cX4_leave 6 = .ok (.istore_n 2, 1) := by decide +kernel
theorem dX4_leave_7 : decode cX4_leave 7 = .ok (.iload_n 2, 1) := by decide +kernel
theorem dX4_leave_8 : decode cX4_leave 8 = .ok (.iconst 4, 1) := by decide +kernel
theorem dX4_leave_9 : decode cX4_leave 9 = .ok (.if_icmp .ge 65, 3) := by decide +kernel
theorem dX4_leave_12 : decode cX4_leave 12 = .ok (.aload_n 0, 1) := by decide +kernel
theorem dX4_leave_13 : decode cX4_leave 13 = .ok (.getfield 16, 3) := by decide +kernel
theorem dX4_leave_16 : decode cX4_leave 16 = .ok (.iload_n 2, 1) := by decide +kernel
theorem dX4_leave_17 : decode cX4_leave 17 = .ok (.iaload, 1) := by decide +kernel
theorem dX4_leave_18 : decode cX4_leave 18 = .ok (.iconst 3, 1) := by decide +kernel
theorem dX4_leave_19 : decode cX4_leave 19 = .ok (.if_icmp .ne 32, 3) := by decide +kernel
theorem dX4_leave_22 : decode cX4_leave 22 = .ok (.aload_n 0, 1) := by decide +kernel
theorem dX4_leave_23 : decode cX4_leave 23 = .ok (.getfield 28, 3) := by decide +kernel
theorem dX4_leave_26 : decode cX4_leave 26 = .ok (.iload_n 2, 1) := by decide +kernel
theorem dX4_leave_27 : decode cX4_leave 27 = .ok (.iaload, 1) := by decide +kernel
theorem dX4_leave_28 : decode cX4_leave 28 = .ok (.iload_n 1, 1) := by decide +kernel
theorem dX4_leave_29 : decode cX4_leave 29 = .ok (.if_icmp .ne 22, 3) := by decide +kernel
theorem dX4_leave_32 : decode cX4_leave 32 = .ok (.aload_n 0, 1) := by decide +kernel
theorem dX4_leave_33 : decode cX4_leave 33 = .ok (.getfield 16, 3) := by decide +kernel
theorem dX4_leave_36 : decode cX4_leave 36 = .ok (.iload_n 2, 1) := by decide +kernel
theorem dX4_leave_37 : decode cX4_leave 37 = .ok (.iconst 1, 1) := by decide +kernel
theorem dX4_leave_38 : decode cX4_leave 38 = .ok (.iastore, 1) := by decide +kernel
theorem dX4_leave_39 : decode cX4_leave 39 = .ok (.aload_n 0, 1) := by decide +kernel
theorem dX4_leave_40 : decode cX4_leave 40 = .ok (.getfield 28, 3) := by decide +kernel
theorem dX4_leave_43 : decode cX4_leave 43 = .ok (.iload_n 2, 1) := by decide +kernel
theorem dX4_leave_44 : decode cX4_leave 44 = .ok (.iconst (-1), 1) := by decide +kernel
theorem dX4_leave_45 : decode cX4_leave 45 = .ok (.iastore, 1) := by decide +kernel
theorem dX4_leave_46 : decode cX4_leave 46 = .ok (.aload_n 0, 1) := by decide +kernel
theorem dX4_leave_47 : decode cX4_leave 47 = .ok (.iload_n 2, 1) := by decide +kernel
theorem dX4_leave_48 : decode cX4_leave 48 = .ok (.invokevirtual 97, 3) := by decide +kernel
theorem dX4_leave_51 : decode cX4_leave 51 = .ok (.aload_n 0, 1) := by decide +kernel
theorem dX4_leave_52 : decode cX4_leave 52 = .ok (.getfield 31, 3) := by decide +kernel
theorem dX4_leave_55 : decode cX4_leave 55 = .ok (.iload_n 2, 1) := by decide +kernel
theorem dX4_leave_56 : decode cX4_leave 56 = .ok (.iaload, 1) := by decide +kernel
theorem dX4_leave_57 : decode cX4_leave 57 = .ok (.iload_n 1, 1) := by decide +kernel
theorem dX4_leave_58 : decode cX4_leave 58 = .ok (.if_icmp .ne 10, 3) := by decide +kernel
theorem dX4_leave_61 : decode cX4_leave 61 = .ok (.aload_n 0, 1) := by decide +kernel
theorem dX4_leave_62 : decode cX4_leave 62 = .ok (.getfield 31, 3) := by decide +kernel
theorem dX4_leave_65 : decode cX4_leave 65 = .ok (.iload_n 2, 1) := by decide +kernel
theorem dX4_leave_66 : decode cX4_leave 66 = .ok (.iconst (-1), 1) := by decide +kernel
theorem dX4_leave_67 : decode cX4_leave 67 = .ok (.iastore, 1) := by decide +kernel
theorem dX4_leave_68 : decode cX4_leave 68 = .ok (.iinc 2 1, 3) := by decide +kernel
theorem dX4_leave_71 : decode cX4_leave 71 = .ok (.goto (-64), 3) := by decide +kernel
theorem dX4_leave_74 : decode cX4_leave 74 = .ok (.aload_n 0, 1) := by decide +kernel
theorem dX4_leave_75 : decode cX4_leave 75 = .ok (.getfield 28, 3) := by decide +kernel
theorem dX4_leave_78 : decode cX4_leave 78 = .ok (.iload_n 1, 1) := by decide +kernel
theorem dX4_leave_79 : decode cX4_leave 79 = .ok (.iconst (-1), 1) := by decide +kernel
theorem dX4_leave_80 : decode cX4_leave 80 = .ok (.iastore, 1) := by decide +kernel
theorem dX4_leave_81 : decode cX4_leave 81 = .ok (.aload_n 0, 1) := by decide +kernel
theorem dX4_leave_82 : decode cX4_leave 82 = .ok (.getfield 31, 3) := by decide +kernel
theorem dX4_leave_85 : decode cX4_leave 85 = .ok (.iload_n 1, 1) := by decide +kernel
theorem dX4_leave_86 : decode cX4_leave 86 = .ok (.iconst (-1), 1) := by decide +kernel
theorem dX4_leave_87 : decode cX4_leave 87 = .ok (.iastore, 1) := by decide +kernel
theorem dX4_leave_88 : decode cX4_leave 88 = .ok (.aload_n 0, 1) := by decide +kernel
theorem dX4_leave_89 : decode cX4_leave 89 = .ok (.getfield 34, 3) := by decide +kernel
theorem dX4_leave_92 : decode cX4_leave 92 = .ok (.iload_n 1, 1) := by decide +kernel
theorem dX4_leave_93 : decode cX4_leave 93 = .ok (.iconst 0, 1) := by decide +kernel
theorem dX4_leave_94 : decode cX4_leave 94 = .ok (.iastore, 1) := by decide +kernel
theorem dX4_leave_95 : decode cX4_leave 95 = .ok (.return_, 1) := by decide +kernel
set_option maxRecDepth 20000 in
theorem ggX4_up_X4_isNode : GoodIn wsX4_up wsX4_isNode := goodIn_r _ [11, 12, 13, 10, 14] (by decide +kernel) (by decide +kernel)
set_option maxRecDepth 20000 in
theorem gX4_up_X4_isNode : GoodIn wsX4_up (va_wsS RX4 101 yX4_isNode wsX4_isNode) := goodIn_app (goodIn_of _ (by decide +kernel)) ggX4_up_X4_isNode
set_option maxRecDepth 20000 in
theorem ggX4_up_X4_fail : GoodIn wsX4_up wsX4_fail := goodIn_r _ [18, 1, 43, 44, 45, 46, 47, 48, 49, 50, 51, 52, 53, 54, 55, 56, 57, 58, 59, 60, 61, 62, 63] (by decide +kernel) (by decide +kernel)
set_option maxRecDepth 20000 in
theorem gX4_up_X4_fail : GoodIn wsX4_up (wsV RX4 105 RX4 yX4_fail wsX4_fail) := goodIn_app (goodIn_of _ (by decide +kernel)) ggX4_up_X4_fail
set_option maxRecDepth 20000 in
theorem ggX4_up_X4_at : GoodIn wsX4_up wsX4_at := goodIn_r _ [21] (by decide +kernel) (by decide +kernel)
set_option maxRecDepth 20000 in
theorem gX4_up_X4_at : GoodIn wsX4_up (va_wsS RX4 73 yX4_at wsX4_at) := goodIn_app (goodIn_of _ (by decide +kernel)) ggX4_up_X4_at
set_option maxRecDepth 20000 in
theorem ggX4_up_X4_isGood : GoodIn wsX4_up wsX4_isGood := goodIn_r _ [25, 26, 27, 28, 10, 29, 3, 30, 19, 20, 21, 31, 32, 33, 34, 35, 36, 37, 38, 12, 13, 14, 39, 40, 41, 42, 43, 44, 45, 46, 47, 48, 49, 50, 51, 52, 53, 54, 55, 56, 57, 58, 59, 60, 61, 62, 63] (by decide +kernel) (by decide +kernel)
set_option maxRecDepth 20000 in
theorem gX4_up_X4_isGood : GoodIn wsX4_up (wsV RX4 109 RX4 yX4_isGood wsX4_isGood) := goodIn_app (goodIn_of _ (by decide +kernel)) ggX4_up_X4_isGood
theorem dX4_up_0 : decode cX4_up 0 = .ok (.aload_n 0, 1) := by decide +kernel
theorem dX4_up_1 : decode cX4_up 1 = .ok (.iconst 0, 1) := by decide +kernel
theorem dX4_up_2 : decode cX4_up 2 = .ok (.putfield 65, 3) := by decide +kernel
theorem dX4_up_5 : decode cX4_up 5 = .ok (.iload_n 1, 1) := by decide +kernel
theorem dX4_up_6 : decode cX4_up 6 = .ok (.invokestatic 101, 3) := by decide +kernel
theorem dX4_up_9 : decode cX4_up 9 = .ok (.ifCond .ne 9, 3) := by decide +kernel
theorem dX4_up_12 : decode cX4_up 12 = .ok (.aload_n 0, 1) := by decide +kernel
theorem dX4_up_13 : decode cX4_up 13 = .ok (.iconst 1, 1) := by decide +kernel
theorem dX4_up_14 : decode cX4_up 14 = .ok (.invokevirtual 105, 3) := by decide +kernel
theorem dX4_up_17 : decode cX4_up 17 = .ok (.ireturn, 1) := by decide +kernel
theorem dX4_up_18 : decode cX4_up 18 = .ok (.aload_n 0, 1) := by decide +kernel
theorem dX4_up_19 : decode cX4_up 19 = .ok (.getfield 16, 3) := by decide +kernel
theorem dX4_up_22 : decode cX4_up 22 = .ok (.iload_n 1, 1) := by decide +kernel
theorem dX4_up_23 : decode cX4_up 23 = .ok (.iaload, 1) := by decide +kernel
theorem dX4_up_24 : decode cX4_up 24 = .ok (.ifCond .eq 9, 3) := by decide +kernel
theorem dX4_up_27 : decode cX4_up 27 = .ok (.aload_n 0, 1) := by decide +kernel
theorem dX4_up_28 : decode cX4_up 28 = .ok (.iconst 2, 1) := by decide +kernel
theorem dX4_up_29 : decode cX4_up 29 = .ok (.invokevirtual 105, 3) := by decide +kernel
theorem dX4_up_32 : decode cX4_up 32 = .ok (.ireturn, 1) := by decide +kernel
theorem dX4_up_33 : decode cX4_up 33 = .ok (.iconst 0, 1) := by decide +kernel
theorem dX4_up_34 : decode cX4_up 34 = .ok (.istore_n 2, 1) := by decide +kernel
theorem dX4_up_35 : decode cX4_up 35 = .ok (.iload_n 2, 1) := by decide +kernel
theorem dX4_up_36 : decode cX4_up 36 = .ok (.sipush 4096, 3) := by decide +kernel
theorem dX4_up_39 : decode cX4_up 39 = .ok (.if_icmp .ge 29, 3) := by decide +kernel
theorem dX4_up_42 : decode cX4_up 42 = .ok (.aload_n 0, 1) := by decide +kernel
theorem dX4_up_43 : decode cX4_up 43 = .ok (.getfield 7, 3) := by decide +kernel
theorem dX4_up_46 : decode cX4_up 46 = .ok (.iload_n 1, 1) := by decide +kernel
theorem dX4_up_47 : decode cX4_up 47 = .ok (.iload_n 2, 1) := by decide +kernel
theorem dX4_up_48 : decode cX4_up 48 = .ok (.invokestatic 73, 3) := by decide +kernel
theorem dX4_up_51 : decode cX4_up 51 = .ok (.aload_n 0, 1) := by decide +kernel
theorem dX4_up_52 : decode cX4_up 52 = .ok (.getfield 13, 3) := by decide +kernel
theorem dX4_up_55 : decode cX4_up 55 = .ok (.iload_n 1, 1) := by decide +kernel
theorem dX4_up_56 : decode cX4_up 56 = .ok (.iload_n 2, 1) := by decide +kernel
theorem dX4_up_57 : decode cX4_up 57 = .ok (.invokestatic 73, 3) := by decide +kernel
theorem dX4_up_60 : decode cX4_up 60 = .ok (.iaload, 1) := by decide +kernel
theorem dX4_up_61 : decode cX4_up 61 = .ok (.iastore, 1) := by decide +kernel
theorem dX4_up_62 : decode cX4_up 62 = .ok (.iinc 2 1, 3) := by decide +kernel
theorem dX4_up_65 : decode cX4_up 65 = .ok (.goto (-30), 3) := by decide +kernel
theorem dX4_up_68 : decode cX4_up 68 = .ok (.iconst 0, 1) := by decide +kernel
theorem dX4_up_69 : decode cX4_up 69 = .ok (.istore_n 2, 1) := by decide +kernel
theorem dX4_up_70 : decode cX4_up 70 = .ok (.aload_n 0, 1) := by decide +kernel
theorem dX4_up_71 : decode cX4_up 71 = .ok (.iload_n 1, 1) := by decide +kernel
theorem dX4_up_72 : decode cX4_up 72 = .ok (.iload_n 2, 1) := by decide +kernel
theorem dX4_up_73 : decode cX4_up 73 = .ok (.invokevirtual 109, 3) := by decide +kernel
theorem dX4_up_76 : decode cX4_up 76 = .ok (.ifCond .eq 9, 3) := by decide +kernel
theorem dX4_up_79 : decode cX4_up 79 = .ok (.iinc 2 16, 3) := by decide +kernel
theorem dX4_up_82 : decode cX4_up 82 = .ok (.goto (-12), 3) := by decide +kernel
theorem dX4_up_85 : decode cX4_up 85 = .ok (.aload_n 0, 1) := by decide +kernel
theorem dX4_up_86 : decode cX4_up 86 = .ok (.getfield 16, 3) := by decide +kernel
theorem dX4_up_89 : decode cX4_up 89 = .ok (.iload_n 1, 1) := by decide +kernel
theorem dX4_up_90 : decode cX4_up 90 = .ok (.iconst 1, 1) := by decide +kernel
theorem dX4_up_91 : decode cX4_up 91 = .ok (.iastore, 1) := by decide +kernel
theorem dX4_up_92 : decode cX4_up 92 = .ok (.aload_n 0, 1) := by decide +kernel
theorem dX4_up_93 : decode cX4_up 93 = .ok (.getfield 19, 3) := by decide +kernel
theorem dX4_up_96 : decode cX4_up 96 = .ok (.iload_n 1, 1) := by decide +kernel
theorem dX4_up_97 : decode cX4_up 97 = .ok (.iload_n 2, 1) := by decide +kernel
theorem dX4_up_98 : decode cX4_up 98 = .ok (.iastore, 1) := by decide +kernel
theorem dX4_up_99 : decode cX4_up 99 = .ok (.aload_n 0, 1) := by decide +kernel
theorem dX4_up_100 : decode cX4_up 100 = .ok (.getfield 22, 3) := by decide +kernel
theorem dX4_up_103 : decode cX4_up 103 = .ok (.iload_n 1, 1) := by decide +kernel
theorem dX4_up_104 : decode cX4_up 104 = .ok (.iload_n 2, 1) := by decide +kernel
theorem dX4_up_105 : decode cX4_up 105 = .ok (.iastore, 1) := by decide +kernel
theorem dX4_up_106 : decode cX4_up 106 = .ok (.aload_n 0, 1) := by decide +kernel
theorem dX4_up_107 : decode cX4_up 107 = .ok (.getfield 25, 3) := by decide +kernel
theorem dX4_up_110 : decode cX4_up 110 = .ok (.iload_n 1, 1) := by decide +kernel
theorem dX4_up_111 : decode cX4_up 111 = .ok (.iload_n 2, 1) := by decide +kernel
theorem dX4_up_112 : decode cX4_up 112 = .ok (.iastore, 1) := by decide +kernel
theorem dX4_up_113 : decode cX4_up 113 = .ok (.iload_n 2, 1) := by decide +kernel
theorem dX4_up_114 : decode cX4_up 114 = .ok (.ireturn, 1) := by decide +kernel
set_option maxRecDepth 20000 in
theorem ggX4_crash_X4_isNode : GoodIn wsX4_crash wsX4_isNode := goodIn_r _ [10, 11, 12, 9, 13] (by decide +kernel) (by decide +kernel)
set_option maxRecDepth 20000 in
theorem gX4_crash_X4_isNode : GoodIn wsX4_crash (va_wsS RX4 101 yX4_isNode wsX4_isNode) := goodIn_app (goodIn_of _ (by decide +kernel)) ggX4_crash_X4_isNode
set_option maxRecDepth 20000 in
theorem ggX4_crash_X4_fail : GoodIn wsX4_crash wsX4_fail := goodIn_r _ [17, 1, 33, 34, 35, 36, 37, 38, 39, 40, 41, 42, 43, 44, 45, 46, 47, 48, 49, 50, 51, 52, 53] (by decide +kernel) (by decide +kernel)
set_option maxRecDepth 20000 in
theorem gX4_crash_X4_fail : GoodIn wsX4_crash (wsV RX4 105 RX4 yX4_fail wsX4_fail) := goodIn_app (goodIn_of _ (by decide +kernel)) ggX4_crash_X4_fail
set_option maxRecDepth 20000 in
theorem ggX4_crash_X4_at : GoodIn wsX4_crash wsX4_at := goodIn_r _ [20] (by decide +kernel) (by decide +kernel)
set_option maxRecDepth 20000 in
theorem gX4_crash_X4_at : GoodIn wsX4_crash (va_wsS RX4 73 yX4_at wsX4_at) := goodIn_app (goodIn_of _ (by decide +kernel)) ggX4_crash_X4_at
set_option maxRecDepth 20000 in
theorem ggX4_crash_X4_leave : GoodIn wsX4_crash wsX4_leave := goodIn_r _ [24, 2, 25, 26, 27, 28, 29, 30, 9, 31, 32, 33, 34, 35, 36, 37, 38, 39, 40, 41, 42, 43, 44, 45, 46, 47, 48, 49, 50, 51, 52, 53] (by decide +kernel) (by decide +kernel)
set_option maxRecDepth 20000 in
theorem gX4_crash_X4_leave : GoodIn wsX4_crash (wsV RX4 113 RX4 yX4_leave wsX4_leave) := goodIn_app (goodIn_of _ (by decide +kernel)) ggX4_crash_X4_leave
theorem dX4_crash_0 : decode cX4_crash 0 = .ok (.aload_n 0, 1) := by decide +kernel
theorem dX4_crash_1 : decode cX4_crash 1 = .ok (.iconst 0, 1) := by decide +kernel
theorem dX4_crash_2 : decode cX4_crash 2 = .ok (.putfield 65, 3) := by decide +kernel
theorem dX4_crash_5 : decode cX4_crash 5 = .ok (.iload_n 1, 1) := by decide +kernel
theorem dX4_crash_6 : decode cX4_crash 6 = .ok (.invokestatic 101, 3) := by decide +kernel
theorem dX4_crash_9 : decode cX4_crash 9 = .ok (.ifCond .ne 9, 3) := by decide +kernel
theorem dX4_crash_12 : decode cX4_crash 12 = .ok (.aload_n 0, 1) := by decide +kernel
theorem dX4_crash_13 : decode cX4_crash 13 = .ok (.iconst 1, 1) := by decide +kernel
theorem dX4_crash_14 : decode cX4_crash 14 = .ok (.invokevirtual 105, 3) := by decide +kernel
theorem dX4_crash_17 : decode cX4_crash 17 = .ok (.ireturn, 1) := by decide +kernel
theorem dX4_crash_18 : decode cX4_crash 18 = .ok (.iload_n 2, 1) := by decide +kernel
theorem dX4_crash_19 : decode cX4_crash 19 = .ok (.ifCond .ge 9, 3) := by decide +kernel
theorem dX4_crash_22 : decode cX4_crash 22 = .ok (.aload_n 0, 1) := by decide +kernel
theorem dX4_crash_23 : decode cX4_crash 23 = .ok (.iconst 2, 1) := by decide +kernel
theorem dX4_crash_24 : decode cX4_crash 24 = .ok (.invokevirtual 105, 3) := by decide +kernel
theorem dX4_crash_27 : decode cX4_crash 27 = .ok (.ireturn, 1) := by decide +kernel
theorem dX4_crash_28 : decode cX4_crash 28 = .ok (.aload_n 0, 1) := by decide +kernel
theorem dX4_crash_29 : decode cX4_crash 29 = .ok (.getfield 16, 3) := by decide +kernel
theorem dX4_crash_32 : decode cX4_crash 32 = .ok (.iload_n 1, 1) := by decide +kernel
theorem dX4_crash_33 : decode cX4_crash 33 = .ok (.iaload, 1) := by decide +kernel
theorem dX4_crash_34 : decode cX4_crash 34 = .ok (.ifCond .ne 9, 3) := by decide +kernel
theorem dX4_crash_37 : decode cX4_crash 37 = .ok (.aload_n 0, 1) := by decide +kernel
theorem dX4_crash_38 : decode cX4_crash 38 = .ok (.iconst 3, 1) := by decide +kernel
theorem dX4_crash_39 : decode cX4_crash 39 = .ok (.invokevirtual 105, 3) := by decide +kernel
theorem dX4_crash_42 : decode cX4_crash 42 = .ok (.ireturn, 1) := by decide +kernel
theorem dX4_crash_43 : decode cX4_crash 43 = .ok (.iload_n 2, 1) := by decide +kernel
theorem dX4_crash_44 : decode cX4_crash 44 = .ok (.aload_n 0, 1) := by decide +kernel
theorem dX4_crash_45 : decode cX4_crash 45 = .ok (.getfield 19, 3) := by decide +kernel
theorem dX4_crash_48 : decode cX4_crash 48 = .ok (.iload_n 1, 1) := by decide +kernel
theorem dX4_crash_49 : decode cX4_crash 49 = .ok (.iaload, 1) := by decide +kernel
theorem dX4_crash_50 : decode cX4_crash 50 = .ok (.aload_n 0, 1) := by decide +kernel
theorem dX4_crash_51 : decode cX4_crash 51 = .ok (.getfield 22, 3) := by decide +kernel
theorem dX4_crash_54 : decode cX4_crash 54 = .ok (.iload_n 1, 1) := by decide +kernel
theorem dX4_crash_55 : decode cX4_crash 55 = .ok (.iaload, 1) := by decide +kernel
theorem dX4_crash_56 : decode cX4_crash 56 = .ok (.isub, 1) := by decide +kernel
theorem dX4_crash_57 : decode cX4_crash 57 = .ok (.if_icmp .ge 7, 3) := by decide +kernel
theorem dX4_crash_60 : decode cX4_crash 60 = .ok (.iload_n 2, 1) := by decide +kernel
theorem dX4_crash_61 : decode cX4_crash 61 = .ok (.goto 16, 3) := by decide +kernel
theorem dX4_crash_64 : decode cX4_crash 64 = .ok (.aload_n 0, 1) := by decide +kernel
theorem dX4_crash_65 : decode cX4_crash 65 = .ok (.getfield 19, 3) := by decide +kernel
theorem dX4_crash_68 : decode cX4_crash 68 = .ok (.iload_n 1, 1) := by decide +kernel
theorem dX4_crash_69 : decode cX4_crash 69 = .ok (.iaload, 1) := by decide +kernel
theorem dX4_crash_70 : decode cX4_crash 70 = .ok (.aload_n 0, 1) := by decide +kernel
theorem dX4_crash_71 : decode cX4_crash 71 = .ok (.getfield 22, 3) := by decide +kernel
theorem dX4_crash_74 : decode cX4_crash 74 = .ok (.iload_n 1, 1) := by decide +kernel
theorem dX4_crash_75 : decode cX4_crash 75 = .ok (.iaload, 1) := by decide +kernel
theorem dX4_crash_76 : decode cX4_crash 76 = .ok (.isub, 1) := by decide +kernel
theorem dX4_crash_77 : decode cX4_crash 77 = .ok (.istore_n 3, 1) := by decide +kernel
theorem dX4_crash_78 : decode cX4_crash 78 = .ok (.aload_n 0, 1) := by decide +kernel
theorem dX4_crash_79 : decode cX4_crash 79 = .ok (.getfield 22, 3) := by decide +kernel
theorem dX4_crash_82 : decode cX4_crash 82 = .ok (.iload_n 1, 1) := by decide +kernel
theorem dX4_crash_83 : decode cX4_crash 83 = .ok (.iaload, 1) := by decide +kernel
theorem dX4_crash_84 : decode cX4_crash 84 = .ok (.istore 4, 2) := by decide +kernel
theorem dX4_crash_86 : decode cX4_crash 86 = .ok (.iload 4, 2) := by decide +kernel
theorem dX4_crash_88 : decode cX4_crash 88 = .ok (.aload_n 0, 1) := by decide +kernel
theorem dX4_crash_89 : decode cX4_crash 89 = .ok (.getfield 22, 3) := by decide +kernel
theorem dX4_crash_92 : decode cX4_crash 92 = .ok (.iload_n 1, 1) := by decide +kernel
theorem dX4_crash_93 : decode cX4_crash 93 = .ok (.iaload, 1) := by decide +kernel
theorem dX4_crash_94 : decode cX4_crash 94 = .ok (.iload_n 3, 1) := by decide +kernel
theorem dX4_crash_95 : decode cX4_crash 95 = .ok (.iadd, 1) := by decide +kernel
theorem dX4_crash_96 : decode cX4_crash 96 = .ok (.if_icmp .ge 31, 3) := by decide +kernel
theorem dX4_crash_99 : decode cX4_crash 99 = .ok (.aload_n 0, 1) := by decide +kernel
theorem dX4_crash_100 : decode cX4_crash 100 = .ok (.getfield 13, 3) := by decide +kernel
theorem dX4_crash_103 : decode cX4_crash 103 = .ok (.iload_n 1, 1) := by decide +kernel
theorem dX4_crash_104 : decode cX4_crash 104 = .ok (.iload 4, 2) := by decide +kernel
theorem dX4_crash_106 : decode cX4_crash 106 = .ok (.invokestatic 73, 3) := by decide +kernel
theorem dX4_crash_109 : decode cX4_crash 109 = .ok (.aload_n 0, 1) := by decide +kernel
theorem dX4_crash_110 : decode cX4_crash 110 = .ok (.getfield 7, 3) := by decide +kernel
theorem dX4_crash_113 : decode cX4_crash 113 = .ok (.iload_n 1, 1) := by decide +kernel
theorem dX4_crash_114 : decode cX4_crash 114 = .ok (.iload 4, 2) := by decide +kernel
theorem dX4_crash_116 : decode cX4_crash 116 = .ok (.invokestatic 73, 3) := by decide +kernel
theorem dX4_crash_119 : decode cX4_crash 119 = .ok (.iaload, 1) := by decide +kernel
theorem dX4_crash_120 : decode cX4_crash 120 = .ok (.iastore, 1) := by decide +kernel
theorem dX4_crash_121 : decode cX4_crash 121 = .ok (.iinc 4 1, 3) := by decide +kernel
theorem dX4_crash_124 : decode cX4_crash 124 = .ok (.goto (-38), 3) := by decide +kernel
theorem dX4_crash_127 : decode cX4_crash 127 = .ok (.aload_n 0, 1) := by decide +kernel
theorem dX4_crash_128 : decode cX4_crash 128 = .ok (.iload_n 1, 1) := by decide +kernel
theorem dX4_crash_129 : decode cX4_crash 129 = .ok (.invokevirtual 113, 3) := by decide +kernel
theorem dX4_crash_132 : decode cX4_crash 132 = .ok (.aload_n 0, 1) := by decide +kernel
theorem dX4_crash_133 : decode cX4_crash 133 = .ok (.getfield 16, 3) := by decide +kernel
theorem dX4_crash_136 : decode cX4_crash 136 = .ok (.iload_n 1, 1) := by decide +kernel
theorem dX4_crash_137 : decode cX4_crash 137 = .ok (.iconst 0, 1) := by decide +kernel
theorem dX4_crash_138 : decode cX4_crash 138 = .ok (.iastore, 1) := by decide +kernel
theorem dX4_crash_139 : decode cX4_crash 139 = .ok (.iload_n 3, 1) := by decide +kernel
theorem dX4_crash_140 : decode cX4_crash 140 = .ok (.ireturn, 1) := by decide +kernel
theorem dX4_isFull_0 : decode cX4_isFull 0 = .ok (.aload_n 0, 1) := by decide +kernel
theorem dX4_isFull_1 : decode cX4_isFull 1 = .ok (.getfield 19, 3) := by decide +kernel
theorem dX4_isFull_4 : decode cX4_isFull 4 = .ok (.iload_n 1, 1) := by decide +kernel
theorem dX4_isFull_5 : decode cX4_isFull 5 = .ok (.iaload, 1) := by decide +kernel
theorem dX4_isFull_6 : decode cX4_isFull 6 = .ok (.bipush 16, 2) := by decide +kernel
theorem dX4_isFull_8 : decode cX4_isFull 8 = .ok (.iadd, 1) := by decide +kernel
theorem dX4_isFull_9 : decode cX4_isFull 9 = .ok (.sipush 4096, 3) := by decide +kernel
theorem dX4_isFull_12 : decode cX4_isFull 12 = .ok (.if_icmp .le 7, 3) := by decide +kernel
theorem dX4_isFull_15 : decode cX4_isFull 15 = .ok (.iconst 1, 1) := by decide +kernel
theorem dX4_isFull_16 : decode cX4_isFull 16 = .ok (.goto 4, 3) := by decide +kernel
theorem dX4_isFull_19 : decode cX4_isFull 19 = .ok (.iconst 0, 1) := by decide +kernel
theorem dX4_isFull_20 : decode cX4_isFull 20 = .ok (.ireturn, 1) := by decide +kernel
set_option maxRecDepth 20000 in
theorem ggX4_promote_X4_isNode : GoodIn wsX4_promote wsX4_isNode := goodIn_r _ [9, 10, 11, 8, 12] (by decide +kernel) (by decide +kernel)
set_option maxRecDepth 20000 in
theorem gX4_promote_X4_isNode : GoodIn wsX4_promote (va_wsS RX4 101 yX4_isNode wsX4_isNode) := goodIn_app (goodIn_of _ (by decide +kernel)) ggX4_promote_X4_isNode
set_option maxRecDepth 20000 in
theorem ggX4_promote_X4_fail : GoodIn wsX4_promote wsX4_fail := goodIn_r _ [16, 1, 61, 62, 63, 64, 65, 66, 67, 68, 69, 70, 71, 72, 73, 74, 75, 76, 77, 78, 79, 80, 81] (by decide +kernel) (by decide +kernel)
set_option maxRecDepth 20000 in
theorem gX4_promote_X4_fail : GoodIn wsX4_promote (wsV RX4 105 RX4 yX4_fail wsX4_fail) := goodIn_app (goodIn_of _ (by decide +kernel)) ggX4_promote_X4_fail
set_option maxRecDepth 20000 in
theorem ggX4_promote_X4_isFull : GoodIn wsX4_promote wsX4_isFull := goodIn_r _ [20, 5, 61, 62, 63, 64, 65, 66, 67, 68, 69, 70, 71, 72, 73, 74, 75, 76, 77, 78, 79, 80, 81] (by decide +kernel) (by decide +kernel)
set_option maxRecDepth 20000 in
theorem gX4_promote_X4_isFull : GoodIn wsX4_promote (wsV RX4 116 RX4 yX4_isFull wsX4_isFull) := goodIn_app (goodIn_of _ (by decide +kernel)) ggX4_promote_X4_isFull
set_option maxRecDepth 20000 in
theorem ggX4_promote_X4_leave : GoodIn wsX4_promote wsX4_leave := goodIn_r _ [24, 2, 25, 26, 27, 28, 29, 30, 8, 31, 32, 61, 62, 63, 64, 65, 66, 67, 68, 69, 70, 71, 72, 73, 74, 75, 76, 77, 78, 79, 80, 81] (by decide +kernel) (by decide +kernel)
set_option maxRecDepth 20000 in
theorem gX4_promote_X4_leave : GoodIn wsX4_promote (wsV RX4 113 RX4 yX4_leave wsX4_leave) := goodIn_app (goodIn_of _ (by decide +kernel)) ggX4_promote_X4_leave
set_option maxRecDepth 20000 in
theorem ggX4_promote_X4_write : GoodIn wsX4_promote wsX4_write := goodIn_r _ [36, 5, 3, 37, 38, 39, 40, 41, 8, 42, 43, 44, 45, 46, 47, 48, 49, 50, 51, 52, 53, 54, 61, 62, 63, 64, 65, 66, 67, 68, 69, 70, 71, 72, 73, 74, 75, 76, 77, 78, 79, 80, 81] (by decide +kernel) (by decide +kernel)
set_option maxRecDepth 20000 in
theorem gX4_promote_X4_write : GoodIn wsX4_promote (wsV RX4 119 RX4 yX4_write wsX4_write) := goodIn_app (goodIn_of _ (by decide +kernel)) ggX4_promote_X4_write
set_option maxRecDepth 20000 in
theorem ggX4_promote_X4_sync : GoodIn wsX4_promote wsX4_sync := goodIn_r _ [58, 59, 5, 60, 37, 43, 44, 8, 45, 61, 62, 63, 64, 65, 66, 67, 68, 69, 70, 71, 72, 73, 74, 75, 76, 77, 78, 79, 80, 81] (by decide +kernel) (by decide +kernel)
set_option maxRecDepth 20000 in
theorem gX4_promote_X4_sync : GoodIn wsX4_promote (wsV RX4 123 RX4 yX4_sync wsX4_sync) := goodIn_app (goodIn_of _ (by decide +kernel)) ggX4_promote_X4_sync
theorem dX4_promote_0 : decode cX4_promote 0 = .ok (.aload_n 0, 1) := by decide +kernel
theorem dX4_promote_1 : decode cX4_promote 1 = .ok (.iconst 0, 1) := by decide +kernel
theorem dX4_promote_2 : decode cX4_promote 2 = .ok (.putfield 65, 3) := by decide +kernel
theorem dX4_promote_5 : decode cX4_promote 5 = .ok (.iload_n 1, 1) := by decide +kernel
theorem dX4_promote_6 : decode cX4_promote 6 = .ok (.invokestatic 101, 3) := by decide +kernel
theorem dX4_promote_9 : decode cX4_promote 9 = .ok (.ifCond .ne 9, 3) := by decide +kernel
theorem dX4_promote_12 : decode cX4_promote 12 = .ok (.aload_n 0, 1) := by decide +kernel
theorem dX4_promote_13 : decode cX4_promote 13 = .ok (.iconst 1, 1) := by decide +kernel
theorem dX4_promote_14 : decode cX4_promote 14 = .ok (.invokevirtual 105, 3) := by decide +kernel
theorem dX4_promote_17 : decode cX4_promote 17 = .ok (.ireturn, 1) := by decide +kernel
theorem dX4_promote_18 : decode cX4_promote 18 = .ok (.aload_n 0, 1) := by decide +kernel
theorem dX4_promote_19 : decode cX4_promote 19 = .ok (.getfield 16, 3) := by decide +kernel
theorem dX4_promote_22 : decode cX4_promote 22 = .ok (.iload_n 1, 1) := by decide +kernel
theorem dX4_promote_23 : decode cX4_promote 23 = .ok (.iaload, 1) := by decide +kernel
theorem dX4_promote_24 : decode cX4_promote 24 = .ok (.ifCond .eq 13, 3) := by decide +kernel
theorem dX4_promote_27 : decode cX4_promote 27 = .ok (.aload_n 0, 1) := by decide +kernel
theorem dX4_promote_28 : decode cX4_promote 28 = .ok (.getfield 16, 3) := by decide +kernel
theorem dX4_promote_31 : decode cX4_promote 31 = .ok (.iload_n 1, 1) := by decide +kernel
theorem dX4_promote_32 : decode cX4_promote 32 = .ok (.iaload, 1) := by decide +kernel
theorem dX4_promote_33 : decode cX4_promote 33 = .ok (.iconst 2, 1) := by decide +kernel
theorem dX4_promote_34 : decode cX4_promote 34 = .ok (.if_icmp .ne 9, 3) := by decide +kernel
theorem dX4_promote_37 : decode cX4_promote 37 = .ok (.aload_n 0, 1) := by decide +kernel
theorem dX4_promote_38 : decode cX4_promote 38 = .ok (.iconst 2, 1) := by decide +kernel
theorem dX4_promote_39 : decode cX4_promote 39 = .ok (.invokevirtual 105, 3) := by decide +kernel
theorem dX4_promote_42 : decode cX4_promote 42 = .ok (.ireturn, 1) := by decide +kernel
theorem dX4_promote_43 : decode cX4_promote 43 = .ok (.aload_n 0, 1) := by decide +kernel
theorem dX4_promote_44 : decode cX4_promote 44 = .ok (.iload_n 1, 1) := by decide +kernel
theorem dX4_promote_45 : decode cX4_promote 45 = .ok (.invokevirtual 116, 3) := by decide +kernel
theorem dX4_promote_48 : decode cX4_promote 48 = .ok (.ifCond .ne 13, 3) := by decide +kernel
theorem dX4_promote_51 : decode cX4_promote 51 = .ok (.aload_n 0, 1) := by decide +kernel
theorem dX4_promote_52 : decode cX4_promote 52 = .ok (.getfield 90, 3) := by decide +kernel
theorem dX4_promote_55 : decode cX4_promote 55 = .ok (.sipush 255, 3) := by decide +kernel
theorem dX4_promote_58 : decode cX4_promote 58 = .ok (.if_icmp .ne 9, 3) := by decide +kernel
theorem dX4_promote_61 : decode cX4_promote 61 = .ok (.aload_n 0, 1) := by decide +kernel
theorem dX4_promote_62 : decode cX4_promote 62 = .ok (.iconst 3, 1) := by decide +kernel
theorem dX4_promote_63 : decode cX4_promote 63 = .ok (.invokevirtual 105, 3) := by decide +kernel
theorem dX4_promote_66 : decode cX4_promote 66 = .ok (.ireturn, 1) := by decide +kernel
theorem dX4_promote_67 : decode cX4_promote 67 = .ok (.aload_n 0, 1) := by decide +kernel
theorem dX4_promote_68 : decode cX4_promote 68 = .ok (.iload_n 1, 1) := by decide +kernel
theorem dX4_promote_69 : decode cX4_promote 69 = .ok (.invokevirtual 113, 3) := by decide +kernel
theorem dX4_promote_72 : decode cX4_promote 72 = .ok (.aload_n 0, 1) := by decide +kernel
theorem dX4_promote_73 : decode cX4_promote 73 = .ok (.dup, 1) := by decide +kernel
theorem dX4_promote_74 : decode cX4_promote 74 = .ok (.getfield 90, 3) := by decide +kernel
theorem dX4_promote_77 : decode cX4_promote 77 = .ok (.iconst 1, 1) := by decide +kernel
theorem dX4_promote_78 : decode cX4_promote 78 = .ok (.iadd, 1) := by decide +kernel
theorem dX4_promote_79 : decode cX4_promote 79 = .ok (.putfield 90, 3) := by decide +kernel
theorem dX4_promote_82 : decode cX4_promote 82 = .ok (.aload_n 0, 1) := by decide +kernel
theorem dX4_promote_83 : decode cX4_promote 83 = .ok (.iload_n 1, 1) := by decide +kernel
theorem dX4_promote_84 : decode cX4_promote 84 = .ok (.iconst 3, 1) := by decide +kernel
theorem dX4_promote_85 : decode cX4_promote 85 = .ok (.iconst 0, 1) := by decide +kernel
theorem dX4_promote_86 : decode cX4_promote 86 = .ok (.iconst 0, 1) := by decide +kernel
theorem dX4_promote_87 : decode cX4_promote 87 = .ok (.invokevirtual 119, 3) := by decide +kernel
theorem dX4_promote_90 : decode cX4_promote 90 = .ok (.aload_n 0, 1) := by decide +kernel
theorem dX4_promote_91 : decode cX4_promote 91 = .ok (.iload_n 1, 1) := by decide +kernel
theorem dX4_promote_92 : decode cX4_promote 92 = .ok (.invokevirtual 123, 3) := by decide +kernel
theorem dX4_promote_95 : decode cX4_promote 95 = .ok (.aload_n 0, 1) := by decide +kernel
theorem dX4_promote_96 : decode cX4_promote 96 = .ok (.getfield 16, 3) := by decide +kernel
theorem dX4_promote_99 : decode cX4_promote 99 = .ok (.iload_n 1, 1) := by decide +kernel
theorem dX4_promote_100 : decode cX4_promote 100 = .ok (.iconst 2, 1) := by decide +kernel
theorem dX4_promote_101 : decode cX4_promote 101 = .ok (.iastore, 1) := by decide +kernel
theorem dX4_promote_102 : decode cX4_promote 102 = .ok (.aload_n 0, 1) := by decide +kernel
theorem dX4_promote_103 : decode cX4_promote 103 = .ok (.getfield 37, 3) := by decide +kernel
theorem dX4_promote_106 : decode cX4_promote 106 = .ok (.iload_n 1, 1) := by decide +kernel
theorem dX4_promote_107 : decode cX4_promote 107 = .ok (.aload_n 0, 1) := by decide +kernel
theorem dX4_promote_108 : decode cX4_promote 108 = .ok (.getfield 19, 3) := by decide +kernel
theorem dX4_promote_111 : decode cX4_promote 111 = .ok (.iload_n 1, 1) := by decide +kernel
theorem dX4_promote_112 : decode cX4_promote 112 = .ok (.iaload, 1) := by decide +kernel
theorem dX4_promote_113 : decode cX4_promote 113 = .ok (.iastore, 1) := by decide +kernel
theorem dX4_promote_114 : decode cX4_promote 114 = .ok (.aload_n 0, 1) := by decide +kernel
theorem dX4_promote_115 : decode cX4_promote 115 = .ok (.getfield 90, 3) := by decide +kernel
theorem dX4_promote_118 : decode cX4_promote 118 = .ok (.ireturn, 1) := by decide +kernel
set_option maxRecDepth 20000 in
theorem ggX4_common_X4_at : GoodIn wsX4_common wsX4_at := goodIn_r _ [6] (by decide +kernel) (by decide +kernel)
set_option maxRecDepth 20000 in
theorem gX4_common_X4_at : GoodIn wsX4_common (va_wsS RX4 73 yX4_at wsX4_at) := goodIn_app (goodIn_of _ (by decide +kernel)) ggX4_common_X4_at
theorem dX4_common_0 : decode cX4_common 0 = .ok (.iconst 0, 1) := by decide +kernel
theorem dX4_common_1 : decode cX4_common 1 = .ok (.istore_n 3, 1) := by decide +kernel
theorem dX4_common_2 : decode cX4_common 2 = .ok (.iconst 1, 1) := by decide +kernel
theorem dX4_common_3 : decode cX4_common 3 = .ok (.istore 4, 2) := by decide +kernel
theorem dX4_common_5 : decode cX4_common 5 = .ok (.iload 4, 2) := by decide +kernel
theorem dX4_common_7 : decode cX4_common 7 = .ok (.ifCond .eq 91, 3) := by decide +kernel
theorem dX4_common_10 : decode cX4_common 10 = .ok (.iload_n 3, 1) := by decide +kernel
theorem dX4_common_11 : decode cX4_common 11 = .ok (.aload_n 0, 1) := by decide +kernel
theorem dX4_common_12 : decode cX4_common 12 = .ok (.getfield 19, 3) := by decide +kernel
theorem dX4_common_15 : decode cX4_common 15 = .ok (.iload_n 1, 1) := by decide +kernel
theorem dX4_common_16 : decode cX4_common 16 = .ok (.iaload, 1) := by decide +kernel
theorem dX4_common_17 : decode cX4_common 17 = .ok (.if_icmp .ge 81, 3) := by decide +kernel
theorem dX4_common_20 : decode cX4_common 20 = .ok (.iload_n 3, 1) := by decide +kernel
theorem dX4_common_21 : decode cX4_common 21 = .ok (.aload_n 0, 1) := by decide +kernel
theorem dX4_common_22 : decode cX4_common 22 = .ok (.getfield 19, 3) := by decide +kernel
theorem dX4_common_25 : decode cX4_common 25 = .ok (.iload_n 2, 1) := by decide +kernel
theorem dX4_common_26 : decode cX4_common 26 = .ok (.iaload, 1) := by decide +kernel
theorem dX4_common_27 : decode cX4_common 27 = .ok (.if_icmp .ge 71, 3) := by decide +kernel
theorem dX4_common_30 : decode cX4_common 30 = .ok (.iconst 0, 1) := by decide +kernel
theorem dX4_common_31 : decode cX4_common 31 = .ok (.istore 5, 2) := by decide +kernel
theorem dX4_common_33 : decode cX4_common 33 = .ok (.iload 5, 2) := by decide +kernel
theorem dX4_common_35 : decode cX4_common 35 = .ok (.bipush 16, 2) := by decide +kernel
theorem dX4_common_37 : decode cX4_common 37 = .ok (.if_icmp .ge 50, 3) := by decide +kernel
theorem dX4_common_40 : decode cX4_common 40 = .ok (.iload 4, 2) := by decide +kernel
theorem dX4_common_42 : decode cX4_common 42 = .ok (.ifCond .eq 36, 3) := by decide +kernel
theorem dX4_common_45 : decode cX4_common 45 = .ok (.aload_n 0, 1) := by decide +kernel
theorem dX4_common_46 : decode cX4_common 46 = .ok (.getfield 7, 3) := by decide +kernel
theorem dX4_common_49 : decode cX4_common 49 = .ok (.iload_n 1, 1) := by decide +kernel
theorem dX4_common_50 : decode cX4_common 50 = .ok (.iload_n 3, 1) := by decide +kernel
theorem dX4_common_51 : decode cX4_common 51 = .ok (.iload 5, 2) := by decide +kernel
theorem dX4_common_53 : decode cX4_common 53 = .ok (.iadd, 1) := by decide +kernel
theorem dX4_common_54 : decode cX4_common 54 = .ok (.invokestatic 73, 3) := by decide +kernel
theorem dX4_common_57 : decode cX4_common 57 = .ok (.iaload, 1) := by decide +kernel
theorem dX4_common_58 : decode cX4_common 58 = .ok (.aload_n 0, 1) := by decide +kernel
theorem dX4_common_59 : decode cX4_common 59 = .ok (.getfield 7, 3) := by decide +kernel
theorem dX4_common_62 : decode cX4_common 62 = .ok (.iload_n 2, 1) := by decide +kernel
theorem dX4_common_63 : decode cX4_common 63 = .ok (.iload_n 3, 1) := by decide +kernel
theorem dX4_common_64 : decode cX4_common 64 = .ok (.iload 5, 2) := by decide +kernel
theorem dX4_common_66 : decode cX4_common 66 = .ok (.iadd, 1) := by decide +kernel
theorem dX4_common_67 : decode cX4_common 67 = .ok (.invokestatic 73, 3) := by decide +kernel
theorem dX4_common_70 : decode cX4_common 70 = .ok (.iaload, 1) := by decide +kernel
theorem dX4_common_71 : decode cX4_common 71 = .ok (.if_icmp .ne 7, 3) := by decide +kernel
theorem dX4_common_74 : decode cX4_common 74 = .ok (.iconst 1, 1) := by decide +kernel
theorem dX4_common_75 : decode cX4_common 75 = .ok (.goto 4, 3) := by decide +kernel
theorem dX4_common_78 : decode cX4_common 78 = .ok (.iconst 0, 1) := by decide +kernel
theorem dX4_common_79 : decode cX4_common 79 = .ok (.istore 4, 2) := by decide +kernel
theorem dX4_common_81 : decode cX4_common 81 = .ok (.iinc 5 1, 3) := by decide +kernel
theorem dX4_common_84 : decode cX4_common 84 = .ok (.goto (-51), 3) := by decide +kernel
theorem dX4_common_87 : decode cX4_common 87 = .ok (.iload 4, 2) := by decide +kernel
theorem dX4_common_89 : decode cX4_common 89 = .ok (.ifCond .eq (-84), 3) := by decide +kernel
theorem dX4_common_92 : decode cX4_common 92 = .ok (.iinc 3 16, 3) := by decide +kernel
theorem dX4_common_95 : decode cX4_common 95 = .ok (.goto (-90), 3) := by decide +kernel
theorem dX4_common_98 : decode cX4_common 98 = .ok (.iload_n 3, 1) := by decide +kernel
theorem dX4_common_99 : decode cX4_common 99 = .ok (.ireturn, 1) := by decide +kernel
set_option maxRecDepth 20000 in
theorem ggX4_attach_X4_leave : GoodIn wsX4_attach wsX4_leave := goodIn_r _ [9, 1, 2, 10, 11, 12, 13, 14, 8, 15, 16, 17, 18, 19, 20, 21, 22, 23, 24, 25, 26, 27, 28, 29, 30, 31, 32, 33, 34, 35, 36, 37] (by decide +kernel) (by decide +kernel)
set_option maxRecDepth 20000 in
theorem gX4_attach_X4_leave : GoodIn wsX4_attach (wsV RX4 113 RX4 yX4_leave wsX4_leave) := goodIn_app (goodIn_of _ (by decide +kernel)) ggX4_attach_X4_leave
theorem dX4_attach_0 : decode cX4_attach 0 = .ok (.aload_n 0, 1) := by decide +kernel
theorem dX4_attach_1 : decode cX4_attach 1 = .ok (.iload_n 1, 1) := by decide +kernel
theorem dX4_attach_2 : decode cX4_attach 2 = .ok (.invokevirtual 113, 3) := by decide +kernel
theorem dX4_attach_5 : decode cX4_attach 5 = .ok (.aload_n 0, 1) := by decide +kernel
theorem dX4_attach_6 : decode cX4_attach 6 = .ok (.getfield 16, 3) := by decide +kernel
theorem dX4_attach_9 : decode cX4_attach 9 = .ok (.iload_n 1, 1) := by decide +kernel
theorem dX4_attach_10 : decode cX4_attach 10 = .ok (.iconst 3, 1) := by decide +kernel
theorem dX4_attach_11 : decode cX4_attach 11 = .ok (.iastore, 1) := by decide +kernel
theorem dX4_attach_12 : decode cX4_attach 12 = .ok (.aload_n 0, 1) := by decide +kernel
theorem dX4_attach_13 : decode cX4_attach 13 = .ok (.getfield 28, 3) := by decide +kernel
theorem dX4_attach_16 : decode cX4_attach 16 = .ok (.iload_n 1, 1) := by decide +kernel
theorem dX4_attach_17 : decode cX4_attach 17 = .ok (.iload_n 2, 1) := by decide +kernel
theorem dX4_attach_18 : decode cX4_attach 18 = .ok (.iastore, 1) := by decide +kernel
theorem dX4_attach_19 : decode cX4_attach 19 = .ok (.aload_n 0, 1) := by decide +kernel
theorem dX4_attach_20 : decode cX4_attach 20 = .ok (.getfield 40, 3) := by decide +kernel
theorem dX4_attach_23 : decode cX4_attach 23 = .ok (.iconst 4, 1) := by decide +kernel
theorem dX4_attach_24 : decode cX4_attach 24 = .ok (.iload_n 2, 1) := by decide +kernel
theorem dX4_attach_25 : decode cX4_attach 25 = .ok (.imul, 1) := by decide +kernel
theorem dX4_attach_26 : decode cX4_attach 26 = .ok (.iload_n 1, 1) := by decide +kernel
theorem dX4_attach_27 : decode cX4_attach 27 = .ok (.iadd, 1) := by decide +kernel
theorem dX4_attach_28 : decode cX4_attach 28 = .ok (.aload_n 0, 1) := by decide +kernel
theorem dX4_attach_29 : decode cX4_attach 29 = .ok (.getfield 19, 3) := by decide +kernel
theorem dX4_attach_32 : decode cX4_attach 32 = .ok (.iload_n 1, 1) := by decide +kernel
theorem dX4_attach_33 : decode cX4_attach 33 = .ok (.iaload, 1) := by decide +kernel
theorem dX4_attach_34 : decode cX4_attach 34 = .ok (.iastore, 1) := by decide +kernel
theorem dX4_attach_35 : decode cX4_attach 35 = .ok (.return_, 1) := by decide +kernel
set_option maxRecDepth 20000 in
theorem ggX4_follow_X4_isNode : GoodIn wsX4_follow wsX4_isNode := goodIn_r _ [7, 8, 9, 6, 10] (by decide +kernel) (by decide +kernel)
set_option maxRecDepth 20000 in
theorem gX4_follow_X4_isNode : GoodIn wsX4_follow (va_wsS RX4 101 yX4_isNode wsX4_isNode) := goodIn_app (goodIn_of _ (by decide +kernel)) ggX4_follow_X4_isNode
set_option maxRecDepth 20000 in
theorem ggX4_follow_X4_common : GoodIn wsX4_follow wsX4_common := goodIn_r _ [14, 2, 15, 16, 17, 6, 18, 36, 37, 38, 39, 40, 41, 42, 43, 44, 45, 46, 47, 48, 49, 50, 51, 52, 53, 54, 55, 56] (by decide +kernel) (by decide +kernel)
set_option maxRecDepth 20000 in
theorem gX4_follow_X4_common : GoodIn wsX4_follow (wsV RX4 126 RX4 yX4_common wsX4_common) := goodIn_app (goodIn_of _ (by decide +kernel)) ggX4_follow_X4_common
set_option maxRecDepth 20000 in
theorem ggX4_follow_X4_attach : GoodIn wsX4_follow wsX4_attach := goodIn_r _ [22, 1, 23, 24, 2, 25, 26, 27, 6, 28, 29, 30, 31, 32, 33, 34, 35, 36, 37, 38, 39, 40, 41, 42, 43, 44, 45, 46, 47, 48, 49, 50, 51, 52, 53, 54, 55, 56] (by decide +kernel) (by decide +kernel)
set_option maxRecDepth 20000 in
theorem gX4_follow_X4_attach : GoodIn wsX4_follow (wsV RX4 129 RX4 yX4_attach wsX4_attach) := goodIn_app (goodIn_of _ (by decide +kernel)) ggX4_follow_X4_attach
theorem dX4_follow_0 : decode cX4_follow 0 = .ok (.aload_n 0, 1) := by decide +kernel
theorem dX4_follow_1 : decode cX4_follow 1 = .ok (.iload_n 1, 1) := by decide +kernel
theorem dX4_follow_2 : decode cX4_follow 2 = .ok (.invokestatic 101, 3) := by decide +kernel
theorem dX4_follow_5 : decode cX4_follow 5 = .ok (.ifCond .eq 10, 3) := by decide +kernel
theorem dX4_follow_8 : decode cX4_follow 8 = .ok (.iload_n 2, 1) := by decide +kernel
theorem dX4_follow_9 : decode cX4_follow 9 = .ok (.invokestatic 101, 3) := by decide +kernel
theorem dX4_follow_12 : decode cX4_follow 12 = .ok (.ifCond .ne 7, 3) := by decide +kernel
theorem dX4_follow_15 : decode cX4_follow 15 = .ok (.iconst 1, 1) := by decide +kernel
theorem dX4_follow_16 : decode cX4_follow 16 = .ok (.goto 56, 3) := by decide +kernel
theorem dX4_follow_19 : decode cX4_follow 19 = .ok (.aload_n 0, 1) := by decide +kernel
theorem dX4_follow_20 : decode cX4_follow 20 = .ok (.getfield 16, 3) := by decide +kernel
theorem dX4_follow_23 : decode cX4_follow 23 = .ok (.iload_n 1, 1) := by decide +kernel
theorem dX4_follow_24 : decode cX4_follow 24 = .ok (.iaload, 1) := by decide +kernel
theorem dX4_follow_25 : decode cX4_follow 25 = .ok (.ifCond .eq 23, 3) := by decide +kernel
theorem dX4_follow_28 : decode cX4_follow 28 = .ok (.aload_n 0, 1) := by decide +kernel
theorem dX4_follow_29 : decode cX4_follow 29 = .ok (.getfield 16, 3) := by decide +kernel
theorem dX4_follow_32 : decode cX4_follow 32 = .ok (.iload_n 1, 1) := by decide +kernel
theorem dX4_follow_33 : decode cX4_follow 33 = .ok (.iaload, 1) := by decide +kernel
theorem dX4_follow_34 : decode cX4_follow 34 = .ok (.iconst 2, 1) := by decide +kernel
theorem dX4_follow_35 : decode cX4_follow 35 = .ok (.if_icmp .eq 13, 3) := by decide +kernel
theorem dX4_follow_38 : decode cX4_follow 38 = .ok (.aload_n 0, 1) := by decide +kernel
theorem dX4_follow_39 : decode cX4_follow 39 = .ok (.getfield 16, 3) := by decide +kernel
theorem dX4_follow_42 : decode cX4_follow 42 = .ok (.iload_n 2, 1) := by decide +kernel
theorem dX4_follow_43 : decode cX4_follow 43 = .ok (.iaload, 1) := by decide +kernel
theorem dX4_follow_44 : decode cX4_follow 44 = .ok (.iconst 2, 1) := by decide +kernel
theorem dX4_follow_45 : decode cX4_follow 45 = .ok (.if_icmp .eq 7, 3) := by decide +kernel
theorem dX4_follow_48 : decode cX4_follow 48 = .ok (.iconst 2, 1) := by decide +kernel
theorem dX4_follow_49 : decode cX4_follow 49 = .ok (.goto 23, 3) := by decide +kernel
theorem dX4_follow_52 : decode cX4_follow 52 = .ok (.aload_n 0, 1) := by decide +kernel
theorem dX4_follow_53 : decode cX4_follow 53 = .ok (.iload_n 1, 1) := by decide +kernel
theorem dX4_follow_54 : decode cX4_follow 54 = .ok (.iload_n 2, 1) := by decide +kernel
theorem dX4_follow_55 : decode cX4_follow 55 = .ok (.invokevirtual 126, 3) := by decide +kernel
theorem dX4_follow_58 : decode cX4_follow 58 = .ok (.aload_n 0, 1) := by decide +kernel
theorem dX4_follow_59 : decode cX4_follow 59 = .ok (.getfield 19, 3) := by decide +kernel
theorem dX4_follow_62 : decode cX4_follow 62 = .ok (.iload_n 1, 1) := by decide +kernel
theorem dX4_follow_63 : decode cX4_follow 63 = .ok (.iaload, 1) := by decide +kernel
theorem dX4_follow_64 : decode cX4_follow 64 = .ok (.if_icmp .ge 7, 3) := by decide +kernel
theorem dX4_follow_67 : decode cX4_follow 67 = .ok (.iconst 3, 1) := by decide +kernel
theorem dX4_follow_68 : decode cX4_follow 68 = .ok (.goto 4, 3) := by decide +kernel
theorem dX4_follow_71 : decode cX4_follow 71 = .ok (.iconst 0, 1) := by decide +kernel
theorem dX4_follow_72 : decode cX4_follow 72 = .ok (.putfield 65, 3) := by decide +kernel
theorem dX4_follow_75 : decode cX4_follow 75 = .ok (.aload_n 0, 1) := by decide +kernel
theorem dX4_follow_76 : decode cX4_follow 76 = .ok (.getfield 65, 3) := by decide +kernel
theorem dX4_follow_79 : decode cX4_follow 79 = .ok (.ifCond .ne 9, 3) := by decide +kernel
theorem dX4_follow_82 : decode cX4_follow 82 = .ok (.aload_n 0, 1) := by decide +kernel
theorem dX4_follow_83 : decode cX4_follow 83 = .ok (.iload_n 1, 1) := by decide +kernel
theorem dX4_follow_84 : decode cX4_follow 84 = .ok (.iload_n 2, 1) := by decide +kernel
theorem dX4_follow_85 : decode cX4_follow 85 = .ok (.invokevirtual 129, 3) := by decide +kernel
theorem dX4_follow_88 : decode cX4_follow 88 = .ok (.return_, 1) := by decide +kernel
set_option maxRecDepth 20000 in
theorem ggX4_rewind_X4_isNode : GoodIn wsX4_rewind wsX4_isNode := goodIn_r _ [11, 12, 13, 10, 14] (by decide +kernel) (by decide +kernel)
set_option maxRecDepth 20000 in
theorem gX4_rewind_X4_isNode : GoodIn wsX4_rewind (va_wsS RX4 101 yX4_isNode wsX4_isNode) := goodIn_app (goodIn_of _ (by decide +kernel)) ggX4_rewind_X4_isNode
set_option maxRecDepth 20000 in
theorem ggX4_rewind_X4_fail : GoodIn wsX4_rewind wsX4_fail := goodIn_r _ [18, 1, 47, 48, 49, 50, 51, 52, 53, 54, 55, 56, 57, 58, 59, 60, 61, 62, 63, 64, 65, 66, 67] (by decide +kernel) (by decide +kernel)
set_option maxRecDepth 20000 in
theorem gX4_rewind_X4_fail : GoodIn wsX4_rewind (wsV RX4 105 RX4 yX4_fail wsX4_fail) := goodIn_app (goodIn_of _ (by decide +kernel)) ggX4_rewind_X4_fail
set_option maxRecDepth 20000 in
theorem ggX4_rewind_X4_common : GoodIn wsX4_rewind wsX4_common := goodIn_r _ [22, 3, 5, 23, 24, 10, 25, 47, 48, 49, 50, 51, 52, 53, 54, 55, 56, 57, 58, 59, 60, 61, 62, 63, 64, 65, 66, 67] (by decide +kernel) (by decide +kernel)
set_option maxRecDepth 20000 in
theorem gX4_rewind_X4_common : GoodIn wsX4_rewind (wsV RX4 126 RX4 yX4_common wsX4_common) := goodIn_app (goodIn_of _ (by decide +kernel)) ggX4_rewind_X4_common
set_option maxRecDepth 20000 in
theorem ggX4_rewind_X4_sync : GoodIn wsX4_rewind wsX4_sync := goodIn_r _ [29, 4, 3, 6, 5, 23, 24, 10, 25, 47, 48, 49, 50, 51, 52, 53, 54, 55, 56, 57, 58, 59, 60, 61, 62, 63, 64, 65, 66, 67] (by decide +kernel) (by decide +kernel)
set_option maxRecDepth 20000 in
theorem gX4_rewind_X4_sync : GoodIn wsX4_rewind (wsV RX4 123 RX4 yX4_sync wsX4_sync) := goodIn_app (goodIn_of _ (by decide +kernel)) ggX4_rewind_X4_sync
set_option maxRecDepth 20000 in
theorem ggX4_rewind_X4_at : GoodIn wsX4_rewind wsX4_at := goodIn_r _ [25] (by decide +kernel) (by decide +kernel)
set_option maxRecDepth 20000 in
theorem gX4_rewind_X4_at : GoodIn wsX4_rewind (va_wsS RX4 73 yX4_at wsX4_at) := goodIn_app (goodIn_of _ (by decide +kernel)) ggX4_rewind_X4_at
set_option maxRecDepth 20000 in
theorem ggX4_rewind_X4_attach : GoodIn wsX4_rewind wsX4_attach := goodIn_r _ [33, 2, 34, 35, 3, 36, 37, 38, 10, 39, 40, 41, 42, 43, 44, 45, 46, 47, 48, 49, 50, 51, 52, 53, 54, 55, 56, 57, 58, 59, 60, 61, 62, 63, 64, 65, 66, 67] (by decide +kernel) (by decide +kernel)
set_option maxRecDepth 20000 in
theorem gX4_rewind_X4_attach : GoodIn wsX4_rewind (wsV RX4 129 RX4 yX4_attach wsX4_attach) := goodIn_app (goodIn_of _ (by decide +kernel)) ggX4_rewind_X4_attach
theorem dX4_rewind_0 : decode cX4_rewind 0 = .ok (.aload_n 0, 1) := by decide +kernel
theorem dX4_rewind_1 : decode cX4_rewind 1 = .ok (.iconst 0, 1) := by decide +kernel
theorem dX4_rewind_2 : decode cX4_rewind 2 = .ok (.putfield 65, 3) := by decide +kernel
theorem dX4_rewind_5 : decode cX4_rewind 5 = .ok (.iload_n 1, 1) := by decide +kernel
theorem dX4_rewind_6 : decode cX4_rewind 6 = .ok (.invokestatic 101, 3) := by decide +kernel
theorem dX4_rewind_9 : decode cX4_rewind 9 = .ok (.ifCond .eq 10, 3) := by decide +kernel
theorem dX4_rewind_12 : decode cX4_rewind 12 = .ok (.iload_n 2, 1) := by decide +kernel
theorem dX4_rewind_13 : decode cX4_rewind 13 = .ok (.invokestatic 101, 3) := by decide +kernel
theorem dX4_rewind_16 : decode cX4_rewind 16 = .ok (.ifCond .ne 9, 3) := by decide +kernel
theorem dX4_rewind_19 : decode cX4_rewind 19 = .ok (.aload_n 0, 1) := by decide +kernel
theorem dX4_rewind_20 : decode cX4_rewind 20 = .ok (.iconst 1, 1) := by decide +kernel
theorem dX4_rewind_21 : decode cX4_rewind 21 = .ok (.invokevirtual 105, 3) := by decide +kernel
theorem dX4_rewind_24 : decode cX4_rewind 24 = .ok (.ireturn, 1) := by decide +kernel
theorem dX4_rewind_25 : decode cX4_rewind 25 = .ok (.aload_n 0, 1) := by decide +kernel
theorem dX4_rewind_26 : decode cX4_rewind 26 = .ok (.getfield 16, 3) := by decide +kernel
theorem dX4_rewind_29 : decode cX4_rewind 29 = .ok (.iload_n 1, 1) := by decide +kernel
theorem dX4_rewind_30 : decode cX4_rewind 30 = .ok (.iaload, 1) := by decide +kernel
theorem dX4_rewind_31 : decode cX4_rewind 31 = .ok (.ifCond .eq 18, 3) := by decide +kernel
theorem dX4_rewind_34 : decode cX4_rewind 34 = .ok (.aload_n 0, 1) := by decide +kernel
theorem dX4_rewind_35 : decode cX4_rewind 35 = .ok (.getfield 16, 3) := by decide +kernel
theorem dX4_rewind_38 : decode cX4_rewind 38 = .ok (.iload_n 2, 1) := by decide +kernel
theorem dX4_rewind_39 : decode cX4_rewind 39 = .ok (.iaload, 1) := by decide +kernel
theorem dX4_rewind_40 : decode cX4_rewind 40 = .ok (.iconst 2, 1) := by decide +kernel
theorem dX4_rewind_41 : decode cX4_rewind 41 = .ok (.if_icmp .ne 8, 3) := by decide +kernel
theorem dX4_rewind_44 : decode cX4_rewind 44 = .ok (.iload_n 1, 1) := by decide +kernel
theorem dX4_rewind_45 : decode cX4_rewind 45 = .ok (.iload_n 2, 1) := by decide +kernel
theorem dX4_rewind_46 : decode cX4_rewind 46 = .ok (.if_icmp .ne 9, 3) := by decide +kernel
theorem dX4_rewind_49 : decode cX4_rewind 49 = .ok (.aload_n 0, 1) := by decide +kernel
theorem dX4_rewind_50 : decode cX4_rewind 50 = .ok (.iconst 2, 1) := by decide +kernel
theorem dX4_rewind_51 : decode cX4_rewind 51 = .ok (.invokevirtual 105, 3) := by decide +kernel
theorem dX4_rewind_54 : decode cX4_rewind 54 = .ok (.ireturn, 1) := by decide +kernel
theorem dX4_rewind_55 : decode cX4_rewind 55 = .ok (.aload_n 0, 1) := by decide +kernel
theorem dX4_rewind_56 : decode cX4_rewind 56 = .ok (.getfield 19, 3) := by decide +kernel
theorem dX4_rewind_59 : decode cX4_rewind 59 = .ok (.iload_n 1, 1) := by decide +kernel
theorem dX4_rewind_60 : decode cX4_rewind 60 = .ok (.iaload, 1) := by decide +kernel
theorem dX4_rewind_61 : decode cX4_rewind 61 = .ok (.istore_n 3, 1) := by decide +kernel
theorem dX4_rewind_62 : decode cX4_rewind 62 = .ok (.aload_n 0, 1) := by decide +kernel
theorem dX4_rewind_63 : decode cX4_rewind 63 = .ok (.iload_n 1, 1) := by decide +kernel
theorem dX4_rewind_64 : decode cX4_rewind 64 = .ok (.iload_n 2, 1) := by decide +kernel
theorem dX4_rewind_65 : decode cX4_rewind 65 = .ok (.invokevirtual 126, 3) := by decide +kernel
theorem dX4_rewind_68 : decode cX4_rewind 68 = .ok (.istore 4, 2) := by decide +kernel
theorem dX4_rewind_70 : decode cX4_rewind 70 = .ok (.aload_n 0, 1) := by decide +kernel
theorem dX4_rewind_71 : decode cX4_rewind 71 = .ok (.getfield 19, 3) := by decide +kernel
theorem dX4_rewind_74 : decode cX4_rewind 74 = .ok (.iload_n 1, 1) := by decide +kernel
theorem dX4_rewind_75 : decode cX4_rewind 75 = .ok (.iload 4, 2) := by decide +kernel
theorem dX4_rewind_77 : decode cX4_rewind 77 = .ok (.iastore, 1) := by decide +kernel
theorem dX4_rewind_78 : decode cX4_rewind 78 = .ok (.aload_n 0, 1) := by decide +kernel
theorem dX4_rewind_79 : decode cX4_rewind 79 = .ok (.getfield 22, 3) := by decide +kernel
theorem dX4_rewind_82 : decode cX4_rewind 82 = .ok (.iload_n 1, 1) := by decide +kernel
theorem dX4_rewind_83 : decode cX4_rewind 83 = .ok (.iconst 0, 1) := by decide +kernel
theorem dX4_rewind_84 : decode cX4_rewind 84 = .ok (.iastore, 1) := by decide +kernel
theorem dX4_rewind_85 : decode cX4_rewind 85 = .ok (.aload_n 0, 1) := by decide +kernel
theorem dX4_rewind_86 : decode cX4_rewind 86 = .ok (.iload_n 1, 1) := by decide +kernel
theorem dX4_rewind_87 : decode cX4_rewind 87 = .ok (.invokevirtual 123, 3) := by decide +kernel
theorem dX4_rewind_90 : decode cX4_rewind 90 = .ok (.iload 4, 2) := by decide +kernel
theorem dX4_rewind_92 : decode cX4_rewind 92 = .ok (.istore 5, 2) := by decide +kernel
theorem dX4_rewind_94 : decode cX4_rewind 94 = .ok (.iload 5, 2) := by decide +kernel
theorem dX4_rewind_96 : decode cX4_rewind 96 = .ok (.sipush 4096, 3) := by decide +kernel
theorem dX4_rewind_99 : decode cX4_rewind 99 = .ok (.if_icmp .ge 33, 3) := by decide +kernel
theorem dX4_rewind_102 : decode cX4_rewind 102 = .ok (.aload_n 0, 1) := by decide +kernel
theorem dX4_rewind_103 : decode cX4_rewind 103 = .ok (.getfield 7, 3) := by decide +kernel
theorem dX4_rewind_106 : decode cX4_rewind 106 = .ok (.iload_n 1, 1) := by decide +kernel
theorem dX4_rewind_107 : decode cX4_rewind 107 = .ok (.iload 5, 2) := by decide +kernel
theorem dX4_rewind_109 : decode cX4_rewind 109 = .ok (.invokestatic 73, 3) := by decide +kernel
theorem dX4_rewind_112 : decode cX4_rewind 112 = .ok (.iconst 0, 1) := by decide +kernel
theorem dX4_rewind_113 : decode cX4_rewind 113 = .ok (.iastore, 1) := by decide +kernel
theorem dX4_rewind_114 : decode cX4_rewind 114 = .ok (.aload_n 0, 1) := by decide +kernel
theorem dX4_rewind_115 : decode cX4_rewind 115 = .ok (.getfield 13, 3) := by decide +kernel
theorem dX4_rewind_118 : decode cX4_rewind 118 = .ok (.iload_n 1, 1) := by decide +kernel
theorem dX4_rewind_119 : decode cX4_rewind 119 = .ok (.iload 5, 2) := by decide +kernel
theorem dX4_rewind_121 : decode cX4_rewind 121 = .ok (.invokestatic 73, 3) := by decide +kernel
theorem dX4_rewind_124 : decode cX4_rewind 124 = .ok (.iconst 0, 1) := by decide +kernel
theorem dX4_rewind_125 : decode cX4_rewind 125 = .ok (.iastore, 1) := by decide +kernel
theorem dX4_rewind_126 : decode cX4_rewind 126 = .ok (.iinc 5 1, 3) := by decide +kernel
theorem dX4_rewind_129 : decode cX4_rewind 129 = .ok (.goto (-35), 3) := by decide +kernel
theorem dX4_rewind_132 : decode cX4_rewind 132 = .ok (.aload_n 0, 1) := by decide +kernel
theorem dX4_rewind_133 : decode cX4_rewind 133 = .ok (.getfield 25, 3) := by decide +kernel
theorem dX4_rewind_136 : decode cX4_rewind 136 = .ok (.iload_n 1, 1) := by decide +kernel
theorem dX4_rewind_137 : decode cX4_rewind 137 = .ok (.iload 4, 2) := by decide +kernel
theorem dX4_rewind_139 : decode cX4_rewind 139 = .ok (.iastore, 1) := by decide +kernel
theorem dX4_rewind_140 : decode cX4_rewind 140 = .ok (.aload_n 0, 1) := by decide +kernel
theorem dX4_rewind_141 : decode cX4_rewind 141 = .ok (.iload_n 1, 1) := by decide +kernel
theorem dX4_rewind_142 : decode cX4_rewind 142 = .ok (.iload_n 2, 1) := by decide +kernel
theorem dX4_rewind_143 : decode cX4_rewind 143 = .ok (.invokevirtual 129, 3) := by decide +kernel
theorem dX4_rewind_146 : decode cX4_rewind 146 = .ok (.iload_n 3, 1) := by decide +kernel
theorem dX4_rewind_147 : decode cX4_rewind 147 = .ok (.iload 4, 2) := by decide +kernel
theorem dX4_rewind_149 : decode cX4_rewind 149 = .ok (.isub, 1) := by decide +kernel
theorem dX4_rewind_150 : decode cX4_rewind 150 = .ok (.ireturn, 1) := by decide +kernel
theorem dX4_isPrimary_0 : decode cX4_isPrimary 0 = .ok (.aload_n 0, 1) := by decide +kernel
theorem dX4_isPrimary_1 : decode cX4_isPrimary 1 = .ok (.getfield 16, 3) := by decide +kernel
theorem dX4_isPrimary_4 : decode cX4_isPrimary 4 = .ok (.iload_n 1, 1) := by decide +kernel
theorem dX4_isPrimary_5 : decode cX4_isPrimary 5 = .ok (.iaload, 1) := by decide +kernel
theorem dX4_isPrimary_6 : decode cX4_isPrimary 6 = .ok (.iconst 2, 1) := by decide +kernel
theorem dX4_isPrimary_7 : decode cX4_isPrimary 7 = .ok (.if_icmp .ne 7, 3) := by decide +kernel
theorem dX4_isPrimary_10 : decode cX4_isPrimary 10 = .ok (.iconst 1, 1) := by decide +kernel
theorem dX4_isPrimary_11 : decode cX4_isPrimary 11 = .ok (.goto 4, 3) := by decide +kernel
theorem dX4_isPrimary_14 : decode cX4_isPrimary 14 = .ok (.iconst 0, 1) := by decide +kernel
theorem dX4_isPrimary_15 : decode cX4_isPrimary 15 = .ok (.ireturn, 1) := by decide +kernel
set_option maxRecDepth 20000 in
theorem ggX4_put_X4_isNode : GoodIn wsX4_put wsX4_isNode := goodIn_r _ [6, 7, 8, 5, 9] (by decide +kernel) (by decide +kernel)
set_option maxRecDepth 20000 in
theorem gX4_put_X4_isNode : GoodIn wsX4_put (va_wsS RX4 101 yX4_isNode wsX4_isNode) := goodIn_app (goodIn_of _ (by decide +kernel)) ggX4_put_X4_isNode
set_option maxRecDepth 20000 in
theorem ggX4_put_X4_fail : GoodIn wsX4_put wsX4_fail := goodIn_r _ [13, 1, 46, 47, 48, 49, 50, 51, 52, 53, 54, 55, 56, 57, 58, 59, 60, 61, 62, 63, 64, 65, 66] (by decide +kernel) (by decide +kernel)
set_option maxRecDepth 20000 in
theorem gX4_put_X4_fail : GoodIn wsX4_put (wsV RX4 105 RX4 yX4_fail wsX4_fail) := goodIn_app (goodIn_of _ (by decide +kernel)) ggX4_put_X4_fail
set_option maxRecDepth 20000 in
theorem ggX4_put_X4_isPrimary : GoodIn wsX4_put wsX4_isPrimary := goodIn_r _ [17, 18, 46, 47, 48, 49, 50, 51, 52, 53, 54, 55, 56, 57, 58, 59, 60, 61, 62, 63, 64, 65, 66] (by decide +kernel) (by decide +kernel)
set_option maxRecDepth 20000 in
theorem gX4_put_X4_isPrimary : GoodIn wsX4_put (wsV RX4 133 RX4 yX4_isPrimary wsX4_isPrimary) := goodIn_app (goodIn_of _ (by decide +kernel)) ggX4_put_X4_isPrimary
set_option maxRecDepth 20000 in
theorem ggX4_put_X4_within : GoodIn wsX4_put wsX4_within := goodIn_r _ [9] (by decide +kernel) (by decide +kernel)
set_option maxRecDepth 20000 in
theorem gX4_put_X4_within : GoodIn wsX4_put (va_wsS RX4 69 yX4_within wsX4_within) := goodIn_app (goodIn_of _ (by decide +kernel)) ggX4_put_X4_within
set_option maxRecDepth 20000 in
theorem ggX4_put_X4_isFull : GoodIn wsX4_put wsX4_isFull := goodIn_r _ [22, 2, 46, 47, 48, 49, 50, 51, 52, 53, 54, 55, 56, 57, 58, 59, 60, 61, 62, 63, 64, 65, 66] (by decide +kernel) (by decide +kernel)
set_option maxRecDepth 20000 in
theorem gX4_put_X4_isFull : GoodIn wsX4_put (wsV RX4 116 RX4 yX4_isFull wsX4_isFull) := goodIn_app (goodIn_of _ (by decide +kernel)) ggX4_put_X4_isFull
set_option maxRecDepth 20000 in
theorem ggX4_put_X4_write : GoodIn wsX4_put wsX4_write := goodIn_r _ [26, 2, 27, 28, 29, 30, 31, 32, 5, 33, 34, 35, 36, 37, 38, 39, 40, 41, 42, 43, 44, 45, 46, 47, 48, 49, 50, 51, 52, 53, 54, 55, 56, 57, 58, 59, 60, 61, 62, 63, 64, 65, 66] (by decide +kernel) (by decide +kernel)
set_option maxRecDepth 20000 in
theorem gX4_put_X4_write : GoodIn wsX4_put (wsV RX4 119 RX4 yX4_write wsX4_write) := goodIn_app (goodIn_of _ (by decide +kernel)) ggX4_put_X4_write
theorem dX4_put_0 : decode cX4_put 0 = .ok (.aload_n 0, 1) := by decide +kernel
theorem dX4_put_1 : decode cX4_put 1 = .ok (.iconst 0, 1) := by decide +kernel
theorem dX4_put_2 : decode cX4_put 2 = .ok (.putfield 65, 3) := by decide +kernel
theorem dX4_put_5 : decode cX4_put 5 = .ok (.iload_n 1, 1) := by decide +kernel
theorem dX4_put_6 : decode cX4_put 6 = .ok (.invokestatic 101, 3) := by decide +kernel
theorem dX4_put_9 : decode cX4_put 9 = .ok (.ifCond .ne 9, 3) := by decide +kernel
theorem dX4_put_12 : decode cX4_put 12 = .ok (.aload_n 0, 1) := by decide +kernel
theorem dX4_put_13 : decode cX4_put 13 = .ok (.iconst 1, 1) := by decide +kernel
theorem dX4_put_14 : decode cX4_put 14 = .ok (.invokevirtual 105, 3) := by decide +kernel
theorem dX4_put_17 : decode cX4_put 17 = .ok (.ireturn, 1) := by decide +kernel
theorem dX4_put_18 : decode cX4_put 18 = .ok (.aload_n 0, 1) := by decide +kernel
theorem dX4_put_19 : decode cX4_put 19 = .ok (.iload_n 1, 1) := by decide +kernel
theorem dX4_put_20 : decode cX4_put 20 = .ok (.invokevirtual 133, 3) := by decide +kernel
theorem dX4_put_23 : decode cX4_put 23 = .ok (.ifCond .ne 9, 3) := by decide +kernel
theorem dX4_put_26 : decode cX4_put 26 = .ok (.aload_n 0, 1) := by decide +kernel
theorem dX4_put_27 : decode cX4_put 27 = .ok (.iconst 2, 1) := by decide +kernel
theorem dX4_put_28 : decode cX4_put 28 = .ok (.invokevirtual 105, 3) := by decide +kernel
theorem dX4_put_31 : decode cX4_put 31 = .ok (.ireturn, 1) := by decide +kernel
theorem dX4_put_32 : decode cX4_put 32 = .ok (.iload_n 2, 1) := by decide +kernel
theorem dX4_put_33 : decode cX4_put 33 = .ok (.iconst 0, 1) := by decide +kernel
theorem dX4_put_34 : decode cX4_put 34 = .ok (.bipush 15, 2) := by decide +kernel
theorem dX4_put_36 : decode cX4_put 36 = .ok (.invokestatic 69, 3) := by decide +kernel
theorem dX4_put_39 : decode cX4_put 39 = .ok (.ifCond .ne 9, 3) := by decide +kernel
theorem dX4_put_42 : decode cX4_put 42 = .ok (.aload_n 0, 1) := by decide +kernel
theorem dX4_put_43 : decode cX4_put 43 = .ok (.iconst 3, 1) := by decide +kernel
theorem dX4_put_44 : decode cX4_put 44 = .ok (.invokevirtual 105, 3) := by decide +kernel
theorem dX4_put_47 : decode cX4_put 47 = .ok (.ireturn, 1) := by decide +kernel
theorem dX4_put_48 : decode cX4_put 48 = .ok (.aload_n 0, 1) := by decide +kernel
theorem dX4_put_49 : decode cX4_put 49 = .ok (.iload_n 1, 1) := by decide +kernel
theorem dX4_put_50 : decode cX4_put 50 = .ok (.invokevirtual 116, 3) := by decide +kernel
theorem dX4_put_53 : decode cX4_put 53 = .ok (.ifCond .eq 9, 3) := by decide +kernel
theorem dX4_put_56 : decode cX4_put 56 = .ok (.aload_n 0, 1) := by decide +kernel
theorem dX4_put_57 : decode cX4_put 57 = .ok (.iconst 4, 1) := by decide +kernel
theorem dX4_put_58 : decode cX4_put 58 = .ok (.invokevirtual 105, 3) := by decide +kernel
theorem dX4_put_61 : decode cX4_put 61 = .ok (.ireturn, 1) := by decide +kernel
theorem dX4_put_62 : decode cX4_put 62 = .ok (.aload_n 0, 1) := by decide +kernel
theorem dX4_put_63 : decode cX4_put 63 = .ok (.iload_n 1, 1) := by decide +kernel
theorem dX4_put_64 : decode cX4_put 64 = .ok (.iconst 1, 1) := by decide +kernel
theorem dX4_put_65 : decode cX4_put 65 = .ok (.iload_n 2, 1) := by decide +kernel
theorem dX4_put_66 : decode cX4_put 66 = .ok (.iload_n 3, 1) := by decide +kernel
theorem dX4_put_67 : decode cX4_put 67 = .ok (.invokevirtual 119, 3) := by decide +kernel
theorem dX4_put_70 : decode cX4_put 70 = .ok (.aload_n 0, 1) := by decide +kernel
theorem dX4_put_71 : decode cX4_put 71 = .ok (.getfield 19, 3) := by decide +kernel
theorem dX4_put_74 : decode cX4_put 74 = .ok (.iload_n 1, 1) := by decide +kernel
theorem dX4_put_75 : decode cX4_put 75 = .ok (.iaload, 1) := by decide +kernel
theorem dX4_put_76 : decode cX4_put 76 = .ok (.bipush 16, 2) := by decide +kernel
theorem dX4_put_78 : decode cX4_put 78 = .ok (.isub, 1) := by decide +kernel
theorem dX4_put_79 : decode cX4_put 79 = .ok (.ireturn, 1) := by decide +kernel
set_option maxRecDepth 20000 in
theorem ggX4_count_X4_kindAt : GoodIn wsX4_count wsX4_kindAt := goodIn_r _ [10, 11, 12, 13, 9, 14, 15, 16, 17, 18, 19, 20, 21, 22, 23, 24, 25, 26, 27, 28, 29, 30, 31, 32, 33, 34, 35] (by decide +kernel) (by decide +kernel)
set_option maxRecDepth 20000 in
theorem gX4_count_X4_kindAt : GoodIn wsX4_count (wsV RX4 84 RX4 yX4_kindAt wsX4_kindAt) := goodIn_app (goodIn_of _ (by decide +kernel)) ggX4_count_X4_kindAt
theorem dX4_count_0 : decode cX4_count 0 = .ok (.aload_n 0, 1) := by decide +kernel
theorem dX4_count_1 : decode cX4_count 1 = .ok (.getfield 31, 3) := by decide +kernel
theorem dX4_count_4 : decode cX4_count 4 = .ok (.iload_n 1, 1) := by decide +kernel
theorem dX4_count_5 : decode cX4_count 5 = .ok (.iaload, 1) := by decide +kernel
theorem dX4_count_6 : decode cX4_count 6 = .ok (.ifCond .ge 12, 3) := by decide +kernel
theorem dX4_count_9 : decode cX4_count 9 = .ok (.aload_n 0, 1) := by decide +kernel
theorem dX4_count_10 : decode cX4_count 10 = .ok (.getfield 19, 3) := by decide +kernel
theorem dX4_count_13 : decode cX4_count 13 = .ok (.iload_n 1, 1) := by decide +kernel
theorem dX4_count_14 : decode cX4_count 14 = .ok (.iaload, 1) := by decide +kernel
theorem dX4_count_15 : decode cX4_count 15 = .ok (.goto 18, 3) := by decide +kernel
theorem dX4_count_18 : decode cX4_count 18 = .ok (.aload_n 0, 1) := by decide +kernel
theorem dX4_count_19 : decode cX4_count 19 = .ok (.getfield 40, 3) := by decide +kernel
theorem dX4_count_22 : decode cX4_count 22 = .ok (.iconst 4, 1) := by decide +kernel
theorem dX4_count_23 : decode cX4_count 23 = .ok (.iload_n 1, 1) := by decide +kernel
theorem dX4_count_24 : decode cX4_count 24 = .ok (.imul, 1) := by decide +kernel
theorem dX4_count_25 : decode cX4_count 25 = .ok (.aload_n 0, 1) := by decide +kernel
theorem dX4_count_26 : decode cX4_count 26 = .ok (.getfield 31, 3) := by decide +kernel
theorem dX4_count_29 : decode cX4_count 29 = .ok (.iload_n 1, 1) := by decide +kernel
theorem dX4_count_30 : decode cX4_count 30 = .ok (.iaload, 1) := by decide +kernel
theorem dX4_count_31 : decode cX4_count 31 = .ok (.iadd, 1) := by decide +kernel
theorem dX4_count_32 : decode cX4_count 32 = .ok (.iaload, 1) := by decide +kernel
theorem dX4_count_33 : decode cX4_count 33 = .ok (.istore_n 2, 1) := by decide +kernel
theorem dX4_count_34 : decode cX4_count 34 = .ok (.aload_n 0, 1) := by decide +kernel
theorem dX4_count_35 : decode cX4_count 35 = .ok (.getfield 37, 3) := by decide +kernel
theorem dX4_count_38 : decode cX4_count 38 = .ok (.iload_n 1, 1) := by decide +kernel
theorem dX4_count_39 : decode cX4_count 39 = .ok (.iaload, 1) := by decide +kernel
theorem dX4_count_40 : decode cX4_count 40 = .ok (.istore_n 3, 1) := by decide +kernel
theorem dX4_count_41 : decode cX4_count 41 = .ok (.iload_n 3, 1) := by decide +kernel
theorem dX4_count_42 : decode cX4_count 42 = .ok (.aload_n 0, 1) := by decide +kernel
theorem dX4_count_43 : decode cX4_count 43 = .ok (.getfield 19, 3) := by decide +kernel
theorem dX4_count_46 : decode cX4_count 46 = .ok (.iload_n 1, 1) := by decide +kernel
theorem dX4_count_47 : decode cX4_count 47 = .ok (.iaload, 1) := by decide +kernel
theorem dX4_count_48 : decode cX4_count 48 = .ok (.if_icmp .ge 50, 3) := by decide +kernel
theorem dX4_count_51 : decode cX4_count 51 = .ok (.iload_n 3, 1) := by decide +kernel
theorem dX4_count_52 : decode cX4_count 52 = .ok (.bipush 16, 2) := by decide +kernel
theorem dX4_count_54 : decode cX4_count 54 = .ok (.iadd, 1) := by decide +kernel
theorem dX4_count_55 : decode cX4_count 55 = .ok (.iload_n 2, 1) := by decide +kernel
theorem dX4_count_56 : decode cX4_count 56 = .ok (.if_icmp .gt 42, 3) := by decide +kernel
theorem dX4_count_59 : decode cX4_count 59 = .ok (.aload_n 0, 1) := by decide +kernel
theorem dX4_count_60 : decode cX4_count 60 = .ok (.iload_n 1, 1) := by decide +kernel
theorem dX4_count_61 : decode cX4_count 61 = .ok (.iload_n 3, 1) := by decide +kernel
theorem dX4_count_62 : decode cX4_count 62 = .ok (.invokevirtual 84, 3) := by decide +kernel
theorem dX4_count_65 : decode cX4_count 65 = .ok (.iconst 2, 1) := by decide +kernel
theorem dX4_count_66 : decode cX4_count 66 = .ok (.if_icmp .ne 26, 3) := by decide +kernel
theorem dX4_count_69 : decode cX4_count 69 = .ok (.iload_n 3, 1) := by decide +kernel
theorem dX4_count_70 : decode cX4_count 70 = .ok (.bipush 16, 2) := by decide +kernel
theorem dX4_count_72 : decode cX4_count 72 = .ok (.iadd, 1) := by decide +kernel
theorem dX4_count_73 : decode cX4_count 73 = .ok (.aload_n 0, 1) := by decide +kernel
theorem dX4_count_74 : decode cX4_count 74 = .ok (.getfield 34, 3) := by decide +kernel
theorem dX4_count_77 : decode cX4_count 77 = .ok (.iload_n 1, 1) := by decide +kernel
theorem dX4_count_78 : decode cX4_count 78 = .ok (.iaload, 1) := by decide +kernel
theorem dX4_count_79 : decode cX4_count 79 = .ok (.if_icmp .le 13, 3) := by decide +kernel
theorem dX4_count_82 : decode cX4_count 82 = .ok (.aload_n 0, 1) := by decide +kernel
theorem dX4_count_83 : decode cX4_count 83 = .ok (.getfield 34, 3) := by decide +kernel
theorem dX4_count_86 : decode cX4_count 86 = .ok (.iload_n 1, 1) := by decide +kernel
theorem dX4_count_87 : decode cX4_count 87 = .ok (.iload_n 3, 1) := by decide +kernel
theorem dX4_count_88 : decode cX4_count 88 = .ok (.bipush 16, 2) := by decide +kernel
theorem dX4_count_90 : decode cX4_count 90 = .ok (.iadd, 1) := by decide +kernel
theorem dX4_count_91 : decode cX4_count 91 = .ok (.iastore, 1) := by decide +kernel
theorem dX4_count_92 : decode cX4_count 92 = .ok (.iinc 3 16, 3) := by decide +kernel
theorem dX4_count_95 : decode cX4_count 95 = .ok (.goto (-54), 3) := by decide +kernel
theorem dX4_count_98 : decode cX4_count 98 = .ok (.return_, 1) := by decide +kernel
set_option maxRecDepth 20000 in
theorem ggX4_commit_X4_isNode : GoodIn wsX4_commit wsX4_isNode := goodIn_r _ [7, 8, 9, 6, 10] (by decide +kernel) (by decide +kernel)
set_option maxRecDepth 20000 in
theorem gX4_commit_X4_isNode : GoodIn wsX4_commit (va_wsS RX4 101 yX4_isNode wsX4_isNode) := goodIn_app (goodIn_of _ (by decide +kernel)) ggX4_commit_X4_isNode
set_option maxRecDepth 20000 in
theorem ggX4_commit_X4_fail : GoodIn wsX4_commit wsX4_fail := goodIn_r _ [14, 1, 64, 65, 66, 67, 68, 69, 70, 71, 72, 73, 74, 75, 76, 77, 78, 79, 80, 81, 82, 83, 84] (by decide +kernel) (by decide +kernel)
set_option maxRecDepth 20000 in
theorem gX4_commit_X4_fail : GoodIn wsX4_commit (wsV RX4 105 RX4 yX4_fail wsX4_fail) := goodIn_app (goodIn_of _ (by decide +kernel)) ggX4_commit_X4_fail
set_option maxRecDepth 20000 in
theorem ggX4_commit_X4_isPrimary : GoodIn wsX4_commit wsX4_isPrimary := goodIn_r _ [18, 19, 64, 65, 66, 67, 68, 69, 70, 71, 72, 73, 74, 75, 76, 77, 78, 79, 80, 81, 82, 83, 84] (by decide +kernel) (by decide +kernel)
set_option maxRecDepth 20000 in
theorem gX4_commit_X4_isPrimary : GoodIn wsX4_commit (wsV RX4 133 RX4 yX4_isPrimary wsX4_isPrimary) := goodIn_app (goodIn_of _ (by decide +kernel)) ggX4_commit_X4_isPrimary
set_option maxRecDepth 20000 in
theorem ggX4_commit_X4_isFull : GoodIn wsX4_commit wsX4_isFull := goodIn_r _ [23, 3, 64, 65, 66, 67, 68, 69, 70, 71, 72, 73, 74, 75, 76, 77, 78, 79, 80, 81, 82, 83, 84] (by decide +kernel) (by decide +kernel)
set_option maxRecDepth 20000 in
theorem gX4_commit_X4_isFull : GoodIn wsX4_commit (wsV RX4 116 RX4 yX4_isFull wsX4_isFull) := goodIn_app (goodIn_of _ (by decide +kernel)) ggX4_commit_X4_isFull
set_option maxRecDepth 20000 in
theorem ggX4_commit_X4_write : GoodIn wsX4_commit wsX4_write := goodIn_r _ [27, 3, 28, 29, 30, 31, 32, 33, 6, 34, 35, 36, 37, 38, 39, 40, 41, 42, 43, 44, 45, 46, 64, 65, 66, 67, 68, 69, 70, 71, 72, 73, 74, 75, 76, 77, 78, 79, 80, 81, 82, 83, 84] (by decide +kernel) (by decide +kernel)
set_option maxRecDepth 20000 in
theorem gX4_commit_X4_write : GoodIn wsX4_commit (wsV RX4 119 RX4 yX4_write wsX4_write) := goodIn_app (goodIn_of _ (by decide +kernel)) ggX4_commit_X4_write
set_option maxRecDepth 20000 in
theorem ggX4_commit_X4_sync : GoodIn wsX4_commit wsX4_sync := goodIn_r _ [50, 51, 3, 52, 29, 35, 36, 6, 37, 64, 65, 66, 67, 68, 69, 70, 71, 72, 73, 74, 75, 76, 77, 78, 79, 80, 81, 82, 83, 84] (by decide +kernel) (by decide +kernel)
set_option maxRecDepth 20000 in
theorem gX4_commit_X4_sync : GoodIn wsX4_commit (wsV RX4 123 RX4 yX4_sync wsX4_sync) := goodIn_app (goodIn_of _ (by decide +kernel)) ggX4_commit_X4_sync
set_option maxRecDepth 20000 in
theorem ggX4_commit_X4_count : GoodIn wsX4_commit wsX4_count := goodIn_r _ [56, 57, 3, 58, 59, 2, 60, 61, 62, 6, 63, 29, 35, 36, 37, 64, 65, 66, 67, 68, 69, 70, 71, 72, 73, 74, 75, 76, 77, 78, 79, 80, 81, 82, 83, 84] (by decide +kernel) (by decide +kernel)
set_option maxRecDepth 20000 in
theorem gX4_commit_X4_count : GoodIn wsX4_commit (wsV RX4 136 RX4 yX4_count wsX4_count) := goodIn_app (goodIn_of _ (by decide +kernel)) ggX4_commit_X4_count
theorem dX4_commit_0 : decode cX4_commit 0 = .ok (.aload_n 0, 1) := by decide +kernel
theorem dX4_commit_1 : decode cX4_commit 1 = .ok (.iconst 0, 1) := by decide +kernel
theorem dX4_commit_2 : decode cX4_commit 2 = .ok (.putfield 65, 3) := by decide +kernel
theorem dX4_commit_5 : decode cX4_commit 5 = .ok (.iload_n 1, 1) := by decide +kernel
theorem dX4_commit_6 : decode cX4_commit 6 = .ok (.invokestatic 101, 3) := by decide +kernel
theorem dX4_commit_9 : decode cX4_commit 9 = .ok (.ifCond .ne 17, 3) := by decide +kernel
theorem dX4_commit_12 : decode cX4_commit 12 = .ok (.aload_n 0, 1) := by decide +kernel
theorem dX4_commit_13 : decode cX4_commit 13 = .ok (.iconst 1, 1) := by decide +kernel
theorem dX4_commit_14 : decode cX4_commit 14 = .ok (.invokevirtual 105, 3) := by decide +kernel
theorem dX4_commit_17 : decode cX4_commit 17 = .ok (.ifCond .le 7, 3) := by decide +kernel
theorem dX4_commit_20 : decode cX4_commit 20 = .ok (.iconst 1, 1) := by decide +kernel
theorem dX4_commit_21 : decode cX4_commit 21 = .ok (.goto 4, 3) := by decide +kernel
theorem dX4_commit_24 : decode cX4_commit 24 = .ok (.iconst 0, 1) := by decide +kernel
theorem dX4_commit_25 : decode cX4_commit 25 = .ok (.ireturn, 1) := by decide +kernel
theorem dX4_commit_26 : decode cX4_commit 26 = .ok (.aload_n 0, 1) := by decide +kernel
theorem dX4_commit_27 : decode cX4_commit 27 = .ok (.iload_n 1, 1) := by decide +kernel
theorem dX4_commit_28 : decode cX4_commit 28 = .ok (.invokevirtual 133, 3) := by decide +kernel
theorem dX4_commit_31 : decode cX4_commit 31 = .ok (.ifCond .ne 17, 3) := by decide +kernel
theorem dX4_commit_34 : decode cX4_commit 34 = .ok (.aload_n 0, 1) := by decide +kernel
theorem dX4_commit_35 : decode cX4_commit 35 = .ok (.iconst 2, 1) := by decide +kernel
theorem dX4_commit_36 : decode cX4_commit 36 = .ok (.invokevirtual 105, 3) := by decide +kernel
theorem dX4_commit_39 : decode cX4_commit 39 = .ok (.ifCond .le 7, 3) := by decide +kernel
theorem dX4_commit_42 : decode cX4_commit 42 = .ok (.iconst 1, 1) := by decide +kernel
theorem dX4_commit_43 : decode cX4_commit 43 = .ok (.goto 4, 3) := by decide +kernel
theorem dX4_commit_46 : decode cX4_commit 46 = .ok (.iconst 0, 1) := by decide +kernel
theorem dX4_commit_47 : decode cX4_commit 47 = .ok (.ireturn, 1) := by decide +kernel
theorem dX4_commit_48 : decode cX4_commit 48 = .ok (.aload_n 0, 1) := by decide +kernel
theorem dX4_commit_49 : decode cX4_commit 49 = .ok (.iload_n 1, 1) := by decide +kernel
theorem dX4_commit_50 : decode cX4_commit 50 = .ok (.invokevirtual 116, 3) := by decide +kernel
theorem dX4_commit_53 : decode cX4_commit 53 = .ok (.ifCond .eq 17, 3) := by decide +kernel
theorem dX4_commit_56 : decode cX4_commit 56 = .ok (.aload_n 0, 1) := by decide +kernel
theorem dX4_commit_57 : decode cX4_commit 57 = .ok (.iconst 3, 1) := by decide +kernel
theorem dX4_commit_58 : decode cX4_commit 58 = .ok (.invokevirtual 105, 3) := by decide +kernel
theorem dX4_commit_61 : decode cX4_commit 61 = .ok (.ifCond .le 7, 3) := by decide +kernel
theorem dX4_commit_64 : decode cX4_commit 64 = .ok (.iconst 1, 1) := by decide +kernel
theorem dX4_commit_65 : decode cX4_commit 65 = .ok (.goto 4, 3) := by decide +kernel
theorem dX4_commit_68 : decode cX4_commit 68 = .ok (.iconst 0, 1) := by decide +kernel
theorem dX4_commit_69 : decode cX4_commit 69 = .ok (.ireturn, 1) := by decide +kernel
theorem dX4_commit_70 : decode cX4_commit 70 = .ok (.aload_n 0, 1) := by decide +kernel
theorem dX4_commit_71 : decode cX4_commit 71 = .ok (.iload_n 1, 1) := by decide +kernel
theorem dX4_commit_72 : decode cX4_commit 72 = .ok (.iconst 2, 1) := by decide +kernel
theorem dX4_commit_73 : decode cX4_commit 73 = .ok (.iconst 0, 1) := by decide +kernel
theorem dX4_commit_74 : decode cX4_commit 74 = .ok (.iconst 0, 1) := by decide +kernel
theorem dX4_commit_75 : decode cX4_commit 75 = .ok (.invokevirtual 119, 3) := by decide +kernel
theorem dX4_commit_78 : decode cX4_commit 78 = .ok (.aload_n 0, 1) := by decide +kernel
theorem dX4_commit_79 : decode cX4_commit 79 = .ok (.iload_n 1, 1) := by decide +kernel
theorem dX4_commit_80 : decode cX4_commit 80 = .ok (.invokevirtual 123, 3) := by decide +kernel
theorem dX4_commit_83 : decode cX4_commit 83 = .ok (.aload_n 0, 1) := by decide +kernel
theorem dX4_commit_84 : decode cX4_commit 84 = .ok (.iload_n 1, 1) := by decide +kernel
theorem dX4_commit_85 : decode cX4_commit 85 = .ok (.invokevirtual 136, 3) := by decide +kernel
theorem dX4_commit_88 : decode cX4_commit 88 = .ok (.aload_n 0, 1) := by decide +kernel
theorem dX4_commit_89 : decode cX4_commit 89 = .ok (.getfield 34, 3) := by decide +kernel
theorem dX4_commit_92 : decode cX4_commit 92 = .ok (.iload_n 1, 1) := by decide +kernel
theorem dX4_commit_93 : decode cX4_commit 93 = .ok (.iaload, 1) := by decide +kernel
theorem dX4_commit_94 : decode cX4_commit 94 = .ok (.aload_n 0, 1) := by decide +kernel
theorem dX4_commit_95 : decode cX4_commit 95 = .ok (.getfield 19, 3) := by decide +kernel
theorem dX4_commit_98 : decode cX4_commit 98 = .ok (.iload_n 1, 1) := by decide +kernel
theorem dX4_commit_99 : decode cX4_commit 99 = .ok (.iaload, 1) := by decide +kernel
theorem dX4_commit_100 : decode cX4_commit 100 = .ok (.if_icmp .ne 7, 3) := by decide +kernel
theorem dX4_commit_103 : decode cX4_commit 103 = .ok (.iconst 1, 1) := by decide +kernel
theorem dX4_commit_104 : decode cX4_commit 104 = .ok (.goto 4, 3) := by decide +kernel
theorem dX4_commit_107 : decode cX4_commit 107 = .ok (.iconst 0, 1) := by decide +kernel
theorem dX4_commit_108 : decode cX4_commit 108 = .ok (.ireturn, 1) := by decide +kernel
theorem dX4_isReplica_0 : decode cX4_isReplica 0 = .ok (.aload_n 0, 1) := by decide +kernel
theorem dX4_isReplica_1 : decode cX4_isReplica 1 = .ok (.getfield 16, 3) := by decide +kernel
theorem dX4_isReplica_4 : decode cX4_isReplica 4 = .ok (.iload_n 1, 1) := by decide +kernel
theorem dX4_isReplica_5 : decode cX4_isReplica 5 = .ok (.iaload, 1) := by decide +kernel
theorem dX4_isReplica_6 : decode cX4_isReplica 6 = .ok (.iconst 3, 1) := by decide +kernel
theorem dX4_isReplica_7 : decode cX4_isReplica 7 = .ok (.if_icmp .ne 17, 3) := by decide +kernel
theorem dX4_isReplica_10 : decode cX4_isReplica 10 = .ok (.aload_n 0, 1) := by decide +kernel
theorem dX4_isReplica_11 : decode cX4_isReplica 11 = .ok (.getfield 28, 3) := by decide +kernel
theorem dX4_isReplica_14 : decode cX4_isReplica 14 = .ok (.iload_n 1, 1) := by decide +kernel
theorem dX4_isReplica_15 : decode cX4_isReplica 15 = .ok (.iaload, 1) := by decide +kernel
theorem dX4_isReplica_16 : decode cX4_isReplica 16 = .ok (.iload_n 2, 1) := by decide +kernel
theorem dX4_isReplica_17 : decode cX4_isReplica 17 = .ok (.if_icmp .ne 7, 3) := by decide +kernel
theorem dX4_isReplica_20 : decode cX4_isReplica 20 = .ok (.iconst 1, 1) := by decide +kernel
theorem dX4_isReplica_21 : decode cX4_isReplica 21 = .ok (.goto 4, 3) := by decide +kernel
theorem dX4_isReplica_24 : decode cX4_isReplica 24 = .ok (.iconst 0, 1) := by decide +kernel
theorem dX4_isReplica_25 : decode cX4_isReplica 25 = .ok (.ireturn, 1) := by decide +kernel
set_option maxRecDepth 20000 in
theorem ggX4_standby_X4_isNode : GoodIn wsX4_standby wsX4_isNode := goodIn_r _ [6, 7, 8, 5, 9] (by decide +kernel) (by decide +kernel)
set_option maxRecDepth 20000 in
theorem gX4_standby_X4_isNode : GoodIn wsX4_standby (va_wsS RX4 101 yX4_isNode wsX4_isNode) := goodIn_app (goodIn_of _ (by decide +kernel)) ggX4_standby_X4_isNode
set_option maxRecDepth 20000 in
theorem ggX4_standby_X4_fail : GoodIn wsX4_standby wsX4_fail := goodIn_r _ [13, 1, 40, 41, 42, 43, 44, 45, 46, 47, 48, 49, 50, 51, 52, 53, 54, 55, 56, 57, 58, 59, 60] (by decide +kernel) (by decide +kernel)
set_option maxRecDepth 20000 in
theorem gX4_standby_X4_fail : GoodIn wsX4_standby (wsV RX4 105 RX4 yX4_fail wsX4_fail) := goodIn_app (goodIn_of _ (by decide +kernel)) ggX4_standby_X4_fail
set_option maxRecDepth 20000 in
theorem ggX4_standby_X4_isPrimary : GoodIn wsX4_standby wsX4_isPrimary := goodIn_r _ [17, 18, 40, 41, 42, 43, 44, 45, 46, 47, 48, 49, 50, 51, 52, 53, 54, 55, 56, 57, 58, 59, 60] (by decide +kernel) (by decide +kernel)
set_option maxRecDepth 20000 in
theorem gX4_standby_X4_isPrimary : GoodIn wsX4_standby (wsV RX4 133 RX4 yX4_isPrimary wsX4_isPrimary) := goodIn_app (goodIn_of _ (by decide +kernel)) ggX4_standby_X4_isPrimary
set_option maxRecDepth 20000 in
theorem ggX4_standby_X4_isReplica : GoodIn wsX4_standby wsX4_isReplica := goodIn_r _ [22, 18, 23, 40, 41, 42, 43, 44, 45, 46, 47, 48, 49, 50, 51, 52, 53, 54, 55, 56, 57, 58, 59, 60] (by decide +kernel) (by decide +kernel)
set_option maxRecDepth 20000 in
theorem gX4_standby_X4_isReplica : GoodIn wsX4_standby (wsV RX4 138 RX4 yX4_isReplica wsX4_isReplica) := goodIn_app (goodIn_of _ (by decide +kernel)) ggX4_standby_X4_isReplica
set_option maxRecDepth 20000 in
theorem ggX4_standby_X4_count : GoodIn wsX4_standby wsX4_count := goodIn_r _ [27, 2, 28, 29, 30, 31, 32, 33, 34, 5, 35, 36, 37, 38, 39, 40, 41, 42, 43, 44, 45, 46, 47, 48, 49, 50, 51, 52, 53, 54, 55, 56, 57, 58, 59, 60] (by decide +kernel) (by decide +kernel)
set_option maxRecDepth 20000 in
theorem gX4_standby_X4_count : GoodIn wsX4_standby (wsV RX4 136 RX4 yX4_count wsX4_count) := goodIn_app (goodIn_of _ (by decide +kernel)) ggX4_standby_X4_count
theorem dX4_standby_0 : decode cX4_standby 0 = .ok (.aload_n 0, 1) := by decide +kernel
theorem dX4_standby_1 : decode cX4_standby 1 = .ok (.iconst 0, 1) := by decide +kernel
theorem dX4_standby_2 : decode cX4_standby 2 = .ok (.putfield 65, 3) := by decide +kernel
theorem dX4_standby_5 : decode cX4_standby 5 = .ok (.iload_n 1, 1) := by decide +kernel
theorem dX4_standby_6 : decode cX4_standby 6 = .ok (.invokestatic 101, 3) := by decide +kernel
theorem dX4_standby_9 : decode cX4_standby 9 = .ok (.ifCond .eq 15, 3) := by decide +kernel
theorem dX4_standby_12 : decode cX4_standby 12 = .ok (.iload_n 2, 1) := by decide +kernel
theorem dX4_standby_13 : decode cX4_standby 13 = .ok (.iconst (-1), 1) := by decide +kernel
theorem dX4_standby_14 : decode cX4_standby 14 = .ok (.if_icmp .eq 16, 3) := by decide +kernel
theorem dX4_standby_17 : decode cX4_standby 17 = .ok (.iload_n 2, 1) := by decide +kernel
theorem dX4_standby_18 : decode cX4_standby 18 = .ok (.invokestatic 101, 3) := by decide +kernel
theorem dX4_standby_21 : decode cX4_standby 21 = .ok (.ifCond .ne 9, 3) := by decide +kernel
theorem dX4_standby_24 : decode cX4_standby 24 = .ok (.aload_n 0, 1) := by decide +kernel
theorem dX4_standby_25 : decode cX4_standby 25 = .ok (.iconst 1, 1) := by decide +kernel
theorem dX4_standby_26 : decode cX4_standby 26 = .ok (.invokevirtual 105, 3) := by decide +kernel
theorem dX4_standby_29 : decode cX4_standby 29 = .ok (.ireturn, 1) := by decide +kernel
theorem dX4_standby_30 : decode cX4_standby 30 = .ok (.aload_n 0, 1) := by decide +kernel
theorem dX4_standby_31 : decode cX4_standby 31 = .ok (.iload_n 1, 1) := by decide +kernel
theorem dX4_standby_32 : decode cX4_standby 32 = .ok (.invokevirtual 133, 3) := by decide +kernel
theorem dX4_standby_35 : decode cX4_standby 35 = .ok (.ifCond .ne 9, 3) := by decide +kernel
theorem dX4_standby_38 : decode cX4_standby 38 = .ok (.aload_n 0, 1) := by decide +kernel
theorem dX4_standby_39 : decode cX4_standby 39 = .ok (.iconst 2, 1) := by decide +kernel
theorem dX4_standby_40 : decode cX4_standby 40 = .ok (.invokevirtual 105, 3) := by decide +kernel
theorem dX4_standby_43 : decode cX4_standby 43 = .ok (.ireturn, 1) := by decide +kernel
theorem dX4_standby_44 : decode cX4_standby 44 = .ok (.iload_n 2, 1) := by decide +kernel
theorem dX4_standby_45 : decode cX4_standby 45 = .ok (.iconst (-1), 1) := by decide +kernel
theorem dX4_standby_46 : decode cX4_standby 46 = .ok (.if_icmp .eq 18, 3) := by decide +kernel
theorem dX4_standby_49 : decode cX4_standby 49 = .ok (.aload_n 0, 1) := by decide +kernel
theorem dX4_standby_50 : decode cX4_standby 50 = .ok (.iload_n 2, 1) := by decide +kernel
theorem dX4_standby_51 : decode cX4_standby 51 = .ok (.iload_n 1, 1) := by decide +kernel
theorem dX4_standby_52 : decode cX4_standby 52 = .ok (.invokevirtual 138, 3) := by decide +kernel
theorem dX4_standby_55 : decode cX4_standby 55 = .ok (.ifCond .ne 9, 3) := by decide +kernel
theorem dX4_standby_58 : decode cX4_standby 58 = .ok (.aload_n 0, 1) := by decide +kernel
theorem dX4_standby_59 : decode cX4_standby 59 = .ok (.iconst 3, 1) := by decide +kernel
theorem dX4_standby_60 : decode cX4_standby 60 = .ok (.invokevirtual 105, 3) := by decide +kernel
theorem dX4_standby_63 : decode cX4_standby 63 = .ok (.ireturn, 1) := by decide +kernel
theorem dX4_standby_64 : decode cX4_standby 64 = .ok (.aload_n 0, 1) := by decide +kernel
theorem dX4_standby_65 : decode cX4_standby 65 = .ok (.getfield 31, 3) := by decide +kernel
theorem dX4_standby_68 : decode cX4_standby 68 = .ok (.iload_n 1, 1) := by decide +kernel
theorem dX4_standby_69 : decode cX4_standby 69 = .ok (.iaload, 1) := by decide +kernel
theorem dX4_standby_70 : decode cX4_standby 70 = .ok (.istore_n 3, 1) := by decide +kernel
theorem dX4_standby_71 : decode cX4_standby 71 = .ok (.aload_n 0, 1) := by decide +kernel
theorem dX4_standby_72 : decode cX4_standby 72 = .ok (.getfield 31, 3) := by decide +kernel
theorem dX4_standby_75 : decode cX4_standby 75 = .ok (.iload_n 1, 1) := by decide +kernel
theorem dX4_standby_76 : decode cX4_standby 76 = .ok (.iload_n 2, 1) := by decide +kernel
theorem dX4_standby_77 : decode cX4_standby 77 = .ok (.iastore, 1) := by decide +kernel
theorem dX4_standby_78 : decode cX4_standby 78 = .ok (.aload_n 0, 1) := by decide +kernel
theorem dX4_standby_79 : decode cX4_standby 79 = .ok (.iload_n 1, 1) := by decide +kernel
theorem dX4_standby_80 : decode cX4_standby 80 = .ok (.invokevirtual 136, 3) := by decide +kernel
theorem dX4_standby_83 : decode cX4_standby 83 = .ok (.iload_n 3, 1) := by decide +kernel
theorem dX4_standby_84 : decode cX4_standby 84 = .ok (.ireturn, 1) := by decide +kernel
set_option maxRecDepth 20000 in
theorem ggX4_isLink_X4_isReplica : GoodIn wsX4_isLink wsX4_isReplica := goodIn_r _ [6, 1, 7, 8, 9, 10, 11, 12, 13, 14, 15, 16, 17, 18, 19, 20, 21, 22, 23, 24, 25, 26, 27, 28] (by decide +kernel) (by decide +kernel)
set_option maxRecDepth 20000 in
theorem gX4_isLink_X4_isReplica : GoodIn wsX4_isLink (wsV RX4 138 RX4 yX4_isReplica wsX4_isReplica) := goodIn_app (goodIn_of _ (by decide +kernel)) ggX4_isLink_X4_isReplica
theorem dX4_isLink_0 : decode cX4_isLink 0 = .ok (.aload_n 0, 1) := by decide +kernel
theorem dX4_isLink_1 : decode cX4_isLink 1 = .ok (.getfield 16, 3) := by decide +kernel
theorem dX4_isLink_4 : decode cX4_isLink 4 = .ok (.iload_n 1, 1) := by decide +kernel
theorem dX4_isLink_5 : decode cX4_isLink 5 = .ok (.iaload, 1) := by decide +kernel
theorem dX4_isLink_6 : decode cX4_isLink 6 = .ok (.iconst 2, 1) := by decide +kernel
theorem dX4_isLink_7 : decode cX4_isLink 7 = .ok (.if_icmp .ne 16, 3) := by decide +kernel
theorem dX4_isLink_10 : decode cX4_isLink 10 = .ok (.aload_n 0, 1) := by decide +kernel
theorem dX4_isLink_11 : decode cX4_isLink 11 = .ok (.iload_n 2, 1) := by decide +kernel
theorem dX4_isLink_12 : decode cX4_isLink 12 = .ok (.iload_n 1, 1) := by decide +kernel
theorem dX4_isLink_13 : decode cX4_isLink 13 = .ok (.invokevirtual 138, 3) := by decide +kernel
theorem dX4_isLink_16 : decode cX4_isLink 16 = .ok (.ifCond .eq 7, 3) := by decide +kernel
theorem dX4_isLink_19 : decode cX4_isLink 19 = .ok (.iconst 1, 1) := by decide +kernel
theorem dX4_isLink_20 : decode cX4_isLink 20 = .ok (.goto 4, 3) := by decide +kernel
theorem dX4_isLink_23 : decode cX4_isLink 23 = .ok (.iconst 0, 1) := by decide +kernel
theorem dX4_isLink_24 : decode cX4_isLink 24 = .ok (.ireturn, 1) := by decide +kernel
theorem dX4_slot_0 : decode cX4_slot 0 = .ok (.bipush 16, 2) := by decide +kernel
theorem dX4_slot_2 : decode cX4_slot 2 = .ok (.iconst 4, 1) := by decide +kernel
theorem dX4_slot_3 : decode cX4_slot 3 = .ok (.iload_n 1, 1) := by decide +kernel
theorem dX4_slot_4 : decode cX4_slot 4 = .ok (.imul, 1) := by decide +kernel
theorem dX4_slot_5 : decode cX4_slot 5 = .ok (.iload_n 2, 1) := by decide +kernel
theorem dX4_slot_6 : decode cX4_slot 6 = .ok (.iadd, 1) := by decide +kernel
theorem dX4_slot_7 : decode cX4_slot 7 = .ok (.imul, 1) := by decide +kernel
theorem dX4_slot_8 : decode cX4_slot 8 = .ok (.iload_n 3, 1) := by decide +kernel
theorem dX4_slot_9 : decode cX4_slot 9 = .ok (.iadd, 1) := by decide +kernel
theorem dX4_slot_10 : decode cX4_slot 10 = .ok (.ireturn, 1) := by decide +kernel
set_option maxRecDepth 20000 in
theorem ggX4_add_X4_slot : GoodIn wsX4_add wsX4_slot := goodIn_r _ [10] (by decide +kernel) (by decide +kernel)
set_option maxRecDepth 20000 in
theorem gX4_add_X4_slot : GoodIn wsX4_add (wsV RX4 141 RX4 yX4_slot wsX4_slot) := goodIn_app (goodIn_of _ (by decide +kernel)) ggX4_add_X4_slot
set_option maxRecDepth 20000 in
theorem ggX4_add_X4_at : GoodIn wsX4_add wsX4_at := goodIn_r _ [13] (by decide +kernel) (by decide +kernel)
set_option maxRecDepth 20000 in
theorem gX4_add_X4_at : GoodIn wsX4_add (va_wsS RX4 73 yX4_at wsX4_at) := goodIn_app (goodIn_of _ (by decide +kernel)) ggX4_add_X4_at
theorem dX4_add_0 : decode cX4_add 0 = .ok (.aload_n 0, 1) := by decide +kernel
theorem dX4_add_1 : decode cX4_add 1 = .ok (.iload_n 1, 1) := by decide +kernel
theorem dX4_add_2 : decode cX4_add 2 = .ok (.iload_n 2, 1) := by decide +kernel
theorem dX4_add_3 : decode cX4_add 3 = .ok (.aload_n 0, 1) := by decide +kernel
theorem dX4_add_4 : decode cX4_add 4 = .ok (.getfield 43, 3) := by decide +kernel
theorem dX4_add_7 : decode cX4_add 7 = .ok (.iconst 4, 1) := by decide +kernel
theorem dX4_add_8 : decode cX4_add 8 = .ok (.iload_n 1, 1) := by decide +kernel
theorem dX4_add_9 : decode cX4_add 9 = .ok (.imul, 1) := by decide +kernel
theorem dX4_add_10 : decode cX4_add 10 = .ok (.iload_n 2, 1) := by decide +kernel
theorem dX4_add_11 : decode cX4_add 11 = .ok (.iadd, 1) := by decide +kernel
theorem dX4_add_12 : decode cX4_add 12 = .ok (.iaload, 1) := by decide +kernel
theorem dX4_add_13 : decode cX4_add 13 = .ok (.invokevirtual 141, 3) := by decide +kernel
theorem dX4_add_16 : decode cX4_add 16 = .ok (.istore 5, 2) := by decide +kernel
theorem dX4_add_18 : decode cX4_add 18 = .ok (.aload_n 0, 1) := by decide +kernel
theorem dX4_add_19 : decode cX4_add 19 = .ok (.getfield 46, 3) := by decide +kernel
theorem dX4_add_22 : decode cX4_add 22 = .ok (.iload 5, 2) := by decide +kernel
theorem dX4_add_24 : decode cX4_add 24 = .ok (.iload_n 3, 1) := by decide +kernel
theorem dX4_add_25 : decode cX4_add 25 = .ok (.iastore, 1) := by decide +kernel
theorem dX4_add_26 : decode cX4_add 26 = .ok (.aload_n 0, 1) := by decide +kernel
theorem dX4_add_27 : decode cX4_add 27 = .ok (.getfield 49, 3) := by decide +kernel
theorem dX4_add_30 : decode cX4_add 30 = .ok (.iload 5, 2) := by decide +kernel
theorem dX4_add_32 : decode cX4_add 32 = .ok (.iload 4, 2) := by decide +kernel
theorem dX4_add_34 : decode cX4_add 34 = .ok (.iastore, 1) := by decide +kernel
theorem dX4_add_35 : decode cX4_add 35 = .ok (.iconst 0, 1) := by decide +kernel
theorem dX4_add_36 : decode cX4_add 36 = .ok (.istore 6, 2) := by decide +kernel
theorem dX4_add_38 : decode cX4_add 38 = .ok (.iload 6, 2) := by decide +kernel
theorem dX4_add_40 : decode cX4_add 40 = .ok (.bipush 16, 2) := by decide +kernel
theorem dX4_add_42 : decode cX4_add 42 = .ok (.iload 4, 2) := by decide +kernel
theorem dX4_add_44 : decode cX4_add 44 = .ok (.imul, 1) := by decide +kernel
theorem dX4_add_45 : decode cX4_add 45 = .ok (.if_icmp .ge 35, 3) := by decide +kernel
theorem dX4_add_48 : decode cX4_add 48 = .ok (.aload_n 0, 1) := by decide +kernel
theorem dX4_add_49 : decode cX4_add 49 = .ok (.getfield 52, 3) := by decide +kernel
theorem dX4_add_52 : decode cX4_add 52 = .ok (.bipush 64, 2) := by decide +kernel
theorem dX4_add_54 : decode cX4_add 54 = .ok (.iload 5, 2) := by decide +kernel
theorem dX4_add_56 : decode cX4_add 56 = .ok (.imul, 1) := by decide +kernel
theorem dX4_add_57 : decode cX4_add 57 = .ok (.iload 6, 2) := by decide +kernel
theorem dX4_add_59 : decode cX4_add 59 = .ok (.iadd, 1) := by decide +kernel
theorem dX4_add_60 : decode cX4_add 60 = .ok (.aload_n 0, 1) := by decide +kernel
theorem dX4_add_61 : decode cX4_add 61 = .ok (.getfield 7, 3) := by decide +kernel
theorem dX4_add_64 : decode cX4_add 64 = .ok (.iload_n 1, 1) := by decide +kernel
theorem dX4_add_65 : decode cX4_add 65 = .ok (.iload_n 3, 1) := by decide +kernel
theorem dX4_add_66 : decode cX4_add 66 = .ok (.iload 6, 2) := by decide +kernel
theorem dX4_add_68 : decode cX4_add 68 = .ok (.iadd, 1) := by decide +kernel
theorem dX4_add_69 : decode cX4_add 69 = .ok (.invokestatic 73, 3) := by decide +kernel
theorem dX4_add_72 : decode cX4_add 72 = .ok (.iaload, 1) := by decide +kernel
theorem dX4_add_73 : decode cX4_add 73 = .ok (.iastore, 1) := by decide +kernel
theorem dX4_add_74 : decode cX4_add 74 = .ok (.iinc 6 1, 3) := by decide +kernel
theorem dX4_add_77 : decode cX4_add 77 = .ok (.goto (-39), 3) := by decide +kernel
theorem dX4_add_80 : decode cX4_add 80 = .ok (.aload_n 0, 1) := by decide +kernel
theorem dX4_add_81 : decode cX4_add 81 = .ok (.getfield 43, 3) := by decide +kernel
theorem dX4_add_84 : decode cX4_add 84 = .ok (.iconst 4, 1) := by decide +kernel
theorem dX4_add_85 : decode cX4_add 85 = .ok (.iload_n 1, 1) := by decide +kernel
theorem dX4_add_86 : decode cX4_add 86 = .ok (.imul, 1) := by decide +kernel
theorem dX4_add_87 : decode cX4_add 87 = .ok (.iload_n 2, 1) := by decide +kernel
theorem dX4_add_88 : decode cX4_add 88 = .ok (.iadd, 1) := by decide +kernel
theorem dX4_add_89 : decode cX4_add 89 = .ok (.dup2, 1) := by decide +kernel
theorem dX4_add_90 : decode cX4_add 90 = .ok (.iaload, 1) := by decide +kernel
theorem dX4_add_91 : decode cX4_add 91 = .ok (.iconst 1, 1) := by decide +kernel
theorem dX4_add_92 : decode cX4_add 92 = .ok (.iadd, 1) := by decide +kernel
theorem dX4_add_93 : decode cX4_add 93 = .ok (.iastore, 1) := by decide +kernel
theorem dX4_add_94 : decode cX4_add 94 = .ok (.return_, 1) := by decide +kernel
set_option maxRecDepth 20000 in
theorem ggX4_take_X4_slot : GoodIn wsX4_take wsX4_slot := goodIn_r _ [9] (by decide +kernel) (by decide +kernel)
set_option maxRecDepth 20000 in
theorem gX4_take_X4_slot : GoodIn wsX4_take (wsV RX4 141 RX4 yX4_slot wsX4_slot) := goodIn_app (goodIn_of _ (by decide +kernel)) ggX4_take_X4_slot
theorem dX4_take_0 : decode cX4_take 0 = .ok (.iconst 4, 1) := by decide +kernel
theorem dX4_take_1 : decode cX4_take 1 = .ok (.iload_n 1, 1) := by decide +kernel
theorem dX4_take_2 : decode cX4_take 2 = .ok (.imul, 1) := by decide +kernel
theorem dX4_take_3 : decode cX4_take 3 = .ok (.iload_n 2, 1) := by decide +kernel
theorem dX4_take_4 : decode cX4_take 4 = .ok (.iadd, 1) := by decide +kernel
theorem dX4_take_5 : decode cX4_take 5 = .ok (.istore_n 3, 1) := by decide +kernel
theorem dX4_take_6 : decode cX4_take 6 = .ok (.aload_n 0, 1) := by decide +kernel
theorem dX4_take_7 : decode cX4_take 7 = .ok (.getfield 43, 3) := by decide +kernel
theorem dX4_take_10 : decode cX4_take 10 = .ok (.iload_n 3, 1) := by decide +kernel
theorem dX4_take_11 : decode cX4_take 11 = .ok (.dup2, 1) := by decide +kernel
theorem dX4_take_12 : decode cX4_take 12 = .ok (.iaload, 1) := by decide +kernel
theorem dX4_take_13 : decode cX4_take 13 = .ok (.iconst 1, 1) := by decide +kernel
theorem dX4_take_14 : decode cX4_take 14 = .ok (.isub, 1) := by decide +kernel
theorem dX4_take_15 : decode cX4_take 15 = .ok (.iastore, 1) := by decide +kernel
theorem dX4_take_16 : decode cX4_take 16 = .ok (.iconst 0, 1) := by decide +kernel
theorem dX4_take_17 : decode cX4_take 17 = .ok (.istore 4, 2) := by decide +kernel
theorem dX4_take_19 : decode cX4_take 19 = .ok (.iload 4, 2) := by decide +kernel
theorem dX4_take_21 : decode cX4_take 21 = .ok (.aload_n 0, 1) := by decide +kernel
theorem dX4_take_22 : decode cX4_take 22 = .ok (.getfield 43, 3) := by decide +kernel
theorem dX4_take_25 : decode cX4_take 25 = .ok (.iload_n 3, 1) := by decide +kernel
theorem dX4_take_26 : decode cX4_take 26 = .ok (.iaload, 1) := by decide +kernel
theorem dX4_take_27 : decode cX4_take 27 = .ok (.if_icmp .ge 96, 3) := by decide +kernel
theorem dX4_take_30 : decode cX4_take 30 = .ok (.aload_n 0, 1) := by decide +kernel
theorem dX4_take_31 : decode cX4_take 31 = .ok (.iload_n 1, 1) := by decide +kernel
theorem dX4_take_32 : decode cX4_take 32 = .ok (.iload_n 2, 1) := by decide +kernel
theorem dX4_take_33 : decode cX4_take 33 = .ok (.iload 4, 2) := by decide +kernel
theorem dX4_take_35 : decode cX4_take 35 = .ok (.invokevirtual 141, 3) := by decide +kernel
theorem dX4_take_38 : decode cX4_take 38 = .ok (.istore 5, 2) := by decide +kernel
theorem dX4_take_40 : decode cX4_take 40 = .ok (.aload_n 0, 1) := by decide +kernel
theorem dX4_take_41 : decode cX4_take 41 = .ok (.getfield 46, 3) := by decide +kernel
theorem dX4_take_44 : decode cX4_take 44 = .ok (.iload 5, 2) := by decide +kernel
theorem dX4_take_46 : decode cX4_take 46 = .ok (.aload_n 0, 1) := by decide +kernel
theorem dX4_take_47 : decode cX4_take 47 = .ok (.getfield 46, 3) := by decide +kernel
theorem dX4_take_50 : decode cX4_take 50 = .ok (.iload 5, 2) := by decide +kernel
theorem dX4_take_52 : decode cX4_take 52 = .ok (.iconst 1, 1) := by decide +kernel
theorem dX4_take_53 : decode cX4_take 53 = .ok (.iadd, 1) := by decide +kernel
theorem dX4_take_54 : decode cX4_take 54 = .ok (.iaload, 1) := by decide +kernel
theorem dX4_take_55 : decode cX4_take 55 = .ok (.iastore, 1) := by decide +kernel
theorem dX4_take_56 : decode cX4_take 56 = .ok (.aload_n 0, 1) := by decide +kernel
theorem dX4_take_57 : decode cX4_take 57 = .ok (.getfield 49, 3) := by decide +kernel
theorem dX4_take_60 : decode cX4_take 60 = .ok (.iload 5, 2) := by decide +kernel
theorem dX4_take_62 : decode cX4_take 62 = .ok (.aload_n 0, 1) := by decide +kernel
theorem dX4_take_63 : decode cX4_take 63 = .ok (.getfield 49, 3) := by decide +kernel
theorem dX4_take_66 : decode cX4_take 66 = .ok (.iload 5, 2) := by decide +kernel
theorem dX4_take_68 : decode cX4_take 68 = .ok (.iconst 1, 1) := by decide +kernel
theorem dX4_take_69 : decode cX4_take 69 = .ok (.iadd, 1) := by decide +kernel
theorem dX4_take_70 : decode cX4_take 70 = .ok (.iaload, 1) := by decide +kernel
theorem dX4_take_71 : decode cX4_take 71 = .ok (.iastore, 1) := by decide +kernel
theorem dX4_take_72 : decode cX4_take 72 = .ok (.iconst 0, 1) := by decide +kernel
theorem dX4_take_73 : decode cX4_take 73 = .ok (.istore 6, 2) := by decide +kernel
theorem dX4_take_75 : decode cX4_take 75 = .ok (.iload 6, 2) := by decide +kernel
theorem dX4_take_77 : decode cX4_take 77 = .ok (.bipush 64, 2) := by decide +kernel
theorem dX4_take_79 : decode cX4_take 79 = .ok (.if_icmp .ge 38, 3) := by decide +kernel
theorem dX4_take_82 : decode cX4_take 82 = .ok (.aload_n 0, 1) := by decide +kernel
theorem dX4_take_83 : decode cX4_take 83 = .ok (.getfield 52, 3) := by decide +kernel
theorem dX4_take_86 : decode cX4_take 86 = .ok (.bipush 64, 2) := by decide +kernel
theorem dX4_take_88 : decode cX4_take 88 = .ok (.iload 5, 2) := by decide +kernel
theorem dX4_take_90 : decode cX4_take 90 = .ok (.imul, 1) := by decide +kernel
theorem dX4_take_91 : decode cX4_take 91 = .ok (.iload 6, 2) := by decide +kernel
theorem dX4_take_93 : decode cX4_take 93 = .ok (.iadd, 1) := by decide +kernel
theorem dX4_take_94 : decode cX4_take 94 = .ok (.aload_n 0, 1) := by decide +kernel
theorem dX4_take_95 : decode cX4_take 95 = .ok (.getfield 52, 3) := by decide +kernel
theorem dX4_take_98 : decode cX4_take 98 = .ok (.bipush 64, 2) := by decide +kernel
theorem dX4_take_100 : decode cX4_take 100 = .ok (.iload 5, 2) := by decide +kernel
theorem dX4_take_102 : decode cX4_take 102 = .ok (.imul, 1) := by decide +kernel
theorem dX4_take_103 : decode cX4_take 103 = .ok (.bipush 64, 2) := by decide +kernel
theorem dX4_take_105 : decode cX4_take 105 = .ok (.iadd, 1) := by decide +kernel
theorem dX4_take_106 : decode cX4_take 106 = .ok (.iload 6, 2) := by decide +kernel
theorem dX4_take_108 : decode cX4_take 108 = .ok (.iadd, 1) := by decide +kernel
theorem dX4_take_109 : decode cX4_take 109 = .ok (.iaload, 1) := by decide +kernel
theorem dX4_take_110 : decode cX4_take 110 = .ok (.iastore, 1) := by decide +kernel
theorem dX4_take_111 : decode cX4_take 111 = .ok (.iinc 6 1, 3) := by decide +kernel
theorem dX4_take_114 : decode cX4_take 114 = .ok (.goto (-39), 3) := by decide +kernel
theorem dX4_take_117 : decode cX4_take 117 = .ok (.iinc 4 1, 3) := by decide +kernel
theorem dX4_take_120 : decode cX4_take 120 = .ok (.goto (-101), 3) := by decide +kernel
theorem dX4_take_123 : decode cX4_take 123 = .ok (.return_, 1) := by decide +kernel
set_option maxRecDepth 20000 in
theorem ggX4_send_X4_isNode : GoodIn wsX4_send wsX4_isNode := goodIn_r _ [8, 9, 10, 7, 11] (by decide +kernel) (by decide +kernel)
set_option maxRecDepth 20000 in
theorem gX4_send_X4_isNode : GoodIn wsX4_send (va_wsS RX4 101 yX4_isNode wsX4_isNode) := goodIn_app (goodIn_of _ (by decide +kernel)) ggX4_send_X4_isNode
set_option maxRecDepth 20000 in
theorem ggX4_send_X4_fail : GoodIn wsX4_send wsX4_fail := goodIn_r _ [15, 1, 41, 42, 43, 44, 45, 46, 47, 48, 49, 50, 51, 52, 53, 54, 55, 56, 57, 58, 59, 60, 61] (by decide +kernel) (by decide +kernel)
set_option maxRecDepth 20000 in
theorem gX4_send_X4_fail : GoodIn wsX4_send (wsV RX4 105 RX4 yX4_fail wsX4_fail) := goodIn_app (goodIn_of _ (by decide +kernel)) ggX4_send_X4_fail
set_option maxRecDepth 20000 in
theorem ggX4_send_X4_isLink : GoodIn wsX4_send wsX4_isLink := goodIn_r _ [19, 20, 21, 22, 23, 7, 24, 25, 41, 42, 43, 44, 45, 46, 47, 48, 49, 50, 51, 52, 53, 54, 55, 56, 57, 58, 59, 60, 61] (by decide +kernel) (by decide +kernel)
set_option maxRecDepth 20000 in
theorem gX4_send_X4_isLink : GoodIn wsX4_send (wsV RX4 145 RX4 yX4_isLink wsX4_isLink) := goodIn_app (goodIn_of _ (by decide +kernel)) ggX4_send_X4_isLink
set_option maxRecDepth 20000 in
theorem ggX4_send_X4_add : GoodIn wsX4_send wsX4_add := goodIn_r _ [29, 2, 30, 31, 32, 33, 34, 35, 36, 7, 37, 38, 39, 40, 41, 42, 43, 44, 45, 46, 47, 48, 49, 50, 51, 52, 53, 54, 55, 56, 57, 58, 59, 60, 61] (by decide +kernel) (by decide +kernel)
set_option maxRecDepth 20000 in
theorem gX4_send_X4_add : GoodIn wsX4_send (wsV RX4 148 RX4 yX4_add wsX4_add) := goodIn_app (goodIn_of _ (by decide +kernel)) ggX4_send_X4_add
theorem dX4_send_0 : decode cX4_send 0 = .ok (.aload_n 0, 1) := by decide +kernel
theorem dX4_send_1 : decode cX4_send 1 = .ok (.iconst 0, 1) := by decide +kernel
theorem dX4_send_2 : decode cX4_send 2 = .ok (.putfield 65, 3) := by decide +kernel
theorem dX4_send_5 : decode cX4_send 5 = .ok (.iload_n 1, 1) := by decide +kernel
theorem dX4_send_6 : decode cX4_send 6 = .ok (.invokestatic 101, 3) := by decide +kernel
theorem dX4_send_9 : decode cX4_send 9 = .ok (.ifCond .eq 10, 3) := by decide +kernel
theorem dX4_send_12 : decode cX4_send 12 = .ok (.iload_n 2, 1) := by decide +kernel
theorem dX4_send_13 : decode cX4_send 13 = .ok (.invokestatic 101, 3) := by decide +kernel
theorem dX4_send_16 : decode cX4_send 16 = .ok (.ifCond .ne 9, 3) := by decide +kernel
theorem dX4_send_19 : decode cX4_send 19 = .ok (.aload_n 0, 1) := by decide +kernel
theorem dX4_send_20 : decode cX4_send 20 = .ok (.iconst 1, 1) := by decide +kernel
theorem dX4_send_21 : decode cX4_send 21 = .ok (.invokevirtual 105, 3) := by decide +kernel
theorem dX4_send_24 : decode cX4_send 24 = .ok (.ireturn, 1) := by decide +kernel
theorem dX4_send_25 : decode cX4_send 25 = .ok (.aload_n 0, 1) := by decide +kernel
theorem dX4_send_26 : decode cX4_send 26 = .ok (.iload_n 1, 1) := by decide +kernel
theorem dX4_send_27 : decode cX4_send 27 = .ok (.iload_n 2, 1) := by decide +kernel
theorem dX4_send_28 : decode cX4_send 28 = .ok (.invokevirtual 145, 3) := by decide +kernel
theorem dX4_send_31 : decode cX4_send 31 = .ok (.ifCond .ne 9, 3) := by decide +kernel
theorem dX4_send_34 : decode cX4_send 34 = .ok (.aload_n 0, 1) := by decide +kernel
theorem dX4_send_35 : decode cX4_send 35 = .ok (.iconst 2, 1) := by decide +kernel
theorem dX4_send_36 : decode cX4_send 36 = .ok (.invokevirtual 105, 3) := by decide +kernel
theorem dX4_send_39 : decode cX4_send 39 = .ok (.ireturn, 1) := by decide +kernel
theorem dX4_send_40 : decode cX4_send 40 = .ok (.aload_n 0, 1) := by decide +kernel
theorem dX4_send_41 : decode cX4_send 41 = .ok (.getfield 43, 3) := by decide +kernel
theorem dX4_send_44 : decode cX4_send 44 = .ok (.iconst 4, 1) := by decide +kernel
theorem dX4_send_45 : decode cX4_send 45 = .ok (.iload_n 1, 1) := by decide +kernel
theorem dX4_send_46 : decode cX4_send 46 = .ok (.imul, 1) := by decide +kernel
theorem dX4_send_47 : decode cX4_send 47 = .ok (.iload_n 2, 1) := by decide +kernel
theorem dX4_send_48 : decode cX4_send 48 = .ok (.iadd, 1) := by decide +kernel
theorem dX4_send_49 : decode cX4_send 49 = .ok (.iaload, 1) := by decide +kernel
theorem dX4_send_50 : decode cX4_send 50 = .ok (.bipush 16, 2) := by decide +kernel
theorem dX4_send_52 : decode cX4_send 52 = .ok (.if_icmp .ne 9, 3) := by decide +kernel
theorem dX4_send_55 : decode cX4_send 55 = .ok (.aload_n 0, 1) := by decide +kernel
theorem dX4_send_56 : decode cX4_send 56 = .ok (.iconst 3, 1) := by decide +kernel
theorem dX4_send_57 : decode cX4_send 57 = .ok (.invokevirtual 105, 3) := by decide +kernel
theorem dX4_send_60 : decode cX4_send 60 = .ok (.ireturn, 1) := by decide +kernel
theorem dX4_send_61 : decode cX4_send 61 = .ok (.aload_n 0, 1) := by decide +kernel
theorem dX4_send_62 : decode cX4_send 62 = .ok (.getfield 40, 3) := by decide +kernel
theorem dX4_send_65 : decode cX4_send 65 = .ok (.iconst 4, 1) := by decide +kernel
theorem dX4_send_66 : decode cX4_send 66 = .ok (.iload_n 1, 1) := by decide +kernel
theorem dX4_send_67 : decode cX4_send 67 = .ok (.imul, 1) := by decide +kernel
theorem dX4_send_68 : decode cX4_send 68 = .ok (.iload_n 2, 1) := by decide +kernel
theorem dX4_send_69 : decode cX4_send 69 = .ok (.iadd, 1) := by decide +kernel
theorem dX4_send_70 : decode cX4_send 70 = .ok (.iaload, 1) := by decide +kernel
theorem dX4_send_71 : decode cX4_send 71 = .ok (.istore_n 3, 1) := by decide +kernel
theorem dX4_send_72 : decode cX4_send 72 = .ok (.aload_n 0, 1) := by decide +kernel
theorem dX4_send_73 : decode cX4_send 73 = .ok (.getfield 19, 3) := by decide +kernel
theorem dX4_send_76 : decode cX4_send 76 = .ok (.iload_n 1, 1) := by decide +kernel
theorem dX4_send_77 : decode cX4_send 77 = .ok (.iaload, 1) := by decide +kernel
theorem dX4_send_78 : decode cX4_send 78 = .ok (.iload_n 3, 1) := by decide +kernel
theorem dX4_send_79 : decode cX4_send 79 = .ok (.isub, 1) := by decide +kernel
theorem dX4_send_80 : decode cX4_send 80 = .ok (.bipush 16, 2) := by decide +kernel
theorem dX4_send_82 : decode cX4_send 82 = .ok (.idiv, 1) := by decide +kernel
theorem dX4_send_83 : decode cX4_send 83 = .ok (.istore 4, 2) := by decide +kernel
theorem dX4_send_85 : decode cX4_send 85 = .ok (.iload 4, 2) := by decide +kernel
theorem dX4_send_87 : decode cX4_send 87 = .ok (.ifCond .gt 9, 3) := by decide +kernel
theorem dX4_send_90 : decode cX4_send 90 = .ok (.aload_n 0, 1) := by decide +kernel
theorem dX4_send_91 : decode cX4_send 91 = .ok (.iconst 4, 1) := by decide +kernel
theorem dX4_send_92 : decode cX4_send 92 = .ok (.invokevirtual 105, 3) := by decide +kernel
theorem dX4_send_95 : decode cX4_send 95 = .ok (.ireturn, 1) := by decide +kernel
theorem dX4_send_96 : decode cX4_send 96 = .ok (.iload 4, 2) := by decide +kernel
theorem dX4_send_98 : decode cX4_send 98 = .ok (.iconst 4, 1) := by decide +kernel
theorem dX4_send_99 : decode cX4_send 99 = .ok (.if_icmp .ge 8, 3) := by decide +kernel
theorem dX4_send_102 : decode cX4_send 102 = .ok (.iload 4, 2) := by decide +kernel
theorem dX4_send_104 : decode cX4_send 104 = .ok (.goto 4, 3) := by decide +kernel
theorem dX4_send_107 : decode cX4_send 107 = .ok (.iconst 4, 1) := by decide +kernel
theorem dX4_send_108 : decode cX4_send 108 = .ok (.istore 4, 2) := by decide +kernel
theorem dX4_send_110 : decode cX4_send 110 = .ok (.aload_n 0, 1) := by decide +kernel
theorem dX4_send_111 : decode cX4_send 111 = .ok (.iload_n 1, 1) := by decide +kernel
theorem dX4_send_112 : decode cX4_send 112 = .ok (.iload_n 2, 1) := by decide +kernel
theorem dX4_send_113 : decode cX4_send 113 = .ok (.iload_n 3, 1) := by decide +kernel
theorem dX4_send_114 : decode cX4_send 114 = .ok (.iload 4, 2) := by decide +kernel
theorem dX4_send_116 : decode cX4_send 116 = .ok (.invokevirtual 148, 3) := by decide +kernel
theorem dX4_send_119 : decode cX4_send 119 = .ok (.iload 4, 2) := by decide +kernel
theorem dX4_send_121 : decode cX4_send 121 = .ok (.ireturn, 1) := by decide +kernel
set_option maxRecDepth 20000 in
theorem ggX4_deliver_X4_isNode : GoodIn wsX4_deliver wsX4_isNode := goodIn_r _ [13, 14, 15, 12, 16] (by decide +kernel) (by decide +kernel)
set_option maxRecDepth 20000 in
theorem gX4_deliver_X4_isNode : GoodIn wsX4_deliver (va_wsS RX4 101 yX4_isNode wsX4_isNode) := goodIn_app (goodIn_of _ (by decide +kernel)) ggX4_deliver_X4_isNode
set_option maxRecDepth 20000 in
theorem ggX4_deliver_X4_fail : GoodIn wsX4_deliver wsX4_fail := goodIn_r _ [20, 1, 52, 53, 54, 55, 56, 57, 58, 59, 60, 61, 62, 63, 64, 65, 66, 67, 68, 69, 70, 71, 72] (by decide +kernel) (by decide +kernel)
set_option maxRecDepth 20000 in
theorem gX4_deliver_X4_fail : GoodIn wsX4_deliver (wsV RX4 105 RX4 yX4_fail wsX4_fail) := goodIn_app (goodIn_of _ (by decide +kernel)) ggX4_deliver_X4_fail
set_option maxRecDepth 20000 in
theorem ggX4_deliver_X4_slot : GoodIn wsX4_deliver wsX4_slot := goodIn_r _ [24] (by decide +kernel) (by decide +kernel)
set_option maxRecDepth 20000 in
theorem gX4_deliver_X4_slot : GoodIn wsX4_deliver (wsV RX4 141 RX4 yX4_slot wsX4_slot) := goodIn_app (goodIn_of _ (by decide +kernel)) ggX4_deliver_X4_slot
set_option maxRecDepth 20000 in
theorem ggX4_deliver_X4_take : GoodIn wsX4_deliver wsX4_take := goodIn_r _ [28, 2, 5, 3, 9, 21, 22, 23, 12, 24, 52, 53, 54, 55, 56, 57, 58, 59, 60, 61, 62, 63, 64, 65, 66, 67, 68, 69, 70, 71, 72] (by decide +kernel) (by decide +kernel)
set_option maxRecDepth 20000 in
theorem gX4_deliver_X4_take : GoodIn wsX4_deliver (wsV RX4 151 RX4 yX4_take wsX4_take) := goodIn_app (goodIn_of _ (by decide +kernel)) ggX4_deliver_X4_take
set_option maxRecDepth 20000 in
theorem ggX4_deliver_X4_count : GoodIn wsX4_deliver wsX4_count := goodIn_r _ [32, 6, 7, 4, 33, 34, 35, 36, 37, 12, 38, 8, 39, 40, 41, 52, 53, 54, 55, 56, 57, 58, 59, 60, 61, 62, 63, 64, 65, 66, 67, 68, 69, 70, 71, 72] (by decide +kernel) (by decide +kernel)
set_option maxRecDepth 20000 in
theorem gX4_deliver_X4_count : GoodIn wsX4_deliver (wsV RX4 136 RX4 yX4_count wsX4_count) := goodIn_app (goodIn_of _ (by decide +kernel)) ggX4_deliver_X4_count
set_option maxRecDepth 20000 in
theorem ggX4_deliver_X4_at : GoodIn wsX4_deliver wsX4_at := goodIn_r _ [41] (by decide +kernel) (by decide +kernel)
set_option maxRecDepth 20000 in
theorem gX4_deliver_X4_at : GoodIn wsX4_deliver (va_wsS RX4 73 yX4_at wsX4_at) := goodIn_app (goodIn_of _ (by decide +kernel)) ggX4_deliver_X4_at
set_option maxRecDepth 20000 in
theorem ggX4_deliver_X4_sync : GoodIn wsX4_deliver wsX4_sync := goodIn_r _ [45, 46, 7, 47, 8, 39, 40, 12, 41, 52, 53, 54, 55, 56, 57, 58, 59, 60, 61, 62, 63, 64, 65, 66, 67, 68, 69, 70, 71, 72] (by decide +kernel) (by decide +kernel)
set_option maxRecDepth 20000 in
theorem gX4_deliver_X4_sync : GoodIn wsX4_deliver (wsV RX4 123 RX4 yX4_sync wsX4_sync) := goodIn_app (goodIn_of _ (by decide +kernel)) ggX4_deliver_X4_sync
set_option maxRecDepth 20000 in
theorem ggX4_deliver_X4_add : GoodIn wsX4_deliver wsX4_add := goodIn_r _ [51, 2, 5, 3, 9, 8, 21, 22, 23, 12, 24, 39, 40, 41, 52, 53, 54, 55, 56, 57, 58, 59, 60, 61, 62, 63, 64, 65, 66, 67, 68, 69, 70, 71, 72] (by decide +kernel) (by decide +kernel)
set_option maxRecDepth 20000 in
theorem gX4_deliver_X4_add : GoodIn wsX4_deliver (wsV RX4 148 RX4 yX4_add wsX4_add) := goodIn_app (goodIn_of _ (by decide +kernel)) ggX4_deliver_X4_add
theorem dX4_deliver_0 : decode cX4_deliver 0 = .ok (.aload_n 0, 1) := by decide +kernel
theorem dX4_deliver_1 : decode cX4_deliver 1 = .ok (.iconst 0, 1) := by decide +kernel
theorem dX4_deliver_2 : decode cX4_deliver 2 = .ok (.putfield 65, 3) := by decide +kernel
theorem dX4_deliver_5 : decode cX4_deliver 5 = .ok (.iload_n 1, 1) := by decide +kernel
theorem dX4_deliver_6 : decode cX4_deliver 6 = .ok (.invokestatic 101, 3) := by decide +kernel
theorem dX4_deliver_9 : decode cX4_deliver 9 = .ok (.ifCond .eq 10, 3) := by decide +kernel
theorem dX4_deliver_12 : decode cX4_deliver 12 = .ok (.iload_n 2, 1) := by decide +kernel
theorem dX4_deliver_13 : decode cX4_deliver 13 = .ok (.invokestatic 101, 3) := by decide +kernel
theorem dX4_deliver_16 : decode cX4_deliver 16 = .ok (.ifCond .ne 9, 3) := by decide +kernel
theorem dX4_deliver_19 : decode cX4_deliver 19 = .ok (.aload_n 0, 1) := by decide +kernel
theorem dX4_deliver_20 : decode cX4_deliver 20 = .ok (.iconst 1, 1) := by decide +kernel
theorem dX4_deliver_21 : decode cX4_deliver 21 = .ok (.invokevirtual 105, 3) := by decide +kernel
theorem dX4_deliver_24 : decode cX4_deliver 24 = .ok (.ireturn, 1) := by decide +kernel
theorem dX4_deliver_25 : decode cX4_deliver 25 = .ok (.aload_n 0, 1) := by decide +kernel
theorem dX4_deliver_26 : decode cX4_deliver 26 = .ok (.getfield 43, 3) := by decide +kernel
theorem dX4_deliver_29 : decode cX4_deliver 29 = .ok (.iconst 4, 1) := by decide +kernel
theorem dX4_deliver_30 : decode cX4_deliver 30 = .ok (.iload_n 1, 1) := by decide +kernel
theorem dX4_deliver_31 : decode cX4_deliver 31 = .ok (.imul, 1) := by decide +kernel
theorem dX4_deliver_32 : decode cX4_deliver 32 = .ok (.iload_n 2, 1) := by decide +kernel
theorem dX4_deliver_33 : decode cX4_deliver 33 = .ok (.iadd, 1) := by decide +kernel
theorem dX4_deliver_34 : decode cX4_deliver 34 = .ok (.iaload, 1) := by decide +kernel
theorem dX4_deliver_35 : decode cX4_deliver 35 = .ok (.ifCond .ne 9, 3) := by decide +kernel
theorem dX4_deliver_38 : decode cX4_deliver 38 = .ok (.aload_n 0, 1) := by decide +kernel
theorem dX4_deliver_39 : decode cX4_deliver 39 = .ok (.iconst 2, 1) := by decide +kernel
theorem dX4_deliver_40 : decode cX4_deliver 40 = .ok (.invokevirtual 105, 3) := by decide +kernel
theorem dX4_deliver_43 : decode cX4_deliver 43 = .ok (.ireturn, 1) := by decide +kernel
theorem dX4_deliver_44 : decode cX4_deliver 44 = .ok (.aload_n 0, 1) := by decide +kernel
theorem dX4_deliver_45 : decode cX4_deliver 45 = .ok (.iload_n 1, 1) := by decide +kernel
theorem dX4_deliver_46 : decode cX4_deliver 46 = .ok (.iload_n 2, 1) := by decide +kernel
theorem dX4_deliver_47 : decode cX4_deliver 47 = .ok (.iconst 0, 1) := by decide +kernel
theorem dX4_deliver_48 : decode cX4_deliver 48 = .ok (.invokevirtual 141, 3) := by decide +kernel
theorem dX4_deliver_51 : decode cX4_deliver 51 = .ok (.istore_n 3, 1) := by decide +kernel
theorem dX4_deliver_52 : decode cX4_deliver 52 = .ok (.aload_n 0, 1) := by decide +kernel
theorem dX4_deliver_53 : decode cX4_deliver 53 = .ok (.getfield 49, 3) := by decide +kernel
theorem dX4_deliver_56 : decode cX4_deliver 56 = .ok (.iload_n 3, 1) := by decide +kernel
theorem dX4_deliver_57 : decode cX4_deliver 57 = .ok (.iaload, 1) := by decide +kernel
theorem dX4_deliver_58 : decode cX4_deliver 58 = .ok (.ifCond .ge 51, 3) := by decide +kernel
theorem dX4_deliver_61 : decode cX4_deliver 61 = .ok (.aload_n 0, 1) := by decide +kernel
theorem dX4_deliver_62 : decode cX4_deliver 62 = .ok (.getfield 40, 3) := by decide +kernel
theorem dX4_deliver_65 : decode cX4_deliver 65 = .ok (.iconst 4, 1) := by decide +kernel
theorem dX4_deliver_66 : decode cX4_deliver 66 = .ok (.iload_n 2, 1) := by decide +kernel
theorem dX4_deliver_67 : decode cX4_deliver 67 = .ok (.imul, 1) := by decide +kernel
theorem dX4_deliver_68 : decode cX4_deliver 68 = .ok (.iload_n 1, 1) := by decide +kernel
theorem dX4_deliver_69 : decode cX4_deliver 69 = .ok (.iadd, 1) := by decide +kernel
theorem dX4_deliver_70 : decode cX4_deliver 70 = .ok (.aload_n 0, 1) := by decide +kernel
theorem dX4_deliver_71 : decode cX4_deliver 71 = .ok (.getfield 46, 3) := by decide +kernel
theorem dX4_deliver_74 : decode cX4_deliver 74 = .ok (.iload_n 3, 1) := by decide +kernel
theorem dX4_deliver_75 : decode cX4_deliver 75 = .ok (.iaload, 1) := by decide +kernel
theorem dX4_deliver_76 : decode cX4_deliver 76 = .ok (.iastore, 1) := by decide +kernel
theorem dX4_deliver_77 : decode cX4_deliver 77 = .ok (.aload_n 0, 1) := by decide +kernel
theorem dX4_deliver_78 : decode cX4_deliver 78 = .ok (.iload_n 1, 1) := by decide +kernel
theorem dX4_deliver_79 : decode cX4_deliver 79 = .ok (.iload_n 2, 1) := by decide +kernel
theorem dX4_deliver_80 : decode cX4_deliver 80 = .ok (.invokevirtual 151, 3) := by decide +kernel
theorem dX4_deliver_83 : decode cX4_deliver 83 = .ok (.aload_n 0, 1) := by decide +kernel
theorem dX4_deliver_84 : decode cX4_deliver 84 = .ok (.getfield 31, 3) := by decide +kernel
theorem dX4_deliver_87 : decode cX4_deliver 87 = .ok (.iload_n 2, 1) := by decide +kernel
theorem dX4_deliver_88 : decode cX4_deliver 88 = .ok (.iaload, 1) := by decide +kernel
theorem dX4_deliver_89 : decode cX4_deliver 89 = .ok (.iload_n 1, 1) := by decide +kernel
theorem dX4_deliver_90 : decode cX4_deliver 90 = .ok (.if_icmp .ne 8, 3) := by decide +kernel
theorem dX4_deliver_93 : decode cX4_deliver 93 = .ok (.aload_n 0, 1) := by decide +kernel
theorem dX4_deliver_94 : decode cX4_deliver 94 = .ok (.iload_n 2, 1) := by decide +kernel
theorem dX4_deliver_95 : decode cX4_deliver 95 = .ok (.invokevirtual 136, 3) := by decide +kernel
theorem dX4_deliver_98 : decode cX4_deliver 98 = .ok (.aload_n 0, 1) := by decide +kernel
theorem dX4_deliver_99 : decode cX4_deliver 99 = .ok (.getfield 40, 3) := by decide +kernel
theorem dX4_deliver_102 : decode cX4_deliver 102 = .ok (.iconst 4, 1) := by decide +kernel
theorem dX4_deliver_103 : decode cX4_deliver 103 = .ok (.iload_n 2, 1) := by decide +kernel
theorem dX4_deliver_104 : decode cX4_deliver 104 = .ok (.imul, 1) := by decide +kernel
theorem dX4_deliver_105 : decode cX4_deliver 105 = .ok (.iload_n 1, 1) := by decide +kernel
theorem dX4_deliver_106 : decode cX4_deliver 106 = .ok (.iadd, 1) := by decide +kernel
theorem dX4_deliver_107 : decode cX4_deliver 107 = .ok (.iaload, 1) := by decide +kernel
theorem dX4_deliver_108 : decode cX4_deliver 108 = .ok (.ireturn, 1) := by decide +kernel
theorem dX4_deliver_109 : decode cX4_deliver 109 = .ok (.aload_n 0, 1) := by decide +kernel
theorem dX4_deliver_110 : decode cX4_deliver 110 = .ok (.getfield 43, 3) := by decide +kernel
theorem dX4_deliver_113 : decode cX4_deliver 113 = .ok (.iconst 4, 1) := by decide +kernel
theorem dX4_deliver_114 : decode cX4_deliver 114 = .ok (.iload_n 2, 1) := by decide +kernel
theorem dX4_deliver_115 : decode cX4_deliver 115 = .ok (.imul, 1) := by decide +kernel
theorem dX4_deliver_116 : decode cX4_deliver 116 = .ok (.iload_n 1, 1) := by decide +kernel
theorem dX4_deliver_117 : decode cX4_deliver 117 = .ok (.iadd, 1) := by decide +kernel
theorem dX4_deliver_118 : decode cX4_deliver 118 = .ok (.iaload, 1) := by decide +kernel
theorem dX4_deliver_119 : decode cX4_deliver 119 = .ok (.bipush 16, 2) := by decide +kernel
theorem dX4_deliver_121 : decode cX4_deliver 121 = .ok (.if_icmp .ne 9, 3) := by decide +kernel
theorem dX4_deliver_124 : decode cX4_deliver 124 = .ok (.aload_n 0, 1) := by decide +kernel
theorem dX4_deliver_125 : decode cX4_deliver 125 = .ok (.iconst 3, 1) := by decide +kernel
theorem dX4_deliver_126 : decode cX4_deliver 126 = .ok (.invokevirtual 105, 3) := by decide +kernel
theorem dX4_deliver_129 : decode cX4_deliver 129 = .ok (.ireturn, 1) := by decide +kernel
theorem dX4_deliver_130 : decode cX4_deliver 130 = .ok (.aload_n 0, 1) := by decide +kernel
theorem dX4_deliver_131 : decode cX4_deliver 131 = .ok (.getfield 46, 3) := by decide +kernel
theorem dX4_deliver_134 : decode cX4_deliver 134 = .ok (.iload_n 3, 1) := by decide +kernel
theorem dX4_deliver_135 : decode cX4_deliver 135 = .ok (.iaload, 1) := by decide +kernel
theorem dX4_deliver_136 : decode cX4_deliver 136 = .ok (.aload_n 0, 1) := by decide +kernel
theorem dX4_deliver_137 : decode cX4_deliver 137 = .ok (.getfield 19, 3) := by decide +kernel
theorem dX4_deliver_140 : decode cX4_deliver 140 = .ok (.iload_n 2, 1) := by decide +kernel
theorem dX4_deliver_141 : decode cX4_deliver 141 = .ok (.iaload, 1) := by decide +kernel
theorem dX4_deliver_142 : decode cX4_deliver 142 = .ok (.if_icmp .ne 79, 3) := by decide +kernel
theorem dX4_deliver_145 : decode cX4_deliver 145 = .ok (.iconst 0, 1) := by decide +kernel
theorem dX4_deliver_146 : decode cX4_deliver 146 = .ok (.istore 4, 2) := by decide +kernel
theorem dX4_deliver_148 : decode cX4_deliver 148 = .ok (.iload 4, 2) := by decide +kernel
theorem dX4_deliver_150 : decode cX4_deliver 150 = .ok (.bipush 16, 2) := by decide +kernel
theorem dX4_deliver_152 : decode cX4_deliver 152 = .ok (.aload_n 0, 1) := by decide +kernel
theorem dX4_deliver_153 : decode cX4_deliver 153 = .ok (.getfield 49, 3) := by decide +kernel
theorem dX4_deliver_156 : decode cX4_deliver 156 = .ok (.iload_n 3, 1) := by decide +kernel
theorem dX4_deliver_157 : decode cX4_deliver 157 = .ok (.iaload, 1) := by decide +kernel
theorem dX4_deliver_158 : decode cX4_deliver 158 = .ok (.imul, 1) := by decide +kernel
theorem dX4_deliver_159 : decode cX4_deliver 159 = .ok (.if_icmp .ge 39, 3) := by decide +kernel
theorem dX4_deliver_162 : decode cX4_deliver 162 = .ok (.aload_n 0, 1) := by decide +kernel
theorem dX4_deliver_163 : decode cX4_deliver 163 = .ok (.getfield 7, 3) := by decide +kernel
theorem dX4_deliver_166 : decode cX4_deliver 166 = .ok (.iload_n 2, 1) := by decide +kernel
theorem dX4_deliver_167 : decode cX4_deliver 167 = .ok (.aload_n 0, 1) := by decide +kernel
theorem dX4_deliver_168 : decode cX4_deliver 168 = .ok (.getfield 19, 3) := by decide +kernel
theorem dX4_deliver_171 : decode cX4_deliver 171 = .ok (.iload_n 2, 1) := by decide +kernel
theorem dX4_deliver_172 : decode cX4_deliver 172 = .ok (.iaload, 1) := by decide +kernel
theorem dX4_deliver_173 : decode cX4_deliver 173 = .ok (.iload 4, 2) := by decide +kernel
theorem dX4_deliver_175 : decode cX4_deliver 175 = .ok (.iadd, 1) := by decide +kernel
theorem dX4_deliver_176 : decode cX4_deliver 176 = .ok (.invokestatic 73, 3) := by decide +kernel
theorem dX4_deliver_179 : decode cX4_deliver 179 = .ok (.aload_n 0, 1) := by decide +kernel
theorem dX4_deliver_180 : decode cX4_deliver 180 = .ok (.getfield 52, 3) := by decide +kernel
theorem dX4_deliver_183 : decode cX4_deliver 183 = .ok (.bipush 64, 2) := by decide +kernel
theorem dX4_deliver_185 : decode cX4_deliver 185 = .ok (.iload_n 3, 1) := by decide +kernel
theorem dX4_deliver_186 : decode cX4_deliver 186 = .ok (.imul, 1) := by decide +kernel
theorem dX4_deliver_187 : decode cX4_deliver 187 = .ok (.iload 4, 2) := by decide +kernel
theorem dX4_deliver_189 : decode cX4_deliver 189 = .ok (.iadd, 1) := by decide +kernel
theorem dX4_deliver_190 : decode cX4_deliver 190 = .ok (.iaload, 1) := by decide +kernel
theorem dX4_deliver_191 : decode cX4_deliver 191 = .ok (.iastore, 1) := by decide +kernel
theorem dX4_deliver_192 : decode cX4_deliver 192 = .ok (.iinc 4 1, 3) := by decide +kernel
theorem dX4_deliver_195 : decode cX4_deliver 195 = .ok (.goto (-47), 3) := by decide +kernel
theorem dX4_deliver_198 : decode cX4_deliver 198 = .ok (.aload_n 0, 1) := by decide +kernel
theorem dX4_deliver_199 : decode cX4_deliver 199 = .ok (.getfield 19, 3) := by decide +kernel
theorem dX4_deliver_202 : decode cX4_deliver 202 = .ok (.iload_n 2, 1) := by decide +kernel
theorem dX4_deliver_203 : decode cX4_deliver 203 = .ok (.dup2, 1) := by decide +kernel
theorem dX4_deliver_204 : decode cX4_deliver 204 = .ok (.iaload, 1) := by decide +kernel
theorem dX4_deliver_205 : decode cX4_deliver 205 = .ok (.bipush 16, 2) := by decide +kernel
theorem dX4_deliver_207 : decode cX4_deliver 207 = .ok (.aload_n 0, 1) := by decide +kernel
theorem dX4_deliver_208 : decode cX4_deliver 208 = .ok (.getfield 49, 3) := by decide +kernel
theorem dX4_deliver_211 : decode cX4_deliver 211 = .ok (.iload_n 3, 1) := by decide +kernel
theorem dX4_deliver_212 : decode cX4_deliver 212 = .ok (.iaload, 1) := by decide +kernel
theorem dX4_deliver_213 : decode cX4_deliver 213 = .ok (.imul, 1) := by decide +kernel
theorem dX4_deliver_214 : decode cX4_deliver 214 = .ok (.iadd, 1) := by decide +kernel
theorem dX4_deliver_215 : decode cX4_deliver 215 = .ok (.iastore, 1) := by decide +kernel
theorem dX4_deliver_216 : decode cX4_deliver 216 = .ok (.aload_n 0, 1) := by decide +kernel
theorem dX4_deliver_217 : decode cX4_deliver 217 = .ok (.iload_n 2, 1) := by decide +kernel
theorem dX4_deliver_218 : decode cX4_deliver 218 = .ok (.invokevirtual 123, 3) := by decide +kernel
theorem dX4_deliver_221 : decode cX4_deliver 221 = .ok (.aload_n 0, 1) := by decide +kernel
theorem dX4_deliver_222 : decode cX4_deliver 222 = .ok (.iload_n 1, 1) := by decide +kernel
theorem dX4_deliver_223 : decode cX4_deliver 223 = .ok (.iload_n 2, 1) := by decide +kernel
theorem dX4_deliver_224 : decode cX4_deliver 224 = .ok (.invokevirtual 151, 3) := by decide +kernel
theorem dX4_deliver_227 : decode cX4_deliver 227 = .ok (.aload_n 0, 1) := by decide +kernel
theorem dX4_deliver_228 : decode cX4_deliver 228 = .ok (.iload_n 2, 1) := by decide +kernel
theorem dX4_deliver_229 : decode cX4_deliver 229 = .ok (.iload_n 1, 1) := by decide +kernel
theorem dX4_deliver_230 : decode cX4_deliver 230 = .ok (.aload_n 0, 1) := by decide +kernel
theorem dX4_deliver_231 : decode cX4_deliver 231 = .ok (.getfield 19, 3) := by decide +kernel
theorem dX4_deliver_234 : decode cX4_deliver 234 = .ok (.iload_n 2, 1) := by decide +kernel
theorem dX4_deliver_235 : decode cX4_deliver 235 = .ok (.iaload, 1) := by decide +kernel
theorem dX4_deliver_236 : decode cX4_deliver 236 = .ok (.iconst (-1), 1) := by decide +kernel
theorem dX4_deliver_237 : decode cX4_deliver 237 = .ok (.invokevirtual 148, 3) := by decide +kernel
theorem dX4_deliver_240 : decode cX4_deliver 240 = .ok (.aload_n 0, 1) := by decide +kernel
theorem dX4_deliver_241 : decode cX4_deliver 241 = .ok (.getfield 19, 3) := by decide +kernel
theorem dX4_deliver_244 : decode cX4_deliver 244 = .ok (.iload_n 2, 1) := by decide +kernel
theorem dX4_deliver_245 : decode cX4_deliver 245 = .ok (.iaload, 1) := by decide +kernel
theorem dX4_deliver_246 : decode cX4_deliver 246 = .ok (.ireturn, 1) := by decide +kernel
set_option maxRecDepth 20000 in
theorem ggX4_drop_X4_isNode : GoodIn wsX4_drop wsX4_isNode := goodIn_r _ [6, 7, 8, 5, 9] (by decide +kernel) (by decide +kernel)
set_option maxRecDepth 20000 in
theorem gX4_drop_X4_isNode : GoodIn wsX4_drop (va_wsS RX4 101 yX4_isNode wsX4_isNode) := goodIn_app (goodIn_of _ (by decide +kernel)) ggX4_drop_X4_isNode
set_option maxRecDepth 20000 in
theorem ggX4_drop_X4_fail : GoodIn wsX4_drop wsX4_fail := goodIn_r _ [13, 1, 25, 26, 27, 28, 29, 30, 31, 32, 33, 34, 35, 36, 37, 38, 39, 40, 41, 42, 43, 44, 45] (by decide +kernel) (by decide +kernel)
set_option maxRecDepth 20000 in
theorem gX4_drop_X4_fail : GoodIn wsX4_drop (wsV RX4 105 RX4 yX4_fail wsX4_fail) := goodIn_app (goodIn_of _ (by decide +kernel)) ggX4_drop_X4_fail
set_option maxRecDepth 20000 in
theorem ggX4_drop_X4_take : GoodIn wsX4_drop wsX4_take := goodIn_r _ [17, 2, 18, 19, 20, 21, 22, 23, 5, 24, 25, 26, 27, 28, 29, 30, 31, 32, 33, 34, 35, 36, 37, 38, 39, 40, 41, 42, 43, 44, 45] (by decide +kernel) (by decide +kernel)
set_option maxRecDepth 20000 in
theorem gX4_drop_X4_take : GoodIn wsX4_drop (wsV RX4 151 RX4 yX4_take wsX4_take) := goodIn_app (goodIn_of _ (by decide +kernel)) ggX4_drop_X4_take
theorem dX4_drop_0 : decode cX4_drop 0 = .ok (.aload_n 0, 1) := by decide +kernel
theorem dX4_drop_1 : decode cX4_drop 1 = .ok (.iconst 0, 1) := by decide +kernel
theorem dX4_drop_2 : decode cX4_drop 2 = .ok (.putfield 65, 3) := by decide +kernel
theorem dX4_drop_5 : decode cX4_drop 5 = .ok (.iload_n 1, 1) := by decide +kernel
theorem dX4_drop_6 : decode cX4_drop 6 = .ok (.invokestatic 101, 3) := by decide +kernel
theorem dX4_drop_9 : decode cX4_drop 9 = .ok (.ifCond .eq 10, 3) := by decide +kernel
theorem dX4_drop_12 : decode cX4_drop 12 = .ok (.iload_n 2, 1) := by decide +kernel
theorem dX4_drop_13 : decode cX4_drop 13 = .ok (.invokestatic 101, 3) := by decide +kernel
theorem dX4_drop_16 : decode cX4_drop 16 = .ok (.ifCond .ne 9, 3) := by decide +kernel
theorem dX4_drop_19 : decode cX4_drop 19 = .ok (.aload_n 0, 1) := by decide +kernel
theorem dX4_drop_20 : decode cX4_drop 20 = .ok (.iconst 1, 1) := by decide +kernel
theorem dX4_drop_21 : decode cX4_drop 21 = .ok (.invokevirtual 105, 3) := by decide +kernel
theorem dX4_drop_24 : decode cX4_drop 24 = .ok (.ireturn, 1) := by decide +kernel
theorem dX4_drop_25 : decode cX4_drop 25 = .ok (.aload_n 0, 1) := by decide +kernel
theorem dX4_drop_26 : decode cX4_drop 26 = .ok (.getfield 43, 3) := by decide +kernel
theorem dX4_drop_29 : decode cX4_drop 29 = .ok (.iconst 4, 1) := by decide +kernel
theorem dX4_drop_30 : decode cX4_drop 30 = .ok (.iload_n 1, 1) := by decide +kernel
theorem dX4_drop_31 : decode cX4_drop 31 = .ok (.imul, 1) := by decide +kernel
theorem dX4_drop_32 : decode cX4_drop 32 = .ok (.iload_n 2, 1) := by decide +kernel
theorem dX4_drop_33 : decode cX4_drop 33 = .ok (.iadd, 1) := by decide +kernel
theorem dX4_drop_34 : decode cX4_drop 34 = .ok (.iaload, 1) := by decide +kernel
theorem dX4_drop_35 : decode cX4_drop 35 = .ok (.ifCond .ne 9, 3) := by decide +kernel
theorem dX4_drop_38 : decode cX4_drop 38 = .ok (.aload_n 0, 1) := by decide +kernel
theorem dX4_drop_39 : decode cX4_drop 39 = .ok (.iconst 2, 1) := by decide +kernel
theorem dX4_drop_40 : decode cX4_drop 40 = .ok (.invokevirtual 105, 3) := by decide +kernel
theorem dX4_drop_43 : decode cX4_drop 43 = .ok (.ireturn, 1) := by decide +kernel
theorem dX4_drop_44 : decode cX4_drop 44 = .ok (.aload_n 0, 1) := by decide +kernel
theorem dX4_drop_45 : decode cX4_drop 45 = .ok (.iload_n 1, 1) := by decide +kernel
theorem dX4_drop_46 : decode cX4_drop 46 = .ok (.iload_n 2, 1) := by decide +kernel
theorem dX4_drop_47 : decode cX4_drop 47 = .ok (.invokevirtual 151, 3) := by decide +kernel
theorem dX4_drop_50 : decode cX4_drop 50 = .ok (.aload_n 0, 1) := by decide +kernel
theorem dX4_drop_51 : decode cX4_drop 51 = .ok (.getfield 43, 3) := by decide +kernel
theorem dX4_drop_54 : decode cX4_drop 54 = .ok (.iconst 4, 1) := by decide +kernel
theorem dX4_drop_55 : decode cX4_drop 55 = .ok (.iload_n 1, 1) := by decide +kernel
theorem dX4_drop_56 : decode cX4_drop 56 = .ok (.imul, 1) := by decide +kernel
theorem dX4_drop_57 : decode cX4_drop 57 = .ok (.iload_n 2, 1) := by decide +kernel
theorem dX4_drop_58 : decode cX4_drop 58 = .ok (.iadd, 1) := by decide +kernel
theorem dX4_drop_59 : decode cX4_drop 59 = .ok (.iaload, 1) := by decide +kernel
theorem dX4_drop_60 : decode cX4_drop 60 = .ok (.ireturn, 1) := by decide +kernel
set_option maxRecDepth 20000 in
theorem ggX4_apply_X4_isNode : GoodIn wsX4_apply wsX4_isNode := goodIn_r _ [8, 9, 10, 7, 11] (by decide +kernel) (by decide +kernel)
set_option maxRecDepth 20000 in
theorem gX4_apply_X4_isNode : GoodIn wsX4_apply (va_wsS RX4 101 yX4_isNode wsX4_isNode) := goodIn_app (goodIn_of _ (by decide +kernel)) ggX4_apply_X4_isNode
set_option maxRecDepth 20000 in
theorem ggX4_apply_X4_fail : GoodIn wsX4_apply wsX4_fail := goodIn_r _ [15, 1, 16, 17, 18, 19, 20, 21, 22, 23, 24, 25, 26, 27, 28, 29, 30, 31, 32, 33, 34, 35, 36] (by decide +kernel) (by decide +kernel)
set_option maxRecDepth 20000 in
theorem gX4_apply_X4_fail : GoodIn wsX4_apply (wsV RX4 105 RX4 yX4_fail wsX4_fail) := goodIn_app (goodIn_of _ (by decide +kernel)) ggX4_apply_X4_fail
theorem dX4_apply_0 : decode cX4_apply 0 = .ok (.aload_n 0, 1) := by decide +kernel
theorem dX4_apply_1 : decode cX4_apply 1 = .ok (.iconst 0, 1) := by decide +kernel
theorem dX4_apply_2 : decode cX4_apply 2 = .ok (.putfield 65, 3) := by decide +kernel
theorem dX4_apply_5 : decode cX4_apply 5 = .ok (.iload_n 1, 1) := by decide +kernel
theorem dX4_apply_6 : decode cX4_apply 6 = .ok (.invokestatic 101, 3) := by decide +kernel
theorem dX4_apply_9 : decode cX4_apply 9 = .ok (.ifCond .ne 9, 3) := by decide +kernel
theorem dX4_apply_12 : decode cX4_apply 12 = .ok (.aload_n 0, 1) := by decide +kernel
theorem dX4_apply_13 : decode cX4_apply 13 = .ok (.iconst 1, 1) := by decide +kernel
theorem dX4_apply_14 : decode cX4_apply 14 = .ok (.invokevirtual 105, 3) := by decide +kernel
theorem dX4_apply_17 : decode cX4_apply 17 = .ok (.ireturn, 1) := by decide +kernel
theorem dX4_apply_18 : decode cX4_apply 18 = .ok (.iload_n 2, 1) := by decide +kernel
theorem dX4_apply_19 : decode cX4_apply 19 = .ok (.iconst 1, 1) := by decide +kernel
theorem dX4_apply_20 : decode cX4_apply 20 = .ok (.if_icmp .ge 9, 3) := by decide +kernel
theorem dX4_apply_23 : decode cX4_apply 23 = .ok (.aload_n 0, 1) := by decide +kernel
theorem dX4_apply_24 : decode cX4_apply 24 = .ok (.iconst 2, 1) := by decide +kernel
theorem dX4_apply_25 : decode cX4_apply 25 = .ok (.invokevirtual 105, 3) := by decide +kernel
theorem dX4_apply_28 : decode cX4_apply 28 = .ok (.ireturn, 1) := by decide +kernel
theorem dX4_apply_29 : decode cX4_apply 29 = .ok (.aload_n 0, 1) := by decide +kernel
theorem dX4_apply_30 : decode cX4_apply 30 = .ok (.getfield 16, 3) := by decide +kernel
theorem dX4_apply_33 : decode cX4_apply 33 = .ok (.iload_n 1, 1) := by decide +kernel
theorem dX4_apply_34 : decode cX4_apply 34 = .ok (.iaload, 1) := by decide +kernel
theorem dX4_apply_35 : decode cX4_apply 35 = .ok (.iconst 3, 1) := by decide +kernel
theorem dX4_apply_36 : decode cX4_apply 36 = .ok (.if_icmp .eq 9, 3) := by decide +kernel
theorem dX4_apply_39 : decode cX4_apply 39 = .ok (.aload_n 0, 1) := by decide +kernel
theorem dX4_apply_40 : decode cX4_apply 40 = .ok (.iconst 3, 1) := by decide +kernel
theorem dX4_apply_41 : decode cX4_apply 41 = .ok (.invokevirtual 105, 3) := by decide +kernel
theorem dX4_apply_44 : decode cX4_apply 44 = .ok (.ireturn, 1) := by decide +kernel
theorem dX4_apply_45 : decode cX4_apply 45 = .ok (.aload_n 0, 1) := by decide +kernel
theorem dX4_apply_46 : decode cX4_apply 46 = .ok (.getfield 19, 3) := by decide +kernel
theorem dX4_apply_49 : decode cX4_apply 49 = .ok (.iload_n 1, 1) := by decide +kernel
theorem dX4_apply_50 : decode cX4_apply 50 = .ok (.iaload, 1) := by decide +kernel
theorem dX4_apply_51 : decode cX4_apply 51 = .ok (.aload_n 0, 1) := by decide +kernel
theorem dX4_apply_52 : decode cX4_apply 52 = .ok (.getfield 25, 3) := by decide +kernel
theorem dX4_apply_55 : decode cX4_apply 55 = .ok (.iload_n 1, 1) := by decide +kernel
theorem dX4_apply_56 : decode cX4_apply 56 = .ok (.iaload, 1) := by decide +kernel
theorem dX4_apply_57 : decode cX4_apply 57 = .ok (.isub, 1) := by decide +kernel
theorem dX4_apply_58 : decode cX4_apply 58 = .ok (.bipush 16, 2) := by decide +kernel
theorem dX4_apply_60 : decode cX4_apply 60 = .ok (.idiv, 1) := by decide +kernel
theorem dX4_apply_61 : decode cX4_apply 61 = .ok (.istore_n 3, 1) := by decide +kernel
theorem dX4_apply_62 : decode cX4_apply 62 = .ok (.iload_n 2, 1) := by decide +kernel
theorem dX4_apply_63 : decode cX4_apply 63 = .ok (.iload_n 3, 1) := by decide +kernel
theorem dX4_apply_64 : decode cX4_apply 64 = .ok (.if_icmp .ge 7, 3) := by decide +kernel
theorem dX4_apply_67 : decode cX4_apply 67 = .ok (.iload_n 2, 1) := by decide +kernel
theorem dX4_apply_68 : decode cX4_apply 68 = .ok (.goto 4, 3) := by decide +kernel
theorem dX4_apply_71 : decode cX4_apply 71 = .ok (.iload_n 3, 1) := by decide +kernel
theorem dX4_apply_72 : decode cX4_apply 72 = .ok (.istore_n 3, 1) := by decide +kernel
theorem dX4_apply_73 : decode cX4_apply 73 = .ok (.aload_n 0, 1) := by decide +kernel
theorem dX4_apply_74 : decode cX4_apply 74 = .ok (.getfield 25, 3) := by decide +kernel
theorem dX4_apply_77 : decode cX4_apply 77 = .ok (.iload_n 1, 1) := by decide +kernel
theorem dX4_apply_78 : decode cX4_apply 78 = .ok (.dup2, 1) := by decide +kernel
theorem dX4_apply_79 : decode cX4_apply 79 = .ok (.iaload, 1) := by decide +kernel
theorem dX4_apply_80 : decode cX4_apply 80 = .ok (.bipush 16, 2) := by decide +kernel
theorem dX4_apply_82 : decode cX4_apply 82 = .ok (.iload_n 3, 1) := by decide +kernel
theorem dX4_apply_83 : decode cX4_apply 83 = .ok (.imul, 1) := by decide +kernel
theorem dX4_apply_84 : decode cX4_apply 84 = .ok (.iadd, 1) := by decide +kernel
theorem dX4_apply_85 : decode cX4_apply 85 = .ok (.iastore, 1) := by decide +kernel
theorem dX4_apply_86 : decode cX4_apply 86 = .ok (.iload_n 3, 1) := by decide +kernel
theorem dX4_apply_87 : decode cX4_apply 87 = .ok (.ireturn, 1) := by decide +kernel
set_option maxRecDepth 20000 in
theorem ggX4_play_X4_kindAt : GoodIn wsX4_play wsX4_kindAt := goodIn_r _ [11, 5, 12, 13, 10, 14, 19, 20, 21, 22, 23, 24, 25, 26, 27, 28, 29, 30, 31, 32, 33, 34, 35, 36, 37, 38, 39] (by decide +kernel) (by decide +kernel)
set_option maxRecDepth 20000 in
theorem gX4_play_X4_kindAt : GoodIn wsX4_play (wsV RX4 84 RX4 yX4_kindAt wsX4_kindAt) := goodIn_app (goodIn_of _ (by decide +kernel)) ggX4_play_X4_kindAt
set_option maxRecDepth 20000 in
theorem ggX4_play_X4_at : GoodIn wsX4_play wsX4_at := goodIn_r _ [14] (by decide +kernel) (by decide +kernel)
set_option maxRecDepth 20000 in
theorem gX4_play_X4_at : GoodIn wsX4_play (va_wsS RX4 73 yX4_at wsX4_at) := goodIn_app (goodIn_of _ (by decide +kernel)) ggX4_play_X4_at
set_option maxRecDepth 20000 in
theorem ggX4_play_X4_wordAt : GoodIn wsX4_play wsX4_wordAt := goodIn_r _ [18, 5, 12, 13, 10, 14, 19, 20, 21, 22, 23, 24, 25, 26, 27, 28, 29, 30, 31, 32, 33, 34, 35, 36, 37, 38, 39] (by decide +kernel) (by decide +kernel)
set_option maxRecDepth 20000 in
theorem gX4_play_X4_wordAt : GoodIn wsX4_play (wsV RX4 81 RX4 yX4_wordAt wsX4_wordAt) := goodIn_app (goodIn_of _ (by decide +kernel)) ggX4_play_X4_wordAt
theorem dX4_play_0 : decode cX4_play 0 = .ok (.aload_n 0, 1) := by decide +kernel
theorem dX4_play_1 : decode cX4_play 1 = .ok (.iconst 0, 1) := by decide +kernel
theorem dX4_play_2 : decode cX4_play 2 = .ok (.putfield 154, 3) := by decide +kernel
theorem dX4_play_5 : decode cX4_play 5 = .ok (.iconst 0, 1) := by decide +kernel
theorem dX4_play_6 : decode cX4_play 6 = .ok (.istore_n 2, 1) := by decide +kernel
theorem dX4_play_7 : decode cX4_play 7 = .ok (.iload_n 2, 1) := by decide +kernel
theorem dX4_play_8 : decode cX4_play 8 = .ok (.bipush 16, 2) := by decide +kernel
theorem dX4_play_10 : decode cX4_play 10 = .ok (.if_icmp .ge 23, 3) := by decide +kernel
theorem dX4_play_13 : decode cX4_play 13 = .ok (.aload_n 0, 1) := by decide +kernel
theorem dX4_play_14 : decode cX4_play 14 = .ok (.getfield 55, 3) := by decide +kernel
theorem dX4_play_17 : decode cX4_play 17 = .ok (.iload_n 2, 1) := by decide +kernel
theorem dX4_play_18 : decode cX4_play 18 = .ok (.iconst 0, 1) := by decide +kernel
theorem dX4_play_19 : decode cX4_play 19 = .ok (.iastore, 1) := by decide +kernel
theorem dX4_play_20 : decode cX4_play 20 = .ok (.aload_n 0, 1) := by decide +kernel
theorem dX4_play_21 : decode cX4_play 21 = .ok (.getfield 61, 3) := by decide +kernel
theorem dX4_play_24 : decode cX4_play 24 = .ok (.iload_n 2, 1) := by decide +kernel
theorem dX4_play_25 : decode cX4_play 25 = .ok (.iconst 0, 1) := by decide +kernel
theorem dX4_play_26 : decode cX4_play 26 = .ok (.bastore, 1) := by decide +kernel
theorem dX4_play_27 : decode cX4_play 27 = .ok (.iinc 2 1, 3) := by decide +kernel
theorem dX4_play_30 : decode cX4_play 30 = .ok (.goto (-23), 3) := by decide +kernel
theorem dX4_play_33 : decode cX4_play 33 = .ok (.iconst 0, 1) := by decide +kernel
theorem dX4_play_34 : decode cX4_play 34 = .ok (.istore_n 2, 1) := by decide +kernel
theorem dX4_play_35 : decode cX4_play 35 = .ok (.iload_n 2, 1) := by decide +kernel
theorem dX4_play_36 : decode cX4_play 36 = .ok (.aload_n 0, 1) := by decide +kernel
theorem dX4_play_37 : decode cX4_play 37 = .ok (.getfield 25, 3) := by decide +kernel
theorem dX4_play_40 : decode cX4_play 40 = .ok (.iload_n 1, 1) := by decide +kernel
theorem dX4_play_41 : decode cX4_play 41 = .ok (.iaload, 1) := by decide +kernel
theorem dX4_play_42 : decode cX4_play 42 = .ok (.if_icmp .ge 129, 3) := by decide +kernel
theorem dX4_play_45 : decode cX4_play 45 = .ok (.aload_n 0, 1) := by decide +kernel
theorem dX4_play_46 : decode cX4_play 46 = .ok (.iload_n 1, 1) := by decide +kernel
theorem dX4_play_47 : decode cX4_play 47 = .ok (.iload_n 2, 1) := by decide +kernel
theorem dX4_play_48 : decode cX4_play 48 = .ok (.invokevirtual 84, 3) := by decide +kernel
theorem dX4_play_51 : decode cX4_play 51 = .ok (.istore_n 3, 1) := by decide +kernel
theorem dX4_play_52 : decode cX4_play 52 = .ok (.iload_n 3, 1) := by decide +kernel
theorem dX4_play_53 : decode cX4_play 53 = .ok (.iconst 1, 1) := by decide +kernel
theorem dX4_play_54 : decode cX4_play 54 = .ok (.if_icmp .ne 53, 3) := by decide +kernel
theorem dX4_play_57 : decode cX4_play 57 = .ok (.aload_n 0, 1) := by decide +kernel
theorem dX4_play_58 : decode cX4_play 58 = .ok (.getfield 7, 3) := by decide +kernel
theorem dX4_play_61 : decode cX4_play 61 = .ok (.iload_n 1, 1) := by decide +kernel
theorem dX4_play_62 : decode cX4_play 62 = .ok (.iload_n 2, 1) := by decide +kernel
theorem dX4_play_63 : decode cX4_play 63 = .ok (.iconst 3, 1) := by decide +kernel
theorem dX4_play_64 : decode cX4_play 64 = .ok (.iadd, 1) := by decide +kernel
theorem dX4_play_65 : decode cX4_play 65 = .ok (.invokestatic 73, 3) := by decide +kernel
theorem dX4_play_68 : decode cX4_play 68 = .ok (.iaload, 1) := by decide +kernel
theorem dX4_play_69 : decode cX4_play 69 = .ok (.istore 4, 2) := by decide +kernel
theorem dX4_play_71 : decode cX4_play 71 = .ok (.aload_n 0, 1) := by decide +kernel
theorem dX4_play_72 : decode cX4_play 72 = .ok (.getfield 58, 3) := by decide +kernel
theorem dX4_play_75 : decode cX4_play 75 = .ok (.iload 4, 2) := by decide +kernel
theorem dX4_play_77 : decode cX4_play 77 = .ok (.aload_n 0, 1) := by decide +kernel
theorem dX4_play_78 : decode cX4_play 78 = .ok (.iload_n 1, 1) := by decide +kernel
theorem dX4_play_79 : decode cX4_play 79 = .ok (.iload_n 2, 1) := by decide +kernel
theorem dX4_play_80 : decode cX4_play 80 = .ok (.iconst 4, 1) := by decide +kernel
theorem dX4_play_81 : decode cX4_play 81 = .ok (.iadd, 1) := by decide +kernel
theorem dX4_play_82 : decode cX4_play 82 = .ok (.invokevirtual 81, 3) := by decide +kernel
theorem dX4_play_85 : decode cX4_play 85 = .ok (.iastore, 1) := by decide +kernel
theorem dX4_play_86 : decode cX4_play 86 = .ok (.aload_n 0, 1) := by decide +kernel
theorem dX4_play_87 : decode cX4_play 87 = .ok (.getfield 61, 3) := by decide +kernel
theorem dX4_play_90 : decode cX4_play 90 = .ok (.iload 4, 2) := by decide +kernel
theorem dX4_play_92 : decode cX4_play 92 = .ok (.iconst 1, 1) := by decide +kernel
theorem dX4_play_93 : decode cX4_play 93 = .ok (.bastore, 1) := by decide +kernel
theorem dX4_play_94 : decode cX4_play 94 = .ok (.aload_n 0, 1) := by decide +kernel
theorem dX4_play_95 : decode cX4_play 95 = .ok (.dup, 1) := by decide +kernel
theorem dX4_play_96 : decode cX4_play 96 = .ok (.getfield 154, 3) := by decide +kernel
theorem dX4_play_99 : decode cX4_play 99 = .ok (.iconst 1, 1) := by decide +kernel
theorem dX4_play_100 : decode cX4_play 100 = .ok (.iadd, 1) := by decide +kernel
theorem dX4_play_101 : decode cX4_play 101 = .ok (.putfield 154, 3) := by decide +kernel
theorem dX4_play_104 : decode cX4_play 104 = .ok (.goto 61, 3) := by decide +kernel
theorem dX4_play_107 : decode cX4_play 107 = .ok (.iconst 0, 1) := by decide +kernel
theorem dX4_play_108 : decode cX4_play 108 = .ok (.istore 4, 2) := by decide +kernel
theorem dX4_play_110 : decode cX4_play 110 = .ok (.iload 4, 2) := by decide +kernel
theorem dX4_play_112 : decode cX4_play 112 = .ok (.bipush 16, 2) := by decide +kernel
theorem dX4_play_114 : decode cX4_play 114 = .ok (.if_icmp .ge 46, 3) := by decide +kernel
theorem dX4_play_117 : decode cX4_play 117 = .ok (.iload_n 3, 1) := by decide +kernel
theorem dX4_play_118 : decode cX4_play 118 = .ok (.iconst 2, 1) := by decide +kernel
theorem dX4_play_119 : decode cX4_play 119 = .ok (.if_icmp .ne 27, 3) := by decide +kernel
theorem dX4_play_122 : decode cX4_play 122 = .ok (.aload_n 0, 1) := by decide +kernel
theorem dX4_play_123 : decode cX4_play 123 = .ok (.getfield 61, 3) := by decide +kernel
theorem dX4_play_126 : decode cX4_play 126 = .ok (.iload 4, 2) := by decide +kernel
theorem dX4_play_128 : decode cX4_play 128 = .ok (.baload, 1) := by decide +kernel
theorem dX4_play_129 : decode cX4_play 129 = .ok (.ifCond .eq 17, 3) := by decide +kernel
theorem dX4_play_132 : decode cX4_play 132 = .ok (.aload_n 0, 1) := by decide +kernel
theorem dX4_play_133 : decode cX4_play 133 = .ok (.getfield 55, 3) := by decide +kernel
theorem dX4_play_136 : decode cX4_play 136 = .ok (.iload 4, 2) := by decide +kernel
theorem dX4_play_138 : decode cX4_play 138 = .ok (.aload_n 0, 1) := by decide +kernel
theorem dX4_play_139 : decode cX4_play 139 = .ok (.getfield 58, 3) := by decide +kernel
theorem dX4_play_142 : decode cX4_play 142 = .ok (.iload 4, 2) := by decide +kernel
theorem dX4_play_144 : decode cX4_play 144 = .ok (.iaload, 1) := by decide +kernel
theorem dX4_play_145 : decode cX4_play 145 = .ok (.iastore, 1) := by decide +kernel
theorem dX4_play_146 : decode cX4_play 146 = .ok (.aload_n 0, 1) := by decide +kernel
theorem dX4_play_147 : decode cX4_play 147 = .ok (.getfield 61, 3) := by decide +kernel
theorem dX4_play_150 : decode cX4_play 150 = .ok (.iload 4, 2) := by decide +kernel
theorem dX4_play_152 : decode cX4_play 152 = .ok (.iconst 0, 1) := by decide +kernel
theorem dX4_play_153 : decode cX4_play 153 = .ok (.bastore, 1) := by decide +kernel
theorem dX4_play_154 : decode cX4_play 154 = .ok (.iinc 4 1, 3) := by decide +kernel
theorem dX4_play_157 : decode cX4_play 157 = .ok (.goto (-47), 3) := by decide +kernel
theorem dX4_play_160 : decode cX4_play 160 = .ok (.aload_n 0, 1) := by decide +kernel
theorem dX4_play_161 : decode cX4_play 161 = .ok (.iconst 0, 1) := by decide +kernel
theorem dX4_play_162 : decode cX4_play 162 = .ok (.putfield 154, 3) := by decide +kernel
theorem dX4_play_165 : decode cX4_play 165 = .ok (.iinc 2 16, 3) := by decide +kernel
theorem dX4_play_168 : decode cX4_play 168 = .ok (.goto (-133), 3) := by decide +kernel
theorem dX4_play_171 : decode cX4_play 171 = .ok (.return_, 1) := by decide +kernel
set_option maxRecDepth 20000 in
theorem ggX4_get_X4_isNode : GoodIn wsX4_get wsX4_isNode := goodIn_r _ [7, 8, 9, 6, 10] (by decide +kernel) (by decide +kernel)
set_option maxRecDepth 20000 in
theorem gX4_get_X4_isNode : GoodIn wsX4_get (va_wsS RX4 101 yX4_isNode wsX4_isNode) := goodIn_app (goodIn_of _ (by decide +kernel)) ggX4_get_X4_isNode
set_option maxRecDepth 20000 in
theorem ggX4_get_X4_within : GoodIn wsX4_get wsX4_within := goodIn_r _ [10] (by decide +kernel) (by decide +kernel)
set_option maxRecDepth 20000 in
theorem gX4_get_X4_within : GoodIn wsX4_get (va_wsS RX4 69 yX4_within wsX4_within) := goodIn_app (goodIn_of _ (by decide +kernel)) ggX4_get_X4_within
set_option maxRecDepth 20000 in
theorem ggX4_get_X4_fail : GoodIn wsX4_get wsX4_fail := goodIn_r _ [14, 1, 35, 36, 37, 38, 39, 40, 41, 42, 43, 44, 45, 46, 47, 48, 49, 50, 51, 52, 53, 54, 55] (by decide +kernel) (by decide +kernel)
set_option maxRecDepth 20000 in
theorem gX4_get_X4_fail : GoodIn wsX4_get (wsV RX4 105 RX4 yX4_fail wsX4_fail) := goodIn_app (goodIn_of _ (by decide +kernel)) ggX4_get_X4_fail
set_option maxRecDepth 20000 in
theorem ggX4_get_X4_play : GoodIn wsX4_get wsX4_play := goodIn_r _ [18, 19, 3, 20, 21, 22, 23, 24, 25, 26, 6, 27, 28, 29, 30, 31, 32, 33, 34, 35, 36, 37, 38, 39, 40, 41, 42, 43, 44, 45, 46, 47, 48, 49, 50, 51, 52, 53, 54, 55] (by decide +kernel) (by decide +kernel)
set_option maxRecDepth 20000 in
theorem gX4_get_X4_play : GoodIn wsX4_get (wsV RX4 157 RX4 yX4_play wsX4_play) := goodIn_app (goodIn_of _ (by decide +kernel)) ggX4_get_X4_play
theorem dX4_get_0 : decode cX4_get 0 = .ok (.aload_n 0, 1) := by decide +kernel
theorem dX4_get_1 : decode cX4_get 1 = .ok (.iconst 0, 1) := by decide +kernel
theorem dX4_get_2 : decode cX4_get 2 = .ok (.putfield 65, 3) := by decide +kernel
theorem dX4_get_5 : decode cX4_get 5 = .ok (.iload_n 1, 1) := by decide +kernel
theorem dX4_get_6 : decode cX4_get 6 = .ok (.invokestatic 101, 3) := by decide +kernel
theorem dX4_get_9 : decode cX4_get 9 = .ok (.ifCond .eq 13, 3) := by decide +kernel
theorem dX4_get_12 : decode cX4_get 12 = .ok (.iload_n 2, 1) := by decide +kernel
theorem dX4_get_13 : decode cX4_get 13 = .ok (.iconst 0, 1) := by decide +kernel
theorem dX4_get_14 : decode cX4_get 14 = .ok (.bipush 15, 2) := by decide +kernel
theorem dX4_get_16 : decode cX4_get 16 = .ok (.invokestatic 69, 3) := by decide +kernel
theorem dX4_get_19 : decode cX4_get 19 = .ok (.ifCond .ne 9, 3) := by decide +kernel
theorem dX4_get_22 : decode cX4_get 22 = .ok (.aload_n 0, 1) := by decide +kernel
theorem dX4_get_23 : decode cX4_get 23 = .ok (.iconst 1, 1) := by decide +kernel
theorem dX4_get_24 : decode cX4_get 24 = .ok (.invokevirtual 105, 3) := by decide +kernel
theorem dX4_get_27 : decode cX4_get 27 = .ok (.ireturn, 1) := by decide +kernel
theorem dX4_get_28 : decode cX4_get 28 = .ok (.aload_n 0, 1) := by decide +kernel
theorem dX4_get_29 : decode cX4_get 29 = .ok (.getfield 16, 3) := by decide +kernel
theorem dX4_get_32 : decode cX4_get 32 = .ok (.iload_n 1, 1) := by decide +kernel
theorem dX4_get_33 : decode cX4_get 33 = .ok (.iaload, 1) := by decide +kernel
theorem dX4_get_34 : decode cX4_get 34 = .ok (.ifCond .ne 9, 3) := by decide +kernel
theorem dX4_get_37 : decode cX4_get 37 = .ok (.aload_n 0, 1) := by decide +kernel
theorem dX4_get_38 : decode cX4_get 38 = .ok (.iconst 2, 1) := by decide +kernel
theorem dX4_get_39 : decode cX4_get 39 = .ok (.invokevirtual 105, 3) := by decide +kernel
theorem dX4_get_42 : decode cX4_get 42 = .ok (.ireturn, 1) := by decide +kernel
theorem dX4_get_43 : decode cX4_get 43 = .ok (.aload_n 0, 1) := by decide +kernel
theorem dX4_get_44 : decode cX4_get 44 = .ok (.iload_n 1, 1) := by decide +kernel
theorem dX4_get_45 : decode cX4_get 45 = .ok (.invokevirtual 157, 3) := by decide +kernel
theorem dX4_get_48 : decode cX4_get 48 = .ok (.aload_n 0, 1) := by decide +kernel
theorem dX4_get_49 : decode cX4_get 49 = .ok (.getfield 55, 3) := by decide +kernel
theorem dX4_get_52 : decode cX4_get 52 = .ok (.iload_n 2, 1) := by decide +kernel
theorem dX4_get_53 : decode cX4_get 53 = .ok (.iaload, 1) := by decide +kernel
theorem dX4_get_54 : decode cX4_get 54 = .ok (.ireturn, 1) := by decide +kernel
set_option maxRecDepth 20000 in
theorem ggX4_byteAt_X4_isNode : GoodIn wsX4_byteAt wsX4_isNode := goodIn_r _ [7, 8, 9, 6, 10] (by decide +kernel) (by decide +kernel)
set_option maxRecDepth 20000 in
theorem gX4_byteAt_X4_isNode : GoodIn wsX4_byteAt (va_wsS RX4 101 yX4_isNode wsX4_isNode) := goodIn_app (goodIn_of _ (by decide +kernel)) ggX4_byteAt_X4_isNode
set_option maxRecDepth 20000 in
theorem ggX4_byteAt_X4_within : GoodIn wsX4_byteAt wsX4_within := goodIn_r _ [10] (by decide +kernel) (by decide +kernel)
set_option maxRecDepth 20000 in
theorem gX4_byteAt_X4_within : GoodIn wsX4_byteAt (va_wsS RX4 69 yX4_within wsX4_within) := goodIn_app (goodIn_of _ (by decide +kernel)) ggX4_byteAt_X4_within
set_option maxRecDepth 20000 in
theorem ggX4_byteAt_X4_fail : GoodIn wsX4_byteAt wsX4_fail := goodIn_r _ [14, 1, 18, 19, 20, 21, 22, 23, 24, 25, 26, 27, 28, 29, 30, 31, 32, 33, 34, 35, 36, 37, 38] (by decide +kernel) (by decide +kernel)
set_option maxRecDepth 20000 in
theorem gX4_byteAt_X4_fail : GoodIn wsX4_byteAt (wsV RX4 105 RX4 yX4_fail wsX4_fail) := goodIn_app (goodIn_of _ (by decide +kernel)) ggX4_byteAt_X4_fail
set_option maxRecDepth 20000 in
theorem ggX4_byteAt_X4_at : GoodIn wsX4_byteAt wsX4_at := goodIn_r _ [17] (by decide +kernel) (by decide +kernel)
set_option maxRecDepth 20000 in
theorem gX4_byteAt_X4_at : GoodIn wsX4_byteAt (va_wsS RX4 73 yX4_at wsX4_at) := goodIn_app (goodIn_of _ (by decide +kernel)) ggX4_byteAt_X4_at
theorem dX4_byteAt_0 : decode cX4_byteAt 0 = .ok (.aload_n 0, 1) := by decide +kernel
theorem dX4_byteAt_1 : decode cX4_byteAt 1 = .ok (.iconst 0, 1) := by decide +kernel
theorem dX4_byteAt_2 : decode cX4_byteAt 2 = .ok (.putfield 65, 3) := by decide +kernel
theorem dX4_byteAt_5 : decode cX4_byteAt 5 = .ok (.iload_n 1, 1) := by decide +kernel
theorem dX4_byteAt_6 : decode cX4_byteAt 6 = .ok (.invokestatic 101, 3) := by decide +kernel
theorem dX4_byteAt_9 : decode cX4_byteAt 9 = .ok (.ifCond .eq 23, 3) := by decide +kernel
theorem dX4_byteAt_12 : decode cX4_byteAt 12 = .ok (.iload_n 2, 1) := by decide +kernel
theorem dX4_byteAt_13 : decode cX4_byteAt 13 = .ok (.iconst 0, 1) := by decide +kernel
theorem dX4_byteAt_14 : decode cX4_byteAt 14 = .ok (.sipush 4095, 3) := by decide +kernel
theorem dX4_byteAt_17 : decode cX4_byteAt 17 = .ok (.invokestatic 69, 3) := by decide +kernel
theorem dX4_byteAt_20 : decode cX4_byteAt 20 = .ok (.ifCond .eq 12, 3) := by decide +kernel
theorem dX4_byteAt_23 : decode cX4_byteAt 23 = .ok (.iload_n 3, 1) := by decide +kernel
theorem dX4_byteAt_24 : decode cX4_byteAt 24 = .ok (.iconst 0, 1) := by decide +kernel
theorem dX4_byteAt_25 : decode cX4_byteAt 25 = .ok (.iconst 1, 1) := by decide +kernel
theorem dX4_byteAt_26 : decode cX4_byteAt 26 = .ok (.invokestatic 69, 3) := by decide +kernel
theorem dX4_byteAt_29 : decode cX4_byteAt 29 = .ok (.ifCond .ne 9, 3) := by decide +kernel
theorem dX4_byteAt_32 : decode cX4_byteAt 32 = .ok (.aload_n 0, 1) := by decide +kernel
theorem dX4_byteAt_33 : decode cX4_byteAt 33 = .ok (.iconst 1, 1) := by decide +kernel
theorem dX4_byteAt_34 : decode cX4_byteAt 34 = .ok (.invokevirtual 105, 3) := by decide +kernel
theorem dX4_byteAt_37 : decode cX4_byteAt 37 = .ok (.ireturn, 1) := by decide +kernel
theorem dX4_byteAt_38 : decode cX4_byteAt 38 = .ok (.iload_n 3, 1) := by decide +kernel
theorem dX4_byteAt_39 : decode cX4_byteAt 39 = .ok (.ifCond .ne 16, 3) := by decide +kernel
theorem dX4_byteAt_42 : decode cX4_byteAt 42 = .ok (.aload_n 0, 1) := by decide +kernel
theorem dX4_byteAt_43 : decode cX4_byteAt 43 = .ok (.getfield 7, 3) := by decide +kernel
theorem dX4_byteAt_46 : decode cX4_byteAt 46 = .ok (.iload_n 1, 1) := by decide +kernel
theorem dX4_byteAt_47 : decode cX4_byteAt 47 = .ok (.iload_n 2, 1) := by decide +kernel
theorem dX4_byteAt_48 : decode cX4_byteAt 48 = .ok (.invokestatic 73, 3) := by decide +kernel
theorem dX4_byteAt_51 : decode cX4_byteAt 51 = .ok (.iaload, 1) := by decide +kernel
theorem dX4_byteAt_52 : decode cX4_byteAt 52 = .ok (.goto 13, 3) := by decide +kernel
theorem dX4_byteAt_55 : decode cX4_byteAt 55 = .ok (.aload_n 0, 1) := by decide +kernel
theorem dX4_byteAt_56 : decode cX4_byteAt 56 = .ok (.getfield 13, 3) := by decide +kernel
theorem dX4_byteAt_59 : decode cX4_byteAt 59 = .ok (.iload_n 1, 1) := by decide +kernel
theorem dX4_byteAt_60 : decode cX4_byteAt 60 = .ok (.iload_n 2, 1) := by decide +kernel
theorem dX4_byteAt_61 : decode cX4_byteAt 61 = .ok (.invokestatic 73, 3) := by decide +kernel
theorem dX4_byteAt_64 : decode cX4_byteAt 64 = .ok (.iaload, 1) := by decide +kernel
theorem dX4_byteAt_65 : decode cX4_byteAt 65 = .ok (.ireturn, 1) := by decide +kernel
set_option maxRecDepth 20000 in
theorem ggX4_node_X4_isNode : GoodIn wsX4_node wsX4_isNode := goodIn_r _ [13, 14, 15, 12, 16] (by decide +kernel) (by decide +kernel)
set_option maxRecDepth 20000 in
theorem gX4_node_X4_isNode : GoodIn wsX4_node (va_wsS RX4 101 yX4_isNode wsX4_isNode) := goodIn_app (goodIn_of _ (by decide +kernel)) ggX4_node_X4_isNode
set_option maxRecDepth 20000 in
theorem ggX4_node_X4_within : GoodIn wsX4_node wsX4_within := goodIn_r _ [16] (by decide +kernel) (by decide +kernel)
set_option maxRecDepth 20000 in
theorem gX4_node_X4_within : GoodIn wsX4_node (va_wsS RX4 69 yX4_within wsX4_within) := goodIn_app (goodIn_of _ (by decide +kernel)) ggX4_node_X4_within
set_option maxRecDepth 20000 in
theorem ggX4_node_X4_fail : GoodIn wsX4_node wsX4_fail := goodIn_r _ [20, 1, 44, 45, 46, 47, 48, 49, 50, 51, 52, 53, 54, 55, 56, 57, 58, 59, 60, 61, 62, 63, 64] (by decide +kernel) (by decide +kernel)
set_option maxRecDepth 20000 in
theorem gX4_node_X4_fail : GoodIn wsX4_node (wsV RX4 105 RX4 yX4_fail wsX4_fail) := goodIn_app (goodIn_of _ (by decide +kernel)) ggX4_node_X4_fail
set_option maxRecDepth 20000 in
theorem ggX4_node_X4_timelineAt : GoodIn wsX4_node wsX4_timelineAt := goodIn_r _ [24, 25, 26, 27, 12, 28, 44, 45, 46, 47, 48, 49, 50, 51, 52, 53, 54, 55, 56, 57, 58, 59, 60, 61, 62, 63, 64] (by decide +kernel) (by decide +kernel)
set_option maxRecDepth 20000 in
theorem gX4_node_X4_timelineAt : GoodIn wsX4_node (wsV RX4 87 RX4 yX4_timelineAt wsX4_timelineAt) := goodIn_app (goodIn_of _ (by decide +kernel)) ggX4_node_X4_timelineAt
set_option maxRecDepth 20000 in
theorem ggX4_node_X4_play : GoodIn wsX4_node wsX4_play := goodIn_r _ [32, 9, 33, 34, 5, 25, 35, 36, 37, 38, 12, 39, 26, 27, 28, 40, 41, 42, 43, 44, 45, 46, 47, 48, 49, 50, 51, 52, 53, 54, 55, 56, 57, 58, 59, 60, 61, 62, 63, 64] (by decide +kernel) (by decide +kernel)
set_option maxRecDepth 20000 in
theorem gX4_node_X4_play : GoodIn wsX4_node (wsV RX4 157 RX4 yX4_play wsX4_play) := goodIn_app (goodIn_of _ (by decide +kernel)) ggX4_node_X4_play
theorem dX4_node_0 : decode cX4_node 0 = .ok (.aload_n 0, 1) := by decide +kernel
theorem dX4_node_1 : decode cX4_node 1 = .ok (.iconst 0, 1) := by decide +kernel
theorem dX4_node_2 : decode cX4_node 2 = .ok (.putfield 65, 3) := by decide +kernel
theorem dX4_node_5 : decode cX4_node 5 = .ok (.iload_n 1, 1) := by decide +kernel
theorem dX4_node_6 : decode cX4_node 6 = .ok (.invokestatic 101, 3) := by decide +kernel
theorem dX4_node_9 : decode cX4_node 9 = .ok (.ifCond .eq 13, 3) := by decide +kernel
theorem dX4_node_12 : decode cX4_node 12 = .ok (.iload_n 2, 1) := by decide +kernel
theorem dX4_node_13 : decode cX4_node 13 = .ok (.iconst 0, 1) := by decide +kernel
theorem dX4_node_14 : decode cX4_node 14 = .ok (.bipush 8, 2) := by decide +kernel
theorem dX4_node_16 : decode cX4_node 16 = .ok (.invokestatic 69, 3) := by decide +kernel
theorem dX4_node_19 : decode cX4_node 19 = .ok (.ifCond .ne 9, 3) := by decide +kernel
theorem dX4_node_22 : decode cX4_node 22 = .ok (.aload_n 0, 1) := by decide +kernel
theorem dX4_node_23 : decode cX4_node 23 = .ok (.iconst 1, 1) := by decide +kernel
theorem dX4_node_24 : decode cX4_node 24 = .ok (.invokevirtual 105, 3) := by decide +kernel
theorem dX4_node_27 : decode cX4_node 27 = .ok (.ireturn, 1) := by decide +kernel
theorem dX4_node_28 : decode cX4_node 28 = .ok (.aload_n 0, 1) := by decide +kernel
theorem dX4_node_29 : decode cX4_node 29 = .ok (.getfield 16, 3) := by decide +kernel
theorem dX4_node_32 : decode cX4_node 32 = .ok (.iload_n 1, 1) := by decide +kernel
theorem dX4_node_33 : decode cX4_node 33 = .ok (.iaload, 1) := by decide +kernel
theorem dX4_node_34 : decode cX4_node 34 = .ok (.ifCond .ne 20, 3) := by decide +kernel
theorem dX4_node_37 : decode cX4_node 37 = .ok (.iload_n 2, 1) := by decide +kernel
theorem dX4_node_38 : decode cX4_node 38 = .ok (.iconst 5, 1) := by decide +kernel
theorem dX4_node_39 : decode cX4_node 39 = .ok (.if_icmp .eq 9, 3) := by decide +kernel
theorem dX4_node_42 : decode cX4_node 42 = .ok (.iload_n 2, 1) := by decide +kernel
theorem dX4_node_43 : decode cX4_node 43 = .ok (.bipush 7, 2) := by decide +kernel
theorem dX4_node_45 : decode cX4_node 45 = .ok (.if_icmp .ne 7, 3) := by decide +kernel
theorem dX4_node_48 : decode cX4_node 48 = .ok (.iconst (-1), 1) := by decide +kernel
theorem dX4_node_49 : decode cX4_node 49 = .ok (.goto 4, 3) := by decide +kernel
theorem dX4_node_52 : decode cX4_node 52 = .ok (.iconst 0, 1) := by decide +kernel
theorem dX4_node_53 : decode cX4_node 53 = .ok (.ireturn, 1) := by decide +kernel
theorem dX4_node_54 : decode cX4_node 54 = .ok (.iload_n 2, 1) := by decide +kernel
theorem dX4_node_55 : decode cX4_node 55 = .ok (.iconst 4, 1) := by decide +kernel
theorem dX4_node_56 : decode cX4_node 56 = .ok (.if_icmp .ge 51, 3) := by decide +kernel
theorem dX4_node_59 : decode cX4_node 59 = .ok (.iload_n 2, 1) := by decide +kernel
theorem dX4_node_60 : decode cX4_node 60 = .ok (.ifCond .ne 12, 3) := by decide +kernel
theorem dX4_node_63 : decode cX4_node 63 = .ok (.aload_n 0, 1) := by decide +kernel
theorem dX4_node_64 : decode cX4_node 64 = .ok (.getfield 16, 3) := by decide +kernel
theorem dX4_node_67 : decode cX4_node 67 = .ok (.iload_n 1, 1) := by decide +kernel
theorem dX4_node_68 : decode cX4_node 68 = .ok (.iaload, 1) := by decide +kernel
theorem dX4_node_69 : decode cX4_node 69 = .ok (.goto 37, 3) := by decide +kernel
theorem dX4_node_72 : decode cX4_node 72 = .ok (.iload_n 2, 1) := by decide +kernel
theorem dX4_node_73 : decode cX4_node 73 = .ok (.iconst 1, 1) := by decide +kernel
theorem dX4_node_74 : decode cX4_node 74 = .ok (.if_icmp .ne 12, 3) := by decide +kernel
theorem dX4_node_77 : decode cX4_node 77 = .ok (.aload_n 0, 1) := by decide +kernel
theorem dX4_node_78 : decode cX4_node 78 = .ok (.getfield 19, 3) := by decide +kernel
theorem dX4_node_81 : decode cX4_node 81 = .ok (.iload_n 1, 1) := by decide +kernel
theorem dX4_node_82 : decode cX4_node 82 = .ok (.iaload, 1) := by decide +kernel
theorem dX4_node_83 : decode cX4_node 83 = .ok (.goto 23, 3) := by decide +kernel
theorem dX4_node_86 : decode cX4_node 86 = .ok (.iload_n 2, 1) := by decide +kernel
theorem dX4_node_87 : decode cX4_node 87 = .ok (.iconst 2, 1) := by decide +kernel
theorem dX4_node_88 : decode cX4_node 88 = .ok (.if_icmp .ne 12, 3) := by decide +kernel
theorem dX4_node_91 : decode cX4_node 91 = .ok (.aload_n 0, 1) := by decide +kernel
theorem dX4_node_92 : decode cX4_node 92 = .ok (.getfield 22, 3) := by decide +kernel
theorem dX4_node_95 : decode cX4_node 95 = .ok (.iload_n 1, 1) := by decide +kernel
theorem dX4_node_96 : decode cX4_node 96 = .ok (.iaload, 1) := by decide +kernel
theorem dX4_node_97 : decode cX4_node 97 = .ok (.goto 9, 3) := by decide +kernel
theorem dX4_node_100 : decode cX4_node 100 = .ok (.aload_n 0, 1) := by decide +kernel
theorem dX4_node_101 : decode cX4_node 101 = .ok (.getfield 25, 3) := by decide +kernel
theorem dX4_node_104 : decode cX4_node 104 = .ok (.iload_n 1, 1) := by decide +kernel
theorem dX4_node_105 : decode cX4_node 105 = .ok (.iaload, 1) := by decide +kernel
theorem dX4_node_106 : decode cX4_node 106 = .ok (.ireturn, 1) := by decide +kernel
theorem dX4_node_107 : decode cX4_node 107 = .ok (.iload_n 2, 1) := by decide +kernel
theorem dX4_node_108 : decode cX4_node 108 = .ok (.iconst 4, 1) := by decide +kernel
theorem dX4_node_109 : decode cX4_node 109 = .ok (.if_icmp .ne 18, 3) := by decide +kernel
theorem dX4_node_112 : decode cX4_node 112 = .ok (.aload_n 0, 1) := by decide +kernel
theorem dX4_node_113 : decode cX4_node 113 = .ok (.iload_n 1, 1) := by decide +kernel
theorem dX4_node_114 : decode cX4_node 114 = .ok (.aload_n 0, 1) := by decide +kernel
theorem dX4_node_115 : decode cX4_node 115 = .ok (.getfield 19, 3) := by decide +kernel
theorem dX4_node_118 : decode cX4_node 118 = .ok (.iload_n 1, 1) := by decide +kernel
theorem dX4_node_119 : decode cX4_node 119 = .ok (.iaload, 1) := by decide +kernel
theorem dX4_node_120 : decode cX4_node 120 = .ok (.bipush 16, 2) := by decide +kernel
theorem dX4_node_122 : decode cX4_node 122 = .ok (.isub, 1) := by decide +kernel
theorem dX4_node_123 : decode cX4_node 123 = .ok (.invokevirtual 87, 3) := by decide +kernel
theorem dX4_node_126 : decode cX4_node 126 = .ok (.ireturn, 1) := by decide +kernel
theorem dX4_node_127 : decode cX4_node 127 = .ok (.iload_n 2, 1) := by decide +kernel
theorem dX4_node_128 : decode cX4_node 128 = .ok (.bipush 8, 2) := by decide +kernel
theorem dX4_node_130 : decode cX4_node 130 = .ok (.if_icmp .ge 39, 3) := by decide +kernel
theorem dX4_node_133 : decode cX4_node 133 = .ok (.iload_n 2, 1) := by decide +kernel
theorem dX4_node_134 : decode cX4_node 134 = .ok (.iconst 5, 1) := by decide +kernel
theorem dX4_node_135 : decode cX4_node 135 = .ok (.if_icmp .ne 12, 3) := by decide +kernel
theorem dX4_node_138 : decode cX4_node 138 = .ok (.aload_n 0, 1) := by decide +kernel
theorem dX4_node_139 : decode cX4_node 139 = .ok (.getfield 28, 3) := by decide +kernel
theorem dX4_node_142 : decode cX4_node 142 = .ok (.iload_n 1, 1) := by decide +kernel
theorem dX4_node_143 : decode cX4_node 143 = .ok (.iaload, 1) := by decide +kernel
theorem dX4_node_144 : decode cX4_node 144 = .ok (.goto 24, 3) := by decide +kernel
theorem dX4_node_147 : decode cX4_node 147 = .ok (.iload_n 2, 1) := by decide +kernel
theorem dX4_node_148 : decode cX4_node 148 = .ok (.bipush 6, 2) := by decide +kernel
theorem dX4_node_150 : decode cX4_node 150 = .ok (.if_icmp .ne 12, 3) := by decide +kernel
theorem dX4_node_153 : decode cX4_node 153 = .ok (.aload_n 0, 1) := by decide +kernel
theorem dX4_node_154 : decode cX4_node 154 = .ok (.getfield 34, 3) := by decide +kernel
theorem dX4_node_157 : decode cX4_node 157 = .ok (.iload_n 1, 1) := by decide +kernel
theorem dX4_node_158 : decode cX4_node 158 = .ok (.iaload, 1) := by decide +kernel
theorem dX4_node_159 : decode cX4_node 159 = .ok (.goto 9, 3) := by decide +kernel
theorem dX4_node_162 : decode cX4_node 162 = .ok (.aload_n 0, 1) := by decide +kernel
theorem dX4_node_163 : decode cX4_node 163 = .ok (.getfield 31, 3) := by decide +kernel
theorem dX4_node_166 : decode cX4_node 166 = .ok (.iload_n 1, 1) := by decide +kernel
theorem dX4_node_167 : decode cX4_node 167 = .ok (.iaload, 1) := by decide +kernel
theorem dX4_node_168 : decode cX4_node 168 = .ok (.ireturn, 1) := by decide +kernel
theorem dX4_node_169 : decode cX4_node 169 = .ok (.aload_n 0, 1) := by decide +kernel
theorem dX4_node_170 : decode cX4_node 170 = .ok (.iload_n 1, 1) := by decide +kernel
theorem dX4_node_171 : decode cX4_node 171 = .ok (.invokevirtual 157, 3) := by decide +kernel
theorem dX4_node_174 : decode cX4_node 174 = .ok (.aload_n 0, 1) := by decide +kernel
theorem dX4_node_175 : decode cX4_node 175 = .ok (.getfield 154, 3) := by decide +kernel
theorem dX4_node_178 : decode cX4_node 178 = .ok (.ireturn, 1) := by decide +kernel
set_option maxRecDepth 20000 in
theorem ggX4_link_X4_isNode : GoodIn wsX4_link wsX4_isNode := goodIn_r _ [7, 8, 9, 6, 10] (by decide +kernel) (by decide +kernel)
set_option maxRecDepth 20000 in
theorem gX4_link_X4_isNode : GoodIn wsX4_link (va_wsS RX4 101 yX4_isNode wsX4_isNode) := goodIn_app (goodIn_of _ (by decide +kernel)) ggX4_link_X4_isNode
set_option maxRecDepth 20000 in
theorem ggX4_link_X4_within : GoodIn wsX4_link wsX4_within := goodIn_r _ [10] (by decide +kernel) (by decide +kernel)
set_option maxRecDepth 20000 in
theorem gX4_link_X4_within : GoodIn wsX4_link (va_wsS RX4 69 yX4_within wsX4_within) := goodIn_app (goodIn_of _ (by decide +kernel)) ggX4_link_X4_within
set_option maxRecDepth 20000 in
theorem ggX4_link_X4_fail : GoodIn wsX4_link wsX4_fail := goodIn_r _ [14, 1, 25, 26, 27, 28, 29, 30, 31, 32, 33, 34, 35, 36, 37, 38, 39, 40, 41, 42, 43, 44, 45] (by decide +kernel) (by decide +kernel)
set_option maxRecDepth 20000 in
theorem gX4_link_X4_fail : GoodIn wsX4_link (wsV RX4 105 RX4 yX4_fail wsX4_fail) := goodIn_app (goodIn_of _ (by decide +kernel)) ggX4_link_X4_fail
set_option maxRecDepth 20000 in
theorem ggX4_link_X4_isLink : GoodIn wsX4_link wsX4_isLink := goodIn_r _ [18, 19, 20, 21, 22, 6, 23, 24, 25, 26, 27, 28, 29, 30, 31, 32, 33, 34, 35, 36, 37, 38, 39, 40, 41, 42, 43, 44, 45] (by decide +kernel) (by decide +kernel)
set_option maxRecDepth 20000 in
theorem gX4_link_X4_isLink : GoodIn wsX4_link (wsV RX4 145 RX4 yX4_isLink wsX4_isLink) := goodIn_app (goodIn_of _ (by decide +kernel)) ggX4_link_X4_isLink
theorem dX4_link_0 : decode cX4_link 0 = .ok (.aload_n 0, 1) := by decide +kernel
theorem dX4_link_1 : decode cX4_link 1 = .ok (.iconst 0, 1) := by decide +kernel
theorem dX4_link_2 : decode cX4_link 2 = .ok (.putfield 65, 3) := by decide +kernel
theorem dX4_link_5 : decode cX4_link 5 = .ok (.iload_n 1, 1) := by decide +kernel
theorem dX4_link_6 : decode cX4_link 6 = .ok (.invokestatic 101, 3) := by decide +kernel
theorem dX4_link_9 : decode cX4_link 9 = .ok (.ifCond .eq 19, 3) := by decide +kernel
theorem dX4_link_12 : decode cX4_link 12 = .ok (.iload_n 2, 1) := by decide +kernel
theorem dX4_link_13 : decode cX4_link 13 = .ok (.invokestatic 101, 3) := by decide +kernel
theorem dX4_link_16 : decode cX4_link 16 = .ok (.ifCond .eq 12, 3) := by decide +kernel
theorem dX4_link_19 : decode cX4_link 19 = .ok (.iload_n 3, 1) := by decide +kernel
theorem dX4_link_20 : decode cX4_link 20 = .ok (.iconst 0, 1) := by decide +kernel
theorem dX4_link_21 : decode cX4_link 21 = .ok (.iconst 1, 1) := by decide +kernel
theorem dX4_link_22 : decode cX4_link 22 = .ok (.invokestatic 69, 3) := by decide +kernel
theorem dX4_link_25 : decode cX4_link 25 = .ok (.ifCond .ne 9, 3) := by decide +kernel
theorem dX4_link_28 : decode cX4_link 28 = .ok (.aload_n 0, 1) := by decide +kernel
theorem dX4_link_29 : decode cX4_link 29 = .ok (.iconst 1, 1) := by decide +kernel
theorem dX4_link_30 : decode cX4_link 30 = .ok (.invokevirtual 105, 3) := by decide +kernel
theorem dX4_link_33 : decode cX4_link 33 = .ok (.ireturn, 1) := by decide +kernel
theorem dX4_link_34 : decode cX4_link 34 = .ok (.iload_n 3, 1) := by decide +kernel
theorem dX4_link_35 : decode cX4_link 35 = .ok (.iconst 1, 1) := by decide +kernel
theorem dX4_link_36 : decode cX4_link 36 = .ok (.if_icmp .ne 14, 3) := by decide +kernel
theorem dX4_link_39 : decode cX4_link 39 = .ok (.aload_n 0, 1) := by decide +kernel
theorem dX4_link_40 : decode cX4_link 40 = .ok (.getfield 43, 3) := by decide +kernel
theorem dX4_link_43 : decode cX4_link 43 = .ok (.iconst 4, 1) := by decide +kernel
theorem dX4_link_44 : decode cX4_link 44 = .ok (.iload_n 1, 1) := by decide +kernel
theorem dX4_link_45 : decode cX4_link 45 = .ok (.imul, 1) := by decide +kernel
theorem dX4_link_46 : decode cX4_link 46 = .ok (.iload_n 2, 1) := by decide +kernel
theorem dX4_link_47 : decode cX4_link 47 = .ok (.iadd, 1) := by decide +kernel
theorem dX4_link_48 : decode cX4_link 48 = .ok (.iaload, 1) := by decide +kernel
theorem dX4_link_49 : decode cX4_link 49 = .ok (.ireturn, 1) := by decide +kernel
theorem dX4_link_50 : decode cX4_link 50 = .ok (.aload_n 0, 1) := by decide +kernel
theorem dX4_link_51 : decode cX4_link 51 = .ok (.iload_n 1, 1) := by decide +kernel
theorem dX4_link_52 : decode cX4_link 52 = .ok (.iload_n 2, 1) := by decide +kernel
theorem dX4_link_53 : decode cX4_link 53 = .ok (.invokevirtual 145, 3) := by decide +kernel
theorem dX4_link_56 : decode cX4_link 56 = .ok (.ifCond .eq 16, 3) := by decide +kernel
theorem dX4_link_59 : decode cX4_link 59 = .ok (.aload_n 0, 1) := by decide +kernel
theorem dX4_link_60 : decode cX4_link 60 = .ok (.getfield 40, 3) := by decide +kernel
theorem dX4_link_63 : decode cX4_link 63 = .ok (.iconst 4, 1) := by decide +kernel
theorem dX4_link_64 : decode cX4_link 64 = .ok (.iload_n 1, 1) := by decide +kernel
theorem dX4_link_65 : decode cX4_link 65 = .ok (.imul, 1) := by decide +kernel
theorem dX4_link_66 : decode cX4_link 66 = .ok (.iload_n 2, 1) := by decide +kernel
theorem dX4_link_67 : decode cX4_link 67 = .ok (.iadd, 1) := by decide +kernel
theorem dX4_link_68 : decode cX4_link 68 = .ok (.iaload, 1) := by decide +kernel
theorem dX4_link_69 : decode cX4_link 69 = .ok (.goto 8, 3) := by decide +kernel
theorem dX4_link_72 : decode cX4_link 72 = .ok (.aload_n 0, 1) := by decide +kernel
theorem dX4_link_73 : decode cX4_link 73 = .ok (.iconst 2, 1) := by decide +kernel
theorem dX4_link_74 : decode cX4_link 74 = .ok (.invokevirtual 105, 3) := by decide +kernel
theorem dX4_link_77 : decode cX4_link 77 = .ok (.ireturn, 1) := by decide +kernel
theorem dJ9_floorMod_7cf53_0 : decode cJ9_floorMod_7cf53 0 = .ok (.iload_n 0, 1) := by decide +kernel
theorem dJ9_floorMod_7cf53_1 : decode cJ9_floorMod_7cf53 1 = .ok (.iload_n 1, 1) := by decide +kernel
theorem dJ9_floorMod_7cf53_2 : decode cJ9_floorMod_7cf53 2 = .ok (.irem, 1) := by decide +kernel
theorem dJ9_floorMod_7cf53_3 : decode cJ9_floorMod_7cf53 3 = .ok (.istore_n 2, 1) := by decide +kernel
theorem dJ9_floorMod_7cf53_4 : decode cJ9_floorMod_7cf53 4 = .ok (.iload_n 0, 1) := by decide +kernel
theorem dJ9_floorMod_7cf53_5 : decode cJ9_floorMod_7cf53 5 = .ok (.iload_n 1, 1) := by decide +kernel
theorem dJ9_floorMod_7cf53_6 : decode cJ9_floorMod_7cf53 6 = .ok (.ixor, 1) := by decide +kernel
theorem dJ9_floorMod_7cf53_7 : decode cJ9_floorMod_7cf53 7 = .ok (.ifCond .ge 11, 3) := by decide +kernel
theorem dJ9_floorMod_7cf53_10 : decode cJ9_floorMod_7cf53 10 = .ok (.iload_n 2, 1) := by decide +kernel
theorem dJ9_floorMod_7cf53_11 : decode cJ9_floorMod_7cf53 11 = .ok (.ifCond .eq 7, 3) := by decide +kernel
theorem dJ9_floorMod_7cf53_14 : decode cJ9_floorMod_7cf53 14 = .ok (.iload_n 2, 1) := by decide +kernel
theorem dJ9_floorMod_7cf53_15 : decode cJ9_floorMod_7cf53 15 = .ok (.iload_n 1, 1) := by decide +kernel
theorem dJ9_floorMod_7cf53_16 : decode cJ9_floorMod_7cf53 16 = .ok (.iadd, 1) := by decide +kernel
theorem dJ9_floorMod_7cf53_17 : decode cJ9_floorMod_7cf53 17 = .ok (.ireturn, 1) := by decide +kernel
theorem dJ9_floorMod_7cf53_18 : decode cJ9_floorMod_7cf53 18 = .ok (.iload_n 2, 1) := by decide +kernel
theorem dJ9_floorMod_7cf53_19 : decode cJ9_floorMod_7cf53 19 = .ok (.ireturn, 1) := by decide +kernel
theorem dJ9_max_7cf53_0 : decode cJ9_max_7cf53 0 = .ok (.iload_n 0, 1) := by decide +kernel
theorem dJ9_max_7cf53_1 : decode cJ9_max_7cf53 1 = .ok (.iload_n 1, 1) := by decide +kernel
theorem dJ9_max_7cf53_2 : decode cJ9_max_7cf53 2 = .ok (.if_icmp .lt 7, 3) := by decide +kernel
theorem dJ9_max_7cf53_5 : decode cJ9_max_7cf53 5 = .ok (.iload_n 0, 1) := by decide +kernel
theorem dJ9_max_7cf53_6 : decode cJ9_max_7cf53 6 = .ok (.goto 4, 3) := by decide +kernel
theorem dJ9_max_7cf53_9 : decode cJ9_max_7cf53 9 = .ok (.iload_n 1, 1) := by decide +kernel
theorem dJ9_max_7cf53_10 : decode cJ9_max_7cf53 10 = .ok (.ireturn, 1) := by decide +kernel
theorem dJ9_min_7cf53_0 : decode cJ9_min_7cf53 0 = .ok (.iload_n 0, 1) := by decide +kernel
theorem dJ9_min_7cf53_1 : decode cJ9_min_7cf53 1 = .ok (.iload_n 1, 1) := by decide +kernel
theorem dJ9_min_7cf53_2 : decode cJ9_min_7cf53 2 = .ok (.if_icmp .gt 7, 3) := by decide +kernel
theorem dJ9_min_7cf53_5 : decode cJ9_min_7cf53 5 = .ok (.iload_n 0, 1) := by decide +kernel
theorem dJ9_min_7cf53_6 : decode cJ9_min_7cf53 6 = .ok (.goto 4, 3) := by decide +kernel
theorem dJ9_min_7cf53_9 : decode cJ9_min_7cf53 9 = .ok (.iload_n 1, 1) := by decide +kernel
theorem dJ9_min_7cf53_10 : decode cJ9_min_7cf53 10 = .ok (.ireturn, 1) := by decide +kernel
