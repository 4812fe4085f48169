theorem dX7_init_0 : decode cX7_init 0 = .ok (.aload_n 0, 1) := by decide +kernel
theorem dX7_init_1 : decode cX7_init 1 = .ok (.invokespecial 1, 3) := by decide +kernel
theorem dX7_init_4 : decode cX7_init 4 = .ok (.aload_n 0, 1) := by decide +kernel
theorem dX7_init_5 : decode cX7_init 5 = .ok (.sipush 1000, 3) := by decide +kernel
theorem dX7_init_8 : decode cX7_init 8 = .ok (.newarray .int, 2) := by decide +kernel
theorem dX7_init_10 : decode cX7_init 10 = .ok (.putfield 7, 3) := by decide +kernel
theorem dX7_init_13 : decode cX7_init 13 = .ok (.aload_n 0, 1) := by decide +kernel
theorem dX7_init_14 : decode cX7_init 14 = .ok (.bipush 125, 2) := by decide +kernel
theorem dX7_init_16 : decode cX7_init 16 = .ok (.newarray .int, 2) := by decide +kernel
theorem dX7_init_18 : decode cX7_init 18 = .ok (.putfield 13, 3) := by decide +kernel
theorem dX7_init_21 : decode cX7_init 21 = .ok (.aload_n 0, 1) := by decide +kernel
theorem dX7_init_22 : decode cX7_init 22 = .ok (.bipush 24, 2) := by decide +kernel
theorem dX7_init_24 : decode cX7_init 24 = .ok (.newarray .int, 2) := by decide +kernel
theorem dX7_init_26 : decode cX7_init 26 = .ok (.putfield 16, 3) := by decide +kernel
theorem dX7_init_29 : decode cX7_init 29 = .ok (.aload_n 0, 1) := by decide +kernel
theorem dX7_init_30 : decode cX7_init 30 = .ok (.bipush 24, 2) := by decide +kernel
theorem dX7_init_32 : decode cX7_init 32 = .ok (.newarray .int, 2) := by decide +kernel
theorem dX7_init_34 : decode cX7_init 34 = .ok (.putfield 19, 3) := by decide +kernel
theorem dX7_init_37 : decode cX7_init 37 = .ok (.aload_n 0, 1) := by decide +kernel
theorem dX7_init_38 : decode cX7_init 38 = .ok (.bipush 24, 2) := by decide +kernel
theorem dX7_init_40 : decode cX7_init 40 = .ok (.newarray .int, 2) := by decide +kernel
theorem dX7_init_42 : decode cX7_init 42 = .ok (.putfield 22, 3) := by decide +kernel
theorem dX7_init_45 : decode cX7_init 45 = .ok (.aload_n 0, 1) := by decide +kernel
theorem dX7_init_46 : decode cX7_init 46 = .ok (.bipush 24, 2) := by decide +kernel
theorem dX7_init_48 : decode cX7_init 48 = .ok (.newarray .int, 2) := by decide +kernel
theorem dX7_init_50 : decode cX7_init 50 = .ok (.putfield 25, 3) := by decide +kernel
theorem dX7_init_53 : decode cX7_init 53 = .ok (.aload_n 0, 1) := by decide +kernel
theorem dX7_init_54 : decode cX7_init 54 = .ok (.bipush 24, 2) := by decide +kernel
theorem dX7_init_56 : decode cX7_init 56 = .ok (.newarray .int, 2) := by decide +kernel
theorem dX7_init_58 : decode cX7_init 58 = .ok (.putfield 28, 3) := by decide +kernel
theorem dX7_init_61 : decode cX7_init 61 = .ok (.aload_n 0, 1) := by decide +kernel
theorem dX7_init_62 : decode cX7_init 62 = .ok (.bipush 24, 2) := by decide +kernel
theorem dX7_init_64 : decode cX7_init 64 = .ok (.newarray .int, 2) := by decide +kernel
theorem dX7_init_66 : decode cX7_init 66 = .ok (.putfield 31, 3) := by decide +kernel
theorem dX7_init_69 : decode cX7_init 69 = .ok (.aload_n 0, 1) := by decide +kernel
theorem dX7_init_70 : decode cX7_init 70 = .ok (.bipush 24, 2) := by decide +kernel
theorem dX7_init_72 : decode cX7_init 72 = .ok (.newarray .boolean, 2) := by decide +kernel
theorem dX7_init_74 : decode cX7_init 74 = .ok (.putfield 34, 3) := by decide +kernel
theorem dX7_init_77 : decode cX7_init 77 = .ok (.aload_n 0, 1) := by decide +kernel
theorem dX7_init_78 : decode cX7_init 78 = .ok (.bipush 24, 2) := by decide +kernel
theorem dX7_init_80 : decode cX7_init 80 = .ok (.newarray .int, 2) := by decide +kernel
theorem dX7_init_82 : decode cX7_init 82 = .ok (.putfield 38, 3) := by decide +kernel
theorem dX7_init_85 : decode cX7_init 85 = .ok (.aload_n 0, 1) := by decide +kernel
theorem dX7_init_86 : decode cX7_init 86 = .ok (.bipush 96, 2) := by decide +kernel
theorem dX7_init_88 : decode cX7_init 88 = .ok (.newarray .int, 2) := by decide +kernel
theorem dX7_init_90 : decode cX7_init 90 = .ok (.putfield 41, 3) := by decide +kernel
theorem dX7_init_93 : decode cX7_init 93 = .ok (.aload_n 0, 1) := by decide +kernel
theorem dX7_init_94 : decode cX7_init 94 = .ok (.sipush 192, 3) := by decide +kernel
theorem dX7_init_97 : decode cX7_init 97 = .ok (.newarray .boolean, 2) := by decide +kernel
theorem dX7_init_99 : decode cX7_init 99 = .ok (.putfield 44, 3) := by decide +kernel
theorem dX7_init_102 : decode cX7_init 102 = .ok (.aload_n 0, 1) := by decide +kernel
theorem dX7_init_103 : decode cX7_init 103 = .ok (.sipush 192, 3) := by decide +kernel
theorem dX7_init_106 : decode cX7_init 106 = .ok (.newarray .int, 2) := by decide +kernel
theorem dX7_init_108 : decode cX7_init 108 = .ok (.putfield 47, 3) := by decide +kernel
theorem dX7_init_111 : decode cX7_init 111 = .ok (.aload_n 0, 1) := by decide +kernel
theorem dX7_init_112 : decode cX7_init 112 = .ok (.bipush 10, 2) := by decide +kernel
theorem dX7_init_114 : decode cX7_init 114 = .ok (.newarray .int, 2) := by decide +kernel
theorem dX7_init_116 : decode cX7_init 116 = .ok (.putfield 50, 3) := by decide +kernel
theorem dX7_init_119 : decode cX7_init 119 = .ok (.aload_n 0, 1) := by decide +kernel
theorem dX7_init_120 : decode cX7_init 120 = .ok (.bipush 8, 2) := by decide +kernel
theorem dX7_init_122 : decode cX7_init 122 = .ok (.newarray .int, 2) := by decide +kernel
theorem dX7_init_124 : decode cX7_init 124 = .ok (.putfield 53, 3) := by decide +kernel
theorem dX7_init_127 : decode cX7_init 127 = .ok (.aload_n 0, 1) := by decide +kernel
theorem dX7_init_128 : decode cX7_init 128 = .ok (.iconst 4, 1) := by decide +kernel
theorem dX7_init_129 : decode cX7_init 129 = .ok (.newarray .int, 2) := by decide +kernel
theorem dX7_init_131 : decode cX7_init 131 = .ok (.putfield 56, 3) := by decide +kernel
theorem dX7_init_134 : decode cX7_init 134 = .ok (.aload_n 0, 1) := by decide +kernel
theorem dX7_init_135 : decode cX7_init 135 = .ok (.iconst 4, 1) := by decide +kernel
theorem dX7_init_136 : decode cX7_init 136 = .ok (.newarray .int, 2) := by decide +kernel
theorem dX7_init_138 : decode cX7_init 138 = .ok (.putfield 59, 3) := by decide +kernel
theorem dX7_init_141 : decode cX7_init 141 = .ok (.aload_n 0, 1) := by decide +kernel
theorem dX7_init_142 : decode cX7_init 142 = .ok (.bipush 6, 2) := by decide +kernel
theorem dX7_init_144 : decode cX7_init 144 = .ok (.newarray .int, 2) := by decide +kernel
theorem dX7_init_146 : decode cX7_init 146 = .ok (.putfield 62, 3) := by decide +kernel
theorem dX7_init_149 : decode cX7_init 149 = .ok (.aload_n 0, 1) := by decide +kernel
theorem dX7_init_150 : decode cX7_init 150 = .ok (.bipush 6, 2) := by decide +kernel
theorem dX7_init_152 : decode cX7_init 152 = .ok (.newarray .boolean, 2) := by decide +kernel
theorem dX7_init_154 : decode cX7_init 154 = .ok (.putfield 65, 3) := by decide +kernel
theorem dX7_init_157 : decode cX7_init 157 = .ok (.aload_n 0, 1) := by decide +kernel
theorem dX7_init_158 : decode cX7_init 158 = .ok (.bipush 36, 2) := by decide +kernel
theorem dX7_init_160 : decode cX7_init 160 = .ok (.newarray .boolean, 2) := by decide +kernel
theorem dX7_init_162 : decode cX7_init 162 = .ok (.putfield 68, 3) := by decide +kernel
theorem dX7_init_165 : decode cX7_init 165 = .ok (.aload_n 0, 1) := by decide +kernel
theorem dX7_init_166 : decode cX7_init 166 = .ok (.bipush 6, 2) := by decide +kernel
theorem dX7_init_168 : decode cX7_init 168 = .ok (.newarray .int, 2) := by decide +kernel
theorem dX7_init_170 : decode cX7_init 170 = .ok (.putfield 71, 3) := by decide +kernel
theorem dX7_init_173 : decode cX7_init 173 = .ok (.iconst 0, 1) := by decide +kernel
theorem dX7_init_174 : decode cX7_init 174 = .ok (.istore_n 1, 1) := by decide +kernel
theorem dX7_init_175 : decode cX7_init 175 = .ok (.iload_n 1, 1) := by decide +kernel
theorem dX7_init_176 : decode cX7_init 176 = .ok (.bipush 10, 2) := by decide +kernel
theorem dX7_init_178 : decode cX7_init 178 = .ok (.if_icmp .ge 16, 3) := by decide +kernel
theorem dX7_init_181 : decode cX7_init 181 = .ok (.aload_n 0, 1) := by decide +kernel
theorem dX7_init_182 : decode cX7_init 182 = .ok (.getfield 50, 3) := by decide +kernel
theorem dX7_init_185 : decode cX7_init 185 = .ok (.iload_n 1, 1) := by decide +kernel
theorem dX7_init_186 : decode cX7_init 186 = .ok (.iconst (-1), 1) := by decide +kernel
theorem dX7_init_187 : decode cX7_init 187 = .ok (.iastore, 1) := by decide +kernel
theorem dX7_init_188 : decode cX7_init 188 = .ok (.iinc 1 1, 3) := by decide +kernel
theorem dX7_init_191 : decode cX7_init 191 = .ok (.goto (-16), 3) := by decide +kernel
theorem dX7_init_194 : decode cX7_init 194 = .ok (.return_, 1) := by decide +kernel
theorem dX7_thrown_0 : decode cX7_thrown 0 = .ok (.aload_n 0, 1) := by decide +kernel
theorem dX7_thrown_1 : decode cX7_thrown 1 = .ok (.getfield 74, 3) := by decide +kernel
theorem dX7_thrown_4 : decode cX7_thrown 4 = .ok (.ireturn, 1) := by decide +kernel
theorem dX7_goes_0 : decode cX7_goes 0 = .ok (.aload_n 0, 1) := by decide +kernel
theorem dX7_goes_1 : decode cX7_goes 1 = .ok (.iload_n 1, 1) := by decide +kernel
theorem dX7_goes_2 : decode cX7_goes 2 = .ok (.putfield 74, 3) := by decide +kernel
theorem dX7_goes_5 : decode cX7_goes 5 = .ok (.iload_n 1, 1) := by decide +kernel
theorem dX7_goes_6 : decode cX7_goes 6 = .ok (.ifCond .ne 7, 3) := by decide +kernel
theorem dX7_goes_9 : decode cX7_goes 9 = .ok (.iconst 1, 1) := by decide +kernel
theorem dX7_goes_10 : decode cX7_goes 10 = .ok (.goto 4, 3) := by decide +kernel
theorem dX7_goes_13 : decode cX7_goes 13 = .ok (.iconst 0, 1) := by decide +kernel
theorem dX7_goes_14 : decode cX7_goes 14 = .ok (.ireturn, 1) := by decide +kernel
theorem dX7_isIn_0 : decode cX7_isIn 0 = .ok (.iload_n 0, 1) := by decide +kernel
theorem dX7_isIn_1 : decode cX7_isIn 1 = .ok (.iload_n 1, 1) := by decide +kernel
theorem dX7_isIn_2 : decode cX7_isIn 2 = .ok (.if_icmp .lt 12, 3) := by decide +kernel
theorem dX7_isIn_5 : decode cX7_isIn 5 = .ok (.iload_n 0, 1) := by decide +kernel
theorem dX7_isIn_6 : decode cX7_isIn 6 = .ok (.iload_n 2, 1) := by decide +kernel
theorem dX7_isIn_7 : decode cX7_isIn 7 = .ok (.if_icmp .gt 7, 3) := by decide +kernel
theorem dX7_isIn_10 : decode cX7_isIn 10 = .ok (.iconst 1, 1) := by decide +kernel
theorem dX7_isIn_11 : decode cX7_isIn 11 = .ok (.goto 4, 3) := by decide +kernel
theorem dX7_isIn_14 : decode cX7_isIn 14 = .ok (.iconst 0, 1) := by decide +kernel
theorem dX7_isIn_15 : decode cX7_isIn 15 = .ok (.ireturn, 1) := by decide +kernel
theorem dX7_isArticle_0 : decode cX7_isArticle 0 = .ok (.iload_n 1, 1) := by decide +kernel
theorem dX7_isArticle_1 : decode cX7_isArticle 1 = .ok (.iconst 0, 1) := by decide +kernel
theorem dX7_isArticle_2 : decode cX7_isArticle 2 = .ok (.aload_n 0, 1) := by decide +kernel
theorem dX7_isArticle_3 : decode cX7_isArticle 3 = .ok (.getfield 78, 3) := by decide +kernel
theorem dX7_isArticle_6 : decode cX7_isArticle 6 = .ok (.iconst 1, 1) := by decide +kernel
theorem dX7_isArticle_7 : decode cX7_isArticle 7 = .ok (.isub, 1) := by decide +kernel
theorem dX7_isArticle_8 : decode cX7_isArticle 8 = .ok (.invokestatic 81, 3) := by decide +kernel
theorem dX7_isArticle_11 : decode cX7_isArticle 11 = .ok (.ireturn, 1) := by decide +kernel
theorem dX7_isContributor_0 : decode cX7_isContributor 0 = .ok (.iload_n 1, 1) := by decide +kernel
theorem dX7_isContributor_1 : decode cX7_isContributor 1 = .ok (.iconst 0, 1) := by decide +kernel
theorem dX7_isContributor_2 : decode cX7_isContributor 2 = .ok (.aload_n 0, 1) := by decide +kernel
theorem dX7_isContributor_3 : decode cX7_isContributor 3 = .ok (.getfield 85, 3) := by decide +kernel
theorem dX7_isContributor_6 : decode cX7_isContributor 6 = .ok (.iconst 1, 1) := by decide +kernel
theorem dX7_isContributor_7 : decode cX7_isContributor 7 = .ok (.isub, 1) := by decide +kernel
theorem dX7_isContributor_8 : decode cX7_isContributor 8 = .ok (.invokestatic 81, 3) := by decide +kernel
theorem dX7_isContributor_11 : decode cX7_isContributor 11 = .ok (.ireturn, 1) := by decide +kernel
theorem dX7_isSubject_0 : decode cX7_isSubject 0 = .ok (.iload_n 0, 1) := by decide +kernel
theorem dX7_isSubject_1 : decode cX7_isSubject 1 = .ok (.iconst 0, 1) := by decide +kernel
theorem dX7_isSubject_2 : decode cX7_isSubject 2 = .ok (.bipush 9, 2) := by decide +kernel
theorem dX7_isSubject_4 : decode cX7_isSubject 4 = .ok (.invokestatic 81, 3) := by decide +kernel
theorem dX7_isSubject_7 : decode cX7_isSubject 7 = .ok (.ireturn, 1) := by decide +kernel
theorem dX7_isFact_0 : decode cX7_isFact 0 = .ok (.iload_n 0, 1) := by decide +kernel
theorem dX7_isFact_1 : decode cX7_isFact 1 = .ok (.iconst 0, 1) := by decide +kernel
theorem dX7_isFact_2 : decode cX7_isFact 2 = .ok (.bipush 7, 2) := by decide +kernel
theorem dX7_isFact_4 : decode cX7_isFact 4 = .ok (.invokestatic 81, 3) := by decide +kernel
theorem dX7_isFact_7 : decode cX7_isFact 7 = .ok (.ireturn, 1) := by decide +kernel
theorem dX7_next_0 : decode cX7_next 0 = .ok (.iload_n 2, 1) := by decide +kernel
theorem dX7_next_1 : decode cX7_next 1 = .ok (.istore_n 3, 1) := by decide +kernel
theorem dX7_next_2 : decode cX7_next 2 = .ok (.iload_n 3, 1) := by decide +kernel
theorem dX7_next_3 : decode cX7_next 3 = .ok (.aload_n 0, 1) := by decide +kernel
theorem dX7_next_4 : decode cX7_next 4 = .ok (.getfield 13, 3) := by decide +kernel
theorem dX7_next_7 : decode cX7_next 7 = .ok (.iload_n 1, 1) := by decide +kernel
theorem dX7_next_8 : decode cX7_next 8 = .ok (.iaload, 1) := by decide +kernel
theorem dX7_next_9 : decode cX7_next 9 = .ok (.if_icmp .ge 30, 3) := by decide +kernel
theorem dX7_next_12 : decode cX7_next 12 = .ok (.aload_n 0, 1) := by decide +kernel
theorem dX7_next_13 : decode cX7_next 13 = .ok (.getfield 88, 3) := by decide +kernel
theorem dX7_next_16 : decode cX7_next 16 = .ok (.ifCond .ne 23, 3) := by decide +kernel
theorem dX7_next_19 : decode cX7_next 19 = .ok (.aload_n 0, 1) := by decide +kernel
theorem dX7_next_20 : decode cX7_next 20 = .ok (.getfield 7, 3) := by decide +kernel
theorem dX7_next_23 : decode cX7_next 23 = .ok (.bipush 8, 2) := by decide +kernel
theorem dX7_next_25 : decode cX7_next 25 = .ok (.iload_n 1, 1) := by decide +kernel
theorem dX7_next_26 : decode cX7_next 26 = .ok (.imul, 1) := by decide +kernel
theorem dX7_next_27 : decode cX7_next 27 = .ok (.iload_n 3, 1) := by decide +kernel
theorem dX7_next_28 : decode cX7_next 28 = .ok (.iadd, 1) := by decide +kernel
theorem dX7_next_29 : decode cX7_next 29 = .ok (.iaload, 1) := by decide +kernel
theorem dX7_next_30 : decode cX7_next 30 = .ok (.ifCond .ne 9, 3) := by decide +kernel
theorem dX7_next_33 : decode cX7_next 33 = .ok (.iinc 3 1, 3) := by decide +kernel
theorem dX7_next_36 : decode cX7_next 36 = .ok (.goto (-34), 3) := by decide +kernel
theorem dX7_next_39 : decode cX7_next 39 = .ok (.iload_n 3, 1) := by decide +kernel
theorem dX7_next_40 : decode cX7_next 40 = .ok (.ireturn, 1) := by decide +kernel
theorem dX7_order_0 : decode cX7_order 0 = .ok (.aload_n 0, 1) := by decide +kernel
theorem dX7_order_1 : decode cX7_order 1 = .ok (.iload_n 1, 1) := by decide +kernel
theorem dX7_order_2 : decode cX7_order 2 = .ok (.iconst 0, 1) := by decide +kernel
theorem dX7_order_3 : decode cX7_order 3 = .ok (.invokevirtual 92, 3) := by decide +kernel
theorem dX7_order_6 : decode cX7_order 6 = .ok (.istore_n 3, 1) := by decide +kernel
theorem dX7_order_7 : decode cX7_order 7 = .ok (.aload_n 0, 1) := by decide +kernel
theorem dX7_order_8 : decode cX7_order 8 = .ok (.iload_n 2, 1) := by decide +kernel
theorem dX7_order_9 : decode cX7_order 9 = .ok (.iconst 0, 1) := by decide +kernel
theorem dX7_order_10 : decode cX7_order 10 = .ok (.invokevirtual 92, 3) := by decide +kernel
theorem dX7_order_13 : decode cX7_order 13 = .ok (.istore 4, 2) := by decide +kernel
theorem dX7_order_15 : decode cX7_order 15 = .ok (.iload_n 3, 1) := by decide +kernel
theorem dX7_order_16 : decode cX7_order 16 = .ok (.aload_n 0, 1) := by decide +kernel
theorem dX7_order_17 : decode cX7_order 17 = .ok (.getfield 13, 3) := by decide +kernel
theorem dX7_order_20 : decode cX7_order 20 = .ok (.iload_n 1, 1) := by decide +kernel
theorem dX7_order_21 : decode cX7_order 21 = .ok (.iaload, 1) := by decide +kernel
theorem dX7_order_22 : decode cX7_order 22 = .ok (.if_icmp .ge 71, 3) := by decide +kernel
theorem dX7_order_25 : decode cX7_order 25 = .ok (.iload 4, 2) := by decide +kernel
theorem dX7_order_27 : decode cX7_order 27 = .ok (.aload_n 0, 1) := by decide +kernel
theorem dX7_order_28 : decode cX7_order 28 = .ok (.getfield 13, 3) := by decide +kernel
theorem dX7_order_31 : decode cX7_order 31 = .ok (.iload_n 2, 1) := by decide +kernel
theorem dX7_order_32 : decode cX7_order 32 = .ok (.iaload, 1) := by decide +kernel
theorem dX7_order_33 : decode cX7_order 33 = .ok (.if_icmp .ge 60, 3) := by decide +kernel
theorem dX7_order_36 : decode cX7_order 36 = .ok (.aload_n 0, 1) := by decide +kernel
theorem dX7_order_37 : decode cX7_order 37 = .ok (.getfield 7, 3) := by decide +kernel
theorem dX7_order_40 : decode cX7_order 40 = .ok (.bipush 8, 2) := by decide +kernel
theorem dX7_order_42 : decode cX7_order 42 = .ok (.iload_n 1, 1) := by decide +kernel
theorem dX7_order_43 : decode cX7_order 43 = .ok (.imul, 1) := by decide +kernel
theorem dX7_order_44 : decode cX7_order 44 = .ok (.iload_n 3, 1) := by decide +kernel
theorem dX7_order_45 : decode cX7_order 45 = .ok (.iadd, 1) := by decide +kernel
theorem dX7_order_46 : decode cX7_order 46 = .ok (.iaload, 1) := by decide +kernel
theorem dX7_order_47 : decode cX7_order 47 = .ok (.aload_n 0, 1) := by decide +kernel
theorem dX7_order_48 : decode cX7_order 48 = .ok (.getfield 7, 3) := by decide +kernel
theorem dX7_order_51 : decode cX7_order 51 = .ok (.bipush 8, 2) := by decide +kernel
theorem dX7_order_53 : decode cX7_order 53 = .ok (.iload_n 2, 1) := by decide +kernel
theorem dX7_order_54 : decode cX7_order 54 = .ok (.imul, 1) := by decide +kernel
theorem dX7_order_55 : decode cX7_order 55 = .ok (.iload 4, 2) := by decide +kernel
theorem dX7_order_57 : decode cX7_order 57 = .ok (.iadd, 1) := by decide +kernel
theorem dX7_order_58 : decode cX7_order 58 = .ok (.iaload, 1) := by decide +kernel
theorem dX7_order_59 : decode cX7_order 59 = .ok (.isub, 1) := by decide +kernel
theorem dX7_order_60 : decode cX7_order 60 = .ok (.istore 5, 2) := by decide +kernel
theorem dX7_order_62 : decode cX7_order 62 = .ok (.iload 5, 2) := by decide +kernel
theorem dX7_order_64 : decode cX7_order 64 = .ok (.ifCond .eq 6, 3) := by decide +kernel
theorem dX7_order_67 : decode cX7_order 67 = .ok (.iload 5, 2) := by decide +kernel
theorem dX7_order_69 : decode cX7_order 69 = .ok (.ireturn, 1) := by decide +kernel
theorem dX7_order_70 : decode cX7_order 70 = .ok (.aload_n 0, 1) := by decide +kernel
theorem dX7_order_71 : decode cX7_order 71 = .ok (.iload_n 1, 1) := by decide +kernel
theorem dX7_order_72 : decode cX7_order 72 = .ok (.iload_n 3, 1) := by decide +kernel
theorem dX7_order_73 : decode cX7_order 73 = .ok (.iconst 1, 1) := by decide +kernel
theorem dX7_order_74 : decode cX7_order 74 = .ok (.iadd, 1) := by decide +kernel
theorem dX7_order_75 : decode cX7_order 75 = .ok (.invokevirtual 92, 3) := by decide +kernel
theorem dX7_order_78 : decode cX7_order 78 = .ok (.istore_n 3, 1) := by decide +kernel
theorem dX7_order_79 : decode cX7_order 79 = .ok (.aload_n 0, 1) := by decide +kernel
theorem dX7_order_80 : decode cX7_order 80 = .ok (.iload_n 2, 1) := by decide +kernel
theorem dX7_order_81 : decode cX7_order 81 = .ok (.iload 4, 2) := by decide +kernel
theorem dX7_order_83 : decode cX7_order 83 = .ok (.iconst 1, 1) := by decide +kernel
theorem dX7_order_84 : decode cX7_order 84 = .ok (.iadd, 1) := by decide +kernel
theorem dX7_order_85 : decode cX7_order 85 = .ok (.invokevirtual 92, 3) := by decide +kernel
theorem dX7_order_88 : decode cX7_order 88 = .ok (.istore 4, 2) := by decide +kernel
theorem dX7_order_90 : decode cX7_order 90 = .ok (.goto (-75), 3) := by decide +kernel
theorem dX7_order_93 : decode cX7_order 93 = .ok (.iload_n 3, 1) := by decide +kernel
theorem dX7_order_94 : decode cX7_order 94 = .ok (.aload_n 0, 1) := by decide +kernel
theorem dX7_order_95 : decode cX7_order 95 = .ok (.getfield 13, 3) := by decide +kernel
theorem dX7_order_98 : decode cX7_order 98 = .ok (.iload_n 1, 1) := by decide +kernel
theorem dX7_order_99 : decode cX7_order 99 = .ok (.iaload, 1) := by decide +kernel
theorem dX7_order_100 : decode cX7_order 100 = .ok (.if_icmp .ge 7, 3) := by decide +kernel
theorem dX7_order_103 : decode cX7_order 103 = .ok (.iconst 1, 1) := by decide +kernel
theorem dX7_order_104 : decode cX7_order 104 = .ok (.goto 4, 3) := by decide +kernel
theorem dX7_order_107 : decode cX7_order 107 = .ok (.iconst 0, 1) := by decide +kernel
theorem dX7_order_108 : decode cX7_order 108 = .ok (.iload 4, 2) := by decide +kernel
theorem dX7_order_110 : decode cX7_order 110 = .ok (.aload_n 0, 1) := by decide +kernel
theorem dX7_order_111 : decode cX7_order 111 = .ok (.getfield 13, 3) := by decide +kernel
theorem dX7_order_114 : decode cX7_order 114 = .ok (.iload_n 2, 1) := by decide +kernel
theorem dX7_order_115 : decode cX7_order 115 = .ok (.iaload, 1) := by decide +kernel
theorem dX7_order_116 : decode cX7_order 116 = .ok (.if_icmp .ge 7, 3) := by decide +kernel
theorem dX7_order_119 : decode cX7_order 119 = .ok (.iconst 1, 1) := by decide +kernel
theorem dX7_order_120 : decode cX7_order 120 = .ok (.goto 4, 3) := by decide +kernel
theorem dX7_order_123 : decode cX7_order 123 = .ok (.iconst 0, 1) := by decide +kernel
theorem dX7_order_124 : decode cX7_order 124 = .ok (.isub, 1) := by decide +kernel
theorem dX7_order_125 : decode cX7_order 125 = .ok (.ireturn, 1) := by decide +kernel
theorem dX7_firstLetter_0 : decode cX7_firstLetter 0 = .ok (.iconst 0, 1) := by decide +kernel
theorem dX7_firstLetter_1 : decode cX7_firstLetter 1 = .ok (.istore_n 2, 1) := by decide +kernel
theorem dX7_firstLetter_2 : decode cX7_firstLetter 2 = .ok (.iload_n 2, 1) := by decide +kernel
theorem dX7_firstLetter_3 : decode cX7_firstLetter 3 = .ok (.aload_n 0, 1) := by decide +kernel
theorem dX7_firstLetter_4 : decode cX7_firstLetter 4 = .ok (.getfield 13, 3) := by decide +kernel
theorem dX7_firstLetter_7 : decode cX7_firstLetter 7 = .ok (.iload_n 1, 1) := by decide +kernel
theorem dX7_firstLetter_8 : decode cX7_firstLetter 8 = .ok (.iaload, 1) := by decide +kernel
theorem dX7_firstLetter_9 : decode cX7_firstLetter 9 = .ok (.if_icmp .ge 23, 3) := by decide +kernel
theorem dX7_firstLetter_12 : decode cX7_firstLetter 12 = .ok (.aload_n 0, 1) := by decide +kernel
theorem dX7_firstLetter_13 : decode cX7_firstLetter 13 = .ok (.getfield 7, 3) := by decide +kernel
theorem dX7_firstLetter_16 : decode cX7_firstLetter 16 = .ok (.bipush 8, 2) := by decide +kernel
theorem dX7_firstLetter_18 : decode cX7_firstLetter 18 = .ok (.iload_n 1, 1) := by decide +kernel
theorem dX7_firstLetter_19 : decode cX7_firstLetter 19 = .ok (.imul, 1) := by decide +kernel
theorem dX7_firstLetter_20 : decode cX7_firstLetter 20 = .ok (.iload_n 2, 1) := by decide +kernel
theorem dX7_firstLetter_21 : decode cX7_firstLetter 21 = .ok (.iadd, 1) := by decide +kernel
theorem dX7_firstLetter_22 : decode cX7_firstLetter 22 = .ok (.iaload, 1) := by decide +kernel
theorem dX7_firstLetter_23 : decode cX7_firstLetter 23 = .ok (.ifCond .ne 9, 3) := by decide +kernel
theorem dX7_firstLetter_26 : decode cX7_firstLetter 26 = .ok (.iinc 2 1, 3) := by decide +kernel
theorem dX7_firstLetter_29 : decode cX7_firstLetter 29 = .ok (.goto (-27), 3) := by decide +kernel
theorem dX7_firstLetter_32 : decode cX7_firstLetter 32 = .ok (.iload_n 2, 1) := by decide +kernel
theorem dX7_firstLetter_33 : decode cX7_firstLetter 33 = .ok (.aload_n 0, 1) := by decide +kernel
theorem dX7_firstLetter_34 : decode cX7_firstLetter 34 = .ok (.getfield 13, 3) := by decide +kernel
theorem dX7_firstLetter_37 : decode cX7_firstLetter 37 = .ok (.iload_n 1, 1) := by decide +kernel
theorem dX7_firstLetter_38 : decode cX7_firstLetter 38 = .ok (.iaload, 1) := by decide +kernel
theorem dX7_firstLetter_39 : decode cX7_firstLetter 39 = .ok (.if_icmp .ge 17, 3) := by decide +kernel
theorem dX7_firstLetter_42 : decode cX7_firstLetter 42 = .ok (.aload_n 0, 1) := by decide +kernel
theorem dX7_firstLetter_43 : decode cX7_firstLetter 43 = .ok (.getfield 7, 3) := by decide +kernel
theorem dX7_firstLetter_46 : decode cX7_firstLetter 46 = .ok (.bipush 8, 2) := by decide +kernel
theorem dX7_firstLetter_48 : decode cX7_firstLetter 48 = .ok (.iload_n 1, 1) := by decide +kernel
theorem dX7_firstLetter_49 : decode cX7_firstLetter 49 = .ok (.imul, 1) := by decide +kernel
theorem dX7_firstLetter_50 : decode cX7_firstLetter 50 = .ok (.iload_n 2, 1) := by decide +kernel
theorem dX7_firstLetter_51 : decode cX7_firstLetter 51 = .ok (.iadd, 1) := by decide +kernel
theorem dX7_firstLetter_52 : decode cX7_firstLetter 52 = .ok (.iaload, 1) := by decide +kernel
theorem dX7_firstLetter_53 : decode cX7_firstLetter 53 = .ok (.goto 4, 3) := by decide +kernel
theorem dX7_firstLetter_56 : decode cX7_firstLetter 56 = .ok (.iconst 0, 1) := by decide +kernel
theorem dX7_firstLetter_57 : decode cX7_firstLetter 57 = .ok (.ireturn, 1) := by decide +kernel
theorem dX7_volumeOf_0 : decode cX7_volumeOf 0 = .ok (.iconst 0, 1) := by decide +kernel
theorem dX7_volumeOf_1 : decode cX7_volumeOf 1 = .ok (.istore_n 2, 1) := by decide +kernel
theorem dX7_volumeOf_2 : decode cX7_volumeOf 2 = .ok (.iload_n 2, 1) := by decide +kernel
theorem dX7_volumeOf_3 : decode cX7_volumeOf 3 = .ok (.aload_n 0, 1) := by decide +kernel
theorem dX7_volumeOf_4 : decode cX7_volumeOf 4 = .ok (.getfield 96, 3) := by decide +kernel
theorem dX7_volumeOf_7 : decode cX7_volumeOf 7 = .ok (.if_icmp .ge 25, 3) := by decide +kernel
theorem dX7_volumeOf_10 : decode cX7_volumeOf 10 = .ok (.aload_n 0, 1) := by decide +kernel
theorem dX7_volumeOf_11 : decode cX7_volumeOf 11 = .ok (.getfield 56, 3) := by decide +kernel
theorem dX7_volumeOf_14 : decode cX7_volumeOf 14 = .ok (.iload_n 2, 1) := by decide +kernel
theorem dX7_volumeOf_15 : decode cX7_volumeOf 15 = .ok (.iaload, 1) := by decide +kernel
theorem dX7_volumeOf_16 : decode cX7_volumeOf 16 = .ok (.aload_n 0, 1) := by decide +kernel
theorem dX7_volumeOf_17 : decode cX7_volumeOf 17 = .ok (.iload_n 1, 1) := by decide +kernel
theorem dX7_volumeOf_18 : decode cX7_volumeOf 18 = .ok (.invokevirtual 99, 3) := by decide +kernel
theorem dX7_volumeOf_21 : decode cX7_volumeOf 21 = .ok (.if_icmp .lt 5, 3) := by decide +kernel
theorem dX7_volumeOf_24 : decode cX7_volumeOf 24 = .ok (.iload_n 2, 1) := by decide +kernel
theorem dX7_volumeOf_25 : decode cX7_volumeOf 25 = .ok (.ireturn, 1) := by decide +kernel
theorem dX7_volumeOf_26 : decode cX7_volumeOf 26 = .ok (.iinc 2 1, 3) := by decide +kernel
theorem dX7_volumeOf_29 : decode cX7_volumeOf 29 = .ok (.goto (-27), 3) := by decide +kernel
theorem dX7_volumeOf_32 : decode cX7_volumeOf 32 = .ok (.iconst (-1), 1) := by decide +kernel
theorem dX7_volumeOf_33 : decode cX7_volumeOf 33 = .ok (.ireturn, 1) := by decide +kernel
theorem dX7_takes_0 : decode cX7_takes 0 = .ok (.iconst 0, 1) := by decide +kernel
theorem dX7_takes_1 : decode cX7_takes 1 = .ok (.istore_n 2, 1) := by decide +kernel
theorem dX7_takes_2 : decode cX7_takes 2 = .ok (.iload_n 2, 1) := by decide +kernel
theorem dX7_takes_3 : decode cX7_takes 3 = .ok (.bipush 8, 2) := by decide +kernel
theorem dX7_takes_5 : decode cX7_takes 5 = .ok (.if_icmp .ge 30, 3) := by decide +kernel
theorem dX7_takes_8 : decode cX7_takes 8 = .ok (.aload_n 0, 1) := by decide +kernel
theorem dX7_takes_9 : decode cX7_takes 9 = .ok (.getfield 7, 3) := by decide +kernel
theorem dX7_takes_12 : decode cX7_takes 12 = .ok (.bipush 8, 2) := by decide +kernel
theorem dX7_takes_14 : decode cX7_takes 14 = .ok (.iload_n 1, 1) := by decide +kernel
theorem dX7_takes_15 : decode cX7_takes 15 = .ok (.imul, 1) := by decide +kernel
theorem dX7_takes_16 : decode cX7_takes 16 = .ok (.iload_n 2, 1) := by decide +kernel
theorem dX7_takes_17 : decode cX7_takes 17 = .ok (.iadd, 1) := by decide +kernel
theorem dX7_takes_18 : decode cX7_takes 18 = .ok (.aload_n 0, 1) := by decide +kernel
theorem dX7_takes_19 : decode cX7_takes 19 = .ok (.getfield 7, 3) := by decide +kernel
theorem dX7_takes_22 : decode cX7_takes 22 = .ok (.sipush 960, 3) := by decide +kernel
theorem dX7_takes_25 : decode cX7_takes 25 = .ok (.iload_n 2, 1) := by decide +kernel
theorem dX7_takes_26 : decode cX7_takes 26 = .ok (.iadd, 1) := by decide +kernel
theorem dX7_takes_27 : decode cX7_takes 27 = .ok (.iaload, 1) := by decide +kernel
theorem dX7_takes_28 : decode cX7_takes 28 = .ok (.iastore, 1) := by decide +kernel
theorem dX7_takes_29 : decode cX7_takes 29 = .ok (.iinc 2 1, 3) := by decide +kernel
theorem dX7_takes_32 : decode cX7_takes 32 = .ok (.goto (-30), 3) := by decide +kernel
theorem dX7_takes_35 : decode cX7_takes 35 = .ok (.aload_n 0, 1) := by decide +kernel
theorem dX7_takes_36 : decode cX7_takes 36 = .ok (.getfield 13, 3) := by decide +kernel
theorem dX7_takes_39 : decode cX7_takes 39 = .ok (.iload_n 1, 1) := by decide +kernel
theorem dX7_takes_40 : decode cX7_takes 40 = .ok (.aload_n 0, 1) := by decide +kernel
theorem dX7_takes_41 : decode cX7_takes 41 = .ok (.getfield 13, 3) := by decide +kernel
theorem dX7_takes_44 : decode cX7_takes 44 = .ok (.bipush 120, 2) := by decide +kernel
theorem dX7_takes_46 : decode cX7_takes 46 = .ok (.iaload, 1) := by decide +kernel
theorem dX7_takes_47 : decode cX7_takes 47 = .ok (.iastore, 1) := by decide +kernel
theorem dX7_takes_48 : decode cX7_takes 48 = .ok (.aload_n 0, 1) := by decide +kernel
theorem dX7_takes_49 : decode cX7_takes 49 = .ok (.getfield 13, 3) := by decide +kernel
theorem dX7_takes_52 : decode cX7_takes 52 = .ok (.bipush 120, 2) := by decide +kernel
theorem dX7_takes_54 : decode cX7_takes 54 = .ok (.iconst 0, 1) := by decide +kernel
theorem dX7_takes_55 : decode cX7_takes 55 = .ok (.iastore, 1) := by decide +kernel
theorem dX7_takes_56 : decode cX7_takes 56 = .ok (.return_, 1) := by decide +kernel
theorem dX7_sign_0 : decode cX7_sign 0 = .ok (.iload_n 1, 1) := by decide +kernel
theorem dX7_sign_1 : decode cX7_sign 1 = .ok (.bipush 97, 2) := by decide +kernel
theorem dX7_sign_3 : decode cX7_sign 3 = .ok (.if_icmp .lt 9, 3) := by decide +kernel
theorem dX7_sign_6 : decode cX7_sign 6 = .ok (.iload_n 1, 1) := by decide +kernel
theorem dX7_sign_7 : decode cX7_sign 7 = .ok (.bipush 122, 2) := by decide +kernel
theorem dX7_sign_9 : decode cX7_sign 9 = .ok (.if_icmp .le 15, 3) := by decide +kernel
theorem dX7_sign_12 : decode cX7_sign 12 = .ok (.iload_n 1, 1) := by decide +kernel
theorem dX7_sign_13 : decode cX7_sign 13 = .ok (.bipush 32, 2) := by decide +kernel
theorem dX7_sign_15 : decode cX7_sign 15 = .ok (.if_icmp .eq 9, 3) := by decide +kernel
theorem dX7_sign_18 : decode cX7_sign 18 = .ok (.iload_n 1, 1) := by decide +kernel
theorem dX7_sign_19 : decode cX7_sign 19 = .ok (.bipush 45, 2) := by decide +kernel
theorem dX7_sign_21 : decode cX7_sign 21 = .ok (.if_icmp .ne 7, 3) := by decide +kernel
theorem dX7_sign_24 : decode cX7_sign 24 = .ok (.iconst 1, 1) := by decide +kernel
theorem dX7_sign_25 : decode cX7_sign 25 = .ok (.goto 4, 3) := by decide +kernel
theorem dX7_sign_28 : decode cX7_sign 28 = .ok (.iconst 0, 1) := by decide +kernel
theorem dX7_sign_29 : decode cX7_sign 29 = .ok (.istore_n 2, 1) := by decide +kernel
theorem dX7_sign_30 : decode cX7_sign 30 = .ok (.aload_n 0, 1) := by decide +kernel
theorem dX7_sign_31 : decode cX7_sign 31 = .ok (.iload_n 2, 1) := by decide +kernel
theorem dX7_sign_32 : decode cX7_sign 32 = .ok (.ifCond .ne 7, 3) := by decide +kernel
theorem dX7_sign_35 : decode cX7_sign 35 = .ok (.iconst 1, 1) := by decide +kernel
theorem dX7_sign_36 : decode cX7_sign 36 = .ok (.goto 20, 3) := by decide +kernel
theorem dX7_sign_39 : decode cX7_sign 39 = .ok (.aload_n 0, 1) := by decide +kernel
theorem dX7_sign_40 : decode cX7_sign 40 = .ok (.getfield 13, 3) := by decide +kernel
theorem dX7_sign_43 : decode cX7_sign 43 = .ok (.bipush 120, 2) := by decide +kernel
theorem dX7_sign_45 : decode cX7_sign 45 = .ok (.iaload, 1) := by decide +kernel
theorem dX7_sign_46 : decode cX7_sign 46 = .ok (.bipush 8, 2) := by decide +kernel
theorem dX7_sign_48 : decode cX7_sign 48 = .ok (.if_icmp .ne 7, 3) := by decide +kernel
theorem dX7_sign_51 : decode cX7_sign 51 = .ok (.iconst 2, 1) := by decide +kernel
theorem dX7_sign_52 : decode cX7_sign 52 = .ok (.goto 4, 3) := by decide +kernel
theorem dX7_sign_55 : decode cX7_sign 55 = .ok (.iconst 0, 1) := by decide +kernel
theorem dX7_sign_56 : decode cX7_sign 56 = .ok (.invokevirtual 103, 3) := by decide +kernel
theorem dX7_sign_59 : decode cX7_sign 59 = .ok (.ifCond .ne 5, 3) := by decide +kernel
theorem dX7_sign_62 : decode cX7_sign 62 = .ok (.iconst 0, 1) := by decide +kernel
theorem dX7_sign_63 : decode cX7_sign 63 = .ok (.ireturn, 1) := by decide +kernel
theorem dX7_sign_64 : decode cX7_sign 64 = .ok (.aload_n 0, 1) := by decide +kernel
theorem dX7_sign_65 : decode cX7_sign 65 = .ok (.getfield 7, 3) := by decide +kernel
theorem dX7_sign_68 : decode cX7_sign 68 = .ok (.sipush 960, 3) := by decide +kernel
theorem dX7_sign_71 : decode cX7_sign 71 = .ok (.aload_n 0, 1) := by decide +kernel
theorem dX7_sign_72 : decode cX7_sign 72 = .ok (.getfield 13, 3) := by decide +kernel
theorem dX7_sign_75 : decode cX7_sign 75 = .ok (.bipush 120, 2) := by decide +kernel
theorem dX7_sign_77 : decode cX7_sign 77 = .ok (.iaload, 1) := by decide +kernel
theorem dX7_sign_78 : decode cX7_sign 78 = .ok (.iadd, 1) := by decide +kernel
theorem dX7_sign_79 : decode cX7_sign 79 = .ok (.iload_n 1, 1) := by decide +kernel
theorem dX7_sign_80 : decode cX7_sign 80 = .ok (.bipush 97, 2) := by decide +kernel
theorem dX7_sign_82 : decode cX7_sign 82 = .ok (.if_icmp .ge 7, 3) := by decide +kernel
theorem dX7_sign_85 : decode cX7_sign 85 = .ok (.iconst 0, 1) := by decide +kernel
theorem dX7_sign_86 : decode cX7_sign 86 = .ok (.goto 9, 3) := by decide +kernel
theorem dX7_sign_89 : decode cX7_sign 89 = .ok (.iload_n 1, 1) := by decide +kernel
theorem dX7_sign_90 : decode cX7_sign 90 = .ok (.bipush 97, 2) := by decide +kernel
theorem dX7_sign_92 : decode cX7_sign 92 = .ok (.isub, 1) := by decide +kernel
theorem dX7_sign_93 : decode cX7_sign 93 = .ok (.iconst 1, 1) := by decide +kernel
theorem dX7_sign_94 : decode cX7_sign 94 = .ok (.iadd, 1) := by decide +kernel
theorem dX7_sign_95 : decode cX7_sign 95 = .ok (.iastore, 1) := by decide +kernel
theorem dX7_sign_96 : decode cX7_sign 96 = .ok (.aload_n 0, 1) := by decide +kernel
theorem dX7_sign_97 : decode cX7_sign 97 = .ok (.getfield 13, 3) := by decide +kernel
theorem dX7_sign_100 : decode cX7_sign 100 = .ok (.bipush 120, 2) := by decide +kernel
theorem dX7_sign_102 : decode cX7_sign 102 = .ok (.dup2, 1) := by decide +kernel
theorem dX7_sign_103 : decode cX7_sign 103 = .ok (.iaload, 1) := by decide +kernel
theorem dX7_sign_104 : decode cX7_sign 104 = .ok (.iconst 1, 1) := by decide +kernel
theorem dX7_sign_105 : decode cX7_sign 105 = .ok (.iadd, 1) := by decide +kernel
theorem dX7_sign_106 : decode cX7_sign 106 = .ok (.iastore, 1) := by decide +kernel
theorem dX7_sign_107 : decode cX7_sign 107 = .ok (.aload_n 0, 1) := by decide +kernel
theorem dX7_sign_108 : decode cX7_sign 108 = .ok (.getfield 13, 3) := by decide +kernel
theorem dX7_sign_111 : decode cX7_sign 111 = .ok (.bipush 120, 2) := by decide +kernel
theorem dX7_sign_113 : decode cX7_sign 113 = .ok (.iaload, 1) := by decide +kernel
theorem dX7_sign_114 : decode cX7_sign 114 = .ok (.ireturn, 1) := by decide +kernel
theorem dX7_erase_0 : decode cX7_erase 0 = .ok (.aload_n 0, 1) := by decide +kernel
theorem dX7_erase_1 : decode cX7_erase 1 = .ok (.iconst 0, 1) := by decide +kernel
theorem dX7_erase_2 : decode cX7_erase 2 = .ok (.putfield 74, 3) := by decide +kernel
theorem dX7_erase_5 : decode cX7_erase 5 = .ok (.aload_n 0, 1) := by decide +kernel
theorem dX7_erase_6 : decode cX7_erase 6 = .ok (.getfield 13, 3) := by decide +kernel
theorem dX7_erase_9 : decode cX7_erase 9 = .ok (.bipush 120, 2) := by decide +kernel
theorem dX7_erase_11 : decode cX7_erase 11 = .ok (.iaload, 1) := by decide +kernel
theorem dX7_erase_12 : decode cX7_erase 12 = .ok (.istore_n 1, 1) := by decide +kernel
theorem dX7_erase_13 : decode cX7_erase 13 = .ok (.aload_n 0, 1) := by decide +kernel
theorem dX7_erase_14 : decode cX7_erase 14 = .ok (.getfield 13, 3) := by decide +kernel
theorem dX7_erase_17 : decode cX7_erase 17 = .ok (.bipush 120, 2) := by decide +kernel
theorem dX7_erase_19 : decode cX7_erase 19 = .ok (.iconst 0, 1) := by decide +kernel
theorem dX7_erase_20 : decode cX7_erase 20 = .ok (.iastore, 1) := by decide +kernel
theorem dX7_erase_21 : decode cX7_erase 21 = .ok (.iload_n 1, 1) := by decide +kernel
theorem dX7_erase_22 : decode cX7_erase 22 = .ok (.ireturn, 1) := by decide +kernel
theorem dX7_rule_0 : decode cX7_rule 0 = .ok (.aload_n 0, 1) := by decide +kernel
theorem dX7_rule_1 : decode cX7_rule 1 = .ok (.aload_n 0, 1) := by decide +kernel
theorem dX7_rule_2 : decode cX7_rule 2 = .ok (.getfield 107, 3) := by decide +kernel
theorem dX7_rule_5 : decode cX7_rule 5 = .ok (.ifCond .le 7, 3) := by decide +kernel
theorem dX7_rule_8 : decode cX7_rule 8 = .ok (.iconst 1, 1) := by decide +kernel
theorem dX7_rule_9 : decode cX7_rule 9 = .ok (.goto 4, 3) := by decide +kernel
theorem dX7_rule_12 : decode cX7_rule 12 = .ok (.iconst 0, 1) := by decide +kernel
theorem dX7_rule_13 : decode cX7_rule 13 = .ok (.invokevirtual 103, 3) := by decide +kernel
theorem dX7_rule_16 : decode cX7_rule 16 = .ok (.ifCond .ne 5, 3) := by decide +kernel
theorem dX7_rule_19 : decode cX7_rule 19 = .ok (.iconst 0, 1) := by decide +kernel
theorem dX7_rule_20 : decode cX7_rule 20 = .ok (.ireturn, 1) := by decide +kernel
theorem dX7_rule_21 : decode cX7_rule 21 = .ok (.aload_n 0, 1) := by decide +kernel
theorem dX7_rule_22 : decode cX7_rule 22 = .ok (.getfield 88, 3) := by decide +kernel
theorem dX7_rule_25 : decode cX7_rule 25 = .ok (.istore_n 2, 1) := by decide +kernel
theorem dX7_rule_26 : decode cX7_rule 26 = .ok (.aload_n 0, 1) := by decide +kernel
theorem dX7_rule_27 : decode cX7_rule 27 = .ok (.iload_n 1, 1) := by decide +kernel
theorem dX7_rule_28 : decode cX7_rule 28 = .ok (.putfield 88, 3) := by decide +kernel
theorem dX7_rule_31 : decode cX7_rule 31 = .ok (.iload_n 2, 1) := by decide +kernel
theorem dX7_rule_32 : decode cX7_rule 32 = .ok (.ireturn, 1) := by decide +kernel
theorem dX7_article_0 : decode cX7_article 0 = .ok (.iload_n 2, 1) := by decide +kernel
theorem dX7_article_1 : decode cX7_article 1 = .ok (.iconst 0, 1) := by decide +kernel
theorem dX7_article_2 : decode cX7_article 2 = .ok (.bipush 9, 2) := by decide +kernel
theorem dX7_article_4 : decode cX7_article 4 = .ok (.invokestatic 81, 3) := by decide +kernel
theorem dX7_article_7 : decode cX7_article 7 = .ok (.istore_n 3, 1) := by decide +kernel
theorem dX7_article_8 : decode cX7_article 8 = .ok (.aload_n 0, 1) := by decide +kernel
theorem dX7_article_9 : decode cX7_article 9 = .ok (.iload_n 1, 1) := by decide +kernel
theorem dX7_article_10 : decode cX7_article 10 = .ok (.invokestatic 110, 3) := by decide +kernel
theorem dX7_article_13 : decode cX7_article 13 = .ok (.ifCond .ne 7, 3) := by decide +kernel
theorem dX7_article_16 : decode cX7_article 16 = .ok (.iconst 1, 1) := by decide +kernel
theorem dX7_article_17 : decode cX7_article 17 = .ok (.goto 34, 3) := by decide +kernel
theorem dX7_article_20 : decode cX7_article 20 = .ok (.iload_n 3, 1) := by decide +kernel
theorem dX7_article_21 : decode cX7_article 21 = .ok (.ifCond .ne 7, 3) := by decide +kernel
theorem dX7_article_24 : decode cX7_article 24 = .ok (.iconst 2, 1) := by decide +kernel
theorem dX7_article_25 : decode cX7_article 25 = .ok (.goto 26, 3) := by decide +kernel
theorem dX7_article_28 : decode cX7_article 28 = .ok (.aload_n 0, 1) := by decide +kernel
theorem dX7_article_29 : decode cX7_article 29 = .ok (.getfield 78, 3) := by decide +kernel
theorem dX7_article_32 : decode cX7_article 32 = .ok (.bipush 24, 2) := by decide +kernel
theorem dX7_article_34 : decode cX7_article 34 = .ok (.if_icmp .eq 12, 3) := by decide +kernel
theorem dX7_article_37 : decode cX7_article 37 = .ok (.aload_n 0, 1) := by decide +kernel
theorem dX7_article_38 : decode cX7_article 38 = .ok (.bipush 120, 2) := by decide +kernel
theorem dX7_article_40 : decode cX7_article 40 = .ok (.invokevirtual 99, 3) := by decide +kernel
theorem dX7_article_43 : decode cX7_article 43 = .ok (.ifCond .ne 7, 3) := by decide +kernel
theorem dX7_article_46 : decode cX7_article 46 = .ok (.iconst 3, 1) := by decide +kernel
theorem dX7_article_47 : decode cX7_article 47 = .ok (.goto 4, 3) := by decide +kernel
theorem dX7_article_50 : decode cX7_article 50 = .ok (.iconst 0, 1) := by decide +kernel
theorem dX7_article_51 : decode cX7_article 51 = .ok (.invokevirtual 103, 3) := by decide +kernel
theorem dX7_article_54 : decode cX7_article 54 = .ok (.ifCond .ne 5, 3) := by decide +kernel
theorem dX7_article_57 : decode cX7_article 57 = .ok (.iconst 0, 1) := by decide +kernel
theorem dX7_article_58 : decode cX7_article 58 = .ok (.ireturn, 1) := by decide +kernel
theorem dX7_article_59 : decode cX7_article 59 = .ok (.aload_n 0, 1) := by decide +kernel
theorem dX7_article_60 : decode cX7_article 60 = .ok (.aload_n 0, 1) := by decide +kernel
theorem dX7_article_61 : decode cX7_article 61 = .ok (.getfield 78, 3) := by decide +kernel
theorem dX7_article_64 : decode cX7_article 64 = .ok (.invokevirtual 113, 3) := by decide +kernel
theorem dX7_article_67 : decode cX7_article 67 = .ok (.aload_n 0, 1) := by decide +kernel
theorem dX7_article_68 : decode cX7_article 68 = .ok (.getfield 16, 3) := by decide +kernel
theorem dX7_article_71 : decode cX7_article 71 = .ok (.aload_n 0, 1) := by decide +kernel
theorem dX7_article_72 : decode cX7_article 72 = .ok (.getfield 78, 3) := by decide +kernel
theorem dX7_article_75 : decode cX7_article 75 = .ok (.iload_n 1, 1) := by decide +kernel
theorem dX7_article_76 : decode cX7_article 76 = .ok (.iastore, 1) := by decide +kernel
theorem dX7_article_77 : decode cX7_article 77 = .ok (.aload_n 0, 1) := by decide +kernel
theorem dX7_article_78 : decode cX7_article 78 = .ok (.getfield 19, 3) := by decide +kernel
theorem dX7_article_81 : decode cX7_article 81 = .ok (.aload_n 0, 1) := by decide +kernel
theorem dX7_article_82 : decode cX7_article 82 = .ok (.getfield 78, 3) := by decide +kernel
theorem dX7_article_85 : decode cX7_article 85 = .ok (.iload_n 2, 1) := by decide +kernel
theorem dX7_article_86 : decode cX7_article 86 = .ok (.iastore, 1) := by decide +kernel
theorem dX7_article_87 : decode cX7_article 87 = .ok (.aload_n 0, 1) := by decide +kernel
theorem dX7_article_88 : decode cX7_article 88 = .ok (.getfield 25, 3) := by decide +kernel
theorem dX7_article_91 : decode cX7_article 91 = .ok (.aload_n 0, 1) := by decide +kernel
theorem dX7_article_92 : decode cX7_article 92 = .ok (.getfield 78, 3) := by decide +kernel
theorem dX7_article_95 : decode cX7_article 95 = .ok (.iconst (-1), 1) := by decide +kernel
theorem dX7_article_96 : decode cX7_article 96 = .ok (.iastore, 1) := by decide +kernel
theorem dX7_article_97 : decode cX7_article 97 = .ok (.aload_n 0, 1) := by decide +kernel
theorem dX7_article_98 : decode cX7_article 98 = .ok (.getfield 28, 3) := by decide +kernel
theorem dX7_article_101 : decode cX7_article 101 = .ok (.aload_n 0, 1) := by decide +kernel
theorem dX7_article_102 : decode cX7_article 102 = .ok (.getfield 78, 3) := by decide +kernel
theorem dX7_article_105 : decode cX7_article 105 = .ok (.iconst (-1), 1) := by decide +kernel
theorem dX7_article_106 : decode cX7_article 106 = .ok (.iastore, 1) := by decide +kernel
theorem dX7_article_107 : decode cX7_article 107 = .ok (.aload_n 0, 1) := by decide +kernel
theorem dX7_article_108 : decode cX7_article 108 = .ok (.dup, 1) := by decide +kernel
theorem dX7_article_109 : decode cX7_article 109 = .ok (.getfield 78, 3) := by decide +kernel
theorem dX7_article_112 : decode cX7_article 112 = .ok (.iconst 1, 1) := by decide +kernel
theorem dX7_article_113 : decode cX7_article 113 = .ok (.iadd, 1) := by decide +kernel
theorem dX7_article_114 : decode cX7_article 114 = .ok (.putfield 78, 3) := by decide +kernel
theorem dX7_article_117 : decode cX7_article 117 = .ok (.aload_n 0, 1) := by decide +kernel
theorem dX7_article_118 : decode cX7_article 118 = .ok (.getfield 78, 3) := by decide +kernel
theorem dX7_article_121 : decode cX7_article 121 = .ok (.iconst 1, 1) := by decide +kernel
theorem dX7_article_122 : decode cX7_article 122 = .ok (.isub, 1) := by decide +kernel
theorem dX7_article_123 : decode cX7_article 123 = .ok (.ireturn, 1) := by decide +kernel
theorem dX7_under_0 : decode cX7_under 0 = .ok (.aload_n 0, 1) := by decide +kernel
theorem dX7_under_1 : decode cX7_under 1 = .ok (.iload_n 1, 1) := by decide +kernel
theorem dX7_under_2 : decode cX7_under 2 = .ok (.invokestatic 110, 3) := by decide +kernel
theorem dX7_under_5 : decode cX7_under 5 = .ok (.ifCond .eq 15, 3) := by decide +kernel
theorem dX7_under_8 : decode cX7_under 8 = .ok (.iload_n 2, 1) := by decide +kernel
theorem dX7_under_9 : decode cX7_under 9 = .ok (.iconst (-1), 1) := by decide +kernel
theorem dX7_under_10 : decode cX7_under 10 = .ok (.if_icmp .eq 14, 3) := by decide +kernel
theorem dX7_under_13 : decode cX7_under 13 = .ok (.iload_n 2, 1) := by decide +kernel
theorem dX7_under_14 : decode cX7_under 14 = .ok (.invokestatic 110, 3) := by decide +kernel
theorem dX7_under_17 : decode cX7_under 17 = .ok (.ifCond .ne 7, 3) := by decide +kernel
theorem dX7_under_20 : decode cX7_under 20 = .ok (.iconst 1, 1) := by decide +kernel
theorem dX7_under_21 : decode cX7_under 21 = .ok (.goto 13, 3) := by decide +kernel
theorem dX7_under_24 : decode cX7_under 24 = .ok (.iload_n 2, 1) := by decide +kernel
theorem dX7_under_25 : decode cX7_under 25 = .ok (.iload_n 1, 1) := by decide +kernel
theorem dX7_under_26 : decode cX7_under 26 = .ok (.if_icmp .ge 7, 3) := by decide +kernel
theorem dX7_under_29 : decode cX7_under 29 = .ok (.iconst 0, 1) := by decide +kernel
theorem dX7_under_30 : decode cX7_under 30 = .ok (.goto 4, 3) := by decide +kernel
theorem dX7_under_33 : decode cX7_under 33 = .ok (.iconst 2, 1) := by decide +kernel
theorem dX7_under_34 : decode cX7_under 34 = .ok (.invokevirtual 103, 3) := by decide +kernel
theorem dX7_under_37 : decode cX7_under 37 = .ok (.ifCond .ne 5, 3) := by decide +kernel
theorem dX7_under_40 : decode cX7_under 40 = .ok (.iconst 0, 1) := by decide +kernel
theorem dX7_under_41 : decode cX7_under 41 = .ok (.ireturn, 1) := by decide +kernel
theorem dX7_under_42 : decode cX7_under 42 = .ok (.aload_n 0, 1) := by decide +kernel
theorem dX7_under_43 : decode cX7_under 43 = .ok (.getfield 50, 3) := by decide +kernel
theorem dX7_under_46 : decode cX7_under 46 = .ok (.iload_n 1, 1) := by decide +kernel
theorem dX7_under_47 : decode cX7_under 47 = .ok (.iaload, 1) := by decide +kernel
theorem dX7_under_48 : decode cX7_under 48 = .ok (.istore_n 3, 1) := by decide +kernel
theorem dX7_under_49 : decode cX7_under 49 = .ok (.aload_n 0, 1) := by decide +kernel
theorem dX7_under_50 : decode cX7_under 50 = .ok (.getfield 50, 3) := by decide +kernel
theorem dX7_under_53 : decode cX7_under 53 = .ok (.iload_n 1, 1) := by decide +kernel
theorem dX7_under_54 : decode cX7_under 54 = .ok (.iload_n 2, 1) := by decide +kernel
theorem dX7_under_55 : decode cX7_under 55 = .ok (.iastore, 1) := by decide +kernel
theorem dX7_under_56 : decode cX7_under 56 = .ok (.iload_n 3, 1) := by decide +kernel
theorem dX7_under_57 : decode cX7_under 57 = .ok (.ireturn, 1) := by decide +kernel
theorem dX7_reference_0 : decode cX7_reference 0 = .ok (.bipush 24, 2) := by decide +kernel
theorem dX7_reference_2 : decode cX7_reference 2 = .ok (.iconst 4, 1) := by decide +kernel
theorem dX7_reference_3 : decode cX7_reference 3 = .ok (.iload_n 0, 1) := by decide +kernel
theorem dX7_reference_4 : decode cX7_reference 4 = .ok (.imul, 1) := by decide +kernel
theorem dX7_reference_5 : decode cX7_reference 5 = .ok (.iadd, 1) := by decide +kernel
theorem dX7_reference_6 : decode cX7_reference 6 = .ok (.iload_n 1, 1) := by decide +kernel
theorem dX7_reference_7 : decode cX7_reference 7 = .ok (.iadd, 1) := by decide +kernel
theorem dX7_reference_8 : decode cX7_reference 8 = .ok (.ireturn, 1) := by decide +kernel
theorem dX7_refer_0 : decode cX7_refer 0 = .ok (.aload_n 0, 1) := by decide +kernel
theorem dX7_refer_1 : decode cX7_refer 1 = .ok (.iload_n 1, 1) := by decide +kernel
theorem dX7_refer_2 : decode cX7_refer 2 = .ok (.invokevirtual 117, 3) := by decide +kernel
theorem dX7_refer_5 : decode cX7_refer 5 = .ok (.istore_n 2, 1) := by decide +kernel
theorem dX7_refer_6 : decode cX7_refer 6 = .ok (.aload_n 0, 1) := by decide +kernel
theorem dX7_refer_7 : decode cX7_refer 7 = .ok (.iload_n 2, 1) := by decide +kernel
theorem dX7_refer_8 : decode cX7_refer 8 = .ok (.ifCond .ne 7, 3) := by decide +kernel
theorem dX7_refer_11 : decode cX7_refer 11 = .ok (.iconst 1, 1) := by decide +kernel
theorem dX7_refer_12 : decode cX7_refer 12 = .ok (.goto 37, 3) := by decide +kernel
theorem dX7_refer_15 : decode cX7_refer 15 = .ok (.aload_n 0, 1) := by decide +kernel
theorem dX7_refer_16 : decode cX7_refer 16 = .ok (.getfield 22, 3) := by decide +kernel
theorem dX7_refer_19 : decode cX7_refer 19 = .ok (.iload_n 1, 1) := by decide +kernel
theorem dX7_refer_20 : decode cX7_refer 20 = .ok (.iaload, 1) := by decide +kernel
theorem dX7_refer_21 : decode cX7_refer 21 = .ok (.iconst 3, 1) := by decide +kernel
theorem dX7_refer_22 : decode cX7_refer 22 = .ok (.if_icmp .eq 22, 3) := by decide +kernel
theorem dX7_refer_25 : decode cX7_refer 25 = .ok (.aload_n 0, 1) := by decide +kernel
theorem dX7_refer_26 : decode cX7_refer 26 = .ok (.getfield 38, 3) := by decide +kernel
theorem dX7_refer_29 : decode cX7_refer 29 = .ok (.iload_n 1, 1) := by decide +kernel
theorem dX7_refer_30 : decode cX7_refer 30 = .ok (.iaload, 1) := by decide +kernel
theorem dX7_refer_31 : decode cX7_refer 31 = .ok (.iconst 4, 1) := by decide +kernel
theorem dX7_refer_32 : decode cX7_refer 32 = .ok (.if_icmp .eq 12, 3) := by decide +kernel
theorem dX7_refer_35 : decode cX7_refer 35 = .ok (.aload_n 0, 1) := by decide +kernel
theorem dX7_refer_36 : decode cX7_refer 36 = .ok (.bipush 120, 2) := by decide +kernel
theorem dX7_refer_38 : decode cX7_refer 38 = .ok (.invokevirtual 99, 3) := by decide +kernel
theorem dX7_refer_41 : decode cX7_refer 41 = .ok (.ifCond .ne 7, 3) := by decide +kernel
theorem dX7_refer_44 : decode cX7_refer 44 = .ok (.iconst 2, 1) := by decide +kernel
theorem dX7_refer_45 : decode cX7_refer 45 = .ok (.goto 4, 3) := by decide +kernel
theorem dX7_refer_48 : decode cX7_refer 48 = .ok (.iconst 0, 1) := by decide +kernel
theorem dX7_refer_49 : decode cX7_refer 49 = .ok (.invokevirtual 103, 3) := by decide +kernel
theorem dX7_refer_52 : decode cX7_refer 52 = .ok (.ifCond .ne 5, 3) := by decide +kernel
theorem dX7_refer_55 : decode cX7_refer 55 = .ok (.iconst 0, 1) := by decide +kernel
theorem dX7_refer_56 : decode cX7_refer 56 = .ok (.ireturn, 1) := by decide +kernel
theorem dX7_refer_57 : decode cX7_refer 57 = .ok (.aload_n 0, 1) := by decide +kernel
theorem dX7_refer_58 : decode cX7_refer 58 = .ok (.iload_n 1, 1) := by decide +kernel
theorem dX7_refer_59 : decode cX7_refer 59 = .ok (.aload_n 0, 1) := by decide +kernel
theorem dX7_refer_60 : decode cX7_refer 60 = .ok (.getfield 38, 3) := by decide +kernel
theorem dX7_refer_63 : decode cX7_refer 63 = .ok (.iload_n 1, 1) := by decide +kernel
theorem dX7_refer_64 : decode cX7_refer 64 = .ok (.iaload, 1) := by decide +kernel
theorem dX7_refer_65 : decode cX7_refer 65 = .ok (.invokestatic 120, 3) := by decide +kernel
theorem dX7_refer_68 : decode cX7_refer 68 = .ok (.invokevirtual 113, 3) := by decide +kernel
theorem dX7_refer_71 : decode cX7_refer 71 = .ok (.aload_n 0, 1) := by decide +kernel
theorem dX7_refer_72 : decode cX7_refer 72 = .ok (.getfield 38, 3) := by decide +kernel
theorem dX7_refer_75 : decode cX7_refer 75 = .ok (.iload_n 1, 1) := by decide +kernel
theorem dX7_refer_76 : decode cX7_refer 76 = .ok (.dup2, 1) := by decide +kernel
theorem dX7_refer_77 : decode cX7_refer 77 = .ok (.iaload, 1) := by decide +kernel
theorem dX7_refer_78 : decode cX7_refer 78 = .ok (.iconst 1, 1) := by decide +kernel
theorem dX7_refer_79 : decode cX7_refer 79 = .ok (.iadd, 1) := by decide +kernel
theorem dX7_refer_80 : decode cX7_refer 80 = .ok (.iastore, 1) := by decide +kernel
theorem dX7_refer_81 : decode cX7_refer 81 = .ok (.aload_n 0, 1) := by decide +kernel
theorem dX7_refer_82 : decode cX7_refer 82 = .ok (.getfield 38, 3) := by decide +kernel
theorem dX7_refer_85 : decode cX7_refer 85 = .ok (.iload_n 1, 1) := by decide +kernel
theorem dX7_refer_86 : decode cX7_refer 86 = .ok (.iaload, 1) := by decide +kernel
theorem dX7_refer_87 : decode cX7_refer 87 = .ok (.ireturn, 1) := by decide +kernel
theorem dX7_use_0 : decode cX7_use 0 = .ok (.aload_n 0, 1) := by decide +kernel
theorem dX7_use_1 : decode cX7_use 1 = .ok (.iload_n 1, 1) := by decide +kernel
theorem dX7_use_2 : decode cX7_use 2 = .ok (.invokevirtual 117, 3) := by decide +kernel
theorem dX7_use_5 : decode cX7_use 5 = .ok (.ifCond .eq 14, 3) := by decide +kernel
theorem dX7_use_8 : decode cX7_use 8 = .ok (.iload_n 2, 1) := by decide +kernel
theorem dX7_use_9 : decode cX7_use 9 = .ok (.invokestatic 123, 3) := by decide +kernel
theorem dX7_use_12 : decode cX7_use 12 = .ok (.ifCond .eq 7, 3) := by decide +kernel
theorem dX7_use_15 : decode cX7_use 15 = .ok (.iconst 1, 1) := by decide +kernel
theorem dX7_use_16 : decode cX7_use 16 = .ok (.goto 4, 3) := by decide +kernel
theorem dX7_use_19 : decode cX7_use 19 = .ok (.iconst 0, 1) := by decide +kernel
theorem dX7_use_20 : decode cX7_use 20 = .ok (.istore_n 3, 1) := by decide +kernel
theorem dX7_use_21 : decode cX7_use 21 = .ok (.aload_n 0, 1) := by decide +kernel
theorem dX7_use_22 : decode cX7_use 22 = .ok (.iload_n 3, 1) := by decide +kernel
theorem dX7_use_23 : decode cX7_use 23 = .ok (.ifCond .ne 7, 3) := by decide +kernel
theorem dX7_use_26 : decode cX7_use 26 = .ok (.iconst 1, 1) := by decide +kernel
theorem dX7_use_27 : decode cX7_use 27 = .ok (.goto 27, 3) := by decide +kernel
theorem dX7_use_30 : decode cX7_use 30 = .ok (.aload_n 0, 1) := by decide +kernel
theorem dX7_use_31 : decode cX7_use 31 = .ok (.getfield 22, 3) := by decide +kernel
theorem dX7_use_34 : decode cX7_use 34 = .ok (.iload_n 1, 1) := by decide +kernel
theorem dX7_use_35 : decode cX7_use 35 = .ok (.iaload, 1) := by decide +kernel
theorem dX7_use_36 : decode cX7_use 36 = .ok (.iconst 3, 1) := by decide +kernel
theorem dX7_use_37 : decode cX7_use 37 = .ok (.if_icmp .eq 12, 3) := by decide +kernel
theorem dX7_use_40 : decode cX7_use 40 = .ok (.aload_n 0, 1) := by decide +kernel
theorem dX7_use_41 : decode cX7_use 41 = .ok (.getfield 19, 3) := by decide +kernel
theorem dX7_use_44 : decode cX7_use 44 = .ok (.iload_n 1, 1) := by decide +kernel
theorem dX7_use_45 : decode cX7_use 45 = .ok (.iaload, 1) := by decide +kernel
theorem dX7_use_46 : decode cX7_use 46 = .ok (.ifCond .ne 7, 3) := by decide +kernel
theorem dX7_use_49 : decode cX7_use 49 = .ok (.iconst 2, 1) := by decide +kernel
theorem dX7_use_50 : decode cX7_use 50 = .ok (.goto 4, 3) := by decide +kernel
theorem dX7_use_53 : decode cX7_use 53 = .ok (.iconst 0, 1) := by decide +kernel
theorem dX7_use_54 : decode cX7_use 54 = .ok (.invokevirtual 103, 3) := by decide +kernel
theorem dX7_use_57 : decode cX7_use 57 = .ok (.ifCond .ne 5, 3) := by decide +kernel
theorem dX7_use_60 : decode cX7_use 60 = .ok (.iconst 0, 1) := by decide +kernel
theorem dX7_use_61 : decode cX7_use 61 = .ok (.ireturn, 1) := by decide +kernel
theorem dX7_use_62 : decode cX7_use 62 = .ok (.aload_n 0, 1) := by decide +kernel
theorem dX7_use_63 : decode cX7_use 63 = .ok (.getfield 44, 3) := by decide +kernel
theorem dX7_use_66 : decode cX7_use 66 = .ok (.bipush 8, 2) := by decide +kernel
theorem dX7_use_68 : decode cX7_use 68 = .ok (.iload_n 1, 1) := by decide +kernel
theorem dX7_use_69 : decode cX7_use 69 = .ok (.imul, 1) := by decide +kernel
theorem dX7_use_70 : decode cX7_use 70 = .ok (.iload_n 2, 1) := by decide +kernel
theorem dX7_use_71 : decode cX7_use 71 = .ok (.iadd, 1) := by decide +kernel
theorem dX7_use_72 : decode cX7_use 72 = .ok (.baload, 1) := by decide +kernel
theorem dX7_use_73 : decode cX7_use 73 = .ok (.istore 4, 2) := by decide +kernel
theorem dX7_use_75 : decode cX7_use 75 = .ok (.aload_n 0, 1) := by decide +kernel
theorem dX7_use_76 : decode cX7_use 76 = .ok (.getfield 44, 3) := by decide +kernel
theorem dX7_use_79 : decode cX7_use 79 = .ok (.bipush 8, 2) := by decide +kernel
theorem dX7_use_81 : decode cX7_use 81 = .ok (.iload_n 1, 1) := by decide +kernel
theorem dX7_use_82 : decode cX7_use 82 = .ok (.imul, 1) := by decide +kernel
theorem dX7_use_83 : decode cX7_use 83 = .ok (.iload_n 2, 1) := by decide +kernel
theorem dX7_use_84 : decode cX7_use 84 = .ok (.iadd, 1) := by decide +kernel
theorem dX7_use_85 : decode cX7_use 85 = .ok (.iconst 1, 1) := by decide +kernel
theorem dX7_use_86 : decode cX7_use 86 = .ok (.bastore, 1) := by decide +kernel
theorem dX7_use_87 : decode cX7_use 87 = .ok (.iload 4, 2) := by decide +kernel
theorem dX7_use_89 : decode cX7_use 89 = .ok (.ifCond .ne 7, 3) := by decide +kernel
theorem dX7_use_92 : decode cX7_use 92 = .ok (.iconst 1, 1) := by decide +kernel
theorem dX7_use_93 : decode cX7_use 93 = .ok (.goto 4, 3) := by decide +kernel
theorem dX7_use_96 : decode cX7_use 96 = .ok (.iconst 0, 1) := by decide +kernel
theorem dX7_use_97 : decode cX7_use 97 = .ok (.ireturn, 1) := by decide +kernel
theorem dX7_change_0 : decode cX7_change 0 = .ok (.aload_n 0, 1) := by decide +kernel
theorem dX7_change_1 : decode cX7_change 1 = .ok (.iload_n 1, 1) := by decide +kernel
theorem dX7_change_2 : decode cX7_change 2 = .ok (.invokestatic 123, 3) := by decide +kernel
theorem dX7_change_5 : decode cX7_change 5 = .ok (.ifCond .eq 7, 3) := by decide +kernel
theorem dX7_change_8 : decode cX7_change 8 = .ok (.iconst 0, 1) := by decide +kernel
theorem dX7_change_9 : decode cX7_change 9 = .ok (.goto 4, 3) := by decide +kernel
theorem dX7_change_12 : decode cX7_change 12 = .ok (.iconst 1, 1) := by decide +kernel
theorem dX7_change_13 : decode cX7_change 13 = .ok (.invokevirtual 103, 3) := by decide +kernel
theorem dX7_change_16 : decode cX7_change 16 = .ok (.ifCond .ne 5, 3) := by decide +kernel
theorem dX7_change_19 : decode cX7_change 19 = .ok (.iconst 0, 1) := by decide +kernel
theorem dX7_change_20 : decode cX7_change 20 = .ok (.ireturn, 1) := by decide +kernel
theorem dX7_change_21 : decode cX7_change 21 = .ok (.aload_n 0, 1) := by decide +kernel
theorem dX7_change_22 : decode cX7_change 22 = .ok (.getfield 53, 3) := by decide +kernel
theorem dX7_change_25 : decode cX7_change 25 = .ok (.iload_n 1, 1) := by decide +kernel
theorem dX7_change_26 : decode cX7_change 26 = .ok (.iaload, 1) := by decide +kernel
theorem dX7_change_27 : decode cX7_change 27 = .ok (.istore_n 3, 1) := by decide +kernel
theorem dX7_change_28 : decode cX7_change 28 = .ok (.aload_n 0, 1) := by decide +kernel
theorem dX7_change_29 : decode cX7_change 29 = .ok (.getfield 53, 3) := by decide +kernel
theorem dX7_change_32 : decode cX7_change 32 = .ok (.iload_n 1, 1) := by decide +kernel
theorem dX7_change_33 : decode cX7_change 33 = .ok (.iload_n 2, 1) := by decide +kernel
theorem dX7_change_34 : decode cX7_change 34 = .ok (.iastore, 1) := by decide +kernel
theorem dX7_change_35 : decode cX7_change 35 = .ok (.iload_n 3, 1) := by decide +kernel
theorem dX7_change_36 : decode cX7_change 36 = .ok (.ireturn, 1) := by decide +kernel
theorem dX7_forbid_0 : decode cX7_forbid 0 = .ok (.aload_n 0, 1) := by decide +kernel
theorem dX7_forbid_1 : decode cX7_forbid 1 = .ok (.aload_n 0, 1) := by decide +kernel
theorem dX7_forbid_2 : decode cX7_forbid 2 = .ok (.iload_n 1, 1) := by decide +kernel
theorem dX7_forbid_3 : decode cX7_forbid 3 = .ok (.invokevirtual 117, 3) := by decide +kernel
theorem dX7_forbid_6 : decode cX7_forbid 6 = .ok (.ifCond .ne 7, 3) := by decide +kernel
theorem dX7_forbid_9 : decode cX7_forbid 9 = .ok (.iconst 1, 1) := by decide +kernel
theorem dX7_forbid_10 : decode cX7_forbid 10 = .ok (.goto 18, 3) := by decide +kernel
theorem dX7_forbid_13 : decode cX7_forbid 13 = .ok (.aload_n 0, 1) := by decide +kernel
theorem dX7_forbid_14 : decode cX7_forbid 14 = .ok (.getfield 22, 3) := by decide +kernel
theorem dX7_forbid_17 : decode cX7_forbid 17 = .ok (.iload_n 1, 1) := by decide +kernel
theorem dX7_forbid_18 : decode cX7_forbid 18 = .ok (.iaload, 1) := by decide +kernel
theorem dX7_forbid_19 : decode cX7_forbid 19 = .ok (.iconst 3, 1) := by decide +kernel
theorem dX7_forbid_20 : decode cX7_forbid 20 = .ok (.if_icmp .ne 7, 3) := by decide +kernel
theorem dX7_forbid_23 : decode cX7_forbid 23 = .ok (.iconst 2, 1) := by decide +kernel
theorem dX7_forbid_24 : decode cX7_forbid 24 = .ok (.goto 4, 3) := by decide +kernel
theorem dX7_forbid_27 : decode cX7_forbid 27 = .ok (.iconst 0, 1) := by decide +kernel
theorem dX7_forbid_28 : decode cX7_forbid 28 = .ok (.invokevirtual 103, 3) := by decide +kernel
theorem dX7_forbid_31 : decode cX7_forbid 31 = .ok (.ifCond .ne 5, 3) := by decide +kernel
theorem dX7_forbid_34 : decode cX7_forbid 34 = .ok (.iconst 0, 1) := by decide +kernel
theorem dX7_forbid_35 : decode cX7_forbid 35 = .ok (.ireturn, 1) := by decide +kernel
theorem dX7_forbid_36 : decode cX7_forbid 36 = .ok (.aload_n 0, 1) := by decide +kernel
theorem dX7_forbid_37 : decode cX7_forbid 37 = .ok (.getfield 34, 3) := by decide +kernel
theorem dX7_forbid_40 : decode cX7_forbid 40 = .ok (.iload_n 1, 1) := by decide +kernel
theorem dX7_forbid_41 : decode cX7_forbid 41 = .ok (.baload, 1) := by decide +kernel
theorem dX7_forbid_42 : decode cX7_forbid 42 = .ok (.istore_n 3, 1) := by decide +kernel
theorem dX7_forbid_43 : decode cX7_forbid 43 = .ok (.aload_n 0, 1) := by decide +kernel
theorem dX7_forbid_44 : decode cX7_forbid 44 = .ok (.getfield 34, 3) := by decide +kernel
theorem dX7_forbid_47 : decode cX7_forbid 47 = .ok (.iload_n 1, 1) := by decide +kernel
theorem dX7_forbid_48 : decode cX7_forbid 48 = .ok (.iload_n 2, 1) := by decide +kernel
theorem dX7_forbid_49 : decode cX7_forbid 49 = .ok (.bastore, 1) := by decide +kernel
theorem dX7_forbid_50 : decode cX7_forbid 50 = .ok (.iload_n 3, 1) := by decide +kernel
theorem dX7_forbid_51 : decode cX7_forbid 51 = .ok (.ireturn, 1) := by decide +kernel
theorem dX7_volume_0 : decode cX7_volume 0 = .ok (.iload_n 1, 1) := by decide +kernel
theorem dX7_volume_1 : decode cX7_volume 1 = .ok (.bipush 97, 2) := by decide +kernel
theorem dX7_volume_3 : decode cX7_volume 3 = .ok (.if_icmp .lt 50, 3) := by decide +kernel
theorem dX7_volume_6 : decode cX7_volume 6 = .ok (.iload_n 1, 1) := by decide +kernel
theorem dX7_volume_7 : decode cX7_volume 7 = .ok (.bipush 122, 2) := by decide +kernel
theorem dX7_volume_9 : decode cX7_volume 9 = .ok (.if_icmp .gt 44, 3) := by decide +kernel
theorem dX7_volume_12 : decode cX7_volume 12 = .ok (.aload_n 0, 1) := by decide +kernel
theorem dX7_volume_13 : decode cX7_volume 13 = .ok (.getfield 96, 3) := by decide +kernel
theorem dX7_volume_16 : decode cX7_volume 16 = .ok (.ifCond .eq 23, 3) := by decide +kernel
theorem dX7_volume_19 : decode cX7_volume 19 = .ok (.iload_n 1, 1) := by decide +kernel
theorem dX7_volume_20 : decode cX7_volume 20 = .ok (.bipush 97, 2) := by decide +kernel
theorem dX7_volume_22 : decode cX7_volume 22 = .ok (.isub, 1) := by decide +kernel
theorem dX7_volume_23 : decode cX7_volume 23 = .ok (.iconst 1, 1) := by decide +kernel
theorem dX7_volume_24 : decode cX7_volume 24 = .ok (.iadd, 1) := by decide +kernel
theorem dX7_volume_25 : decode cX7_volume 25 = .ok (.aload_n 0, 1) := by decide +kernel
theorem dX7_volume_26 : decode cX7_volume 26 = .ok (.getfield 56, 3) := by decide +kernel
theorem dX7_volume_29 : decode cX7_volume 29 = .ok (.aload_n 0, 1) := by decide +kernel
theorem dX7_volume_30 : decode cX7_volume 30 = .ok (.getfield 96, 3) := by decide +kernel
theorem dX7_volume_33 : decode cX7_volume 33 = .ok (.iconst 1, 1) := by decide +kernel
theorem dX7_volume_34 : decode cX7_volume 34 = .ok (.isub, 1) := by decide +kernel
theorem dX7_volume_35 : decode cX7_volume 35 = .ok (.iaload, 1) := by decide +kernel
theorem dX7_volume_36 : decode cX7_volume 36 = .ok (.if_icmp .le 17, 3) := by decide +kernel
theorem dX7_volume_39 : decode cX7_volume 39 = .ok (.iload_n 2, 1) := by decide +kernel
theorem dX7_volume_40 : decode cX7_volume 40 = .ok (.iconst 1, 1) := by decide +kernel
theorem dX7_volume_41 : decode cX7_volume 41 = .ok (.bipush 99, 2) := by decide +kernel
theorem dX7_volume_43 : decode cX7_volume 43 = .ok (.invokestatic 81, 3) := by decide +kernel
theorem dX7_volume_46 : decode cX7_volume 46 = .ok (.ifCond .eq 7, 3) := by decide +kernel
theorem dX7_volume_49 : decode cX7_volume 49 = .ok (.iconst 1, 1) := by decide +kernel
theorem dX7_volume_50 : decode cX7_volume 50 = .ok (.goto 4, 3) := by decide +kernel
theorem dX7_volume_53 : decode cX7_volume 53 = .ok (.iconst 0, 1) := by decide +kernel
theorem dX7_volume_54 : decode cX7_volume 54 = .ok (.istore_n 3, 1) := by decide +kernel
theorem dX7_volume_55 : decode cX7_volume 55 = .ok (.aload_n 0, 1) := by decide +kernel
theorem dX7_volume_56 : decode cX7_volume 56 = .ok (.iload_n 3, 1) := by decide +kernel
theorem dX7_volume_57 : decode cX7_volume 57 = .ok (.ifCond .ne 7, 3) := by decide +kernel
theorem dX7_volume_60 : decode cX7_volume 60 = .ok (.iconst 1, 1) := by decide +kernel
theorem dX7_volume_61 : decode cX7_volume 61 = .ok (.goto 16, 3) := by decide +kernel
theorem dX7_volume_64 : decode cX7_volume 64 = .ok (.aload_n 0, 1) := by decide +kernel
theorem dX7_volume_65 : decode cX7_volume 65 = .ok (.getfield 96, 3) := by decide +kernel
theorem dX7_volume_68 : decode cX7_volume 68 = .ok (.iconst 4, 1) := by decide +kernel
theorem dX7_volume_69 : decode cX7_volume 69 = .ok (.if_icmp .ne 7, 3) := by decide +kernel
theorem dX7_volume_72 : decode cX7_volume 72 = .ok (.iconst 2, 1) := by decide +kernel
theorem dX7_volume_73 : decode cX7_volume 73 = .ok (.goto 4, 3) := by decide +kernel
theorem dX7_volume_76 : decode cX7_volume 76 = .ok (.iconst 0, 1) := by decide +kernel
theorem dX7_volume_77 : decode cX7_volume 77 = .ok (.invokevirtual 103, 3) := by decide +kernel
theorem dX7_volume_80 : decode cX7_volume 80 = .ok (.ifCond .ne 5, 3) := by decide +kernel
theorem dX7_volume_83 : decode cX7_volume 83 = .ok (.iconst 0, 1) := by decide +kernel
theorem dX7_volume_84 : decode cX7_volume 84 = .ok (.ireturn, 1) := by decide +kernel
theorem dX7_volume_85 : decode cX7_volume 85 = .ok (.aload_n 0, 1) := by decide +kernel
theorem dX7_volume_86 : decode cX7_volume 86 = .ok (.getfield 56, 3) := by decide +kernel
theorem dX7_volume_89 : decode cX7_volume 89 = .ok (.aload_n 0, 1) := by decide +kernel
theorem dX7_volume_90 : decode cX7_volume 90 = .ok (.getfield 96, 3) := by decide +kernel
theorem dX7_volume_93 : decode cX7_volume 93 = .ok (.iload_n 1, 1) := by decide +kernel
theorem dX7_volume_94 : decode cX7_volume 94 = .ok (.bipush 97, 2) := by decide +kernel
theorem dX7_volume_96 : decode cX7_volume 96 = .ok (.isub, 1) := by decide +kernel
theorem dX7_volume_97 : decode cX7_volume 97 = .ok (.iconst 1, 1) := by decide +kernel
theorem dX7_volume_98 : decode cX7_volume 98 = .ok (.iadd, 1) := by decide +kernel
theorem dX7_volume_99 : decode cX7_volume 99 = .ok (.iastore, 1) := by decide +kernel
theorem dX7_volume_100 : decode cX7_volume 100 = .ok (.aload_n 0, 1) := by decide +kernel
theorem dX7_volume_101 : decode cX7_volume 101 = .ok (.getfield 59, 3) := by decide +kernel
theorem dX7_volume_104 : decode cX7_volume 104 = .ok (.aload_n 0, 1) := by decide +kernel
theorem dX7_volume_105 : decode cX7_volume 105 = .ok (.getfield 96, 3) := by decide +kernel
theorem dX7_volume_108 : decode cX7_volume 108 = .ok (.iload_n 2, 1) := by decide +kernel
theorem dX7_volume_109 : decode cX7_volume 109 = .ok (.iastore, 1) := by decide +kernel
theorem dX7_volume_110 : decode cX7_volume 110 = .ok (.aload_n 0, 1) := by decide +kernel
theorem dX7_volume_111 : decode cX7_volume 111 = .ok (.dup, 1) := by decide +kernel
theorem dX7_volume_112 : decode cX7_volume 112 = .ok (.getfield 96, 3) := by decide +kernel
theorem dX7_volume_115 : decode cX7_volume 115 = .ok (.iconst 1, 1) := by decide +kernel
theorem dX7_volume_116 : decode cX7_volume 116 = .ok (.iadd, 1) := by decide +kernel
theorem dX7_volume_117 : decode cX7_volume 117 = .ok (.putfield 96, 3) := by decide +kernel
theorem dX7_volume_120 : decode cX7_volume 120 = .ok (.aload_n 0, 1) := by decide +kernel
theorem dX7_volume_121 : decode cX7_volume 121 = .ok (.getfield 96, 3) := by decide +kernel
theorem dX7_volume_124 : decode cX7_volume 124 = .ok (.iconst 1, 1) := by decide +kernel
theorem dX7_volume_125 : decode cX7_volume 125 = .ok (.isub, 1) := by decide +kernel
theorem dX7_volume_126 : decode cX7_volume 126 = .ok (.ireturn, 1) := by decide +kernel
theorem dX7_isAhead_0 : decode cX7_isAhead 0 = .ok (.aload_n 0, 1) := by decide +kernel
theorem dX7_isAhead_1 : decode cX7_isAhead 1 = .ok (.iload_n 1, 1) := by decide +kernel
theorem dX7_isAhead_2 : decode cX7_isAhead 2 = .ok (.iload_n 2, 1) := by decide +kernel
theorem dX7_isAhead_3 : decode cX7_isAhead 3 = .ok (.invokevirtual 126, 3) := by decide +kernel
theorem dX7_isAhead_6 : decode cX7_isAhead 6 = .ok (.istore_n 3, 1) := by decide +kernel
theorem dX7_isAhead_7 : decode cX7_isAhead 7 = .ok (.iload_n 3, 1) := by decide +kernel
theorem dX7_isAhead_8 : decode cX7_isAhead 8 = .ok (.ifCond .lt 12, 3) := by decide +kernel
theorem dX7_isAhead_11 : decode cX7_isAhead 11 = .ok (.iload_n 3, 1) := by decide +kernel
theorem dX7_isAhead_12 : decode cX7_isAhead 12 = .ok (.ifCond .ne 12, 3) := by decide +kernel
theorem dX7_isAhead_15 : decode cX7_isAhead 15 = .ok (.iload_n 1, 1) := by decide +kernel
theorem dX7_isAhead_16 : decode cX7_isAhead 16 = .ok (.iload_n 2, 1) := by decide +kernel
theorem dX7_isAhead_17 : decode cX7_isAhead 17 = .ok (.if_icmp .ge 7, 3) := by decide +kernel
theorem dX7_isAhead_20 : decode cX7_isAhead 20 = .ok (.iconst 1, 1) := by decide +kernel
theorem dX7_isAhead_21 : decode cX7_isAhead 21 = .ok (.goto 4, 3) := by decide +kernel
theorem dX7_isAhead_24 : decode cX7_isAhead 24 = .ok (.iconst 0, 1) := by decide +kernel
theorem dX7_isAhead_25 : decode cX7_isAhead 25 = .ok (.ireturn, 1) := by decide +kernel
theorem dX7_columns_0 : decode cX7_columns 0 = .ok (.aload_n 0, 1) := by decide +kernel
theorem dX7_columns_1 : decode cX7_columns 1 = .ok (.iload_n 1, 1) := by decide +kernel
theorem dX7_columns_2 : decode cX7_columns 2 = .ok (.invokevirtual 129, 3) := by decide +kernel
theorem dX7_columns_5 : decode cX7_columns 5 = .ok (.istore_n 2, 1) := by decide +kernel
theorem dX7_columns_6 : decode cX7_columns 6 = .ok (.iconst 0, 1) := by decide +kernel
theorem dX7_columns_7 : decode cX7_columns 7 = .ok (.istore_n 3, 1) := by decide +kernel
theorem dX7_columns_8 : decode cX7_columns 8 = .ok (.iconst 0, 1) := by decide +kernel
theorem dX7_columns_9 : decode cX7_columns 9 = .ok (.istore 4, 2) := by decide +kernel
theorem dX7_columns_11 : decode cX7_columns 11 = .ok (.iload 4, 2) := by decide +kernel
theorem dX7_columns_13 : decode cX7_columns 13 = .ok (.aload_n 0, 1) := by decide +kernel
theorem dX7_columns_14 : decode cX7_columns 14 = .ok (.getfield 78, 3) := by decide +kernel
theorem dX7_columns_17 : decode cX7_columns 17 = .ok (.if_icmp .ge 38, 3) := by decide +kernel
theorem dX7_columns_20 : decode cX7_columns 20 = .ok (.iload_n 2, 1) := by decide +kernel
theorem dX7_columns_21 : decode cX7_columns 21 = .ok (.iconst (-1), 1) := by decide +kernel
theorem dX7_columns_22 : decode cX7_columns 22 = .ok (.if_icmp .eq 33, 3) := by decide +kernel
theorem dX7_columns_25 : decode cX7_columns 25 = .ok (.iload_n 3, 1) := by decide +kernel
theorem dX7_columns_26 : decode cX7_columns 26 = .ok (.aload_n 0, 1) := by decide +kernel
theorem dX7_columns_27 : decode cX7_columns 27 = .ok (.iload 4, 2) := by decide +kernel
theorem dX7_columns_29 : decode cX7_columns 29 = .ok (.invokevirtual 129, 3) := by decide +kernel
theorem dX7_columns_32 : decode cX7_columns 32 = .ok (.iload_n 2, 1) := by decide +kernel
theorem dX7_columns_33 : decode cX7_columns 33 = .ok (.if_icmp .ne 13, 3) := by decide +kernel
theorem dX7_columns_36 : decode cX7_columns 36 = .ok (.aload_n 0, 1) := by decide +kernel
theorem dX7_columns_37 : decode cX7_columns 37 = .ok (.getfield 19, 3) := by decide +kernel
theorem dX7_columns_40 : decode cX7_columns 40 = .ok (.iload 4, 2) := by decide +kernel
theorem dX7_columns_42 : decode cX7_columns 42 = .ok (.iaload, 1) := by decide +kernel
theorem dX7_columns_43 : decode cX7_columns 43 = .ok (.goto 4, 3) := by decide +kernel
theorem dX7_columns_46 : decode cX7_columns 46 = .ok (.iconst 0, 1) := by decide +kernel
theorem dX7_columns_47 : decode cX7_columns 47 = .ok (.iadd, 1) := by decide +kernel
theorem dX7_columns_48 : decode cX7_columns 48 = .ok (.istore_n 3, 1) := by decide +kernel
theorem dX7_columns_49 : decode cX7_columns 49 = .ok (.iinc 4 1, 3) := by decide +kernel
theorem dX7_columns_52 : decode cX7_columns 52 = .ok (.goto (-41), 3) := by decide +kernel
theorem dX7_columns_55 : decode cX7_columns 55 = .ok (.iload_n 3, 1) := by decide +kernel
theorem dX7_columns_56 : decode cX7_columns 56 = .ok (.ifCond .ne 5, 3) := by decide +kernel
theorem dX7_columns_59 : decode cX7_columns 59 = .ok (.iconst 0, 1) := by decide +kernel
theorem dX7_columns_60 : decode cX7_columns 60 = .ok (.ireturn, 1) := by decide +kernel
theorem dX7_columns_61 : decode cX7_columns 61 = .ok (.aload_n 0, 1) := by decide +kernel
theorem dX7_columns_62 : decode cX7_columns 62 = .ok (.getfield 59, 3) := by decide +kernel
theorem dX7_columns_65 : decode cX7_columns 65 = .ok (.iload_n 2, 1) := by decide +kernel
theorem dX7_columns_66 : decode cX7_columns 66 = .ok (.iaload, 1) := by decide +kernel
theorem dX7_columns_67 : decode cX7_columns 67 = .ok (.istore 4, 2) := by decide +kernel
theorem dX7_columns_69 : decode cX7_columns 69 = .ok (.iconst 0, 1) := by decide +kernel
theorem dX7_columns_70 : decode cX7_columns 70 = .ok (.istore 5, 2) := by decide +kernel
theorem dX7_columns_72 : decode cX7_columns 72 = .ok (.iload 5, 2) := by decide +kernel
theorem dX7_columns_74 : decode cX7_columns 74 = .ok (.aload_n 0, 1) := by decide +kernel
theorem dX7_columns_75 : decode cX7_columns 75 = .ok (.getfield 78, 3) := by decide +kernel
theorem dX7_columns_78 : decode cX7_columns 78 = .ok (.if_icmp .ge 44, 3) := by decide +kernel
theorem dX7_columns_81 : decode cX7_columns 81 = .ok (.iload 4, 2) := by decide +kernel
theorem dX7_columns_83 : decode cX7_columns 83 = .ok (.aload_n 0, 1) := by decide +kernel
theorem dX7_columns_84 : decode cX7_columns 84 = .ok (.iload 5, 2) := by decide +kernel
theorem dX7_columns_86 : decode cX7_columns 86 = .ok (.invokevirtual 129, 3) := by decide +kernel
theorem dX7_columns_89 : decode cX7_columns 89 = .ok (.iload_n 2, 1) := by decide +kernel
theorem dX7_columns_90 : decode cX7_columns 90 = .ok (.if_icmp .ne 22, 3) := by decide +kernel
theorem dX7_columns_93 : decode cX7_columns 93 = .ok (.aload_n 0, 1) := by decide +kernel
theorem dX7_columns_94 : decode cX7_columns 94 = .ok (.getfield 59, 3) := by decide +kernel
theorem dX7_columns_97 : decode cX7_columns 97 = .ok (.iload_n 2, 1) := by decide +kernel
theorem dX7_columns_98 : decode cX7_columns 98 = .ok (.iaload, 1) := by decide +kernel
theorem dX7_columns_99 : decode cX7_columns 99 = .ok (.aload_n 0, 1) := by decide +kernel
theorem dX7_columns_100 : decode cX7_columns 100 = .ok (.getfield 19, 3) := by decide +kernel
theorem dX7_columns_103 : decode cX7_columns 103 = .ok (.iload 5, 2) := by decide +kernel
theorem dX7_columns_105 : decode cX7_columns 105 = .ok (.iaload, 1) := by decide +kernel
theorem dX7_columns_106 : decode cX7_columns 106 = .ok (.imul, 1) := by decide +kernel
theorem dX7_columns_107 : decode cX7_columns 107 = .ok (.iload_n 3, 1) := by decide +kernel
theorem dX7_columns_108 : decode cX7_columns 108 = .ok (.idiv, 1) := by decide +kernel
theorem dX7_columns_109 : decode cX7_columns 109 = .ok (.goto 4, 3) := by decide +kernel
theorem dX7_columns_112 : decode cX7_columns 112 = .ok (.iconst 0, 1) := by decide +kernel
theorem dX7_columns_113 : decode cX7_columns 113 = .ok (.isub, 1) := by decide +kernel
theorem dX7_columns_114 : decode cX7_columns 114 = .ok (.istore 4, 2) := by decide +kernel
theorem dX7_columns_116 : decode cX7_columns 116 = .ok (.iinc 5 1, 3) := by decide +kernel
theorem dX7_columns_119 : decode cX7_columns 119 = .ok (.goto (-47), 3) := by decide +kernel
theorem dX7_columns_122 : decode cX7_columns 122 = .ok (.aload_n 0, 1) := by decide +kernel
theorem dX7_columns_123 : decode cX7_columns 123 = .ok (.getfield 59, 3) := by decide +kernel
theorem dX7_columns_126 : decode cX7_columns 126 = .ok (.iload_n 2, 1) := by decide +kernel
theorem dX7_columns_127 : decode cX7_columns 127 = .ok (.iaload, 1) := by decide +kernel
theorem dX7_columns_128 : decode cX7_columns 128 = .ok (.aload_n 0, 1) := by decide +kernel
theorem dX7_columns_129 : decode cX7_columns 129 = .ok (.getfield 19, 3) := by decide +kernel
theorem dX7_columns_132 : decode cX7_columns 132 = .ok (.iload_n 1, 1) := by decide +kernel
theorem dX7_columns_133 : decode cX7_columns 133 = .ok (.iaload, 1) := by decide +kernel
theorem dX7_columns_134 : decode cX7_columns 134 = .ok (.imul, 1) := by decide +kernel
theorem dX7_columns_135 : decode cX7_columns 135 = .ok (.iload_n 3, 1) := by decide +kernel
theorem dX7_columns_136 : decode cX7_columns 136 = .ok (.irem, 1) := by decide +kernel
theorem dX7_columns_137 : decode cX7_columns 137 = .ok (.istore 5, 2) := by decide +kernel
theorem dX7_columns_139 : decode cX7_columns 139 = .ok (.iconst 0, 1) := by decide +kernel
theorem dX7_columns_140 : decode cX7_columns 140 = .ok (.istore 6, 2) := by decide +kernel
theorem dX7_columns_142 : decode cX7_columns 142 = .ok (.iconst 0, 1) := by decide +kernel
theorem dX7_columns_143 : decode cX7_columns 143 = .ok (.istore 7, 2) := by decide +kernel
theorem dX7_columns_145 : decode cX7_columns 145 = .ok (.iload 7, 2) := by decide +kernel
theorem dX7_columns_147 : decode cX7_columns 147 = .ok (.aload_n 0, 1) := by decide +kernel
theorem dX7_columns_148 : decode cX7_columns 148 = .ok (.getfield 78, 3) := by decide +kernel
theorem dX7_columns_151 : decode cX7_columns 151 = .ok (.if_icmp .ge 91, 3) := by decide +kernel
theorem dX7_columns_154 : decode cX7_columns 154 = .ok (.aload_n 0, 1) := by decide +kernel
theorem dX7_columns_155 : decode cX7_columns 155 = .ok (.iload 7, 2) := by decide +kernel
theorem dX7_columns_157 : decode cX7_columns 157 = .ok (.invokevirtual 129, 3) := by decide +kernel
theorem dX7_columns_160 : decode cX7_columns 160 = .ok (.iload_n 2, 1) := by decide +kernel
theorem dX7_columns_161 : decode cX7_columns 161 = .ok (.if_icmp .ne 32, 3) := by decide +kernel
theorem dX7_columns_164 : decode cX7_columns 164 = .ok (.aload_n 0, 1) := by decide +kernel
theorem dX7_columns_165 : decode cX7_columns 165 = .ok (.getfield 19, 3) := by decide +kernel
theorem dX7_columns_168 : decode cX7_columns 168 = .ok (.iload 7, 2) := by decide +kernel
theorem dX7_columns_170 : decode cX7_columns 170 = .ok (.iaload, 1) := by decide +kernel
theorem dX7_columns_171 : decode cX7_columns 171 = .ok (.ifCond .le 22, 3) := by decide +kernel
theorem dX7_columns_174 : decode cX7_columns 174 = .ok (.aload_n 0, 1) := by decide +kernel
theorem dX7_columns_175 : decode cX7_columns 175 = .ok (.getfield 59, 3) := by decide +kernel
theorem dX7_columns_178 : decode cX7_columns 178 = .ok (.iload_n 2, 1) := by decide +kernel
theorem dX7_columns_179 : decode cX7_columns 179 = .ok (.iaload, 1) := by decide +kernel
theorem dX7_columns_180 : decode cX7_columns 180 = .ok (.aload_n 0, 1) := by decide +kernel
theorem dX7_columns_181 : decode cX7_columns 181 = .ok (.getfield 19, 3) := by decide +kernel
theorem dX7_columns_184 : decode cX7_columns 184 = .ok (.iload 7, 2) := by decide +kernel
theorem dX7_columns_186 : decode cX7_columns 186 = .ok (.iaload, 1) := by decide +kernel
theorem dX7_columns_187 : decode cX7_columns 187 = .ok (.imul, 1) := by decide +kernel
theorem dX7_columns_188 : decode cX7_columns 188 = .ok (.iload_n 3, 1) := by decide +kernel
theorem dX7_columns_189 : decode cX7_columns 189 = .ok (.irem, 1) := by decide +kernel
theorem dX7_columns_190 : decode cX7_columns 190 = .ok (.goto 4, 3) := by decide +kernel
theorem dX7_columns_193 : decode cX7_columns 193 = .ok (.iconst (-1), 1) := by decide +kernel
theorem dX7_columns_194 : decode cX7_columns 194 = .ok (.istore 8, 2) := by decide +kernel
theorem dX7_columns_196 : decode cX7_columns 196 = .ok (.iload 6, 2) := by decide +kernel
theorem dX7_columns_198 : decode cX7_columns 198 = .ok (.iload 7, 2) := by decide +kernel
theorem dX7_columns_200 : decode cX7_columns 200 = .ok (.iload_n 1, 1) := by decide +kernel
theorem dX7_columns_201 : decode cX7_columns 201 = .ok (.if_icmp .eq 31, 3) := by decide +kernel
theorem dX7_columns_204 : decode cX7_columns 204 = .ok (.iload 8, 2) := by decide +kernel
theorem dX7_columns_206 : decode cX7_columns 206 = .ok (.iload 5, 2) := by decide +kernel
theorem dX7_columns_208 : decode cX7_columns 208 = .ok (.if_icmp .gt 20, 3) := by decide +kernel
theorem dX7_columns_211 : decode cX7_columns 211 = .ok (.iload 8, 2) := by decide +kernel
theorem dX7_columns_213 : decode cX7_columns 213 = .ok (.iload 5, 2) := by decide +kernel
theorem dX7_columns_215 : decode cX7_columns 215 = .ok (.if_icmp .ne 17, 3) := by decide +kernel
theorem dX7_columns_218 : decode cX7_columns 218 = .ok (.aload_n 0, 1) := by decide +kernel
theorem dX7_columns_219 : decode cX7_columns 219 = .ok (.iload 7, 2) := by decide +kernel
theorem dX7_columns_221 : decode cX7_columns 221 = .ok (.iload_n 1, 1) := by decide +kernel
theorem dX7_columns_222 : decode cX7_columns 222 = .ok (.invokevirtual 132, 3) := by decide +kernel
theorem dX7_columns_225 : decode cX7_columns 225 = .ok (.ifCond .eq 7, 3) := by decide +kernel
theorem dX7_columns_228 : decode cX7_columns 228 = .ok (.iconst 1, 1) := by decide +kernel
theorem dX7_columns_229 : decode cX7_columns 229 = .ok (.goto 4, 3) := by decide +kernel
theorem dX7_columns_232 : decode cX7_columns 232 = .ok (.iconst 0, 1) := by decide +kernel
theorem dX7_columns_233 : decode cX7_columns 233 = .ok (.iadd, 1) := by decide +kernel
theorem dX7_columns_234 : decode cX7_columns 234 = .ok (.istore 6, 2) := by decide +kernel
theorem dX7_columns_236 : decode cX7_columns 236 = .ok (.iinc 7 1, 3) := by decide +kernel
theorem dX7_columns_239 : decode cX7_columns 239 = .ok (.goto (-94), 3) := by decide +kernel
theorem dX7_columns_242 : decode cX7_columns 242 = .ok (.aload_n 0, 1) := by decide +kernel
theorem dX7_columns_243 : decode cX7_columns 243 = .ok (.getfield 59, 3) := by decide +kernel
theorem dX7_columns_246 : decode cX7_columns 246 = .ok (.iload_n 2, 1) := by decide +kernel
theorem dX7_columns_247 : decode cX7_columns 247 = .ok (.iaload, 1) := by decide +kernel
theorem dX7_columns_248 : decode cX7_columns 248 = .ok (.aload_n 0, 1) := by decide +kernel
theorem dX7_columns_249 : decode cX7_columns 249 = .ok (.getfield 19, 3) := by decide +kernel
theorem dX7_columns_252 : decode cX7_columns 252 = .ok (.iload_n 1, 1) := by decide +kernel
theorem dX7_columns_253 : decode cX7_columns 253 = .ok (.iaload, 1) := by decide +kernel
theorem dX7_columns_254 : decode cX7_columns 254 = .ok (.imul, 1) := by decide +kernel
theorem dX7_columns_255 : decode cX7_columns 255 = .ok (.iload_n 3, 1) := by decide +kernel
theorem dX7_columns_256 : decode cX7_columns 256 = .ok (.idiv, 1) := by decide +kernel
theorem dX7_columns_257 : decode cX7_columns 257 = .ok (.aload_n 0, 1) := by decide +kernel
theorem dX7_columns_258 : decode cX7_columns 258 = .ok (.getfield 19, 3) := by decide +kernel
theorem dX7_columns_261 : decode cX7_columns 261 = .ok (.iload_n 1, 1) := by decide +kernel
theorem dX7_columns_262 : decode cX7_columns 262 = .ok (.iaload, 1) := by decide +kernel
theorem dX7_columns_263 : decode cX7_columns 263 = .ok (.ifCond .le 14, 3) := by decide +kernel
theorem dX7_columns_266 : decode cX7_columns 266 = .ok (.iload 6, 2) := by decide +kernel
theorem dX7_columns_268 : decode cX7_columns 268 = .ok (.iload 4, 2) := by decide +kernel
theorem dX7_columns_270 : decode cX7_columns 270 = .ok (.if_icmp .ge 7, 3) := by decide +kernel
theorem dX7_columns_273 : decode cX7_columns 273 = .ok (.iconst 1, 1) := by decide +kernel
theorem dX7_columns_274 : decode cX7_columns 274 = .ok (.goto 4, 3) := by decide +kernel
theorem dX7_columns_277 : decode cX7_columns 277 = .ok (.iconst 0, 1) := by decide +kernel
theorem dX7_columns_278 : decode cX7_columns 278 = .ok (.iadd, 1) := by decide +kernel
theorem dX7_columns_279 : decode cX7_columns 279 = .ok (.ireturn, 1) := by decide +kernel
theorem dX7_contributor_0 : decode cX7_contributor 0 = .ok (.aload_n 0, 1) := by decide +kernel
theorem dX7_contributor_1 : decode cX7_contributor 1 = .ok (.iload_n 1, 1) := by decide +kernel
theorem dX7_contributor_2 : decode cX7_contributor 2 = .ok (.iconst 1, 1) := by decide +kernel
theorem dX7_contributor_3 : decode cX7_contributor 3 = .ok (.bipush 9, 2) := by decide +kernel
theorem dX7_contributor_5 : decode cX7_contributor 5 = .ok (.invokestatic 81, 3) := by decide +kernel
theorem dX7_contributor_8 : decode cX7_contributor 8 = .ok (.ifCond .ne 7, 3) := by decide +kernel
theorem dX7_contributor_11 : decode cX7_contributor 11 = .ok (.iconst 1, 1) := by decide +kernel
theorem dX7_contributor_12 : decode cX7_contributor 12 = .ok (.goto 17, 3) := by decide +kernel
theorem dX7_contributor_15 : decode cX7_contributor 15 = .ok (.aload_n 0, 1) := by decide +kernel
theorem dX7_contributor_16 : decode cX7_contributor 16 = .ok (.getfield 85, 3) := by decide +kernel
theorem dX7_contributor_19 : decode cX7_contributor 19 = .ok (.bipush 6, 2) := by decide +kernel
theorem dX7_contributor_21 : decode cX7_contributor 21 = .ok (.if_icmp .ne 7, 3) := by decide +kernel
theorem dX7_contributor_24 : decode cX7_contributor 24 = .ok (.iconst 2, 1) := by decide +kernel
theorem dX7_contributor_25 : decode cX7_contributor 25 = .ok (.goto 4, 3) := by decide +kernel
theorem dX7_contributor_28 : decode cX7_contributor 28 = .ok (.iconst 0, 1) := by decide +kernel
theorem dX7_contributor_29 : decode cX7_contributor 29 = .ok (.invokevirtual 103, 3) := by decide +kernel
theorem dX7_contributor_32 : decode cX7_contributor 32 = .ok (.ifCond .ne 5, 3) := by decide +kernel
theorem dX7_contributor_35 : decode cX7_contributor 35 = .ok (.iconst 0, 1) := by decide +kernel
theorem dX7_contributor_36 : decode cX7_contributor 36 = .ok (.ireturn, 1) := by decide +kernel
theorem dX7_contributor_37 : decode cX7_contributor 37 = .ok (.aload_n 0, 1) := by decide +kernel
theorem dX7_contributor_38 : decode cX7_contributor 38 = .ok (.getfield 62, 3) := by decide +kernel
theorem dX7_contributor_41 : decode cX7_contributor 41 = .ok (.aload_n 0, 1) := by decide +kernel
theorem dX7_contributor_42 : decode cX7_contributor 42 = .ok (.getfield 85, 3) := by decide +kernel
theorem dX7_contributor_45 : decode cX7_contributor 45 = .ok (.iload_n 1, 1) := by decide +kernel
theorem dX7_contributor_46 : decode cX7_contributor 46 = .ok (.iastore, 1) := by decide +kernel
theorem dX7_contributor_47 : decode cX7_contributor 47 = .ok (.aload_n 0, 1) := by decide +kernel
theorem dX7_contributor_48 : decode cX7_contributor 48 = .ok (.dup, 1) := by decide +kernel
theorem dX7_contributor_49 : decode cX7_contributor 49 = .ok (.getfield 85, 3) := by decide +kernel
theorem dX7_contributor_52 : decode cX7_contributor 52 = .ok (.iconst 1, 1) := by decide +kernel
theorem dX7_contributor_53 : decode cX7_contributor 53 = .ok (.iadd, 1) := by decide +kernel
theorem dX7_contributor_54 : decode cX7_contributor 54 = .ok (.putfield 85, 3) := by decide +kernel
theorem dX7_contributor_57 : decode cX7_contributor 57 = .ok (.aload_n 0, 1) := by decide +kernel
theorem dX7_contributor_58 : decode cX7_contributor 58 = .ok (.getfield 85, 3) := by decide +kernel
theorem dX7_contributor_61 : decode cX7_contributor 61 = .ok (.iconst 1, 1) := by decide +kernel
theorem dX7_contributor_62 : decode cX7_contributor 62 = .ok (.isub, 1) := by decide +kernel
theorem dX7_contributor_63 : decode cX7_contributor 63 = .ok (.ireturn, 1) := by decide +kernel
theorem dX7_quarrel_0 : decode cX7_quarrel 0 = .ok (.aload_n 0, 1) := by decide +kernel
theorem dX7_quarrel_1 : decode cX7_quarrel 1 = .ok (.iload_n 1, 1) := by decide +kernel
theorem dX7_quarrel_2 : decode cX7_quarrel 2 = .ok (.invokevirtual 136, 3) := by decide +kernel
theorem dX7_quarrel_5 : decode cX7_quarrel 5 = .ok (.ifCond .eq 15, 3) := by decide +kernel
theorem dX7_quarrel_8 : decode cX7_quarrel 8 = .ok (.aload_n 0, 1) := by decide +kernel
theorem dX7_quarrel_9 : decode cX7_quarrel 9 = .ok (.iload_n 2, 1) := by decide +kernel
theorem dX7_quarrel_10 : decode cX7_quarrel 10 = .ok (.invokevirtual 136, 3) := by decide +kernel
theorem dX7_quarrel_13 : decode cX7_quarrel 13 = .ok (.ifCond .eq 7, 3) := by decide +kernel
theorem dX7_quarrel_16 : decode cX7_quarrel 16 = .ok (.iconst 1, 1) := by decide +kernel
theorem dX7_quarrel_17 : decode cX7_quarrel 17 = .ok (.goto 4, 3) := by decide +kernel
theorem dX7_quarrel_20 : decode cX7_quarrel 20 = .ok (.iconst 0, 1) := by decide +kernel
theorem dX7_quarrel_21 : decode cX7_quarrel 21 = .ok (.istore_n 3, 1) := by decide +kernel
theorem dX7_quarrel_22 : decode cX7_quarrel 22 = .ok (.aload_n 0, 1) := by decide +kernel
theorem dX7_quarrel_23 : decode cX7_quarrel 23 = .ok (.iload_n 3, 1) := by decide +kernel
theorem dX7_quarrel_24 : decode cX7_quarrel 24 = .ok (.ifCond .ne 7, 3) := by decide +kernel
theorem dX7_quarrel_27 : decode cX7_quarrel 27 = .ok (.iconst 1, 1) := by decide +kernel
theorem dX7_quarrel_28 : decode cX7_quarrel 28 = .ok (.goto 13, 3) := by decide +kernel
theorem dX7_quarrel_31 : decode cX7_quarrel 31 = .ok (.iload_n 1, 1) := by decide +kernel
theorem dX7_quarrel_32 : decode cX7_quarrel 32 = .ok (.iload_n 2, 1) := by decide +kernel
theorem dX7_quarrel_33 : decode cX7_quarrel 33 = .ok (.if_icmp .ne 7, 3) := by decide +kernel
theorem dX7_quarrel_36 : decode cX7_quarrel 36 = .ok (.iconst 2, 1) := by decide +kernel
theorem dX7_quarrel_37 : decode cX7_quarrel 37 = .ok (.goto 4, 3) := by decide +kernel
theorem dX7_quarrel_40 : decode cX7_quarrel 40 = .ok (.iconst 0, 1) := by decide +kernel
theorem dX7_quarrel_41 : decode cX7_quarrel 41 = .ok (.invokevirtual 103, 3) := by decide +kernel
theorem dX7_quarrel_44 : decode cX7_quarrel 44 = .ok (.ifCond .ne 5, 3) := by decide +kernel
theorem dX7_quarrel_47 : decode cX7_quarrel 47 = .ok (.iconst 0, 1) := by decide +kernel
theorem dX7_quarrel_48 : decode cX7_quarrel 48 = .ok (.ireturn, 1) := by decide +kernel
theorem dX7_quarrel_49 : decode cX7_quarrel 49 = .ok (.aload_n 0, 1) := by decide +kernel
theorem dX7_quarrel_50 : decode cX7_quarrel 50 = .ok (.getfield 68, 3) := by decide +kernel
theorem dX7_quarrel_53 : decode cX7_quarrel 53 = .ok (.bipush 6, 2) := by decide +kernel
theorem dX7_quarrel_55 : decode cX7_quarrel 55 = .ok (.iload_n 1, 1) := by decide +kernel
theorem dX7_quarrel_56 : decode cX7_quarrel 56 = .ok (.imul, 1) := by decide +kernel
theorem dX7_quarrel_57 : decode cX7_quarrel 57 = .ok (.iload_n 2, 1) := by decide +kernel
theorem dX7_quarrel_58 : decode cX7_quarrel 58 = .ok (.iadd, 1) := by decide +kernel
theorem dX7_quarrel_59 : decode cX7_quarrel 59 = .ok (.baload, 1) := by decide +kernel
theorem dX7_quarrel_60 : decode cX7_quarrel 60 = .ok (.istore 4, 2) := by decide +kernel
theorem dX7_quarrel_62 : decode cX7_quarrel 62 = .ok (.aload_n 0, 1) := by decide +kernel
theorem dX7_quarrel_63 : decode cX7_quarrel 63 = .ok (.getfield 68, 3) := by decide +kernel
theorem dX7_quarrel_66 : decode cX7_quarrel 66 = .ok (.bipush 6, 2) := by decide +kernel
theorem dX7_quarrel_68 : decode cX7_quarrel 68 = .ok (.iload_n 1, 1) := by decide +kernel
theorem dX7_quarrel_69 : decode cX7_quarrel 69 = .ok (.imul, 1) := by decide +kernel
theorem dX7_quarrel_70 : decode cX7_quarrel 70 = .ok (.iload_n 2, 1) := by decide +kernel
theorem dX7_quarrel_71 : decode cX7_quarrel 71 = .ok (.iadd, 1) := by decide +kernel
theorem dX7_quarrel_72 : decode cX7_quarrel 72 = .ok (.iconst 1, 1) := by decide +kernel
theorem dX7_quarrel_73 : decode cX7_quarrel 73 = .ok (.bastore, 1) := by decide +kernel
theorem dX7_quarrel_74 : decode cX7_quarrel 74 = .ok (.aload_n 0, 1) := by decide +kernel
theorem dX7_quarrel_75 : decode cX7_quarrel 75 = .ok (.getfield 68, 3) := by decide +kernel
theorem dX7_quarrel_78 : decode cX7_quarrel 78 = .ok (.bipush 6, 2) := by decide +kernel
theorem dX7_quarrel_80 : decode cX7_quarrel 80 = .ok (.iload_n 2, 1) := by decide +kernel
theorem dX7_quarrel_81 : decode cX7_quarrel 81 = .ok (.imul, 1) := by decide +kernel
theorem dX7_quarrel_82 : decode cX7_quarrel 82 = .ok (.iload_n 1, 1) := by decide +kernel
theorem dX7_quarrel_83 : decode cX7_quarrel 83 = .ok (.iadd, 1) := by decide +kernel
theorem dX7_quarrel_84 : decode cX7_quarrel 84 = .ok (.iconst 1, 1) := by decide +kernel
theorem dX7_quarrel_85 : decode cX7_quarrel 85 = .ok (.bastore, 1) := by decide +kernel
theorem dX7_quarrel_86 : decode cX7_quarrel 86 = .ok (.iload 4, 2) := by decide +kernel
theorem dX7_quarrel_88 : decode cX7_quarrel 88 = .ok (.ireturn, 1) := by decide +kernel
theorem dX7_refersTo_0 : decode cX7_refersTo 0 = .ok (.iconst 0, 1) := by decide +kernel
theorem dX7_refersTo_1 : decode cX7_refersTo 1 = .ok (.istore_n 3, 1) := by decide +kernel
theorem dX7_refersTo_2 : decode cX7_refersTo 2 = .ok (.iconst 0, 1) := by decide +kernel
theorem dX7_refersTo_3 : decode cX7_refersTo 3 = .ok (.istore 4, 2) := by decide +kernel
theorem dX7_refersTo_5 : decode cX7_refersTo 5 = .ok (.iload 4, 2) := by decide +kernel
theorem dX7_refersTo_7 : decode cX7_refersTo 7 = .ok (.aload_n 0, 1) := by decide +kernel
theorem dX7_refersTo_8 : decode cX7_refersTo 8 = .ok (.getfield 38, 3) := by decide +kernel
theorem dX7_refersTo_11 : decode cX7_refersTo 11 = .ok (.iload_n 1, 1) := by decide +kernel
theorem dX7_refersTo_12 : decode cX7_refersTo 12 = .ok (.iaload, 1) := by decide +kernel
theorem dX7_refersTo_13 : decode cX7_refersTo 13 = .ok (.if_icmp .ge 33, 3) := by decide +kernel
theorem dX7_refersTo_16 : decode cX7_refersTo 16 = .ok (.iload_n 3, 1) := by decide +kernel
theorem dX7_refersTo_17 : decode cX7_refersTo 17 = .ok (.ifCond .ne 17, 3) := by decide +kernel
theorem dX7_refersTo_20 : decode cX7_refersTo 20 = .ok (.aload_n 0, 1) := by decide +kernel
theorem dX7_refersTo_21 : decode cX7_refersTo 21 = .ok (.iload_n 1, 1) := by decide +kernel
theorem dX7_refersTo_22 : decode cX7_refersTo 22 = .ok (.iload 4, 2) := by decide +kernel
theorem dX7_refersTo_24 : decode cX7_refersTo 24 = .ok (.invokestatic 120, 3) := by decide +kernel
theorem dX7_refersTo_27 : decode cX7_refersTo 27 = .ok (.iload_n 2, 1) := by decide +kernel
theorem dX7_refersTo_28 : decode cX7_refersTo 28 = .ok (.invokevirtual 126, 3) := by decide +kernel
theorem dX7_refersTo_31 : decode cX7_refersTo 31 = .ok (.ifCond .ne 7, 3) := by decide +kernel
theorem dX7_refersTo_34 : decode cX7_refersTo 34 = .ok (.iconst 1, 1) := by decide +kernel
theorem dX7_refersTo_35 : decode cX7_refersTo 35 = .ok (.goto 4, 3) := by decide +kernel
theorem dX7_refersTo_38 : decode cX7_refersTo 38 = .ok (.iconst 0, 1) := by decide +kernel
theorem dX7_refersTo_39 : decode cX7_refersTo 39 = .ok (.istore_n 3, 1) := by decide +kernel
theorem dX7_refersTo_40 : decode cX7_refersTo 40 = .ok (.iinc 4 1, 3) := by decide +kernel
theorem dX7_refersTo_43 : decode cX7_refersTo 43 = .ok (.goto (-38), 3) := by decide +kernel
theorem dX7_refersTo_46 : decode cX7_refersTo 46 = .ok (.iload_n 3, 1) := by decide +kernel
theorem dX7_refersTo_47 : decode cX7_refersTo 47 = .ok (.ireturn, 1) := by decide +kernel
theorem dX7_isBarred_0 : decode cX7_isBarred 0 = .ok (.iconst 0, 1) := by decide +kernel
theorem dX7_isBarred_1 : decode cX7_isBarred 1 = .ok (.istore_n 3, 1) := by decide +kernel
theorem dX7_isBarred_2 : decode cX7_isBarred 2 = .ok (.iconst 0, 1) := by decide +kernel
theorem dX7_isBarred_3 : decode cX7_isBarred 3 = .ok (.istore 4, 2) := by decide +kernel
theorem dX7_isBarred_5 : decode cX7_isBarred 5 = .ok (.iload 4, 2) := by decide +kernel
theorem dX7_isBarred_7 : decode cX7_isBarred 7 = .ok (.aload_n 0, 1) := by decide +kernel
theorem dX7_isBarred_8 : decode cX7_isBarred 8 = .ok (.getfield 78, 3) := by decide +kernel
theorem dX7_isBarred_11 : decode cX7_isBarred 11 = .ok (.if_icmp .ge 82, 3) := by decide +kernel
theorem dX7_isBarred_14 : decode cX7_isBarred 14 = .ok (.aload_n 0, 1) := by decide +kernel
theorem dX7_isBarred_15 : decode cX7_isBarred 15 = .ok (.getfield 25, 3) := by decide +kernel
theorem dX7_isBarred_18 : decode cX7_isBarred 18 = .ok (.iload 4, 2) := by decide +kernel
theorem dX7_isBarred_20 : decode cX7_isBarred 20 = .ok (.iaload, 1) := by decide +kernel
theorem dX7_isBarred_21 : decode cX7_isBarred 21 = .ok (.iconst (-1), 1) := by decide +kernel
theorem dX7_isBarred_22 : decode cX7_isBarred 22 = .ok (.if_icmp .eq 27, 3) := by decide +kernel
