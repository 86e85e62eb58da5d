theorem dX12_product_55 : decode cX12_product 55 = .ok (.ifCond .ne 5, 3) := by decide +kernel
theorem dX12_product_58 : decode cX12_product 58 = .ok (.iconst 0, 1) := by decide +kernel
theorem dX12_product_59 : decode cX12_product 59 = .ok (.ireturn, 1) := by decide +kernel
theorem dX12_product_60 : decode cX12_product 60 = .ok (.aload_n 0, 1) := by decide +kernel
theorem dX12_product_61 : decode cX12_product 61 = .ok (.iconst 3, 1) := by decide +kernel
theorem dX12_product_62 : decode cX12_product 62 = .ok (.iload_n 1, 1) := by decide +kernel
theorem dX12_product_63 : decode cX12_product 63 = .ok (.invokevirtual 88, 3) := by decide +kernel
theorem dX12_product_66 : decode cX12_product 66 = .ok (.goto (-57), 3) := by decide +kernel
theorem dX12_product_69 : decode cX12_product 69 = .ok (.iconst 1, 1) := by decide +kernel
theorem dX12_product_70 : decode cX12_product 70 = .ok (.ireturn, 1) := by decide +kernel
theorem dX12_one_0 : decode cX12_one 0 = .ok (.aload_n 0, 1) := by decide +kernel
theorem dX12_one_1 : decode cX12_one 1 = .ok (.invokevirtual 84, 3) := by decide +kernel
theorem dX12_one_4 : decode cX12_one 4 = .ok (.istore_n 1, 1) := by decide +kernel
theorem dX12_one_5 : decode cX12_one 5 = .ok (.aload_n 0, 1) := by decide +kernel
theorem dX12_one_6 : decode cX12_one 6 = .ok (.iload_n 1, 1) := by decide +kernel
theorem dX12_one_7 : decode cX12_one 7 = .ok (.invokevirtual 107, 3) := by decide +kernel
theorem dX12_one_10 : decode cX12_one 10 = .ok (.ifCond .eq 21, 3) := by decide +kernel
theorem dX12_one_13 : decode cX12_one 13 = .ok (.aload_n 0, 1) := by decide +kernel
theorem dX12_one_14 : decode cX12_one 14 = .ok (.dup, 1) := by decide +kernel
theorem dX12_one_15 : decode cX12_one 15 = .ok (.getfield 70, 3) := by decide +kernel
theorem dX12_one_18 : decode cX12_one 18 = .ok (.iconst 1, 1) := by decide +kernel
theorem dX12_one_19 : decode cX12_one 19 = .ok (.iadd, 1) := by decide +kernel
theorem dX12_one_20 : decode cX12_one 20 = .ok (.putfield 70, 3) := by decide +kernel
theorem dX12_one_23 : decode cX12_one 23 = .ok (.aload_n 0, 1) := by decide +kernel
theorem dX12_one_24 : decode cX12_one 24 = .ok (.iconst 1, 1) := by decide +kernel
theorem dX12_one_25 : decode cX12_one 25 = .ok (.iload_n 1, 1) := by decide +kernel
theorem dX12_one_26 : decode cX12_one 26 = .ok (.invokevirtual 88, 3) := by decide +kernel
theorem dX12_one_29 : decode cX12_one 29 = .ok (.iconst 1, 1) := by decide +kernel
theorem dX12_one_30 : decode cX12_one 30 = .ok (.ireturn, 1) := by decide +kernel
theorem dX12_one_31 : decode cX12_one 31 = .ok (.iload_n 1, 1) := by decide +kernel
theorem dX12_one_32 : decode cX12_one 32 = .ok (.bipush 48, 2) := by decide +kernel
theorem dX12_one_34 : decode cX12_one 34 = .ok (.bipush 57, 2) := by decide +kernel
theorem dX12_one_36 : decode cX12_one 36 = .ok (.invokestatic 56, 3) := by decide +kernel
theorem dX12_one_39 : decode cX12_one 39 = .ok (.ifCond .eq 63, 3) := by decide +kernel
theorem dX12_one_42 : decode cX12_one 42 = .ok (.iconst 0, 1) := by decide +kernel
theorem dX12_one_43 : decode cX12_one 43 = .ok (.istore_n 2, 1) := by decide +kernel
theorem dX12_one_44 : decode cX12_one 44 = .ok (.iconst 0, 1) := by decide +kernel
theorem dX12_one_45 : decode cX12_one 45 = .ok (.istore_n 3, 1) := by decide +kernel
theorem dX12_one_46 : decode cX12_one 46 = .ok (.iload_n 3, 1) := by decide +kernel
theorem dX12_one_47 : decode cX12_one 47 = .ok (.iconst 4, 1) := by decide +kernel
theorem dX12_one_48 : decode cX12_one 48 = .ok (.if_icmp .ge 46, 3) := by decide +kernel
theorem dX12_one_51 : decode cX12_one 51 = .ok (.aload_n 0, 1) := by decide +kernel
theorem dX12_one_52 : decode cX12_one 52 = .ok (.invokevirtual 84, 3) := by decide +kernel
theorem dX12_one_55 : decode cX12_one 55 = .ok (.bipush 48, 2) := by decide +kernel
theorem dX12_one_57 : decode cX12_one 57 = .ok (.bipush 57, 2) := by decide +kernel
theorem dX12_one_59 : decode cX12_one 59 = .ok (.invokestatic 56, 3) := by decide +kernel
theorem dX12_one_62 : decode cX12_one 62 = .ok (.ifCond .eq 32, 3) := by decide +kernel
theorem dX12_one_65 : decode cX12_one 65 = .ok (.bipush 10, 2) := by decide +kernel
theorem dX12_one_67 : decode cX12_one 67 = .ok (.iload_n 2, 1) := by decide +kernel
theorem dX12_one_68 : decode cX12_one 68 = .ok (.imul, 1) := by decide +kernel
theorem dX12_one_69 : decode cX12_one 69 = .ok (.aload_n 0, 1) := by decide +kernel
theorem dX12_one_70 : decode cX12_one 70 = .ok (.invokevirtual 84, 3) := by decide +kernel
theorem dX12_one_73 : decode cX12_one 73 = .ok (.iadd, 1) := by decide +kernel
theorem dX12_one_74 : decode cX12_one 74 = .ok (.bipush 48, 2) := by decide +kernel
theorem dX12_one_76 : decode cX12_one 76 = .ok (.isub, 1) := by decide +kernel
theorem dX12_one_77 : decode cX12_one 77 = .ok (.istore_n 2, 1) := by decide +kernel
theorem dX12_one_78 : decode cX12_one 78 = .ok (.aload_n 0, 1) := by decide +kernel
theorem dX12_one_79 : decode cX12_one 79 = .ok (.dup, 1) := by decide +kernel
theorem dX12_one_80 : decode cX12_one 80 = .ok (.getfield 70, 3) := by decide +kernel
theorem dX12_one_83 : decode cX12_one 83 = .ok (.iconst 1, 1) := by decide +kernel
theorem dX12_one_84 : decode cX12_one 84 = .ok (.iadd, 1) := by decide +kernel
theorem dX12_one_85 : decode cX12_one 85 = .ok (.putfield 70, 3) := by decide +kernel
theorem dX12_one_88 : decode cX12_one 88 = .ok (.iinc 3 1, 3) := by decide +kernel
theorem dX12_one_91 : decode cX12_one 91 = .ok (.goto (-45), 3) := by decide +kernel
theorem dX12_one_94 : decode cX12_one 94 = .ok (.aload_n 0, 1) := by decide +kernel
theorem dX12_one_95 : decode cX12_one 95 = .ok (.iconst 0, 1) := by decide +kernel
theorem dX12_one_96 : decode cX12_one 96 = .ok (.iload_n 2, 1) := by decide +kernel
theorem dX12_one_97 : decode cX12_one 97 = .ok (.invokevirtual 88, 3) := by decide +kernel
theorem dX12_one_100 : decode cX12_one 100 = .ok (.iconst 1, 1) := by decide +kernel
theorem dX12_one_101 : decode cX12_one 101 = .ok (.ireturn, 1) := by decide +kernel
theorem dX12_one_102 : decode cX12_one 102 = .ok (.iload_n 1, 1) := by decide +kernel
theorem dX12_one_103 : decode cX12_one 103 = .ok (.bipush 33, 2) := by decide +kernel
theorem dX12_one_105 : decode cX12_one 105 = .ok (.if_icmp .ne 37, 3) := by decide +kernel
theorem dX12_one_108 : decode cX12_one 108 = .ok (.aload_n 0, 1) := by decide +kernel
theorem dX12_one_109 : decode cX12_one 109 = .ok (.invokevirtual 111, 3) := by decide +kernel
theorem dX12_one_112 : decode cX12_one 112 = .ok (.ifCond .eq 10, 3) := by decide +kernel
theorem dX12_one_115 : decode cX12_one 115 = .ok (.aload_n 0, 1) := by decide +kernel
theorem dX12_one_116 : decode cX12_one 116 = .ok (.invokevirtual 101, 3) := by decide +kernel
theorem dX12_one_119 : decode cX12_one 119 = .ok (.ifCond .ne 5, 3) := by decide +kernel
theorem dX12_one_122 : decode cX12_one 122 = .ok (.iconst 0, 1) := by decide +kernel
theorem dX12_one_123 : decode cX12_one 123 = .ok (.ireturn, 1) := by decide +kernel
theorem dX12_one_124 : decode cX12_one 124 = .ok (.aload_n 0, 1) := by decide +kernel
theorem dX12_one_125 : decode cX12_one 125 = .ok (.dup, 1) := by decide +kernel
theorem dX12_one_126 : decode cX12_one 126 = .ok (.getfield 104, 3) := by decide +kernel
theorem dX12_one_129 : decode cX12_one 129 = .ok (.iconst 1, 1) := by decide +kernel
theorem dX12_one_130 : decode cX12_one 130 = .ok (.isub, 1) := by decide +kernel
theorem dX12_one_131 : decode cX12_one 131 = .ok (.putfield 104, 3) := by decide +kernel
theorem dX12_one_134 : decode cX12_one 134 = .ok (.aload_n 0, 1) := by decide +kernel
theorem dX12_one_135 : decode cX12_one 135 = .ok (.iconst 2, 1) := by decide +kernel
theorem dX12_one_136 : decode cX12_one 136 = .ok (.iconst 0, 1) := by decide +kernel
theorem dX12_one_137 : decode cX12_one 137 = .ok (.invokevirtual 88, 3) := by decide +kernel
theorem dX12_one_140 : decode cX12_one 140 = .ok (.iconst 1, 1) := by decide +kernel
theorem dX12_one_141 : decode cX12_one 141 = .ok (.ireturn, 1) := by decide +kernel
theorem dX12_one_142 : decode cX12_one 142 = .ok (.iload_n 1, 1) := by decide +kernel
theorem dX12_one_143 : decode cX12_one 143 = .ok (.bipush 40, 2) := by decide +kernel
theorem dX12_one_145 : decode cX12_one 145 = .ok (.if_icmp .ne 26, 3) := by decide +kernel
theorem dX12_one_148 : decode cX12_one 148 = .ok (.aload_n 0, 1) := by decide +kernel
theorem dX12_one_149 : decode cX12_one 149 = .ok (.invokevirtual 111, 3) := by decide +kernel
theorem dX12_one_152 : decode cX12_one 152 = .ok (.ifCond .eq 19, 3) := by decide +kernel
theorem dX12_one_155 : decode cX12_one 155 = .ok (.aload_n 0, 1) := by decide +kernel
theorem dX12_one_156 : decode cX12_one 156 = .ok (.invokevirtual 114, 3) := by decide +kernel
theorem dX12_one_159 : decode cX12_one 159 = .ok (.ifCond .eq 12, 3) := by decide +kernel
theorem dX12_one_162 : decode cX12_one 162 = .ok (.aload_n 0, 1) := by decide +kernel
theorem dX12_one_163 : decode cX12_one 163 = .ok (.invokevirtual 84, 3) := by decide +kernel
theorem dX12_one_166 : decode cX12_one 166 = .ok (.bipush 41, 2) := by decide +kernel
theorem dX12_one_168 : decode cX12_one 168 = .ok (.if_icmp .eq 5, 3) := by decide +kernel
theorem dX12_one_171 : decode cX12_one 171 = .ok (.iconst 0, 1) := by decide +kernel
theorem dX12_one_172 : decode cX12_one 172 = .ok (.ireturn, 1) := by decide +kernel
theorem dX12_one_173 : decode cX12_one 173 = .ok (.aload_n 0, 1) := by decide +kernel
theorem dX12_one_174 : decode cX12_one 174 = .ok (.dup, 1) := by decide +kernel
theorem dX12_one_175 : decode cX12_one 175 = .ok (.getfield 70, 3) := by decide +kernel
theorem dX12_one_178 : decode cX12_one 178 = .ok (.iconst 1, 1) := by decide +kernel
theorem dX12_one_179 : decode cX12_one 179 = .ok (.iadd, 1) := by decide +kernel
theorem dX12_one_180 : decode cX12_one 180 = .ok (.putfield 70, 3) := by decide +kernel
theorem dX12_one_183 : decode cX12_one 183 = .ok (.aload_n 0, 1) := by decide +kernel
theorem dX12_one_184 : decode cX12_one 184 = .ok (.dup, 1) := by decide +kernel
theorem dX12_one_185 : decode cX12_one 185 = .ok (.getfield 104, 3) := by decide +kernel
theorem dX12_one_188 : decode cX12_one 188 = .ok (.iconst 1, 1) := by decide +kernel
theorem dX12_one_189 : decode cX12_one 189 = .ok (.isub, 1) := by decide +kernel
theorem dX12_one_190 : decode cX12_one 190 = .ok (.putfield 104, 3) := by decide +kernel
theorem dX12_one_193 : decode cX12_one 193 = .ok (.iconst 1, 1) := by decide +kernel
theorem dX12_one_194 : decode cX12_one 194 = .ok (.ireturn, 1) := by decide +kernel
theorem dX12_hasText_0 : decode cX12_hasText 0 = .ok (.aload_n 0, 1) := by decide +kernel
theorem dX12_hasText_1 : decode cX12_hasText 1 = .ok (.getfield 7, 3) := by decide +kernel
theorem dX12_hasText_4 : decode cX12_hasText 4 = .ok (.sipush 294, 3) := by decide +kernel
theorem dX12_hasText_7 : decode cX12_hasText 7 = .ok (.bipush 125, 2) := by decide +kernel
theorem dX12_hasText_9 : decode cX12_hasText 9 = .ok (.iload_n 1, 1) := by decide +kernel
theorem dX12_hasText_10 : decode cX12_hasText 10 = .ok (.imul, 1) := by decide +kernel
theorem dX12_hasText_11 : decode cX12_hasText 11 = .ok (.iadd, 1) := by decide +kernel
theorem dX12_hasText_12 : decode cX12_hasText 12 = .ok (.iaload, 1) := by decide +kernel
theorem dX12_hasText_13 : decode cX12_hasText 13 = .ok (.ifCond .le 7, 3) := by decide +kernel
theorem dX12_hasText_16 : decode cX12_hasText 16 = .ok (.iconst 1, 1) := by decide +kernel
theorem dX12_hasText_17 : decode cX12_hasText 17 = .ok (.goto 4, 3) := by decide +kernel
theorem dX12_hasText_20 : decode cX12_hasText 20 = .ok (.iconst 0, 1) := by decide +kernel
theorem dX12_hasText_21 : decode cX12_hasText 21 = .ok (.ireturn, 1) := by decide +kernel
theorem dX12_text_0 : decode cX12_text 0 = .ok (.iload_n 1, 1) := by decide +kernel
theorem dX12_text_1 : decode cX12_text 1 = .ok (.iconst 0, 1) := by decide +kernel
theorem dX12_text_2 : decode cX12_text 2 = .ok (.iconst 1, 1) := by decide +kernel
theorem dX12_text_3 : decode cX12_text 3 = .ok (.invokestatic 56, 3) := by decide +kernel
theorem dX12_text_6 : decode cX12_text 6 = .ok (.ifCond .ne 9, 3) := by decide +kernel
theorem dX12_text_9 : decode cX12_text 9 = .ok (.aload_n 0, 1) := by decide +kernel
theorem dX12_text_10 : decode cX12_text 10 = .ok (.iconst 1, 1) := by decide +kernel
theorem dX12_text_11 : decode cX12_text 11 = .ok (.invokevirtual 64, 3) := by decide +kernel
theorem dX12_text_14 : decode cX12_text 14 = .ok (.ireturn, 1) := by decide +kernel
theorem dX12_text_15 : decode cX12_text 15 = .ok (.aload_n 0, 1) := by decide +kernel
theorem dX12_text_16 : decode cX12_text 16 = .ok (.iload_n 1, 1) := by decide +kernel
theorem dX12_text_17 : decode cX12_text 17 = .ok (.putfield 74, 3) := by decide +kernel
theorem dX12_text_20 : decode cX12_text 20 = .ok (.aload_n 0, 1) := by decide +kernel
theorem dX12_text_21 : decode cX12_text 21 = .ok (.iconst 0, 1) := by decide +kernel
theorem dX12_text_22 : decode cX12_text 22 = .ok (.putfield 70, 3) := by decide +kernel
theorem dX12_text_25 : decode cX12_text 25 = .ok (.aload_n 0, 1) := by decide +kernel
theorem dX12_text_26 : decode cX12_text 26 = .ok (.iconst 0, 1) := by decide +kernel
theorem dX12_text_27 : decode cX12_text 27 = .ok (.putfield 104, 3) := by decide +kernel
theorem dX12_text_30 : decode cX12_text 30 = .ok (.aload_n 0, 1) := by decide +kernel
theorem dX12_text_31 : decode cX12_text 31 = .ok (.iconst 0, 1) := by decide +kernel
theorem dX12_text_32 : decode cX12_text 32 = .ok (.putfield 77, 3) := by decide +kernel
theorem dX12_text_35 : decode cX12_text 35 = .ok (.aload_n 0, 1) := by decide +kernel
theorem dX12_text_36 : decode cX12_text 36 = .ok (.invokevirtual 114, 3) := by decide +kernel
theorem dX12_text_39 : decode cX12_text 39 = .ok (.ifCond .eq 20, 3) := by decide +kernel
theorem dX12_text_42 : decode cX12_text 42 = .ok (.aload_n 0, 1) := by decide +kernel
theorem dX12_text_43 : decode cX12_text 43 = .ok (.getfield 70, 3) := by decide +kernel
theorem dX12_text_46 : decode cX12_text 46 = .ok (.aload_n 0, 1) := by decide +kernel
theorem dX12_text_47 : decode cX12_text 47 = .ok (.getfield 7, 3) := by decide +kernel
theorem dX12_text_50 : decode cX12_text 50 = .ok (.iconst 4, 1) := by decide +kernel
theorem dX12_text_51 : decode cX12_text 51 = .ok (.iaload, 1) := by decide +kernel
theorem dX12_text_52 : decode cX12_text 52 = .ok (.if_icmp .ne 7, 3) := by decide +kernel
theorem dX12_text_55 : decode cX12_text 55 = .ok (.iconst 1, 1) := by decide +kernel
theorem dX12_text_56 : decode cX12_text 56 = .ok (.goto 4, 3) := by decide +kernel
theorem dX12_text_59 : decode cX12_text 59 = .ok (.iconst 0, 1) := by decide +kernel
theorem dX12_text_60 : decode cX12_text 60 = .ok (.istore_n 2, 1) := by decide +kernel
theorem dX12_text_61 : decode cX12_text 61 = .ok (.aload_n 0, 1) := by decide +kernel
theorem dX12_text_62 : decode cX12_text 62 = .ok (.getfield 7, 3) := by decide +kernel
theorem dX12_text_65 : decode cX12_text 65 = .ok (.iconst 4, 1) := by decide +kernel
theorem dX12_text_66 : decode cX12_text 66 = .ok (.iconst 0, 1) := by decide +kernel
theorem dX12_text_67 : decode cX12_text 67 = .ok (.iastore, 1) := by decide +kernel
theorem dX12_text_68 : decode cX12_text 68 = .ok (.iload_n 2, 1) := by decide +kernel
theorem dX12_text_69 : decode cX12_text 69 = .ok (.ifCond .ne 11, 3) := by decide +kernel
theorem dX12_text_72 : decode cX12_text 72 = .ok (.bipush (-10), 2) := by decide +kernel
theorem dX12_text_74 : decode cX12_text 74 = .ok (.aload_n 0, 1) := by decide +kernel
theorem dX12_text_75 : decode cX12_text 75 = .ok (.getfield 70, 3) := by decide +kernel
theorem dX12_text_78 : decode cX12_text 78 = .ok (.isub, 1) := by decide +kernel
theorem dX12_text_79 : decode cX12_text 79 = .ok (.ireturn, 1) := by decide +kernel
theorem dX12_text_80 : decode cX12_text 80 = .ok (.sipush 294, 3) := by decide +kernel
theorem dX12_text_83 : decode cX12_text 83 = .ok (.bipush 125, 2) := by decide +kernel
theorem dX12_text_85 : decode cX12_text 85 = .ok (.iload_n 1, 1) := by decide +kernel
theorem dX12_text_86 : decode cX12_text 86 = .ok (.imul, 1) := by decide +kernel
theorem dX12_text_87 : decode cX12_text 87 = .ok (.iadd, 1) := by decide +kernel
theorem dX12_text_88 : decode cX12_text 88 = .ok (.istore_n 3, 1) := by decide +kernel
theorem dX12_text_89 : decode cX12_text 89 = .ok (.aload_n 0, 1) := by decide +kernel
theorem dX12_text_90 : decode cX12_text 90 = .ok (.getfield 7, 3) := by decide +kernel
theorem dX12_text_93 : decode cX12_text 93 = .ok (.iload_n 3, 1) := by decide +kernel
theorem dX12_text_94 : decode cX12_text 94 = .ok (.aload_n 0, 1) := by decide +kernel
theorem dX12_text_95 : decode cX12_text 95 = .ok (.getfield 77, 3) := by decide +kernel
theorem dX12_text_98 : decode cX12_text 98 = .ok (.iastore, 1) := by decide +kernel
theorem dX12_text_99 : decode cX12_text 99 = .ok (.iconst 0, 1) := by decide +kernel
theorem dX12_text_100 : decode cX12_text 100 = .ok (.istore 4, 2) := by decide +kernel
theorem dX12_text_102 : decode cX12_text 102 = .ok (.iload 4, 2) := by decide +kernel
theorem dX12_text_104 : decode cX12_text 104 = .ok (.iconst 2, 1) := by decide +kernel
theorem dX12_text_105 : decode cX12_text 105 = .ok (.aload_n 0, 1) := by decide +kernel
theorem dX12_text_106 : decode cX12_text 106 = .ok (.getfield 77, 3) := by decide +kernel
theorem dX12_text_109 : decode cX12_text 109 = .ok (.imul, 1) := by decide +kernel
theorem dX12_text_110 : decode cX12_text 110 = .ok (.if_icmp .ge 27, 3) := by decide +kernel
theorem dX12_text_113 : decode cX12_text 113 = .ok (.aload_n 0, 1) := by decide +kernel
theorem dX12_text_114 : decode cX12_text 114 = .ok (.getfield 7, 3) := by decide +kernel
theorem dX12_text_117 : decode cX12_text 117 = .ok (.iload_n 3, 1) := by decide +kernel
theorem dX12_text_118 : decode cX12_text 118 = .ok (.iconst 1, 1) := by decide +kernel
theorem dX12_text_119 : decode cX12_text 119 = .ok (.iadd, 1) := by decide +kernel
theorem dX12_text_120 : decode cX12_text 120 = .ok (.iload 4, 2) := by decide +kernel
theorem dX12_text_122 : decode cX12_text 122 = .ok (.iadd, 1) := by decide +kernel
theorem dX12_text_123 : decode cX12_text 123 = .ok (.aload_n 0, 1) := by decide +kernel
theorem dX12_text_124 : decode cX12_text 124 = .ok (.getfield 19, 3) := by decide +kernel
theorem dX12_text_127 : decode cX12_text 127 = .ok (.iload 4, 2) := by decide +kernel
theorem dX12_text_129 : decode cX12_text 129 = .ok (.iaload, 1) := by decide +kernel
theorem dX12_text_130 : decode cX12_text 130 = .ok (.iastore, 1) := by decide +kernel
theorem dX12_text_131 : decode cX12_text 131 = .ok (.iinc 4 1, 3) := by decide +kernel
theorem dX12_text_134 : decode cX12_text 134 = .ok (.goto (-32), 3) := by decide +kernel
theorem dX12_text_137 : decode cX12_text 137 = .ok (.iconst 1, 1) := by decide +kernel
theorem dX12_text_138 : decode cX12_text 138 = .ok (.ireturn, 1) := by decide +kernel
theorem dX12_untell_0 : decode cX12_untell 0 = .ok (.iload_n 1, 1) := by decide +kernel
theorem dX12_untell_1 : decode cX12_untell 1 = .ok (.iconst 0, 1) := by decide +kernel
theorem dX12_untell_2 : decode cX12_untell 2 = .ok (.iconst 1, 1) := by decide +kernel
theorem dX12_untell_3 : decode cX12_untell 3 = .ok (.invokestatic 56, 3) := by decide +kernel
theorem dX12_untell_6 : decode cX12_untell 6 = .ok (.ifCond .ne 9, 3) := by decide +kernel
theorem dX12_untell_9 : decode cX12_untell 9 = .ok (.aload_n 0, 1) := by decide +kernel
theorem dX12_untell_10 : decode cX12_untell 10 = .ok (.iconst 1, 1) := by decide +kernel
theorem dX12_untell_11 : decode cX12_untell 11 = .ok (.invokevirtual 64, 3) := by decide +kernel
theorem dX12_untell_14 : decode cX12_untell 14 = .ok (.ireturn, 1) := by decide +kernel
theorem dX12_untell_15 : decode cX12_untell 15 = .ok (.aload_n 0, 1) := by decide +kernel
theorem dX12_untell_16 : decode cX12_untell 16 = .ok (.iload_n 1, 1) := by decide +kernel
theorem dX12_untell_17 : decode cX12_untell 17 = .ok (.invokevirtual 117, 3) := by decide +kernel
theorem dX12_untell_20 : decode cX12_untell 20 = .ok (.ifCond .eq 7, 3) := by decide +kernel
theorem dX12_untell_23 : decode cX12_untell 23 = .ok (.iconst 1, 1) := by decide +kernel
theorem dX12_untell_24 : decode cX12_untell 24 = .ok (.goto 4, 3) := by decide +kernel
theorem dX12_untell_27 : decode cX12_untell 27 = .ok (.iconst 0, 1) := by decide +kernel
theorem dX12_untell_28 : decode cX12_untell 28 = .ok (.istore_n 2, 1) := by decide +kernel
theorem dX12_untell_29 : decode cX12_untell 29 = .ok (.aload_n 0, 1) := by decide +kernel
theorem dX12_untell_30 : decode cX12_untell 30 = .ok (.getfield 7, 3) := by decide +kernel
theorem dX12_untell_33 : decode cX12_untell 33 = .ok (.sipush 294, 3) := by decide +kernel
theorem dX12_untell_36 : decode cX12_untell 36 = .ok (.bipush 125, 2) := by decide +kernel
theorem dX12_untell_38 : decode cX12_untell 38 = .ok (.iload_n 1, 1) := by decide +kernel
theorem dX12_untell_39 : decode cX12_untell 39 = .ok (.imul, 1) := by decide +kernel
theorem dX12_untell_40 : decode cX12_untell 40 = .ok (.iadd, 1) := by decide +kernel
theorem dX12_untell_41 : decode cX12_untell 41 = .ok (.iconst 0, 1) := by decide +kernel
theorem dX12_untell_42 : decode cX12_untell 42 = .ok (.iastore, 1) := by decide +kernel
theorem dX12_untell_43 : decode cX12_untell 43 = .ok (.iload_n 2, 1) := by decide +kernel
theorem dX12_untell_44 : decode cX12_untell 44 = .ok (.ireturn, 1) := by decide +kernel
theorem dX12_joined_0 : decode cX12_joined 0 = .ok (.iload_n 0, 1) := by decide +kernel
theorem dX12_joined_1 : decode cX12_joined 1 = .ok (.tableswitch 217 37 62 #[153, 203, 217, 217, 217, 127, 119, 217, 123, 217, 131, 217, 217, 217, 217, 217, 217, 217, 217, 217, 217, 217, 217, 170, 192, 181], 119) := by decide +kernel
theorem dX12_joined_120 : decode cX12_joined 120 = .ok (.iload_n 1, 1) := by decide +kernel
theorem dX12_joined_121 : decode cX12_joined 121 = .ok (.iload_n 2, 1) := by decide +kernel
theorem dX12_joined_122 : decode cX12_joined 122 = .ok (.iadd, 1) := by decide +kernel
theorem dX12_joined_123 : decode cX12_joined 123 = .ok (.ireturn, 1) := by decide +kernel
theorem dX12_joined_124 : decode cX12_joined 124 = .ok (.iload_n 1, 1) := by decide +kernel
theorem dX12_joined_125 : decode cX12_joined 125 = .ok (.iload_n 2, 1) := by decide +kernel
theorem dX12_joined_126 : decode cX12_joined 126 = .ok (.isub, 1) := by decide +kernel
theorem dX12_joined_127 : decode cX12_joined 127 = .ok (.ireturn, 1) := by decide +kernel
theorem dX12_joined_128 : decode cX12_joined 128 = .ok (.iload_n 1, 1) := by decide +kernel
theorem dX12_joined_129 : decode cX12_joined 129 = .ok (.iload_n 2, 1) := by decide +kernel
theorem dX12_joined_130 : decode cX12_joined 130 = .ok (.imul, 1) := by decide +kernel
theorem dX12_joined_131 : decode cX12_joined 131 = .ok (.ireturn, 1) := by decide +kernel
theorem dX12_joined_132 : decode cX12_joined 132 = .ok (.iload_n 2, 1) := by decide +kernel
theorem dX12_joined_133 : decode cX12_joined 133 = .ok (.ifCond .ne 7, 3) := by decide +kernel
theorem dX12_joined_136 : decode cX12_joined 136 = .ok (.iconst 0, 1) := by decide +kernel
theorem dX12_joined_137 : decode cX12_joined 137 = .ok (.goto 16, 3) := by decide +kernel
theorem dX12_joined_140 : decode cX12_joined 140 = .ok (.iload_n 2, 1) := by decide +kernel
theorem dX12_joined_141 : decode cX12_joined 141 = .ok (.iconst (-1), 1) := by decide +kernel
theorem dX12_joined_142 : decode cX12_joined 142 = .ok (.if_icmp .ne 8, 3) := by decide +kernel
theorem dX12_joined_145 : decode cX12_joined 145 = .ok (.iload_n 1, 1) := by decide +kernel
theorem dX12_joined_146 : decode cX12_joined 146 = .ok (.ineg, 1) := by decide +kernel
theorem dX12_joined_147 : decode cX12_joined 147 = .ok (.goto 6, 3) := by decide +kernel
theorem dX12_joined_150 : decode cX12_joined 150 = .ok (.iload_n 1, 1) := by decide +kernel
theorem dX12_joined_151 : decode cX12_joined 151 = .ok (.iload_n 2, 1) := by decide +kernel
theorem dX12_joined_152 : decode cX12_joined 152 = .ok (.idiv, 1) := by decide +kernel
theorem dX12_joined_153 : decode cX12_joined 153 = .ok (.ireturn, 1) := by decide +kernel
theorem dX12_joined_154 : decode cX12_joined 154 = .ok (.iload_n 2, 1) := by decide +kernel
theorem dX12_joined_155 : decode cX12_joined 155 = .ok (.ifCond .eq 8, 3) := by decide +kernel
theorem dX12_joined_158 : decode cX12_joined 158 = .ok (.iload_n 2, 1) := by decide +kernel
theorem dX12_joined_159 : decode cX12_joined 159 = .ok (.iconst (-1), 1) := by decide +kernel
theorem dX12_joined_160 : decode cX12_joined 160 = .ok (.if_icmp .ne 7, 3) := by decide +kernel
theorem dX12_joined_163 : decode cX12_joined 163 = .ok (.iconst 0, 1) := by decide +kernel
theorem dX12_joined_164 : decode cX12_joined 164 = .ok (.goto 6, 3) := by decide +kernel
theorem dX12_joined_167 : decode cX12_joined 167 = .ok (.iload_n 1, 1) := by decide +kernel
theorem dX12_joined_168 : decode cX12_joined 168 = .ok (.iload_n 2, 1) := by decide +kernel
theorem dX12_joined_169 : decode cX12_joined 169 = .ok (.irem, 1) := by decide +kernel
theorem dX12_joined_170 : decode cX12_joined 170 = .ok (.ireturn, 1) := by decide +kernel
theorem dX12_joined_171 : decode cX12_joined 171 = .ok (.iload_n 1, 1) := by decide +kernel
theorem dX12_joined_172 : decode cX12_joined 172 = .ok (.iload_n 2, 1) := by decide +kernel
theorem dX12_joined_173 : decode cX12_joined 173 = .ok (.if_icmp .ge 7, 3) := by decide +kernel
theorem dX12_joined_176 : decode cX12_joined 176 = .ok (.iconst 1, 1) := by decide +kernel
theorem dX12_joined_177 : decode cX12_joined 177 = .ok (.goto 4, 3) := by decide +kernel
theorem dX12_joined_180 : decode cX12_joined 180 = .ok (.iconst 0, 1) := by decide +kernel
theorem dX12_joined_181 : decode cX12_joined 181 = .ok (.ireturn, 1) := by decide +kernel
theorem dX12_joined_182 : decode cX12_joined 182 = .ok (.iload_n 1, 1) := by decide +kernel
theorem dX12_joined_183 : decode cX12_joined 183 = .ok (.iload_n 2, 1) := by decide +kernel
theorem dX12_joined_184 : decode cX12_joined 184 = .ok (.if_icmp .le 7, 3) := by decide +kernel
theorem dX12_joined_187 : decode cX12_joined 187 = .ok (.iconst 1, 1) := by decide +kernel
theorem dX12_joined_188 : decode cX12_joined 188 = .ok (.goto 4, 3) := by decide +kernel
theorem dX12_joined_191 : decode cX12_joined 191 = .ok (.iconst 0, 1) := by decide +kernel
theorem dX12_joined_192 : decode cX12_joined 192 = .ok (.ireturn, 1) := by decide +kernel
theorem dX12_joined_193 : decode cX12_joined 193 = .ok (.iload_n 1, 1) := by decide +kernel
theorem dX12_joined_194 : decode cX12_joined 194 = .ok (.iload_n 2, 1) := by decide +kernel
theorem dX12_joined_195 : decode cX12_joined 195 = .ok (.if_icmp .ne 7, 3) := by decide +kernel
theorem dX12_joined_198 : decode cX12_joined 198 = .ok (.iconst 1, 1) := by decide +kernel
theorem dX12_joined_199 : decode cX12_joined 199 = .ok (.goto 4, 3) := by decide +kernel
theorem dX12_joined_202 : decode cX12_joined 202 = .ok (.iconst 0, 1) := by decide +kernel
theorem dX12_joined_203 : decode cX12_joined 203 = .ok (.ireturn, 1) := by decide +kernel
theorem dX12_joined_204 : decode cX12_joined 204 = .ok (.iload_n 1, 1) := by decide +kernel
theorem dX12_joined_205 : decode cX12_joined 205 = .ok (.ifCond .eq 11, 3) := by decide +kernel
theorem dX12_joined_208 : decode cX12_joined 208 = .ok (.iload_n 2, 1) := by decide +kernel
theorem dX12_joined_209 : decode cX12_joined 209 = .ok (.ifCond .eq 7, 3) := by decide +kernel
theorem dX12_joined_212 : decode cX12_joined 212 = .ok (.iconst 1, 1) := by decide +kernel
theorem dX12_joined_213 : decode cX12_joined 213 = .ok (.goto 4, 3) := by decide +kernel
theorem dX12_joined_216 : decode cX12_joined 216 = .ok (.iconst 0, 1) := by decide +kernel
theorem dX12_joined_217 : decode cX12_joined 217 = .ok (.ireturn, 1) := by decide +kernel
theorem dX12_joined_218 : decode cX12_joined 218 = .ok (.iload_n 1, 1) := by decide +kernel
theorem dX12_joined_219 : decode cX12_joined 219 = .ok (.ifCond .ne 7, 3) := by decide +kernel
theorem dX12_joined_222 : decode cX12_joined 222 = .ok (.iload_n 2, 1) := by decide +kernel
theorem dX12_joined_223 : decode cX12_joined 223 = .ok (.ifCond .eq 7, 3) := by decide +kernel
theorem dX12_joined_226 : decode cX12_joined 226 = .ok (.iconst 1, 1) := by decide +kernel
theorem dX12_joined_227 : decode cX12_joined 227 = .ok (.goto 4, 3) := by decide +kernel
theorem dX12_joined_230 : decode cX12_joined 230 = .ok (.iconst 0, 1) := by decide +kernel
theorem dX12_joined_231 : decode cX12_joined 231 = .ok (.ireturn, 1) := by decide +kernel
theorem dX12_worked_0 : decode cX12_worked 0 = .ok (.sipush 294, 3) := by decide +kernel
theorem dX12_worked_3 : decode cX12_worked 3 = .ok (.bipush 125, 2) := by decide +kernel
theorem dX12_worked_5 : decode cX12_worked 5 = .ok (.iload_n 1, 1) := by decide +kernel
theorem dX12_worked_6 : decode cX12_worked 6 = .ok (.imul, 1) := by decide +kernel
theorem dX12_worked_7 : decode cX12_worked 7 = .ok (.iadd, 1) := by decide +kernel
theorem dX12_worked_8 : decode cX12_worked 8 = .ok (.istore_n 2, 1) := by decide +kernel
theorem dX12_worked_9 : decode cX12_worked 9 = .ok (.iconst 0, 1) := by decide +kernel
theorem dX12_worked_10 : decode cX12_worked 10 = .ok (.istore_n 3, 1) := by decide +kernel
theorem dX12_worked_11 : decode cX12_worked 11 = .ok (.iconst 0, 1) := by decide +kernel
theorem dX12_worked_12 : decode cX12_worked 12 = .ok (.istore 4, 2) := by decide +kernel
theorem dX12_worked_14 : decode cX12_worked 14 = .ok (.iload 4, 2) := by decide +kernel
theorem dX12_worked_16 : decode cX12_worked 16 = .ok (.aload_n 0, 1) := by decide +kernel
theorem dX12_worked_17 : decode cX12_worked 17 = .ok (.getfield 7, 3) := by decide +kernel
theorem dX12_worked_20 : decode cX12_worked 20 = .ok (.iload_n 2, 1) := by decide +kernel
theorem dX12_worked_21 : decode cX12_worked 21 = .ok (.iaload, 1) := by decide +kernel
theorem dX12_worked_22 : decode cX12_worked 22 = .ok (.if_icmp .ge 142, 3) := by decide +kernel
theorem dX12_worked_25 : decode cX12_worked 25 = .ok (.aload_n 0, 1) := by decide +kernel
theorem dX12_worked_26 : decode cX12_worked 26 = .ok (.getfield 7, 3) := by decide +kernel
theorem dX12_worked_29 : decode cX12_worked 29 = .ok (.iload_n 2, 1) := by decide +kernel
theorem dX12_worked_30 : decode cX12_worked 30 = .ok (.iconst 1, 1) := by decide +kernel
theorem dX12_worked_31 : decode cX12_worked 31 = .ok (.iadd, 1) := by decide +kernel
theorem dX12_worked_32 : decode cX12_worked 32 = .ok (.iconst 2, 1) := by decide +kernel
theorem dX12_worked_33 : decode cX12_worked 33 = .ok (.iload 4, 2) := by decide +kernel
theorem dX12_worked_35 : decode cX12_worked 35 = .ok (.imul, 1) := by decide +kernel
theorem dX12_worked_36 : decode cX12_worked 36 = .ok (.iadd, 1) := by decide +kernel
theorem dX12_worked_37 : decode cX12_worked 37 = .ok (.iaload, 1) := by decide +kernel
theorem dX12_worked_38 : decode cX12_worked 38 = .ok (.istore 5, 2) := by decide +kernel
theorem dX12_worked_40 : decode cX12_worked 40 = .ok (.aload_n 0, 1) := by decide +kernel
theorem dX12_worked_41 : decode cX12_worked 41 = .ok (.getfield 7, 3) := by decide +kernel
theorem dX12_worked_44 : decode cX12_worked 44 = .ok (.iload_n 2, 1) := by decide +kernel
theorem dX12_worked_45 : decode cX12_worked 45 = .ok (.iconst 2, 1) := by decide +kernel
theorem dX12_worked_46 : decode cX12_worked 46 = .ok (.iadd, 1) := by decide +kernel
theorem dX12_worked_47 : decode cX12_worked 47 = .ok (.iconst 2, 1) := by decide +kernel
theorem dX12_worked_48 : decode cX12_worked 48 = .ok (.iload 4, 2) := by decide +kernel
theorem dX12_worked_50 : decode cX12_worked 50 = .ok (.imul, 1) := by decide +kernel
theorem dX12_worked_51 : decode cX12_worked 51 = .ok (.iadd, 1) := by decide +kernel
theorem dX12_worked_52 : decode cX12_worked 52 = .ok (.iaload, 1) := by decide +kernel
theorem dX12_worked_53 : decode cX12_worked 53 = .ok (.istore 6, 2) := by decide +kernel
theorem dX12_worked_55 : decode cX12_worked 55 = .ok (.iload 5, 2) := by decide +kernel
theorem dX12_worked_57 : decode cX12_worked 57 = .ok (.ifCond .eq 9, 3) := by decide +kernel
theorem dX12_worked_60 : decode cX12_worked 60 = .ok (.iload 5, 2) := by decide +kernel
theorem dX12_worked_62 : decode cX12_worked 62 = .ok (.iconst 1, 1) := by decide +kernel
theorem dX12_worked_63 : decode cX12_worked 63 = .ok (.if_icmp .ne 32, 3) := by decide +kernel
theorem dX12_worked_66 : decode cX12_worked 66 = .ok (.aload_n 0, 1) := by decide +kernel
theorem dX12_worked_67 : decode cX12_worked 67 = .ok (.getfield 25, 3) := by decide +kernel
theorem dX12_worked_70 : decode cX12_worked 70 = .ok (.iload_n 3, 1) := by decide +kernel
theorem dX12_worked_71 : decode cX12_worked 71 = .ok (.iload 5, 2) := by decide +kernel
theorem dX12_worked_73 : decode cX12_worked 73 = .ok (.ifCond .ne 8, 3) := by decide +kernel
theorem dX12_worked_76 : decode cX12_worked 76 = .ok (.iload 6, 2) := by decide +kernel
theorem dX12_worked_78 : decode cX12_worked 78 = .ok (.goto 10, 3) := by decide +kernel
theorem dX12_worked_81 : decode cX12_worked 81 = .ok (.aload_n 0, 1) := by decide +kernel
theorem dX12_worked_82 : decode cX12_worked 82 = .ok (.getfield 22, 3) := by decide +kernel
theorem dX12_worked_85 : decode cX12_worked 85 = .ok (.iload 6, 2) := by decide +kernel
theorem dX12_worked_87 : decode cX12_worked 87 = .ok (.iaload, 1) := by decide +kernel
theorem dX12_worked_88 : decode cX12_worked 88 = .ok (.iastore, 1) := by decide +kernel
theorem dX12_worked_89 : decode cX12_worked 89 = .ok (.iinc 3 1, 3) := by decide +kernel
theorem dX12_worked_92 : decode cX12_worked 92 = .ok (.goto 66, 3) := by decide +kernel
theorem dX12_worked_95 : decode cX12_worked 95 = .ok (.iload 5, 2) := by decide +kernel
theorem dX12_worked_97 : decode cX12_worked 97 = .ok (.iconst 2, 1) := by decide +kernel
theorem dX12_worked_98 : decode cX12_worked 98 = .ok (.if_icmp .ne 30, 3) := by decide +kernel
theorem dX12_worked_101 : decode cX12_worked 101 = .ok (.aload_n 0, 1) := by decide +kernel
theorem dX12_worked_102 : decode cX12_worked 102 = .ok (.getfield 25, 3) := by decide +kernel
theorem dX12_worked_105 : decode cX12_worked 105 = .ok (.iload_n 3, 1) := by decide +kernel
theorem dX12_worked_106 : decode cX12_worked 106 = .ok (.iconst 1, 1) := by decide +kernel
theorem dX12_worked_107 : decode cX12_worked 107 = .ok (.isub, 1) := by decide +kernel
theorem dX12_worked_108 : decode cX12_worked 108 = .ok (.aload_n 0, 1) := by decide +kernel
theorem dX12_worked_109 : decode cX12_worked 109 = .ok (.getfield 25, 3) := by decide +kernel
theorem dX12_worked_112 : decode cX12_worked 112 = .ok (.iload_n 3, 1) := by decide +kernel
theorem dX12_worked_113 : decode cX12_worked 113 = .ok (.iconst 1, 1) := by decide +kernel
theorem dX12_worked_114 : decode cX12_worked 114 = .ok (.isub, 1) := by decide +kernel
theorem dX12_worked_115 : decode cX12_worked 115 = .ok (.iaload, 1) := by decide +kernel
theorem dX12_worked_116 : decode cX12_worked 116 = .ok (.ifCond .ne 7, 3) := by decide +kernel
theorem dX12_worked_119 : decode cX12_worked 119 = .ok (.iconst 1, 1) := by decide +kernel
theorem dX12_worked_120 : decode cX12_worked 120 = .ok (.goto 4, 3) := by decide +kernel
theorem dX12_worked_123 : decode cX12_worked 123 = .ok (.iconst 0, 1) := by decide +kernel
theorem dX12_worked_124 : decode cX12_worked 124 = .ok (.iastore, 1) := by decide +kernel
theorem dX12_worked_125 : decode cX12_worked 125 = .ok (.goto 33, 3) := by decide +kernel
theorem dX12_worked_128 : decode cX12_worked 128 = .ok (.iinc 3 (-1), 3) := by decide +kernel
theorem dX12_worked_131 : decode cX12_worked 131 = .ok (.aload_n 0, 1) := by decide +kernel
theorem dX12_worked_132 : decode cX12_worked 132 = .ok (.getfield 25, 3) := by decide +kernel
theorem dX12_worked_135 : decode cX12_worked 135 = .ok (.iload_n 3, 1) := by decide +kernel
theorem dX12_worked_136 : decode cX12_worked 136 = .ok (.iconst 1, 1) := by decide +kernel
theorem dX12_worked_137 : decode cX12_worked 137 = .ok (.isub, 1) := by decide +kernel
theorem dX12_worked_138 : decode cX12_worked 138 = .ok (.iload 6, 2) := by decide +kernel
theorem dX12_worked_140 : decode cX12_worked 140 = .ok (.aload_n 0, 1) := by decide +kernel
theorem dX12_worked_141 : decode cX12_worked 141 = .ok (.getfield 25, 3) := by decide +kernel
theorem dX12_worked_144 : decode cX12_worked 144 = .ok (.iload_n 3, 1) := by decide +kernel
theorem dX12_worked_145 : decode cX12_worked 145 = .ok (.iconst 1, 1) := by decide +kernel
theorem dX12_worked_146 : decode cX12_worked 146 = .ok (.isub, 1) := by decide +kernel
theorem dX12_worked_147 : decode cX12_worked 147 = .ok (.iaload, 1) := by decide +kernel
theorem dX12_worked_148 : decode cX12_worked 148 = .ok (.aload_n 0, 1) := by decide +kernel
theorem dX12_worked_149 : decode cX12_worked 149 = .ok (.getfield 25, 3) := by decide +kernel
theorem dX12_worked_152 : decode cX12_worked 152 = .ok (.iload_n 3, 1) := by decide +kernel
theorem dX12_worked_153 : decode cX12_worked 153 = .ok (.iaload, 1) := by decide +kernel
theorem dX12_worked_154 : decode cX12_worked 154 = .ok (.invokestatic 120, 3) := by decide +kernel
theorem dX12_worked_157 : decode cX12_worked 157 = .ok (.iastore, 1) := by decide +kernel
theorem dX12_worked_158 : decode cX12_worked 158 = .ok (.iinc 4 1, 3) := by decide +kernel
theorem dX12_worked_161 : decode cX12_worked 161 = .ok (.goto (-147), 3) := by decide +kernel
theorem dX12_worked_164 : decode cX12_worked 164 = .ok (.aload_n 0, 1) := by decide +kernel
theorem dX12_worked_165 : decode cX12_worked 165 = .ok (.getfield 25, 3) := by decide +kernel
theorem dX12_worked_168 : decode cX12_worked 168 = .ok (.iconst 0, 1) := by decide +kernel
theorem dX12_worked_169 : decode cX12_worked 169 = .ok (.iaload, 1) := by decide +kernel
theorem dX12_worked_170 : decode cX12_worked 170 = .ok (.ireturn, 1) := by decide +kernel
theorem dX12_takes_0 : decode cX12_takes 0 = .ok (.iconst 0, 1) := by decide +kernel
theorem dX12_takes_1 : decode cX12_takes 1 = .ok (.istore_n 2, 1) := by decide +kernel
theorem dX12_takes_2 : decode cX12_takes 2 = .ok (.iload_n 2, 1) := by decide +kernel
theorem dX12_takes_3 : decode cX12_takes 3 = .ok (.aload_n 0, 1) := by decide +kernel
theorem dX12_takes_4 : decode cX12_takes 4 = .ok (.iload_n 1, 1) := by decide +kernel
theorem dX12_takes_5 : decode cX12_takes 5 = .ok (.iconst 2, 1) := by decide +kernel
theorem dX12_takes_6 : decode cX12_takes 6 = .ok (.invokevirtual 60, 3) := by decide +kernel
theorem dX12_takes_9 : decode cX12_takes 9 = .ok (.if_icmp .ge 53, 3) := by decide +kernel
theorem dX12_takes_12 : decode cX12_takes 12 = .ok (.aload_n 0, 1) := by decide +kernel
theorem dX12_takes_13 : decode cX12_takes 13 = .ok (.getfield 7, 3) := by decide +kernel
theorem dX12_takes_16 : decode cX12_takes 16 = .ok (.aload_n 0, 1) := by decide +kernel
theorem dX12_takes_17 : decode cX12_takes 17 = .ok (.iload_n 1, 1) := by decide +kernel
theorem dX12_takes_18 : decode cX12_takes 18 = .ok (.iload_n 2, 1) := by decide +kernel
theorem dX12_takes_19 : decode cX12_takes 19 = .ok (.invokevirtual 124, 3) := by decide +kernel
theorem dX12_takes_22 : decode cX12_takes 22 = .ok (.iaload, 1) := by decide +kernel
theorem dX12_takes_23 : decode cX12_takes 23 = .ok (.ifCond .le 33, 3) := by decide +kernel
theorem dX12_takes_26 : decode cX12_takes 26 = .ok (.aload_n 0, 1) := by decide +kernel
theorem dX12_takes_27 : decode cX12_takes 27 = .ok (.getfield 28, 3) := by decide +kernel
theorem dX12_takes_30 : decode cX12_takes 30 = .ok (.aload_n 0, 1) := by decide +kernel
theorem dX12_takes_31 : decode cX12_takes 31 = .ok (.getfield 126, 3) := by decide +kernel
theorem dX12_takes_34 : decode cX12_takes 34 = .ok (.aload_n 0, 1) := by decide +kernel
theorem dX12_takes_35 : decode cX12_takes 35 = .ok (.getfield 7, 3) := by decide +kernel
theorem dX12_takes_38 : decode cX12_takes 38 = .ok (.aload_n 0, 1) := by decide +kernel
theorem dX12_takes_39 : decode cX12_takes 39 = .ok (.iload_n 1, 1) := by decide +kernel
theorem dX12_takes_40 : decode cX12_takes 40 = .ok (.iload_n 2, 1) := by decide +kernel
theorem dX12_takes_41 : decode cX12_takes 41 = .ok (.invokevirtual 124, 3) := by decide +kernel
theorem dX12_takes_44 : decode cX12_takes 44 = .ok (.iaload, 1) := by decide +kernel
theorem dX12_takes_45 : decode cX12_takes 45 = .ok (.iastore, 1) := by decide +kernel
theorem dX12_takes_46 : decode cX12_takes 46 = .ok (.aload_n 0, 1) := by decide +kernel
theorem dX12_takes_47 : decode cX12_takes 47 = .ok (.dup, 1) := by decide +kernel
theorem dX12_takes_48 : decode cX12_takes 48 = .ok (.getfield 126, 3) := by decide +kernel
theorem dX12_takes_51 : decode cX12_takes 51 = .ok (.iconst 1, 1) := by decide +kernel
theorem dX12_takes_52 : decode cX12_takes 52 = .ok (.iadd, 1) := by decide +kernel
theorem dX12_takes_53 : decode cX12_takes 53 = .ok (.putfield 126, 3) := by decide +kernel
theorem dX12_takes_56 : decode cX12_takes 56 = .ok (.iinc 2 1, 3) := by decide +kernel
theorem dX12_takes_59 : decode cX12_takes 59 = .ok (.goto (-57), 3) := by decide +kernel
theorem dX12_takes_62 : decode cX12_takes 62 = .ok (.return_, 1) := by decide +kernel
theorem dX12_turns_0 : decode cX12_turns 0 = .ok (.iconst 0, 1) := by decide +kernel
theorem dX12_turns_1 : decode cX12_turns 1 = .ok (.istore_n 1, 1) := by decide +kernel
theorem dX12_turns_2 : decode cX12_turns 2 = .ok (.aload_n 0, 1) := by decide +kernel
theorem dX12_turns_3 : decode cX12_turns 3 = .ok (.getfield 126, 3) := by decide +kernel
theorem dX12_turns_6 : decode cX12_turns 6 = .ok (.iconst 1, 1) := by decide +kernel
theorem dX12_turns_7 : decode cX12_turns 7 = .ok (.isub, 1) := by decide +kernel
theorem dX12_turns_8 : decode cX12_turns 8 = .ok (.istore_n 2, 1) := by decide +kernel
theorem dX12_turns_9 : decode cX12_turns 9 = .ok (.iload_n 1, 1) := by decide +kernel
theorem dX12_turns_10 : decode cX12_turns 10 = .ok (.iload_n 2, 1) := by decide +kernel
theorem dX12_turns_11 : decode cX12_turns 11 = .ok (.if_icmp .ge 38, 3) := by decide +kernel
theorem dX12_turns_14 : decode cX12_turns 14 = .ok (.aload_n 0, 1) := by decide +kernel
theorem dX12_turns_15 : decode cX12_turns 15 = .ok (.getfield 28, 3) := by decide +kernel
theorem dX12_turns_18 : decode cX12_turns 18 = .ok (.iload_n 1, 1) := by decide +kernel
theorem dX12_turns_19 : decode cX12_turns 19 = .ok (.iaload, 1) := by decide +kernel
theorem dX12_turns_20 : decode cX12_turns 20 = .ok (.istore_n 3, 1) := by decide +kernel
theorem dX12_turns_21 : decode cX12_turns 21 = .ok (.aload_n 0, 1) := by decide +kernel
theorem dX12_turns_22 : decode cX12_turns 22 = .ok (.getfield 28, 3) := by decide +kernel
theorem dX12_turns_25 : decode cX12_turns 25 = .ok (.iload_n 1, 1) := by decide +kernel
theorem dX12_turns_26 : decode cX12_turns 26 = .ok (.aload_n 0, 1) := by decide +kernel
theorem dX12_turns_27 : decode cX12_turns 27 = .ok (.getfield 28, 3) := by decide +kernel
theorem dX12_turns_30 : decode cX12_turns 30 = .ok (.iload_n 2, 1) := by decide +kernel
theorem dX12_turns_31 : decode cX12_turns 31 = .ok (.iaload, 1) := by decide +kernel
theorem dX12_turns_32 : decode cX12_turns 32 = .ok (.iastore, 1) := by decide +kernel
theorem dX12_turns_33 : decode cX12_turns 33 = .ok (.aload_n 0, 1) := by decide +kernel
theorem dX12_turns_34 : decode cX12_turns 34 = .ok (.getfield 28, 3) := by decide +kernel
theorem dX12_turns_37 : decode cX12_turns 37 = .ok (.iload_n 2, 1) := by decide +kernel
theorem dX12_turns_38 : decode cX12_turns 38 = .ok (.iload_n 3, 1) := by decide +kernel
theorem dX12_turns_39 : decode cX12_turns 39 = .ok (.iastore, 1) := by decide +kernel
theorem dX12_turns_40 : decode cX12_turns 40 = .ok (.iinc 1 1, 3) := by decide +kernel
theorem dX12_turns_43 : decode cX12_turns 43 = .ok (.iinc 2 (-1), 3) := by decide +kernel
theorem dX12_turns_46 : decode cX12_turns 46 = .ok (.goto (-37), 3) := by decide +kernel
theorem dX12_turns_49 : decode cX12_turns 49 = .ok (.return_, 1) := by decide +kernel
theorem dX12_reads_0 : decode cX12_reads 0 = .ok (.aload_n 0, 1) := by decide +kernel
theorem dX12_reads_1 : decode cX12_reads 1 = .ok (.iconst 0, 1) := by decide +kernel
theorem dX12_reads_2 : decode cX12_reads 2 = .ok (.putfield 126, 3) := by decide +kernel
theorem dX12_reads_5 : decode cX12_reads 5 = .ok (.aload_n 0, 1) := by decide +kernel
theorem dX12_reads_6 : decode cX12_reads 6 = .ok (.iload_n 1, 1) := by decide +kernel
theorem dX12_reads_7 : decode cX12_reads 7 = .ok (.invokevirtual 129, 3) := by decide +kernel
theorem dX12_reads_10 : decode cX12_reads 10 = .ok (.aload_n 0, 1) := by decide +kernel
theorem dX12_reads_11 : decode cX12_reads 11 = .ok (.iload_n 1, 1) := by decide +kernel
theorem dX12_reads_12 : decode cX12_reads 12 = .ok (.iconst 0, 1) := by decide +kernel
theorem dX12_reads_13 : decode cX12_reads 13 = .ok (.invokevirtual 60, 3) := by decide +kernel
theorem dX12_reads_16 : decode cX12_reads 16 = .ok (.istore_n 2, 1) := by decide +kernel
theorem dX12_reads_17 : decode cX12_reads 17 = .ok (.aload_n 0, 1) := by decide +kernel
theorem dX12_reads_18 : decode cX12_reads 18 = .ok (.iload_n 1, 1) := by decide +kernel
theorem dX12_reads_19 : decode cX12_reads 19 = .ok (.iconst 1, 1) := by decide +kernel
theorem dX12_reads_20 : decode cX12_reads 20 = .ok (.invokevirtual 60, 3) := by decide +kernel
theorem dX12_reads_23 : decode cX12_reads 23 = .ok (.istore_n 3, 1) := by decide +kernel
theorem dX12_reads_24 : decode cX12_reads 24 = .ok (.iload_n 2, 1) := by decide +kernel
theorem dX12_reads_25 : decode cX12_reads 25 = .ok (.iconst 3, 1) := by decide +kernel
theorem dX12_reads_26 : decode cX12_reads 26 = .ok (.if_icmp .eq 8, 3) := by decide +kernel
theorem dX12_reads_29 : decode cX12_reads 29 = .ok (.iload_n 2, 1) := by decide +kernel
theorem dX12_reads_30 : decode cX12_reads 30 = .ok (.iconst 5, 1) := by decide +kernel
theorem dX12_reads_31 : decode cX12_reads 31 = .ok (.if_icmp .ne 21, 3) := by decide +kernel
theorem dX12_reads_34 : decode cX12_reads 34 = .ok (.aload_n 0, 1) := by decide +kernel
theorem dX12_reads_35 : decode cX12_reads 35 = .ok (.iload_n 3, 1) := by decide +kernel
theorem dX12_reads_36 : decode cX12_reads 36 = .ok (.invokevirtual 133, 3) := by decide +kernel
theorem dX12_reads_39 : decode cX12_reads 39 = .ok (.ifCond .eq 13, 3) := by decide +kernel
theorem dX12_reads_42 : decode cX12_reads 42 = .ok (.iload_n 3, 1) := by decide +kernel
theorem dX12_reads_43 : decode cX12_reads 43 = .ok (.iload_n 1, 1) := by decide +kernel
theorem dX12_reads_44 : decode cX12_reads 44 = .ok (.if_icmp .eq 8, 3) := by decide +kernel
theorem dX12_reads_47 : decode cX12_reads 47 = .ok (.aload_n 0, 1) := by decide +kernel
theorem dX12_reads_48 : decode cX12_reads 48 = .ok (.iload_n 3, 1) := by decide +kernel
theorem dX12_reads_49 : decode cX12_reads 49 = .ok (.invokevirtual 129, 3) := by decide +kernel
theorem dX12_reads_52 : decode cX12_reads 52 = .ok (.iload_n 2, 1) := by decide +kernel
theorem dX12_reads_53 : decode cX12_reads 53 = .ok (.iconst 1, 1) := by decide +kernel
theorem dX12_reads_54 : decode cX12_reads 54 = .ok (.if_icmp .eq 13, 3) := by decide +kernel
theorem dX12_reads_57 : decode cX12_reads 57 = .ok (.iload_n 2, 1) := by decide +kernel
theorem dX12_reads_58 : decode cX12_reads 58 = .ok (.iconst 4, 1) := by decide +kernel
theorem dX12_reads_59 : decode cX12_reads 59 = .ok (.if_icmp .eq 8, 3) := by decide +kernel
theorem dX12_reads_62 : decode cX12_reads 62 = .ok (.iload_n 2, 1) := by decide +kernel
theorem dX12_reads_63 : decode cX12_reads 63 = .ok (.iconst 5, 1) := by decide +kernel
theorem dX12_reads_64 : decode cX12_reads 64 = .ok (.if_icmp .ne 7, 3) := by decide +kernel
theorem dX12_reads_67 : decode cX12_reads 67 = .ok (.aload_n 0, 1) := by decide +kernel
theorem dX12_reads_68 : decode cX12_reads 68 = .ok (.invokevirtual 136, 3) := by decide +kernel
theorem dX12_reads_71 : decode cX12_reads 71 = .ok (.iload_n 2, 1) := by decide +kernel
theorem dX12_reads_72 : decode cX12_reads 72 = .ok (.iconst 2, 1) := by decide +kernel
theorem dX12_reads_73 : decode cX12_reads 73 = .ok (.if_icmp .ne 53, 3) := by decide +kernel
theorem dX12_reads_76 : decode cX12_reads 76 = .ok (.iconst 0, 1) := by decide +kernel
theorem dX12_reads_77 : decode cX12_reads 77 = .ok (.istore 4, 2) := by decide +kernel
theorem dX12_reads_79 : decode cX12_reads 79 = .ok (.iload 4, 2) := by decide +kernel
theorem dX12_reads_81 : decode cX12_reads 81 = .ok (.aload_n 0, 1) := by decide +kernel
theorem dX12_reads_82 : decode cX12_reads 82 = .ok (.getfield 126, 3) := by decide +kernel
theorem dX12_reads_85 : decode cX12_reads 85 = .ok (.iconst 1, 1) := by decide +kernel
theorem dX12_reads_86 : decode cX12_reads 86 = .ok (.iadd, 1) := by decide +kernel
theorem dX12_reads_87 : decode cX12_reads 87 = .ok (.iconst 2, 1) := by decide +kernel
theorem dX12_reads_88 : decode cX12_reads 88 = .ok (.idiv, 1) := by decide +kernel
theorem dX12_reads_89 : decode cX12_reads 89 = .ok (.if_icmp .ge 25, 3) := by decide +kernel
theorem dX12_reads_92 : decode cX12_reads 92 = .ok (.aload_n 0, 1) := by decide +kernel
theorem dX12_reads_93 : decode cX12_reads 93 = .ok (.getfield 28, 3) := by decide +kernel
theorem dX12_reads_96 : decode cX12_reads 96 = .ok (.iload 4, 2) := by decide +kernel
theorem dX12_reads_98 : decode cX12_reads 98 = .ok (.aload_n 0, 1) := by decide +kernel
theorem dX12_reads_99 : decode cX12_reads 99 = .ok (.getfield 28, 3) := by decide +kernel
theorem dX12_reads_102 : decode cX12_reads 102 = .ok (.iconst 2, 1) := by decide +kernel
theorem dX12_reads_103 : decode cX12_reads 103 = .ok (.iload 4, 2) := by decide +kernel
theorem dX12_reads_105 : decode cX12_reads 105 = .ok (.imul, 1) := by decide +kernel
theorem dX12_reads_106 : decode cX12_reads 106 = .ok (.iaload, 1) := by decide +kernel
theorem dX12_reads_107 : decode cX12_reads 107 = .ok (.iastore, 1) := by decide +kernel
theorem dX12_reads_108 : decode cX12_reads 108 = .ok (.iinc 4 1, 3) := by decide +kernel
theorem dX12_reads_111 : decode cX12_reads 111 = .ok (.goto (-32), 3) := by decide +kernel
theorem dX12_reads_114 : decode cX12_reads 114 = .ok (.aload_n 0, 1) := by decide +kernel
theorem dX12_reads_115 : decode cX12_reads 115 = .ok (.aload_n 0, 1) := by decide +kernel
theorem dX12_reads_116 : decode cX12_reads 116 = .ok (.getfield 126, 3) := by decide +kernel
theorem dX12_reads_119 : decode cX12_reads 119 = .ok (.iconst 1, 1) := by decide +kernel
theorem dX12_reads_120 : decode cX12_reads 120 = .ok (.iadd, 1) := by decide +kernel
theorem dX12_reads_121 : decode cX12_reads 121 = .ok (.iconst 2, 1) := by decide +kernel
theorem dX12_reads_122 : decode cX12_reads 122 = .ok (.idiv, 1) := by decide +kernel
theorem dX12_reads_123 : decode cX12_reads 123 = .ok (.putfield 126, 3) := by decide +kernel
theorem dX12_reads_126 : decode cX12_reads 126 = .ok (.iconst 0, 1) := by decide +kernel
theorem dX12_reads_127 : decode cX12_reads 127 = .ok (.istore 4, 2) := by decide +kernel
theorem dX12_reads_129 : decode cX12_reads 129 = .ok (.iload 4, 2) := by decide +kernel
theorem dX12_reads_131 : decode cX12_reads 131 = .ok (.aload_n 0, 1) := by decide +kernel
theorem dX12_reads_132 : decode cX12_reads 132 = .ok (.getfield 126, 3) := by decide +kernel
theorem dX12_reads_135 : decode cX12_reads 135 = .ok (.if_icmp .ge 115, 3) := by decide +kernel
theorem dX12_reads_138 : decode cX12_reads 138 = .ok (.iload_n 2, 1) := by decide +kernel
theorem dX12_reads_139 : decode cX12_reads 139 = .ok (.iconst 4, 1) := by decide +kernel
theorem dX12_reads_140 : decode cX12_reads 140 = .ok (.if_icmp .ne 20, 3) := by decide +kernel
theorem dX12_reads_143 : decode cX12_reads 143 = .ok (.aload_n 0, 1) := by decide +kernel
theorem dX12_reads_144 : decode cX12_reads 144 = .ok (.getfield 28, 3) := by decide +kernel
theorem dX12_reads_147 : decode cX12_reads 147 = .ok (.iload 4, 2) := by decide +kernel
theorem dX12_reads_149 : decode cX12_reads 149 = .ok (.bipush 27, 2) := by decide +kernel
theorem dX12_reads_151 : decode cX12_reads 151 = .ok (.aload_n 0, 1) := by decide +kernel
theorem dX12_reads_152 : decode cX12_reads 152 = .ok (.getfield 28, 3) := by decide +kernel
theorem dX12_reads_155 : decode cX12_reads 155 = .ok (.iload 4, 2) := by decide +kernel
theorem dX12_reads_157 : decode cX12_reads 157 = .ok (.iaload, 1) := by decide +kernel
theorem dX12_reads_158 : decode cX12_reads 158 = .ok (.isub, 1) := by decide +kernel
theorem dX12_reads_159 : decode cX12_reads 159 = .ok (.iastore, 1) := by decide +kernel
theorem dX12_reads_160 : decode cX12_reads 160 = .ok (.iload_n 2, 1) := by decide +kernel
theorem dX12_reads_161 : decode cX12_reads 161 = .ok (.bipush 6, 2) := by decide +kernel
theorem dX12_reads_163 : decode cX12_reads 163 = .ok (.if_icmp .ne 81, 3) := by decide +kernel
theorem dX12_reads_166 : decode cX12_reads 166 = .ok (.aload_n 0, 1) := by decide +kernel
theorem dX12_reads_167 : decode cX12_reads 167 = .ok (.iconst 0, 1) := by decide +kernel
theorem dX12_reads_168 : decode cX12_reads 168 = .ok (.invokevirtual 117, 3) := by decide +kernel
theorem dX12_reads_171 : decode cX12_reads 171 = .ok (.ifCond .eq 73, 3) := by decide +kernel
theorem dX12_reads_174 : decode cX12_reads 174 = .ok (.aload_n 0, 1) := by decide +kernel
theorem dX12_reads_175 : decode cX12_reads 175 = .ok (.getfield 22, 3) := by decide +kernel
theorem dX12_reads_178 : decode cX12_reads 178 = .ok (.bipush 108, 2) := by decide +kernel
theorem dX12_reads_180 : decode cX12_reads 180 = .ok (.aload_n 0, 1) := by decide +kernel
theorem dX12_reads_181 : decode cX12_reads 181 = .ok (.getfield 28, 3) := by decide +kernel
theorem dX12_reads_184 : decode cX12_reads 184 = .ok (.iload 4, 2) := by decide +kernel
theorem dX12_reads_186 : decode cX12_reads 186 = .ok (.iaload, 1) := by decide +kernel
theorem dX12_reads_187 : decode cX12_reads 187 = .ok (.iastore, 1) := by decide +kernel
theorem dX12_reads_188 : decode cX12_reads 188 = .ok (.aload_n 0, 1) := by decide +kernel
theorem dX12_reads_189 : decode cX12_reads 189 = .ok (.getfield 22, 3) := by decide +kernel
theorem dX12_reads_192 : decode cX12_reads 192 = .ok (.bipush 105, 2) := by decide +kernel
theorem dX12_reads_194 : decode cX12_reads 194 = .ok (.iload 4, 2) := by decide +kernel
theorem dX12_reads_196 : decode cX12_reads 196 = .ok (.iastore, 1) := by decide +kernel
theorem dX12_reads_197 : decode cX12_reads 197 = .ok (.aload_n 0, 1) := by decide +kernel
theorem dX12_reads_198 : decode cX12_reads 198 = .ok (.getfield 22, 3) := by decide +kernel
theorem dX12_reads_201 : decode cX12_reads 201 = .ok (.bipush 110, 2) := by decide +kernel
theorem dX12_reads_203 : decode cX12_reads 203 = .ok (.aload_n 0, 1) := by decide +kernel
theorem dX12_reads_204 : decode cX12_reads 204 = .ok (.getfield 126, 3) := by decide +kernel
theorem dX12_reads_207 : decode cX12_reads 207 = .ok (.iastore, 1) := by decide +kernel
theorem dX12_reads_208 : decode cX12_reads 208 = .ok (.aload_n 0, 1) := by decide +kernel
theorem dX12_reads_209 : decode cX12_reads 209 = .ok (.getfield 22, 3) := by decide +kernel
theorem dX12_reads_212 : decode cX12_reads 212 = .ok (.bipush 109, 2) := by decide +kernel
theorem dX12_reads_214 : decode cX12_reads 214 = .ok (.iload_n 3, 1) := by decide +kernel
theorem dX12_reads_215 : decode cX12_reads 215 = .ok (.iastore, 1) := by decide +kernel
theorem dX12_reads_216 : decode cX12_reads 216 = .ok (.aload_n 0, 1) := by decide +kernel
theorem dX12_reads_217 : decode cX12_reads 217 = .ok (.iconst 0, 1) := by decide +kernel
theorem dX12_reads_218 : decode cX12_reads 218 = .ok (.invokevirtual 139, 3) := by decide +kernel
theorem dX12_reads_221 : decode cX12_reads 221 = .ok (.istore 5, 2) := by decide +kernel
theorem dX12_reads_223 : decode cX12_reads 223 = .ok (.aload_n 0, 1) := by decide +kernel
theorem dX12_reads_224 : decode cX12_reads 224 = .ok (.getfield 28, 3) := by decide +kernel
theorem dX12_reads_227 : decode cX12_reads 227 = .ok (.iload 4, 2) := by decide +kernel
theorem dX12_reads_229 : decode cX12_reads 229 = .ok (.iload 5, 2) := by decide +kernel
theorem dX12_reads_231 : decode cX12_reads 231 = .ok (.invokestatic 142, 3) := by decide +kernel
theorem dX12_reads_234 : decode cX12_reads 234 = .ok (.ifCond .eq 8, 3) := by decide +kernel
theorem dX12_reads_237 : decode cX12_reads 237 = .ok (.iload 5, 2) := by decide +kernel
theorem dX12_reads_239 : decode cX12_reads 239 = .ok (.goto 4, 3) := by decide +kernel
theorem dX12_reads_242 : decode cX12_reads 242 = .ok (.iconst 1, 1) := by decide +kernel
theorem dX12_reads_243 : decode cX12_reads 243 = .ok (.iastore, 1) := by decide +kernel
theorem dX12_reads_244 : decode cX12_reads 244 = .ok (.iinc 4 1, 3) := by decide +kernel
theorem dX12_reads_247 : decode cX12_reads 247 = .ok (.goto (-118), 3) := by decide +kernel
theorem dX12_reads_250 : decode cX12_reads 250 = .ok (.return_, 1) := by decide +kernel
theorem dX12_behind_0 : decode cX12_behind 0 = .ok (.iload_n 0, 1) := by decide +kernel
theorem dX12_behind_1 : decode cX12_behind 1 = .ok (.tableswitch 83 0 3 #[31, 41, 52, 72], 31) := by decide +kernel
theorem dX12_behind_32 : decode cX12_behind 32 = .ok (.iload_n 1, 1) := by decide +kernel
theorem dX12_behind_33 : decode cX12_behind 33 = .ok (.ifCond .ne 7, 3) := by decide +kernel
theorem dX12_behind_36 : decode cX12_behind 36 = .ok (.iconst 1, 1) := by decide +kernel
theorem dX12_behind_37 : decode cX12_behind 37 = .ok (.goto 4, 3) := by decide +kernel
theorem dX12_behind_40 : decode cX12_behind 40 = .ok (.iconst (-1), 1) := by decide +kernel
theorem dX12_behind_41 : decode cX12_behind 41 = .ok (.ireturn, 1) := by decide +kernel
theorem dX12_behind_42 : decode cX12_behind 42 = .ok (.iload_n 1, 1) := by decide +kernel
theorem dX12_behind_43 : decode cX12_behind 43 = .ok (.iconst 1, 1) := by decide +kernel
theorem dX12_behind_44 : decode cX12_behind 44 = .ok (.if_icmp .ne 7, 3) := by decide +kernel
theorem dX12_behind_47 : decode cX12_behind 47 = .ok (.iconst 2, 1) := by decide +kernel
theorem dX12_behind_48 : decode cX12_behind 48 = .ok (.goto 4, 3) := by decide +kernel
theorem dX12_behind_51 : decode cX12_behind 51 = .ok (.iconst (-1), 1) := by decide +kernel
theorem dX12_behind_52 : decode cX12_behind 52 = .ok (.ireturn, 1) := by decide +kernel
theorem dX12_behind_53 : decode cX12_behind 53 = .ok (.iload_n 1, 1) := by decide +kernel
theorem dX12_behind_54 : decode cX12_behind 54 = .ok (.iconst 2, 1) := by decide +kernel
theorem dX12_behind_55 : decode cX12_behind 55 = .ok (.if_icmp .ne 7, 3) := by decide +kernel
theorem dX12_behind_58 : decode cX12_behind 58 = .ok (.iconst 3, 1) := by decide +kernel
theorem dX12_behind_59 : decode cX12_behind 59 = .ok (.goto 13, 3) := by decide +kernel
theorem dX12_behind_62 : decode cX12_behind 62 = .ok (.iload_n 1, 1) := by decide +kernel
theorem dX12_behind_63 : decode cX12_behind 63 = .ok (.iconst 3, 1) := by decide +kernel
theorem dX12_behind_64 : decode cX12_behind 64 = .ok (.if_icmp .ne 7, 3) := by decide +kernel
theorem dX12_behind_67 : decode cX12_behind 67 = .ok (.iconst 4, 1) := by decide +kernel
theorem dX12_behind_68 : decode cX12_behind 68 = .ok (.goto 4, 3) := by decide +kernel
theorem dX12_behind_71 : decode cX12_behind 71 = .ok (.iconst (-1), 1) := by decide +kernel
theorem dX12_behind_72 : decode cX12_behind 72 = .ok (.ireturn, 1) := by decide +kernel
theorem dX12_behind_73 : decode cX12_behind 73 = .ok (.iload_n 1, 1) := by decide +kernel
theorem dX12_behind_74 : decode cX12_behind 74 = .ok (.iconst 3, 1) := by decide +kernel
theorem dX12_behind_75 : decode cX12_behind 75 = .ok (.if_icmp .ne 7, 3) := by decide +kernel
theorem dX12_behind_78 : decode cX12_behind 78 = .ok (.iconst 4, 1) := by decide +kernel
theorem dX12_behind_79 : decode cX12_behind 79 = .ok (.goto 4, 3) := by decide +kernel
theorem dX12_behind_82 : decode cX12_behind 82 = .ok (.iconst (-1), 1) := by decide +kernel
theorem dX12_behind_83 : decode cX12_behind 83 = .ok (.ireturn, 1) := by decide +kernel
theorem dX12_behind_84 : decode cX12_behind 84 = .ok (.iload_n 1, 1) := by decide +kernel
theorem dX12_behind_85 : decode cX12_behind 85 = .ok (.iconst 4, 1) := by decide +kernel
theorem dX12_behind_86 : decode cX12_behind 86 = .ok (.if_icmp .ne 7, 3) := by decide +kernel
theorem dX12_behind_89 : decode cX12_behind 89 = .ok (.iconst 0, 1) := by decide +kernel
theorem dX12_behind_90 : decode cX12_behind 90 = .ok (.goto 4, 3) := by decide +kernel
theorem dX12_behind_93 : decode cX12_behind 93 = .ok (.iconst (-1), 1) := by decide +kernel
theorem dX12_behind_94 : decode cX12_behind 94 = .ok (.ireturn, 1) := by decide +kernel
theorem dX12_unlike_0 : decode cX12_unlike 0 = .ok (.aload_n 0, 1) := by decide +kernel
theorem dX12_unlike_1 : decode cX12_unlike 1 = .ok (.iload_n 1, 1) := by decide +kernel
theorem dX12_unlike_2 : decode cX12_unlike 2 = .ok (.invokevirtual 145, 3) := by decide +kernel
theorem dX12_unlike_5 : decode cX12_unlike 5 = .ok (.istore_n 3, 1) := by decide +kernel
theorem dX12_unlike_6 : decode cX12_unlike 6 = .ok (.iload_n 2, 1) := by decide +kernel
theorem dX12_unlike_7 : decode cX12_unlike 7 = .ok (.iload_n 3, 1) := by decide +kernel
theorem dX12_unlike_8 : decode cX12_unlike 8 = .ok (.iadd, 1) := by decide +kernel
theorem dX12_unlike_9 : decode cX12_unlike 9 = .ok (.aload_n 0, 1) := by decide +kernel
theorem dX12_unlike_10 : decode cX12_unlike 10 = .ok (.getfield 126, 3) := by decide +kernel
theorem dX12_unlike_13 : decode cX12_unlike 13 = .ok (.if_icmp .le 7, 3) := by decide +kernel
theorem dX12_unlike_16 : decode cX12_unlike 16 = .ok (.sipush 9999, 3) := by decide +kernel
theorem dX12_unlike_19 : decode cX12_unlike 19 = .ok (.ireturn, 1) := by decide +kernel
theorem dX12_unlike_20 : decode cX12_unlike 20 = .ok (.iconst 0, 1) := by decide +kernel
theorem dX12_unlike_21 : decode cX12_unlike 21 = .ok (.istore 4, 2) := by decide +kernel
theorem dX12_unlike_23 : decode cX12_unlike 23 = .ok (.iconst 0, 1) := by decide +kernel
theorem dX12_unlike_24 : decode cX12_unlike 24 = .ok (.istore 5, 2) := by decide +kernel
theorem dX12_unlike_26 : decode cX12_unlike 26 = .ok (.iload 5, 2) := by decide +kernel
theorem dX12_unlike_28 : decode cX12_unlike 28 = .ok (.iload_n 3, 1) := by decide +kernel
theorem dX12_unlike_29 : decode cX12_unlike 29 = .ok (.if_icmp .ge 38, 3) := by decide +kernel
theorem dX12_unlike_32 : decode cX12_unlike 32 = .ok (.iload 4, 2) := by decide +kernel
theorem dX12_unlike_34 : decode cX12_unlike 34 = .ok (.aload_n 0, 1) := by decide +kernel
theorem dX12_unlike_35 : decode cX12_unlike 35 = .ok (.getfield 28, 3) := by decide +kernel
theorem dX12_unlike_38 : decode cX12_unlike 38 = .ok (.iload_n 2, 1) := by decide +kernel
theorem dX12_unlike_39 : decode cX12_unlike 39 = .ok (.iload 5, 2) := by decide +kernel
theorem dX12_unlike_41 : decode cX12_unlike 41 = .ok (.iadd, 1) := by decide +kernel
theorem dX12_unlike_42 : decode cX12_unlike 42 = .ok (.iaload, 1) := by decide +kernel
theorem dX12_unlike_43 : decode cX12_unlike 43 = .ok (.aload_n 0, 1) := by decide +kernel
theorem dX12_unlike_44 : decode cX12_unlike 44 = .ok (.iload_n 1, 1) := by decide +kernel
theorem dX12_unlike_45 : decode cX12_unlike 45 = .ok (.iload 5, 2) := by decide +kernel
theorem dX12_unlike_47 : decode cX12_unlike 47 = .ok (.invokevirtual 148, 3) := by decide +kernel
theorem dX12_unlike_50 : decode cX12_unlike 50 = .ok (.if_icmp .ne 7, 3) := by decide +kernel
theorem dX12_unlike_53 : decode cX12_unlike 53 = .ok (.iconst 0, 1) := by decide +kernel
theorem dX12_unlike_54 : decode cX12_unlike 54 = .ok (.goto 4, 3) := by decide +kernel
theorem dX12_unlike_57 : decode cX12_unlike 57 = .ok (.iconst 1, 1) := by decide +kernel
theorem dX12_unlike_58 : decode cX12_unlike 58 = .ok (.iadd, 1) := by decide +kernel
theorem dX12_unlike_59 : decode cX12_unlike 59 = .ok (.istore 4, 2) := by decide +kernel
theorem dX12_unlike_61 : decode cX12_unlike 61 = .ok (.iinc 5 1, 3) := by decide +kernel
theorem dX12_unlike_64 : decode cX12_unlike 64 = .ok (.goto (-38), 3) := by decide +kernel
theorem dX12_unlike_67 : decode cX12_unlike 67 = .ok (.iload 4, 2) := by decide +kernel
theorem dX12_unlike_69 : decode cX12_unlike 69 = .ok (.ireturn, 1) := by decide +kernel
theorem dX12_findWays_0 : decode cX12_findWays 0 = .ok (.iconst 0, 1) := by decide +kernel
theorem dX12_findWays_1 : decode cX12_findWays 1 = .ok (.istore_n 1, 1) := by decide +kernel
theorem dX12_findWays_2 : decode cX12_findWays 2 = .ok (.iload_n 1, 1) := by decide +kernel
theorem dX12_findWays_3 : decode cX12_findWays 3 = .ok (.iconst 5, 1) := by decide +kernel
theorem dX12_findWays_4 : decode cX12_findWays 4 = .ok (.if_icmp .ge 32, 3) := by decide +kernel
theorem dX12_findWays_7 : decode cX12_findWays 7 = .ok (.aload_n 0, 1) := by decide +kernel
theorem dX12_findWays_8 : decode cX12_findWays 8 = .ok (.getfield 31, 3) := by decide +kernel
theorem dX12_findWays_11 : decode cX12_findWays 11 = .ok (.iconst 5, 1) := by decide +kernel
theorem dX12_findWays_12 : decode cX12_findWays 12 = .ok (.aload_n 0, 1) := by decide +kernel
theorem dX12_findWays_13 : decode cX12_findWays 13 = .ok (.getfield 126, 3) := by decide +kernel
theorem dX12_findWays_16 : decode cX12_findWays 16 = .ok (.imul, 1) := by decide +kernel
theorem dX12_findWays_17 : decode cX12_findWays 17 = .ok (.iload_n 1, 1) := by decide +kernel
theorem dX12_findWays_18 : decode cX12_findWays 18 = .ok (.iadd, 1) := by decide +kernel
theorem dX12_findWays_19 : decode cX12_findWays 19 = .ok (.iload_n 1, 1) := by decide +kernel
theorem dX12_findWays_20 : decode cX12_findWays 20 = .ok (.iconst 4, 1) := by decide +kernel
theorem dX12_findWays_21 : decode cX12_findWays 21 = .ok (.if_icmp .ne 7, 3) := by decide +kernel
theorem dX12_findWays_24 : decode cX12_findWays 24 = .ok (.iconst 1, 1) := by decide +kernel
theorem dX12_findWays_25 : decode cX12_findWays 25 = .ok (.goto 4, 3) := by decide +kernel
theorem dX12_findWays_28 : decode cX12_findWays 28 = .ok (.iconst 0, 1) := by decide +kernel
theorem dX12_findWays_29 : decode cX12_findWays 29 = .ok (.iastore, 1) := by decide +kernel
theorem dX12_findWays_30 : decode cX12_findWays 30 = .ok (.iinc 1 1, 3) := by decide +kernel
theorem dX12_findWays_33 : decode cX12_findWays 33 = .ok (.goto (-31), 3) := by decide +kernel
theorem dX12_findWays_36 : decode cX12_findWays 36 = .ok (.aload_n 0, 1) := by decide +kernel
theorem dX12_findWays_37 : decode cX12_findWays 37 = .ok (.getfield 126, 3) := by decide +kernel
theorem dX12_findWays_40 : decode cX12_findWays 40 = .ok (.iconst 1, 1) := by decide +kernel
theorem dX12_findWays_41 : decode cX12_findWays 41 = .ok (.isub, 1) := by decide +kernel
theorem dX12_findWays_42 : decode cX12_findWays 42 = .ok (.istore_n 1, 1) := by decide +kernel
theorem dX12_findWays_43 : decode cX12_findWays 43 = .ok (.iload_n 1, 1) := by decide +kernel
theorem dX12_findWays_44 : decode cX12_findWays 44 = .ok (.ifCond .lt 110, 3) := by decide +kernel
theorem dX12_findWays_47 : decode cX12_findWays 47 = .ok (.iconst 0, 1) := by decide +kernel
theorem dX12_findWays_48 : decode cX12_findWays 48 = .ok (.istore_n 2, 1) := by decide +kernel
theorem dX12_findWays_49 : decode cX12_findWays 49 = .ok (.iload_n 2, 1) := by decide +kernel
theorem dX12_findWays_50 : decode cX12_findWays 50 = .ok (.iconst 5, 1) := by decide +kernel
theorem dX12_findWays_51 : decode cX12_findWays 51 = .ok (.if_icmp .ge 97, 3) := by decide +kernel
theorem dX12_findWays_54 : decode cX12_findWays 54 = .ok (.iconst 0, 1) := by decide +kernel
theorem dX12_findWays_55 : decode cX12_findWays 55 = .ok (.istore_n 3, 1) := by decide +kernel
theorem dX12_findWays_56 : decode cX12_findWays 56 = .ok (.iconst 0, 1) := by decide +kernel
theorem dX12_findWays_57 : decode cX12_findWays 57 = .ok (.istore 4, 2) := by decide +kernel
theorem dX12_findWays_59 : decode cX12_findWays 59 = .ok (.iload 4, 2) := by decide +kernel
theorem dX12_findWays_61 : decode cX12_findWays 61 = .ok (.aload_n 0, 1) := by decide +kernel
theorem dX12_findWays_62 : decode cX12_findWays 62 = .ok (.getfield 7, 3) := by decide +kernel
theorem dX12_findWays_65 : decode cX12_findWays 65 = .ok (.iconst 1, 1) := by decide +kernel
theorem dX12_findWays_66 : decode cX12_findWays 66 = .ok (.iaload, 1) := by decide +kernel
theorem dX12_findWays_67 : decode cX12_findWays 67 = .ok (.if_icmp .ge 64, 3) := by decide +kernel
theorem dX12_findWays_70 : decode cX12_findWays 70 = .ok (.iload_n 2, 1) := by decide +kernel
theorem dX12_findWays_71 : decode cX12_findWays 71 = .ok (.aload_n 0, 1) := by decide +kernel
theorem dX12_findWays_72 : decode cX12_findWays 72 = .ok (.iload 4, 2) := by decide +kernel
theorem dX12_findWays_74 : decode cX12_findWays 74 = .ok (.invokevirtual 151, 3) := by decide +kernel
theorem dX12_findWays_77 : decode cX12_findWays 77 = .ok (.invokestatic 154, 3) := by decide +kernel
theorem dX12_findWays_80 : decode cX12_findWays 80 = .ok (.istore 5, 2) := by decide +kernel
theorem dX12_findWays_82 : decode cX12_findWays 82 = .ok (.iload 5, 2) := by decide +kernel
theorem dX12_findWays_84 : decode cX12_findWays 84 = .ok (.iconst (-1), 1) := by decide +kernel
theorem dX12_findWays_85 : decode cX12_findWays 85 = .ok (.if_icmp .eq 40, 3) := by decide +kernel
theorem dX12_findWays_88 : decode cX12_findWays 88 = .ok (.aload_n 0, 1) := by decide +kernel
theorem dX12_findWays_89 : decode cX12_findWays 89 = .ok (.iload 4, 2) := by decide +kernel
theorem dX12_findWays_91 : decode cX12_findWays 91 = .ok (.iload_n 1, 1) := by decide +kernel
theorem dX12_findWays_92 : decode cX12_findWays 92 = .ok (.invokevirtual 157, 3) := by decide +kernel
theorem dX12_findWays_95 : decode cX12_findWays 95 = .ok (.ifCond .ne 30, 3) := by decide +kernel
theorem dX12_findWays_98 : decode cX12_findWays 98 = .ok (.iload_n 3, 1) := by decide +kernel
theorem dX12_findWays_99 : decode cX12_findWays 99 = .ok (.aload_n 0, 1) := by decide +kernel
theorem dX12_findWays_100 : decode cX12_findWays 100 = .ok (.getfield 31, 3) := by decide +kernel
theorem dX12_findWays_103 : decode cX12_findWays 103 = .ok (.iconst 5, 1) := by decide +kernel
theorem dX12_findWays_104 : decode cX12_findWays 104 = .ok (.iload_n 1, 1) := by decide +kernel
theorem dX12_findWays_105 : decode cX12_findWays 105 = .ok (.aload_n 0, 1) := by decide +kernel
theorem dX12_findWays_106 : decode cX12_findWays 106 = .ok (.iload 4, 2) := by decide +kernel
theorem dX12_findWays_108 : decode cX12_findWays 108 = .ok (.invokevirtual 145, 3) := by decide +kernel
theorem dX12_findWays_111 : decode cX12_findWays 111 = .ok (.iadd, 1) := by decide +kernel
theorem dX12_findWays_112 : decode cX12_findWays 112 = .ok (.imul, 1) := by decide +kernel
theorem dX12_findWays_113 : decode cX12_findWays 113 = .ok (.iload 5, 2) := by decide +kernel
theorem dX12_findWays_115 : decode cX12_findWays 115 = .ok (.iadd, 1) := by decide +kernel
theorem dX12_findWays_116 : decode cX12_findWays 116 = .ok (.iaload, 1) := by decide +kernel
theorem dX12_findWays_117 : decode cX12_findWays 117 = .ok (.iadd, 1) := by decide +kernel
theorem dX12_findWays_118 : decode cX12_findWays 118 = .ok (.iconst 0, 1) := by decide +kernel
theorem dX12_findWays_119 : decode cX12_findWays 119 = .ok (.ldc 160, 2) := by decide +kernel
theorem dX12_findWays_121 : decode cX12_findWays 121 = .ok (.invokestatic 161, 3) := by decide +kernel
theorem dX12_findWays_124 : decode cX12_findWays 124 = .ok (.istore_n 3, 1) := by decide +kernel
theorem dX12_findWays_125 : decode cX12_findWays 125 = .ok (.iinc 4 1, 3) := by decide +kernel
theorem dX12_findWays_128 : decode cX12_findWays 128 = .ok (.goto (-69), 3) := by decide +kernel
theorem dX12_findWays_131 : decode cX12_findWays 131 = .ok (.aload_n 0, 1) := by decide +kernel
theorem dX12_findWays_132 : decode cX12_findWays 132 = .ok (.getfield 31, 3) := by decide +kernel
theorem dX12_findWays_135 : decode cX12_findWays 135 = .ok (.iconst 5, 1) := by decide +kernel
theorem dX12_findWays_136 : decode cX12_findWays 136 = .ok (.iload_n 1, 1) := by decide +kernel
theorem dX12_findWays_137 : decode cX12_findWays 137 = .ok (.imul, 1) := by decide +kernel
theorem dX12_findWays_138 : decode cX12_findWays 138 = .ok (.iload_n 2, 1) := by decide +kernel
theorem dX12_findWays_139 : decode cX12_findWays 139 = .ok (.iadd, 1) := by decide +kernel
theorem dX12_findWays_140 : decode cX12_findWays 140 = .ok (.iload_n 3, 1) := by decide +kernel
theorem dX12_findWays_141 : decode cX12_findWays 141 = .ok (.iastore, 1) := by decide +kernel
theorem dX12_findWays_142 : decode cX12_findWays 142 = .ok (.iinc 2 1, 3) := by decide +kernel
theorem dX12_findWays_145 : decode cX12_findWays 145 = .ok (.goto (-96), 3) := by decide +kernel
theorem dX12_findWays_148 : decode cX12_findWays 148 = .ok (.iinc 1 (-1), 3) := by decide +kernel
theorem dX12_findWays_151 : decode cX12_findWays 151 = .ok (.goto (-108), 3) := by decide +kernel
theorem dX12_findWays_154 : decode cX12_findWays 154 = .ok (.aload_n 0, 1) := by decide +kernel
theorem dX12_findWays_155 : decode cX12_findWays 155 = .ok (.getfield 31, 3) := by decide +kernel
theorem dX12_findWays_158 : decode cX12_findWays 158 = .ok (.iconst 0, 1) := by decide +kernel
theorem dX12_findWays_159 : decode cX12_findWays 159 = .ok (.iaload, 1) := by decide +kernel
theorem dX12_findWays_160 : decode cX12_findWays 160 = .ok (.ireturn, 1) := by decide +kernel
theorem dX12_doesRead_0 : decode cX12_doesRead 0 = .ok (.aload_n 0, 1) := by decide +kernel
theorem dX12_doesRead_1 : decode cX12_doesRead 1 = .ok (.iload_n 1, 1) := by decide +kernel
theorem dX12_doesRead_2 : decode cX12_doesRead 2 = .ok (.invokevirtual 164, 3) := by decide +kernel
theorem dX12_doesRead_5 : decode cX12_doesRead 5 = .ok (.aload_n 0, 1) := by decide +kernel
theorem dX12_doesRead_6 : decode cX12_doesRead 6 = .ok (.getfield 126, 3) := by decide +kernel
theorem dX12_doesRead_9 : decode cX12_doesRead 9 = .ok (.ifCond .le 14, 3) := by decide +kernel
theorem dX12_doesRead_12 : decode cX12_doesRead 12 = .ok (.aload_n 0, 1) := by decide +kernel
theorem dX12_doesRead_13 : decode cX12_doesRead 13 = .ok (.invokevirtual 167, 3) := by decide +kernel
theorem dX12_doesRead_16 : decode cX12_doesRead 16 = .ok (.ifCond .le 7, 3) := by decide +kernel
theorem dX12_doesRead_19 : decode cX12_doesRead 19 = .ok (.iconst 1, 1) := by decide +kernel
theorem dX12_doesRead_20 : decode cX12_doesRead 20 = .ok (.goto 4, 3) := by decide +kernel
theorem dX12_doesRead_23 : decode cX12_doesRead 23 = .ok (.iconst 0, 1) := by decide +kernel
theorem dX12_doesRead_24 : decode cX12_doesRead 24 = .ok (.ireturn, 1) := by decide +kernel
theorem dX12_stuck_0 : decode cX12_stuck 0 = .ok (.iconst 0, 1) := by decide +kernel
theorem dX12_stuck_1 : decode cX12_stuck 1 = .ok (.istore_n 1, 1) := by decide +kernel
theorem dX12_stuck_2 : decode cX12_stuck 2 = .ok (.iconst 0, 1) := by decide +kernel
theorem dX12_stuck_3 : decode cX12_stuck 3 = .ok (.istore_n 2, 1) := by decide +kernel
theorem dX12_stuck_4 : decode cX12_stuck 4 = .ok (.iload_n 2, 1) := by decide +kernel
theorem dX12_stuck_5 : decode cX12_stuck 5 = .ok (.aload_n 0, 1) := by decide +kernel
theorem dX12_stuck_6 : decode cX12_stuck 6 = .ok (.getfield 126, 3) := by decide +kernel
theorem dX12_stuck_9 : decode cX12_stuck 9 = .ok (.if_icmp .gt 24, 3) := by decide +kernel
theorem dX12_stuck_12 : decode cX12_stuck 12 = .ok (.aload_n 0, 1) := by decide +kernel
theorem dX12_stuck_13 : decode cX12_stuck 13 = .ok (.getfield 31, 3) := by decide +kernel
theorem dX12_stuck_16 : decode cX12_stuck 16 = .ok (.iload_n 2, 1) := by decide +kernel
theorem dX12_stuck_17 : decode cX12_stuck 17 = .ok (.iload_n 2, 1) := by decide +kernel
theorem dX12_stuck_18 : decode cX12_stuck 18 = .ok (.ifCond .ne 7, 3) := by decide +kernel
theorem dX12_stuck_21 : decode cX12_stuck 21 = .ok (.iconst 1, 1) := by decide +kernel
theorem dX12_stuck_22 : decode cX12_stuck 22 = .ok (.goto 4, 3) := by decide +kernel
theorem dX12_stuck_25 : decode cX12_stuck 25 = .ok (.iconst 0, 1) := by decide +kernel
theorem dX12_stuck_26 : decode cX12_stuck 26 = .ok (.iastore, 1) := by decide +kernel
theorem dX12_stuck_27 : decode cX12_stuck 27 = .ok (.iinc 2 1, 3) := by decide +kernel
theorem dX12_stuck_30 : decode cX12_stuck 30 = .ok (.goto (-26), 3) := by decide +kernel
theorem dX12_stuck_33 : decode cX12_stuck 33 = .ok (.iconst 0, 1) := by decide +kernel
theorem dX12_stuck_34 : decode cX12_stuck 34 = .ok (.istore_n 2, 1) := by decide +kernel
theorem dX12_stuck_35 : decode cX12_stuck 35 = .ok (.iload_n 2, 1) := by decide +kernel
theorem dX12_stuck_36 : decode cX12_stuck 36 = .ok (.aload_n 0, 1) := by decide +kernel
theorem dX12_stuck_37 : decode cX12_stuck 37 = .ok (.getfield 126, 3) := by decide +kernel
theorem dX12_stuck_40 : decode cX12_stuck 40 = .ok (.if_icmp .gt 127, 3) := by decide +kernel
theorem dX12_stuck_43 : decode cX12_stuck 43 = .ok (.aload_n 0, 1) := by decide +kernel
theorem dX12_stuck_44 : decode cX12_stuck 44 = .ok (.getfield 31, 3) := by decide +kernel
theorem dX12_stuck_47 : decode cX12_stuck 47 = .ok (.iload_n 2, 1) := by decide +kernel
theorem dX12_stuck_48 : decode cX12_stuck 48 = .ok (.iaload, 1) := by decide +kernel
theorem dX12_stuck_49 : decode cX12_stuck 49 = .ok (.ifCond .eq 7, 3) := by decide +kernel
theorem dX12_stuck_52 : decode cX12_stuck 52 = .ok (.iload_n 2, 1) := by decide +kernel
theorem dX12_stuck_53 : decode cX12_stuck 53 = .ok (.goto 4, 3) := by decide +kernel
theorem dX12_stuck_56 : decode cX12_stuck 56 = .ok (.iload_n 1, 1) := by decide +kernel
theorem dX12_stuck_57 : decode cX12_stuck 57 = .ok (.istore_n 1, 1) := by decide +kernel
theorem dX12_stuck_58 : decode cX12_stuck 58 = .ok (.iconst 0, 1) := by decide +kernel
theorem dX12_stuck_59 : decode cX12_stuck 59 = .ok (.istore_n 3, 1) := by decide +kernel
theorem dX12_stuck_60 : decode cX12_stuck 60 = .ok (.iload_n 3, 1) := by decide +kernel
theorem dX12_stuck_61 : decode cX12_stuck 61 = .ok (.aload_n 0, 1) := by decide +kernel
theorem dX12_stuck_62 : decode cX12_stuck 62 = .ok (.getfield 7, 3) := by decide +kernel
theorem dX12_stuck_65 : decode cX12_stuck 65 = .ok (.iconst 1, 1) := by decide +kernel
theorem dX12_stuck_66 : decode cX12_stuck 66 = .ok (.iaload, 1) := by decide +kernel
theorem dX12_stuck_67 : decode cX12_stuck 67 = .ok (.if_icmp .ge 94, 3) := by decide +kernel
theorem dX12_stuck_70 : decode cX12_stuck 70 = .ok (.aload_n 0, 1) := by decide +kernel
theorem dX12_stuck_71 : decode cX12_stuck 71 = .ok (.getfield 31, 3) := by decide +kernel
theorem dX12_stuck_74 : decode cX12_stuck 74 = .ok (.iload_n 2, 1) := by decide +kernel
theorem dX12_stuck_75 : decode cX12_stuck 75 = .ok (.iaload, 1) := by decide +kernel
theorem dX12_stuck_76 : decode cX12_stuck 76 = .ok (.ifCond .eq 85, 3) := by decide +kernel
theorem dX12_stuck_79 : decode cX12_stuck 79 = .ok (.iconst 0, 1) := by decide +kernel
theorem dX12_stuck_80 : decode cX12_stuck 80 = .ok (.istore 4, 2) := by decide +kernel
theorem dX12_stuck_82 : decode cX12_stuck 82 = .ok (.iload 4, 2) := by decide +kernel
theorem dX12_stuck_84 : decode cX12_stuck 84 = .ok (.iconst 5, 1) := by decide +kernel
theorem dX12_stuck_85 : decode cX12_stuck 85 = .ok (.if_icmp .ge 70, 3) := by decide +kernel
theorem dX12_stuck_88 : decode cX12_stuck 88 = .ok (.iload 4, 2) := by decide +kernel
theorem dX12_stuck_90 : decode cX12_stuck 90 = .ok (.aload_n 0, 1) := by decide +kernel
theorem dX12_stuck_91 : decode cX12_stuck 91 = .ok (.iload_n 3, 1) := by decide +kernel
theorem dX12_stuck_92 : decode cX12_stuck 92 = .ok (.invokevirtual 151, 3) := by decide +kernel
theorem dX12_stuck_95 : decode cX12_stuck 95 = .ok (.invokestatic 154, 3) := by decide +kernel
theorem dX12_stuck_98 : decode cX12_stuck 98 = .ok (.istore 5, 2) := by decide +kernel
theorem dX12_stuck_100 : decode cX12_stuck 100 = .ok (.aload_n 0, 1) := by decide +kernel
theorem dX12_stuck_101 : decode cX12_stuck 101 = .ok (.getfield 31, 3) := by decide +kernel
theorem dX12_stuck_104 : decode cX12_stuck 104 = .ok (.iload_n 2, 1) := by decide +kernel
theorem dX12_stuck_105 : decode cX12_stuck 105 = .ok (.iaload, 1) := by decide +kernel
theorem dX12_stuck_106 : decode cX12_stuck 106 = .ok (.iload 4, 2) := by decide +kernel
theorem dX12_stuck_108 : decode cX12_stuck 108 = .ok (.ishr, 1) := by decide +kernel
theorem dX12_stuck_109 : decode cX12_stuck 109 = .ok (.iconst 1, 1) := by decide +kernel
theorem dX12_stuck_110 : decode cX12_stuck 110 = .ok (.iand, 1) := by decide +kernel
theorem dX12_stuck_111 : decode cX12_stuck 111 = .ok (.iconst 1, 1) := by decide +kernel
theorem dX12_stuck_112 : decode cX12_stuck 112 = .ok (.if_icmp .ne 37, 3) := by decide +kernel
theorem dX12_stuck_115 : decode cX12_stuck 115 = .ok (.iload 5, 2) := by decide +kernel
theorem dX12_stuck_117 : decode cX12_stuck 117 = .ok (.iconst (-1), 1) := by decide +kernel
theorem dX12_stuck_118 : decode cX12_stuck 118 = .ok (.if_icmp .eq 31, 3) := by decide +kernel
theorem dX12_stuck_121 : decode cX12_stuck 121 = .ok (.aload_n 0, 1) := by decide +kernel
theorem dX12_stuck_122 : decode cX12_stuck 122 = .ok (.iload_n 3, 1) := by decide +kernel
theorem dX12_stuck_123 : decode cX12_stuck 123 = .ok (.iload_n 2, 1) := by decide +kernel
theorem dX12_stuck_124 : decode cX12_stuck 124 = .ok (.invokevirtual 157, 3) := by decide +kernel
theorem dX12_stuck_127 : decode cX12_stuck 127 = .ok (.ifCond .ne 22, 3) := by decide +kernel
theorem dX12_stuck_130 : decode cX12_stuck 130 = .ok (.aload_n 0, 1) := by decide +kernel
theorem dX12_stuck_131 : decode cX12_stuck 131 = .ok (.getfield 31, 3) := by decide +kernel
theorem dX12_stuck_134 : decode cX12_stuck 134 = .ok (.iload_n 2, 1) := by decide +kernel
theorem dX12_stuck_135 : decode cX12_stuck 135 = .ok (.aload_n 0, 1) := by decide +kernel
theorem dX12_stuck_136 : decode cX12_stuck 136 = .ok (.iload_n 3, 1) := by decide +kernel
theorem dX12_stuck_137 : decode cX12_stuck 137 = .ok (.invokevirtual 145, 3) := by decide +kernel
theorem dX12_stuck_140 : decode cX12_stuck 140 = .ok (.iadd, 1) := by decide +kernel
theorem dX12_stuck_141 : decode cX12_stuck 141 = .ok (.dup2, 1) := by decide +kernel
theorem dX12_stuck_142 : decode cX12_stuck 142 = .ok (.iaload, 1) := by decide +kernel
theorem dX12_stuck_143 : decode cX12_stuck 143 = .ok (.iconst 1, 1) := by decide +kernel
theorem dX12_stuck_144 : decode cX12_stuck 144 = .ok (.iload 5, 2) := by decide +kernel
theorem dX12_stuck_146 : decode cX12_stuck 146 = .ok (.ishl, 1) := by decide +kernel
theorem dX12_stuck_147 : decode cX12_stuck 147 = .ok (.ior, 1) := by decide +kernel
theorem dX12_stuck_148 : decode cX12_stuck 148 = .ok (.iastore, 1) := by decide +kernel
theorem dX12_stuck_149 : decode cX12_stuck 149 = .ok (.iinc 4 1, 3) := by decide +kernel
theorem dX12_stuck_152 : decode cX12_stuck 152 = .ok (.goto (-70), 3) := by decide +kernel
theorem dX12_stuck_155 : decode cX12_stuck 155 = .ok (.iinc 3 1, 3) := by decide +kernel
theorem dX12_stuck_158 : decode cX12_stuck 158 = .ok (.goto (-98), 3) := by decide +kernel
theorem dX12_stuck_161 : decode cX12_stuck 161 = .ok (.iinc 2 1, 3) := by decide +kernel
theorem dX12_stuck_164 : decode cX12_stuck 164 = .ok (.goto (-129), 3) := by decide +kernel
theorem dX12_stuck_167 : decode cX12_stuck 167 = .ok (.iload_n 1, 1) := by decide +kernel
theorem dX12_stuck_168 : decode cX12_stuck 168 = .ok (.ireturn, 1) := by decide +kernel
theorem dX12_findSaid_0 : decode cX12_findSaid 0 = .ok (.aload_n 0, 1) := by decide +kernel
theorem dX12_findSaid_1 : decode cX12_findSaid 1 = .ok (.iconst 0, 1) := by decide +kernel
theorem dX12_findSaid_2 : decode cX12_findSaid 2 = .ok (.putfield 170, 3) := by decide +kernel
theorem dX12_findSaid_5 : decode cX12_findSaid 5 = .ok (.iconst 0, 1) := by decide +kernel
theorem dX12_findSaid_6 : decode cX12_findSaid 6 = .ok (.istore_n 1, 1) := by decide +kernel
theorem dX12_findSaid_7 : decode cX12_findSaid 7 = .ok (.iconst 0, 1) := by decide +kernel
theorem dX12_findSaid_8 : decode cX12_findSaid 8 = .ok (.istore_n 2, 1) := by decide +kernel
theorem dX12_findSaid_9 : decode cX12_findSaid 9 = .ok (.iload_n 1, 1) := by decide +kernel
theorem dX12_findSaid_10 : decode cX12_findSaid 10 = .ok (.aload_n 0, 1) := by decide +kernel
theorem dX12_findSaid_11 : decode cX12_findSaid 11 = .ok (.getfield 126, 3) := by decide +kernel
theorem dX12_findSaid_14 : decode cX12_findSaid 14 = .ok (.if_icmp .ge 123, 3) := by decide +kernel
theorem dX12_findSaid_17 : decode cX12_findSaid 17 = .ok (.iconst 0, 1) := by decide +kernel
theorem dX12_findSaid_18 : decode cX12_findSaid 18 = .ok (.istore_n 3, 1) := by decide +kernel
theorem dX12_findSaid_19 : decode cX12_findSaid 19 = .ok (.iconst 0, 1) := by decide +kernel
theorem dX12_findSaid_20 : decode cX12_findSaid 20 = .ok (.istore 4, 2) := by decide +kernel
theorem dX12_findSaid_22 : decode cX12_findSaid 22 = .ok (.iload 4, 2) := by decide +kernel
theorem dX12_findSaid_24 : decode cX12_findSaid 24 = .ok (.ifCond .ne 72, 3) := by decide +kernel
theorem dX12_findSaid_27 : decode cX12_findSaid 27 = .ok (.iload_n 2, 1) := by decide +kernel
theorem dX12_findSaid_28 : decode cX12_findSaid 28 = .ok (.aload_n 0, 1) := by decide +kernel
theorem dX12_findSaid_29 : decode cX12_findSaid 29 = .ok (.iload_n 3, 1) := by decide +kernel
theorem dX12_findSaid_30 : decode cX12_findSaid 30 = .ok (.invokevirtual 151, 3) := by decide +kernel
theorem dX12_findSaid_33 : decode cX12_findSaid 33 = .ok (.invokestatic 154, 3) := by decide +kernel
theorem dX12_findSaid_36 : decode cX12_findSaid 36 = .ok (.istore 5, 2) := by decide +kernel
theorem dX12_findSaid_38 : decode cX12_findSaid 38 = .ok (.iload 5, 2) := by decide +kernel
theorem dX12_findSaid_40 : decode cX12_findSaid 40 = .ok (.iconst (-1), 1) := by decide +kernel
theorem dX12_findSaid_41 : decode cX12_findSaid 41 = .ok (.if_icmp .eq 36, 3) := by decide +kernel
theorem dX12_findSaid_44 : decode cX12_findSaid 44 = .ok (.aload_n 0, 1) := by decide +kernel
theorem dX12_findSaid_45 : decode cX12_findSaid 45 = .ok (.iload_n 3, 1) := by decide +kernel
theorem dX12_findSaid_46 : decode cX12_findSaid 46 = .ok (.iload_n 1, 1) := by decide +kernel
theorem dX12_findSaid_47 : decode cX12_findSaid 47 = .ok (.invokevirtual 157, 3) := by decide +kernel
theorem dX12_findSaid_50 : decode cX12_findSaid 50 = .ok (.ifCond .ne 27, 3) := by decide +kernel
theorem dX12_findSaid_53 : decode cX12_findSaid 53 = .ok (.aload_n 0, 1) := by decide +kernel
theorem dX12_findSaid_54 : decode cX12_findSaid 54 = .ok (.getfield 31, 3) := by decide +kernel
theorem dX12_findSaid_57 : decode cX12_findSaid 57 = .ok (.iconst 5, 1) := by decide +kernel
theorem dX12_findSaid_58 : decode cX12_findSaid 58 = .ok (.iload_n 1, 1) := by decide +kernel
theorem dX12_findSaid_59 : decode cX12_findSaid 59 = .ok (.aload_n 0, 1) := by decide +kernel
theorem dX12_findSaid_60 : decode cX12_findSaid 60 = .ok (.iload_n 3, 1) := by decide +kernel
theorem dX12_findSaid_61 : decode cX12_findSaid 61 = .ok (.invokevirtual 145, 3) := by decide +kernel
theorem dX12_findSaid_64 : decode cX12_findSaid 64 = .ok (.iadd, 1) := by decide +kernel
theorem dX12_findSaid_65 : decode cX12_findSaid 65 = .ok (.imul, 1) := by decide +kernel
theorem dX12_findSaid_66 : decode cX12_findSaid 66 = .ok (.iload 5, 2) := by decide +kernel
theorem dX12_findSaid_68 : decode cX12_findSaid 68 = .ok (.iadd, 1) := by decide +kernel
theorem dX12_findSaid_69 : decode cX12_findSaid 69 = .ok (.iaload, 1) := by decide +kernel
theorem dX12_findSaid_70 : decode cX12_findSaid 70 = .ok (.ifCond .le 7, 3) := by decide +kernel
theorem dX12_findSaid_73 : decode cX12_findSaid 73 = .ok (.iconst 1, 1) := by decide +kernel
theorem dX12_findSaid_74 : decode cX12_findSaid 74 = .ok (.goto 4, 3) := by decide +kernel
theorem dX12_findSaid_77 : decode cX12_findSaid 77 = .ok (.iconst 0, 1) := by decide +kernel
theorem dX12_findSaid_78 : decode cX12_findSaid 78 = .ok (.istore 4, 2) := by decide +kernel
theorem dX12_findSaid_80 : decode cX12_findSaid 80 = .ok (.iload_n 3, 1) := by decide +kernel
theorem dX12_findSaid_81 : decode cX12_findSaid 81 = .ok (.iload 4, 2) := by decide +kernel
theorem dX12_findSaid_83 : decode cX12_findSaid 83 = .ok (.ifCond .eq 7, 3) := by decide +kernel
theorem dX12_findSaid_86 : decode cX12_findSaid 86 = .ok (.iconst 0, 1) := by decide +kernel
theorem dX12_findSaid_87 : decode cX12_findSaid 87 = .ok (.goto 4, 3) := by decide +kernel
theorem dX12_findSaid_90 : decode cX12_findSaid 90 = .ok (.iconst 1, 1) := by decide +kernel
theorem dX12_findSaid_91 : decode cX12_findSaid 91 = .ok (.iadd, 1) := by decide +kernel
theorem dX12_findSaid_92 : decode cX12_findSaid 92 = .ok (.istore_n 3, 1) := by decide +kernel
theorem dX12_findSaid_93 : decode cX12_findSaid 93 = .ok (.goto (-71), 3) := by decide +kernel
theorem dX12_findSaid_96 : decode cX12_findSaid 96 = .ok (.aload_n 0, 1) := by decide +kernel
theorem dX12_findSaid_97 : decode cX12_findSaid 97 = .ok (.getfield 34, 3) := by decide +kernel
theorem dX12_findSaid_100 : decode cX12_findSaid 100 = .ok (.aload_n 0, 1) := by decide +kernel
theorem dX12_findSaid_101 : decode cX12_findSaid 101 = .ok (.getfield 170, 3) := by decide +kernel
theorem dX12_findSaid_104 : decode cX12_findSaid 104 = .ok (.iload_n 3, 1) := by decide +kernel
theorem dX12_findSaid_105 : decode cX12_findSaid 105 = .ok (.iastore, 1) := by decide +kernel
theorem dX12_findSaid_106 : decode cX12_findSaid 106 = .ok (.aload_n 0, 1) := by decide +kernel
theorem dX12_findSaid_107 : decode cX12_findSaid 107 = .ok (.dup, 1) := by decide +kernel
theorem dX12_findSaid_108 : decode cX12_findSaid 108 = .ok (.getfield 170, 3) := by decide +kernel
theorem dX12_findSaid_111 : decode cX12_findSaid 111 = .ok (.iconst 1, 1) := by decide +kernel
theorem dX12_findSaid_112 : decode cX12_findSaid 112 = .ok (.iadd, 1) := by decide +kernel
theorem dX12_findSaid_113 : decode cX12_findSaid 113 = .ok (.putfield 170, 3) := by decide +kernel
theorem dX12_findSaid_116 : decode cX12_findSaid 116 = .ok (.iload_n 2, 1) := by decide +kernel
theorem dX12_findSaid_117 : decode cX12_findSaid 117 = .ok (.aload_n 0, 1) := by decide +kernel
theorem dX12_findSaid_118 : decode cX12_findSaid 118 = .ok (.iload_n 3, 1) := by decide +kernel
theorem dX12_findSaid_119 : decode cX12_findSaid 119 = .ok (.invokevirtual 151, 3) := by decide +kernel
theorem dX12_findSaid_122 : decode cX12_findSaid 122 = .ok (.invokestatic 154, 3) := by decide +kernel
theorem dX12_findSaid_125 : decode cX12_findSaid 125 = .ok (.istore_n 2, 1) := by decide +kernel
theorem dX12_findSaid_126 : decode cX12_findSaid 126 = .ok (.iload_n 1, 1) := by decide +kernel
theorem dX12_findSaid_127 : decode cX12_findSaid 127 = .ok (.aload_n 0, 1) := by decide +kernel
theorem dX12_findSaid_128 : decode cX12_findSaid 128 = .ok (.iload_n 3, 1) := by decide +kernel
theorem dX12_findSaid_129 : decode cX12_findSaid 129 = .ok (.invokevirtual 145, 3) := by decide +kernel
theorem dX12_findSaid_132 : decode cX12_findSaid 132 = .ok (.iadd, 1) := by decide +kernel
theorem dX12_findSaid_133 : decode cX12_findSaid 133 = .ok (.istore_n 1, 1) := by decide +kernel
theorem dX12_findSaid_134 : decode cX12_findSaid 134 = .ok (.goto (-125), 3) := by decide +kernel
theorem dX12_findSaid_137 : decode cX12_findSaid 137 = .ok (.return_, 1) := by decide +kernel
theorem dX12_wall_0 : decode cX12_wall 0 = .ok (.iload_n 1, 1) := by decide +kernel
theorem dX12_wall_1 : decode cX12_wall 1 = .ok (.iconst 0, 1) := by decide +kernel
theorem dX12_wall_2 : decode cX12_wall 2 = .ok (.bipush 69, 2) := by decide +kernel
theorem dX12_wall_4 : decode cX12_wall 4 = .ok (.invokestatic 56, 3) := by decide +kernel
theorem dX12_wall_7 : decode cX12_wall 7 = .ok (.ifCond .eq 13, 3) := by decide +kernel
theorem dX12_wall_10 : decode cX12_wall 10 = .ok (.iload_n 2, 1) := by decide +kernel
theorem dX12_wall_11 : decode cX12_wall 11 = .ok (.iconst 0, 1) := by decide +kernel
theorem dX12_wall_12 : decode cX12_wall 12 = .ok (.bipush 24, 2) := by decide +kernel
theorem dX12_wall_14 : decode cX12_wall 14 = .ok (.invokestatic 56, 3) := by decide +kernel
theorem dX12_wall_17 : decode cX12_wall 17 = .ok (.ifCond .ne 9, 3) := by decide +kernel
theorem dX12_wall_20 : decode cX12_wall 20 = .ok (.aload_n 0, 1) := by decide +kernel
theorem dX12_wall_21 : decode cX12_wall 21 = .ok (.iconst 1, 1) := by decide +kernel
theorem dX12_wall_22 : decode cX12_wall 22 = .ok (.invokevirtual 64, 3) := by decide +kernel
theorem dX12_wall_25 : decode cX12_wall 25 = .ok (.ireturn, 1) := by decide +kernel
theorem dX12_wall_26 : decode cX12_wall 26 = .ok (.aload_n 0, 1) := by decide +kernel
theorem dX12_wall_27 : decode cX12_wall 27 = .ok (.getfield 7, 3) := by decide +kernel
theorem dX12_wall_30 : decode cX12_wall 30 = .ok (.iconst 0, 1) := by decide +kernel
theorem dX12_wall_31 : decode cX12_wall 31 = .ok (.iaload, 1) := by decide +kernel
theorem dX12_wall_32 : decode cX12_wall 32 = .ok (.bipush 6, 2) := by decide +kernel
theorem dX12_wall_34 : decode cX12_wall 34 = .ok (.if_icmp .ne 9, 3) := by decide +kernel
theorem dX12_wall_37 : decode cX12_wall 37 = .ok (.aload_n 0, 1) := by decide +kernel
theorem dX12_wall_38 : decode cX12_wall 38 = .ok (.iconst 4, 1) := by decide +kernel
theorem dX12_wall_39 : decode cX12_wall 39 = .ok (.invokevirtual 64, 3) := by decide +kernel
theorem dX12_wall_42 : decode cX12_wall 42 = .ok (.ireturn, 1) := by decide +kernel
theorem dX12_wall_43 : decode cX12_wall 43 = .ok (.bipush 8, 2) := by decide +kernel
theorem dX12_wall_45 : decode cX12_wall 45 = .ok (.bipush 27, 2) := by decide +kernel
theorem dX12_wall_47 : decode cX12_wall 47 = .ok (.aload_n 0, 1) := by decide +kernel
theorem dX12_wall_48 : decode cX12_wall 48 = .ok (.getfield 7, 3) := by decide +kernel
theorem dX12_wall_51 : decode cX12_wall 51 = .ok (.iconst 0, 1) := by decide +kernel
theorem dX12_wall_52 : decode cX12_wall 52 = .ok (.iaload, 1) := by decide +kernel
theorem dX12_wall_53 : decode cX12_wall 53 = .ok (.imul, 1) := by decide +kernel
theorem dX12_wall_54 : decode cX12_wall 54 = .ok (.iadd, 1) := by decide +kernel
theorem dX12_wall_55 : decode cX12_wall 55 = .ok (.istore_n 3, 1) := by decide +kernel
theorem dX12_wall_56 : decode cX12_wall 56 = .ok (.iconst 0, 1) := by decide +kernel
theorem dX12_wall_57 : decode cX12_wall 57 = .ok (.istore 4, 2) := by decide +kernel
theorem dX12_wall_59 : decode cX12_wall 59 = .ok (.iload 4, 2) := by decide +kernel
theorem dX12_wall_61 : decode cX12_wall 61 = .ok (.bipush 27, 2) := by decide +kernel
theorem dX12_wall_63 : decode cX12_wall 63 = .ok (.if_icmp .ge 19, 3) := by decide +kernel
theorem dX12_wall_66 : decode cX12_wall 66 = .ok (.aload_n 0, 1) := by decide +kernel
theorem dX12_wall_67 : decode cX12_wall 67 = .ok (.getfield 7, 3) := by decide +kernel
theorem dX12_wall_70 : decode cX12_wall 70 = .ok (.iload_n 3, 1) := by decide +kernel
theorem dX12_wall_71 : decode cX12_wall 71 = .ok (.iload 4, 2) := by decide +kernel
theorem dX12_wall_73 : decode cX12_wall 73 = .ok (.iadd, 1) := by decide +kernel
theorem dX12_wall_74 : decode cX12_wall 74 = .ok (.iconst 0, 1) := by decide +kernel
theorem dX12_wall_75 : decode cX12_wall 75 = .ok (.iastore, 1) := by decide +kernel
theorem dX12_wall_76 : decode cX12_wall 76 = .ok (.iinc 4 1, 3) := by decide +kernel
theorem dX12_wall_79 : decode cX12_wall 79 = .ok (.goto (-20), 3) := by decide +kernel
theorem dX12_wall_82 : decode cX12_wall 82 = .ok (.aload_n 0, 1) := by decide +kernel
theorem dX12_wall_83 : decode cX12_wall 83 = .ok (.getfield 7, 3) := by decide +kernel
theorem dX12_wall_86 : decode cX12_wall 86 = .ok (.iload_n 3, 1) := by decide +kernel
theorem dX12_wall_87 : decode cX12_wall 87 = .ok (.iconst 0, 1) := by decide +kernel
theorem dX12_wall_88 : decode cX12_wall 88 = .ok (.iadd, 1) := by decide +kernel
theorem dX12_wall_89 : decode cX12_wall 89 = .ok (.iload_n 1, 1) := by decide +kernel
theorem dX12_wall_90 : decode cX12_wall 90 = .ok (.bipush 10, 2) := by decide +kernel
theorem dX12_wall_92 : decode cX12_wall 92 = .ok (.idiv, 1) := by decide +kernel
theorem dX12_wall_93 : decode cX12_wall 93 = .ok (.iastore, 1) := by decide +kernel
theorem dX12_wall_94 : decode cX12_wall 94 = .ok (.aload_n 0, 1) := by decide +kernel
theorem dX12_wall_95 : decode cX12_wall 95 = .ok (.getfield 7, 3) := by decide +kernel
theorem dX12_wall_98 : decode cX12_wall 98 = .ok (.iload_n 3, 1) := by decide +kernel
theorem dX12_wall_99 : decode cX12_wall 99 = .ok (.iconst 1, 1) := by decide +kernel
theorem dX12_wall_100 : decode cX12_wall 100 = .ok (.iadd, 1) := by decide +kernel
theorem dX12_wall_101 : decode cX12_wall 101 = .ok (.iload_n 1, 1) := by decide +kernel
theorem dX12_wall_102 : decode cX12_wall 102 = .ok (.bipush 10, 2) := by decide +kernel
theorem dX12_wall_104 : decode cX12_wall 104 = .ok (.irem, 1) := by decide +kernel
theorem dX12_wall_105 : decode cX12_wall 105 = .ok (.iastore, 1) := by decide +kernel
theorem dX12_wall_106 : decode cX12_wall 106 = .ok (.aload_n 0, 1) := by decide +kernel
theorem dX12_wall_107 : decode cX12_wall 107 = .ok (.getfield 7, 3) := by decide +kernel
theorem dX12_wall_110 : decode cX12_wall 110 = .ok (.iload_n 3, 1) := by decide +kernel
theorem dX12_wall_111 : decode cX12_wall 111 = .ok (.iconst 2, 1) := by decide +kernel
theorem dX12_wall_112 : decode cX12_wall 112 = .ok (.iadd, 1) := by decide +kernel
theorem dX12_wall_113 : decode cX12_wall 113 = .ok (.iload_n 2, 1) := by decide +kernel
theorem dX12_wall_114 : decode cX12_wall 114 = .ok (.iastore, 1) := by decide +kernel
theorem dX12_wall_115 : decode cX12_wall 115 = .ok (.aload_n 0, 1) := by decide +kernel
theorem dX12_wall_116 : decode cX12_wall 116 = .ok (.getfield 7, 3) := by decide +kernel
theorem dX12_wall_119 : decode cX12_wall 119 = .ok (.iconst 0, 1) := by decide +kernel
theorem dX12_wall_120 : decode cX12_wall 120 = .ok (.dup2, 1) := by decide +kernel
theorem dX12_wall_121 : decode cX12_wall 121 = .ok (.iaload, 1) := by decide +kernel
theorem dX12_wall_122 : decode cX12_wall 122 = .ok (.iconst 1, 1) := by decide +kernel
theorem dX12_wall_123 : decode cX12_wall 123 = .ok (.iadd, 1) := by decide +kernel
theorem dX12_wall_124 : decode cX12_wall 124 = .ok (.iastore, 1) := by decide +kernel
theorem dX12_wall_125 : decode cX12_wall 125 = .ok (.aload_n 0, 1) := by decide +kernel
theorem dX12_wall_126 : decode cX12_wall 126 = .ok (.getfield 7, 3) := by decide +kernel
theorem dX12_wall_129 : decode cX12_wall 129 = .ok (.iconst 0, 1) := by decide +kernel
theorem dX12_wall_130 : decode cX12_wall 130 = .ok (.iaload, 1) := by decide +kernel
theorem dX12_wall_131 : decode cX12_wall 131 = .ok (.iconst 1, 1) := by decide +kernel
theorem dX12_wall_132 : decode cX12_wall 132 = .ok (.isub, 1) := by decide +kernel
theorem dX12_wall_133 : decode cX12_wall 133 = .ok (.ireturn, 1) := by decide +kernel
theorem dX12_priceOf_0 : decode cX12_priceOf 0 = .ok (.aload_n 0, 1) := by decide +kernel
theorem dX12_priceOf_1 : decode cX12_priceOf 1 = .ok (.iconst 1, 1) := by decide +kernel
theorem dX12_priceOf_2 : decode cX12_priceOf 2 = .ok (.invokevirtual 117, 3) := by decide +kernel
theorem dX12_priceOf_5 : decode cX12_priceOf 5 = .ok (.ifCond .ne 21, 3) := by decide +kernel
theorem dX12_priceOf_8 : decode cX12_priceOf 8 = .ok (.iload_n 1, 1) := by decide +kernel
theorem dX12_priceOf_9 : decode cX12_priceOf 9 = .ok (.iconst 5, 1) := by decide +kernel
theorem dX12_priceOf_10 : decode cX12_priceOf 10 = .ok (.if_icmp .ne 14, 3) := by decide +kernel
theorem dX12_priceOf_13 : decode cX12_priceOf 13 = .ok (.iconst 1, 1) := by decide +kernel
theorem dX12_priceOf_14 : decode cX12_priceOf 14 = .ok (.aload_n 0, 1) := by decide +kernel
theorem dX12_priceOf_15 : decode cX12_priceOf 15 = .ok (.getfield 7, 3) := by decide +kernel
theorem dX12_priceOf_18 : decode cX12_priceOf 18 = .ok (.iconst 2, 1) := by decide +kernel
theorem dX12_priceOf_19 : decode cX12_priceOf 19 = .ok (.iaload, 1) := by decide +kernel
theorem dX12_priceOf_20 : decode cX12_priceOf 20 = .ok (.iadd, 1) := by decide +kernel
theorem dX12_priceOf_21 : decode cX12_priceOf 21 = .ok (.goto 4, 3) := by decide +kernel
theorem dX12_priceOf_24 : decode cX12_priceOf 24 = .ok (.iconst 1, 1) := by decide +kernel
theorem dX12_priceOf_25 : decode cX12_priceOf 25 = .ok (.ireturn, 1) := by decide +kernel
theorem dX12_priceOf_26 : decode cX12_priceOf 26 = .ok (.aload_n 0, 1) := by decide +kernel
theorem dX12_priceOf_27 : decode cX12_priceOf 27 = .ok (.getfield 22, 3) := by decide +kernel
theorem dX12_priceOf_30 : decode cX12_priceOf 30 = .ok (.bipush 108, 2) := by decide +kernel
theorem dX12_priceOf_32 : decode cX12_priceOf 32 = .ok (.iload_n 1, 1) := by decide +kernel
theorem dX12_priceOf_33 : decode cX12_priceOf 33 = .ok (.iastore, 1) := by decide +kernel
theorem dX12_priceOf_34 : decode cX12_priceOf 34 = .ok (.aload_n 0, 1) := by decide +kernel
theorem dX12_priceOf_35 : decode cX12_priceOf 35 = .ok (.getfield 22, 3) := by decide +kernel
theorem dX12_priceOf_38 : decode cX12_priceOf 38 = .ok (.bipush 115, 2) := by decide +kernel
theorem dX12_priceOf_40 : decode cX12_priceOf 40 = .ok (.aload_n 0, 1) := by decide +kernel
theorem dX12_priceOf_41 : decode cX12_priceOf 41 = .ok (.getfield 7, 3) := by decide +kernel
theorem dX12_priceOf_44 : decode cX12_priceOf 44 = .ok (.iconst 2, 1) := by decide +kernel
theorem dX12_priceOf_45 : decode cX12_priceOf 45 = .ok (.iaload, 1) := by decide +kernel
theorem dX12_priceOf_46 : decode cX12_priceOf 46 = .ok (.iastore, 1) := by decide +kernel
theorem dX12_priceOf_47 : decode cX12_priceOf 47 = .ok (.aload_n 0, 1) := by decide +kernel
theorem dX12_priceOf_48 : decode cX12_priceOf 48 = .ok (.getfield 22, 3) := by decide +kernel
theorem dX12_priceOf_51 : decode cX12_priceOf 51 = .ok (.bipush 104, 2) := by decide +kernel
theorem dX12_priceOf_53 : decode cX12_priceOf 53 = .ok (.aload_n 0, 1) := by decide +kernel
theorem dX12_priceOf_54 : decode cX12_priceOf 54 = .ok (.getfield 7, 3) := by decide +kernel
theorem dX12_priceOf_57 : decode cX12_priceOf 57 = .ok (.sipush 266, 3) := by decide +kernel
theorem dX12_priceOf_60 : decode cX12_priceOf 60 = .ok (.iload_n 1, 1) := by decide +kernel
theorem dX12_priceOf_61 : decode cX12_priceOf 61 = .ok (.iadd, 1) := by decide +kernel
theorem dX12_priceOf_62 : decode cX12_priceOf 62 = .ok (.iaload, 1) := by decide +kernel
theorem dX12_priceOf_63 : decode cX12_priceOf 63 = .ok (.iastore, 1) := by decide +kernel
theorem dX12_priceOf_64 : decode cX12_priceOf 64 = .ok (.aload_n 0, 1) := by decide +kernel
theorem dX12_priceOf_65 : decode cX12_priceOf 65 = .ok (.iconst 1, 1) := by decide +kernel
theorem dX12_priceOf_66 : decode cX12_priceOf 66 = .ok (.invokevirtual 139, 3) := by decide +kernel
theorem dX12_priceOf_69 : decode cX12_priceOf 69 = .ok (.iconst 0, 1) := by decide +kernel
theorem dX12_priceOf_70 : decode cX12_priceOf 70 = .ok (.sipush 999, 3) := by decide +kernel
theorem dX12_priceOf_73 : decode cX12_priceOf 73 = .ok (.invokestatic 161, 3) := by decide +kernel
theorem dX12_priceOf_76 : decode cX12_priceOf 76 = .ok (.ireturn, 1) := by decide +kernel
theorem dX12_costOf_0 : decode cX12_costOf 0 = .ok (.iconst 0, 1) := by decide +kernel
theorem dX12_costOf_1 : decode cX12_costOf 1 = .ok (.istore_n 2, 1) := by decide +kernel
theorem dX12_costOf_2 : decode cX12_costOf 2 = .ok (.iconst 0, 1) := by decide +kernel
theorem dX12_costOf_3 : decode cX12_costOf 3 = .ok (.istore_n 3, 1) := by decide +kernel
theorem dX12_costOf_4 : decode cX12_costOf 4 = .ok (.iload_n 3, 1) := by decide +kernel
theorem dX12_costOf_5 : decode cX12_costOf 5 = .ok (.aload_n 0, 1) := by decide +kernel
theorem dX12_costOf_6 : decode cX12_costOf 6 = .ok (.iload_n 1, 1) := by decide +kernel
theorem dX12_costOf_7 : decode cX12_costOf 7 = .ok (.iconst 2, 1) := by decide +kernel
theorem dX12_costOf_8 : decode cX12_costOf 8 = .ok (.invokevirtual 60, 3) := by decide +kernel
theorem dX12_costOf_11 : decode cX12_costOf 11 = .ok (.if_icmp .ge 45, 3) := by decide +kernel
theorem dX12_costOf_14 : decode cX12_costOf 14 = .ok (.iload_n 2, 1) := by decide +kernel
theorem dX12_costOf_15 : decode cX12_costOf 15 = .ok (.aload_n 0, 1) := by decide +kernel
theorem dX12_costOf_16 : decode cX12_costOf 16 = .ok (.getfield 7, 3) := by decide +kernel
theorem dX12_costOf_19 : decode cX12_costOf 19 = .ok (.aload_n 0, 1) := by decide +kernel
theorem dX12_costOf_20 : decode cX12_costOf 20 = .ok (.iload_n 1, 1) := by decide +kernel
theorem dX12_costOf_21 : decode cX12_costOf 21 = .ok (.iload_n 3, 1) := by decide +kernel
theorem dX12_costOf_22 : decode cX12_costOf 22 = .ok (.invokevirtual 124, 3) := by decide +kernel
theorem dX12_costOf_25 : decode cX12_costOf 25 = .ok (.iaload, 1) := by decide +kernel
theorem dX12_costOf_26 : decode cX12_costOf 26 = .ok (.ifCond .le 21, 3) := by decide +kernel
theorem dX12_costOf_29 : decode cX12_costOf 29 = .ok (.aload_n 0, 1) := by decide +kernel
theorem dX12_costOf_30 : decode cX12_costOf 30 = .ok (.aload_n 0, 1) := by decide +kernel
theorem dX12_costOf_31 : decode cX12_costOf 31 = .ok (.getfield 7, 3) := by decide +kernel
theorem dX12_costOf_34 : decode cX12_costOf 34 = .ok (.aload_n 0, 1) := by decide +kernel
theorem dX12_costOf_35 : decode cX12_costOf 35 = .ok (.iload_n 1, 1) := by decide +kernel
theorem dX12_costOf_36 : decode cX12_costOf 36 = .ok (.iload_n 3, 1) := by decide +kernel
theorem dX12_costOf_37 : decode cX12_costOf 37 = .ok (.invokevirtual 124, 3) := by decide +kernel
theorem dX12_costOf_40 : decode cX12_costOf 40 = .ok (.iaload, 1) := by decide +kernel
theorem dX12_costOf_41 : decode cX12_costOf 41 = .ok (.invokevirtual 207, 3) := by decide +kernel
theorem dX12_costOf_44 : decode cX12_costOf 44 = .ok (.goto 4, 3) := by decide +kernel
theorem dX12_costOf_47 : decode cX12_costOf 47 = .ok (.iconst 0, 1) := by decide +kernel
theorem dX12_costOf_48 : decode cX12_costOf 48 = .ok (.iadd, 1) := by decide +kernel
theorem dX12_costOf_49 : decode cX12_costOf 49 = .ok (.istore_n 2, 1) := by decide +kernel
theorem dX12_costOf_50 : decode cX12_costOf 50 = .ok (.iinc 3 1, 3) := by decide +kernel
theorem dX12_costOf_53 : decode cX12_costOf 53 = .ok (.goto (-49), 3) := by decide +kernel
theorem dX12_costOf_56 : decode cX12_costOf 56 = .ok (.iload_n 2, 1) := by decide +kernel
theorem dX12_costOf_57 : decode cX12_costOf 57 = .ok (.ireturn, 1) := by decide +kernel
theorem dX12_wallIs_0 : decode cX12_wallIs 0 = .ok (.aload_n 0, 1) := by decide +kernel
theorem dX12_wallIs_1 : decode cX12_wallIs 1 = .ok (.iload_n 1, 1) := by decide +kernel
theorem dX12_wallIs_2 : decode cX12_wallIs 2 = .ok (.invokevirtual 133, 3) := by decide +kernel
theorem dX12_wallIs_5 : decode cX12_wallIs 5 = .ok (.ifCond .eq 13, 3) := by decide +kernel
theorem dX12_wallIs_8 : decode cX12_wallIs 8 = .ok (.iload_n 2, 1) := by decide +kernel
theorem dX12_wallIs_9 : decode cX12_wallIs 9 = .ok (.iconst 0, 1) := by decide +kernel
theorem dX12_wallIs_10 : decode cX12_wallIs 10 = .ok (.bipush 7, 2) := by decide +kernel
theorem dX12_wallIs_12 : decode cX12_wallIs 12 = .ok (.invokestatic 56, 3) := by decide +kernel
theorem dX12_wallIs_15 : decode cX12_wallIs 15 = .ok (.ifCond .ne 9, 3) := by decide +kernel
theorem dX12_wallIs_18 : decode cX12_wallIs 18 = .ok (.aload_n 0, 1) := by decide +kernel
theorem dX12_wallIs_19 : decode cX12_wallIs 19 = .ok (.iconst 1, 1) := by decide +kernel
theorem dX12_wallIs_20 : decode cX12_wallIs 20 = .ok (.invokevirtual 64, 3) := by decide +kernel
theorem dX12_wallIs_23 : decode cX12_wallIs 23 = .ok (.ireturn, 1) := by decide +kernel
theorem dX12_wallIs_24 : decode cX12_wallIs 24 = .ok (.aload_n 0, 1) := by decide +kernel
theorem dX12_wallIs_25 : decode cX12_wallIs 25 = .ok (.iload_n 1, 1) := by decide +kernel
theorem dX12_wallIs_26 : decode cX12_wallIs 26 = .ok (.invokevirtual 164, 3) := by decide +kernel
theorem dX12_wallIs_29 : decode cX12_wallIs 29 = .ok (.iload_n 2, 1) := by decide +kernel
theorem dX12_wallIs_30 : decode cX12_wallIs 30 = .ok (.tableswitch 80 3 7 #[34, 39, 53, 69, 74], 34) := by decide +kernel
theorem dX12_wallIs_64 : decode cX12_wallIs 64 = .ok (.aload_n 0, 1) := by decide +kernel
theorem dX12_wallIs_65 : decode cX12_wallIs 65 = .ok (.getfield 126, 3) := by decide +kernel
theorem dX12_wallIs_68 : decode cX12_wallIs 68 = .ok (.ireturn, 1) := by decide +kernel
theorem dX12_wallIs_69 : decode cX12_wallIs 69 = .ok (.aload_n 0, 1) := by decide +kernel
theorem dX12_wallIs_70 : decode cX12_wallIs 70 = .ok (.iload_n 1, 1) := by decide +kernel
theorem dX12_wallIs_71 : decode cX12_wallIs 71 = .ok (.invokevirtual 173, 3) := by decide +kernel
theorem dX12_wallIs_74 : decode cX12_wallIs 74 = .ok (.ifCond .eq 7, 3) := by decide +kernel
theorem dX12_wallIs_77 : decode cX12_wallIs 77 = .ok (.iconst 1, 1) := by decide +kernel
theorem dX12_wallIs_78 : decode cX12_wallIs 78 = .ok (.goto 4, 3) := by decide +kernel
theorem dX12_wallIs_81 : decode cX12_wallIs 81 = .ok (.iconst 0, 1) := by decide +kernel
theorem dX12_wallIs_82 : decode cX12_wallIs 82 = .ok (.ireturn, 1) := by decide +kernel
theorem dX12_wallIs_83 : decode cX12_wallIs 83 = .ok (.aload_n 0, 1) := by decide +kernel
theorem dX12_wallIs_84 : decode cX12_wallIs 84 = .ok (.getfield 126, 3) := by decide +kernel
theorem dX12_wallIs_87 : decode cX12_wallIs 87 = .ok (.ifCond .ne 7, 3) := by decide +kernel
theorem dX12_wallIs_90 : decode cX12_wallIs 90 = .ok (.iconst 0, 1) := by decide +kernel
theorem dX12_wallIs_91 : decode cX12_wallIs 91 = .ok (.goto 7, 3) := by decide +kernel
theorem dX12_wallIs_94 : decode cX12_wallIs 94 = .ok (.aload_n 0, 1) := by decide +kernel
theorem dX12_wallIs_95 : decode cX12_wallIs 95 = .ok (.invokevirtual 167, 3) := by decide +kernel
theorem dX12_wallIs_98 : decode cX12_wallIs 98 = .ok (.ireturn, 1) := by decide +kernel
theorem dX12_wallIs_99 : decode cX12_wallIs 99 = .ok (.aload_n 0, 1) := by decide +kernel
theorem dX12_wallIs_100 : decode cX12_wallIs 100 = .ok (.invokevirtual 176, 3) := by decide +kernel
theorem dX12_wallIs_103 : decode cX12_wallIs 103 = .ok (.ireturn, 1) := by decide +kernel
theorem dX12_wallIs_104 : decode cX12_wallIs 104 = .ok (.aload_n 0, 1) := by decide +kernel
theorem dX12_wallIs_105 : decode cX12_wallIs 105 = .ok (.iload_n 1, 1) := by decide +kernel
theorem dX12_wallIs_106 : decode cX12_wallIs 106 = .ok (.invokevirtual 179, 3) := by decide +kernel
theorem dX12_wallIs_109 : decode cX12_wallIs 109 = .ok (.ireturn, 1) := by decide +kernel
theorem dX12_wallIs_110 : decode cX12_wallIs 110 = .ok (.aload_n 0, 1) := by decide +kernel
theorem dX12_wallIs_111 : decode cX12_wallIs 111 = .ok (.iload_n 1, 1) := by decide +kernel
theorem dX12_wallIs_112 : decode cX12_wallIs 112 = .ok (.iload_n 2, 1) := by decide +kernel
theorem dX12_wallIs_113 : decode cX12_wallIs 113 = .ok (.invokevirtual 60, 3) := by decide +kernel
theorem dX12_wallIs_116 : decode cX12_wallIs 116 = .ok (.ireturn, 1) := by decide +kernel
theorem dX12_isUnder_0 : decode cX12_isUnder 0 = .ok (.iload_n 1, 1) := by decide +kernel
theorem dX12_isUnder_1 : decode cX12_isUnder 1 = .ok (.ifCond .eq 28, 3) := by decide +kernel
theorem dX12_isUnder_4 : decode cX12_isUnder 4 = .ok (.iload_n 0, 1) := by decide +kernel
theorem dX12_isUnder_5 : decode cX12_isUnder 5 = .ok (.iload_n 1, 1) := by decide +kernel
theorem dX12_isUnder_6 : decode cX12_isUnder 6 = .ok (.if_icmp .eq 23, 3) := by decide +kernel
theorem dX12_isUnder_9 : decode cX12_isUnder 9 = .ok (.iload_n 1, 1) := by decide +kernel
theorem dX12_isUnder_10 : decode cX12_isUnder 10 = .ok (.iconst 1, 1) := by decide +kernel
theorem dX12_isUnder_11 : decode cX12_isUnder 11 = .ok (.if_icmp .ne 8, 3) := by decide +kernel
theorem dX12_isUnder_14 : decode cX12_isUnder 14 = .ok (.iload_n 0, 1) := by decide +kernel
theorem dX12_isUnder_15 : decode cX12_isUnder 15 = .ok (.iconst 4, 1) := by decide +kernel
theorem dX12_isUnder_16 : decode cX12_isUnder 16 = .ok (.if_icmp .eq 13, 3) := by decide +kernel
theorem dX12_isUnder_19 : decode cX12_isUnder 19 = .ok (.iload_n 1, 1) := by decide +kernel
theorem dX12_isUnder_20 : decode cX12_isUnder 20 = .ok (.iconst 3, 1) := by decide +kernel
theorem dX12_isUnder_21 : decode cX12_isUnder 21 = .ok (.if_icmp .ne 12, 3) := by decide +kernel
theorem dX12_isUnder_24 : decode cX12_isUnder 24 = .ok (.iload_n 0, 1) := by decide +kernel
theorem dX12_isUnder_25 : decode cX12_isUnder 25 = .ok (.iconst 5, 1) := by decide +kernel
theorem dX12_isUnder_26 : decode cX12_isUnder 26 = .ok (.if_icmp .ne 7, 3) := by decide +kernel
theorem dX12_isUnder_29 : decode cX12_isUnder 29 = .ok (.iconst 1, 1) := by decide +kernel
theorem dX12_isUnder_30 : decode cX12_isUnder 30 = .ok (.goto 4, 3) := by decide +kernel
theorem dX12_isUnder_33 : decode cX12_isUnder 33 = .ok (.iconst 0, 1) := by decide +kernel
theorem dX12_isUnder_34 : decode cX12_isUnder 34 = .ok (.ireturn, 1) := by decide +kernel
theorem dX12_as_0 : decode cX12_as 0 = .ok (.aload_n 0, 1) := by decide +kernel
theorem dX12_as_1 : decode cX12_as 1 = .ok (.iload_n 1, 1) := by decide +kernel
theorem dX12_as_2 : decode cX12_as 2 = .ok (.invokevirtual 133, 3) := by decide +kernel
theorem dX12_as_5 : decode cX12_as 5 = .ok (.ifCond .eq 13, 3) := by decide +kernel
theorem dX12_as_8 : decode cX12_as 8 = .ok (.iload_n 2, 1) := by decide +kernel
theorem dX12_as_9 : decode cX12_as 9 = .ok (.iconst 0, 1) := by decide +kernel
theorem dX12_as_10 : decode cX12_as 10 = .ok (.bipush 6, 2) := by decide +kernel
theorem dX12_as_12 : decode cX12_as 12 = .ok (.invokestatic 56, 3) := by decide +kernel
theorem dX12_as_15 : decode cX12_as 15 = .ok (.ifCond .ne 9, 3) := by decide +kernel
theorem dX12_as_18 : decode cX12_as 18 = .ok (.aload_n 0, 1) := by decide +kernel
theorem dX12_as_19 : decode cX12_as 19 = .ok (.iconst 1, 1) := by decide +kernel
theorem dX12_as_20 : decode cX12_as 20 = .ok (.invokevirtual 64, 3) := by decide +kernel
theorem dX12_as_23 : decode cX12_as 23 = .ok (.ireturn, 1) := by decide +kernel
theorem dX12_as_24 : decode cX12_as 24 = .ok (.aload_n 0, 1) := by decide +kernel
theorem dX12_as_25 : decode cX12_as 25 = .ok (.iload_n 1, 1) := by decide +kernel
theorem dX12_as_26 : decode cX12_as 26 = .ok (.iconst 0, 1) := by decide +kernel
theorem dX12_as_27 : decode cX12_as 27 = .ok (.invokevirtual 60, 3) := by decide +kernel
theorem dX12_as_30 : decode cX12_as 30 = .ok (.iload_n 2, 1) := by decide +kernel
theorem dX12_as_31 : decode cX12_as 31 = .ok (.invokestatic 182, 3) := by decide +kernel
theorem dX12_as_34 : decode cX12_as 34 = .ok (.ifCond .eq 12, 3) := by decide +kernel
theorem dX12_as_37 : decode cX12_as 37 = .ok (.aload_n 0, 1) := by decide +kernel
theorem dX12_as_38 : decode cX12_as 38 = .ok (.iload_n 1, 1) := by decide +kernel
theorem dX12_as_39 : decode cX12_as 39 = .ok (.iconst 2, 1) := by decide +kernel
theorem dX12_as_40 : decode cX12_as 40 = .ok (.invokevirtual 60, 3) := by decide +kernel
theorem dX12_as_43 : decode cX12_as 43 = .ok (.goto 8, 3) := by decide +kernel
theorem dX12_as_46 : decode cX12_as 46 = .ok (.aload_n 0, 1) := by decide +kernel
theorem dX12_as_47 : decode cX12_as 47 = .ok (.iconst 5, 1) := by decide +kernel
theorem dX12_as_48 : decode cX12_as 48 = .ok (.invokevirtual 64, 3) := by decide +kernel
theorem dX12_as_51 : decode cX12_as 51 = .ok (.ireturn, 1) := by decide +kernel
theorem dX12_set_0 : decode cX12_set 0 = .ok (.aload_n 0, 1) := by decide +kernel
theorem dX12_set_1 : decode cX12_set 1 = .ok (.iload_n 1, 1) := by decide +kernel
theorem dX12_set_2 : decode cX12_set 2 = .ok (.invokevirtual 133, 3) := by decide +kernel
theorem dX12_set_5 : decode cX12_set 5 = .ok (.ifCond .eq 31, 3) := by decide +kernel
theorem dX12_set_8 : decode cX12_set 8 = .ok (.iload_n 2, 1) := by decide +kernel
theorem dX12_set_9 : decode cX12_set 9 = .ok (.iconst 0, 1) := by decide +kernel
theorem dX12_set_10 : decode cX12_set 10 = .ok (.iconst 1, 1) := by decide +kernel
theorem dX12_set_11 : decode cX12_set 11 = .ok (.invokestatic 56, 3) := by decide +kernel
theorem dX12_set_14 : decode cX12_set 14 = .ok (.ifCond .eq 22, 3) := by decide +kernel
theorem dX12_set_17 : decode cX12_set 17 = .ok (.iload_n 3, 1) := by decide +kernel
theorem dX12_set_18 : decode cX12_set 18 = .ok (.iconst 0, 1) := by decide +kernel
theorem dX12_set_19 : decode cX12_set 19 = .ok (.iload_n 2, 1) := by decide +kernel
theorem dX12_set_20 : decode cX12_set 20 = .ok (.ifCond .ne 8, 3) := by decide +kernel
theorem dX12_set_23 : decode cX12_set 23 = .ok (.bipush 6, 2) := by decide +kernel
theorem dX12_set_25 : decode cX12_set 25 = .ok (.goto 5, 3) := by decide +kernel
theorem dX12_set_28 : decode cX12_set 28 = .ok (.bipush 9, 2) := by decide +kernel
theorem dX12_set_30 : decode cX12_set 30 = .ok (.invokestatic 56, 3) := by decide +kernel
theorem dX12_set_33 : decode cX12_set 33 = .ok (.ifCond .ne 9, 3) := by decide +kernel
theorem dX12_set_36 : decode cX12_set 36 = .ok (.aload_n 0, 1) := by decide +kernel
theorem dX12_set_37 : decode cX12_set 37 = .ok (.iconst 1, 1) := by decide +kernel
theorem dX12_set_38 : decode cX12_set 38 = .ok (.invokevirtual 64, 3) := by decide +kernel
theorem dX12_set_41 : decode cX12_set 41 = .ok (.ireturn, 1) := by decide +kernel
theorem dX12_set_42 : decode cX12_set 42 = .ok (.aload_n 0, 1) := by decide +kernel
theorem dX12_set_43 : decode cX12_set 43 = .ok (.iload_n 1, 1) := by decide +kernel
theorem dX12_set_44 : decode cX12_set 44 = .ok (.iload_n 2, 1) := by decide +kernel
theorem dX12_set_45 : decode cX12_set 45 = .ok (.invokevirtual 60, 3) := by decide +kernel
theorem dX12_set_48 : decode cX12_set 48 = .ok (.istore 4, 2) := by decide +kernel
theorem dX12_set_50 : decode cX12_set 50 = .ok (.aload_n 0, 1) := by decide +kernel
theorem dX12_set_51 : decode cX12_set 51 = .ok (.getfield 7, 3) := by decide +kernel
theorem dX12_set_54 : decode cX12_set 54 = .ok (.bipush 8, 2) := by decide +kernel
theorem dX12_set_56 : decode cX12_set 56 = .ok (.bipush 27, 2) := by decide +kernel
theorem dX12_set_58 : decode cX12_set 58 = .ok (.iload_n 1, 1) := by decide +kernel
theorem dX12_set_59 : decode cX12_set 59 = .ok (.imul, 1) := by decide +kernel
theorem dX12_set_60 : decode cX12_set 60 = .ok (.iadd, 1) := by decide +kernel
theorem dX12_set_61 : decode cX12_set 61 = .ok (.iload_n 2, 1) := by decide +kernel
theorem dX12_set_62 : decode cX12_set 62 = .ok (.iadd, 1) := by decide +kernel
theorem dX12_set_63 : decode cX12_set 63 = .ok (.iload_n 3, 1) := by decide +kernel
theorem dX12_set_64 : decode cX12_set 64 = .ok (.iastore, 1) := by decide +kernel
theorem dX12_set_65 : decode cX12_set 65 = .ok (.iload 4, 2) := by decide +kernel
theorem dX12_set_67 : decode cX12_set 67 = .ok (.ireturn, 1) := by decide +kernel
theorem dX12_brick_0 : decode cX12_brick 0 = .ok (.aload_n 0, 1) := by decide +kernel
theorem dX12_brick_1 : decode cX12_brick 1 = .ok (.iload_n 1, 1) := by decide +kernel
theorem dX12_brick_2 : decode cX12_brick 2 = .ok (.invokevirtual 133, 3) := by decide +kernel
theorem dX12_brick_5 : decode cX12_brick 5 = .ok (.ifCond .eq 22, 3) := by decide +kernel
theorem dX12_brick_8 : decode cX12_brick 8 = .ok (.aload_n 0, 1) := by decide +kernel
theorem dX12_brick_9 : decode cX12_brick 9 = .ok (.iload_n 1, 1) := by decide +kernel
theorem dX12_brick_10 : decode cX12_brick 10 = .ok (.iload_n 2, 1) := by decide +kernel
theorem dX12_brick_11 : decode cX12_brick 11 = .ok (.invokevirtual 186, 3) := by decide +kernel
theorem dX12_brick_14 : decode cX12_brick 14 = .ok (.ifCond .eq 13, 3) := by decide +kernel
theorem dX12_brick_17 : decode cX12_brick 17 = .ok (.iload_n 3, 1) := by decide +kernel
theorem dX12_brick_18 : decode cX12_brick 18 = .ok (.iconst 0, 1) := by decide +kernel
theorem dX12_brick_19 : decode cX12_brick 19 = .ok (.bipush 26, 2) := by decide +kernel
theorem dX12_brick_21 : decode cX12_brick 21 = .ok (.invokestatic 56, 3) := by decide +kernel
theorem dX12_brick_24 : decode cX12_brick 24 = .ok (.ifCond .ne 9, 3) := by decide +kernel
theorem dX12_brick_27 : decode cX12_brick 27 = .ok (.aload_n 0, 1) := by decide +kernel
theorem dX12_brick_28 : decode cX12_brick 28 = .ok (.iconst 1, 1) := by decide +kernel
theorem dX12_brick_29 : decode cX12_brick 29 = .ok (.invokevirtual 64, 3) := by decide +kernel
theorem dX12_brick_32 : decode cX12_brick 32 = .ok (.ireturn, 1) := by decide +kernel
theorem dX12_brick_33 : decode cX12_brick 33 = .ok (.aload_n 0, 1) := by decide +kernel
theorem dX12_brick_34 : decode cX12_brick 34 = .ok (.getfield 7, 3) := by decide +kernel
theorem dX12_brick_37 : decode cX12_brick 37 = .ok (.aload_n 0, 1) := by decide +kernel
theorem dX12_brick_38 : decode cX12_brick 38 = .ok (.iload_n 1, 1) := by decide +kernel
theorem dX12_brick_39 : decode cX12_brick 39 = .ok (.iload_n 2, 1) := by decide +kernel
theorem dX12_brick_40 : decode cX12_brick 40 = .ok (.invokevirtual 124, 3) := by decide +kernel
theorem dX12_brick_43 : decode cX12_brick 43 = .ok (.iaload, 1) := by decide +kernel
theorem dX12_brick_44 : decode cX12_brick 44 = .ok (.istore 4, 2) := by decide +kernel
theorem dX12_brick_46 : decode cX12_brick 46 = .ok (.aload_n 0, 1) := by decide +kernel
theorem dX12_brick_47 : decode cX12_brick 47 = .ok (.getfield 7, 3) := by decide +kernel
theorem dX12_brick_50 : decode cX12_brick 50 = .ok (.aload_n 0, 1) := by decide +kernel
theorem dX12_brick_51 : decode cX12_brick 51 = .ok (.iload_n 1, 1) := by decide +kernel
theorem dX12_brick_52 : decode cX12_brick 52 = .ok (.iload_n 2, 1) := by decide +kernel
theorem dX12_brick_53 : decode cX12_brick 53 = .ok (.invokevirtual 124, 3) := by decide +kernel
theorem dX12_brick_56 : decode cX12_brick 56 = .ok (.iload_n 3, 1) := by decide +kernel
theorem dX12_brick_57 : decode cX12_brick 57 = .ok (.iastore, 1) := by decide +kernel
theorem dX12_brick_58 : decode cX12_brick 58 = .ok (.iload 4, 2) := by decide +kernel
theorem dX12_brick_60 : decode cX12_brick 60 = .ok (.ireturn, 1) := by decide +kernel
theorem dX12_brickOf_0 : decode cX12_brickOf 0 = .ok (.aload_n 0, 1) := by decide +kernel
theorem dX12_brickOf_1 : decode cX12_brickOf 1 = .ok (.iload_n 1, 1) := by decide +kernel
theorem dX12_brickOf_2 : decode cX12_brickOf 2 = .ok (.invokevirtual 133, 3) := by decide +kernel
theorem dX12_brickOf_5 : decode cX12_brickOf 5 = .ok (.ifCond .eq 26, 3) := by decide +kernel
theorem dX12_brickOf_8 : decode cX12_brickOf 8 = .ok (.aload_n 0, 1) := by decide +kernel
theorem dX12_brickOf_9 : decode cX12_brickOf 9 = .ok (.iload_n 1, 1) := by decide +kernel
theorem dX12_brickOf_10 : decode cX12_brickOf 10 = .ok (.iload_n 2, 1) := by decide +kernel
theorem dX12_brickOf_11 : decode cX12_brickOf 11 = .ok (.invokevirtual 186, 3) := by decide +kernel
theorem dX12_brickOf_14 : decode cX12_brickOf 14 = .ok (.ifCond .eq 17, 3) := by decide +kernel
theorem dX12_brickOf_17 : decode cX12_brickOf 17 = .ok (.aload_n 0, 1) := by decide +kernel
theorem dX12_brickOf_18 : decode cX12_brickOf 18 = .ok (.getfield 7, 3) := by decide +kernel
theorem dX12_brickOf_21 : decode cX12_brickOf 21 = .ok (.aload_n 0, 1) := by decide +kernel
theorem dX12_brickOf_22 : decode cX12_brickOf 22 = .ok (.iload_n 1, 1) := by decide +kernel
theorem dX12_brickOf_23 : decode cX12_brickOf 23 = .ok (.iload_n 2, 1) := by decide +kernel
theorem dX12_brickOf_24 : decode cX12_brickOf 24 = .ok (.invokevirtual 124, 3) := by decide +kernel
theorem dX12_brickOf_27 : decode cX12_brickOf 27 = .ok (.iaload, 1) := by decide +kernel
theorem dX12_brickOf_28 : decode cX12_brickOf 28 = .ok (.goto 8, 3) := by decide +kernel
theorem dX12_brickOf_31 : decode cX12_brickOf 31 = .ok (.aload_n 0, 1) := by decide +kernel
theorem dX12_brickOf_32 : decode cX12_brickOf 32 = .ok (.iconst 1, 1) := by decide +kernel
theorem dX12_brickOf_33 : decode cX12_brickOf 33 = .ok (.invokevirtual 64, 3) := by decide +kernel
theorem dX12_brickOf_36 : decode cX12_brickOf 36 = .ok (.ireturn, 1) := by decide +kernel
theorem dX12_readAs_0 : decode cX12_readAs 0 = .ok (.aload_n 0, 1) := by decide +kernel
theorem dX12_readAs_1 : decode cX12_readAs 1 = .ok (.iload_n 1, 1) := by decide +kernel
theorem dX12_readAs_2 : decode cX12_readAs 2 = .ok (.invokevirtual 133, 3) := by decide +kernel
theorem dX12_readAs_5 : decode cX12_readAs 5 = .ok (.ifCond .ne 9, 3) := by decide +kernel
theorem dX12_readAs_8 : decode cX12_readAs 8 = .ok (.aload_n 0, 1) := by decide +kernel
theorem dX12_readAs_9 : decode cX12_readAs 9 = .ok (.iconst 1, 1) := by decide +kernel
theorem dX12_readAs_10 : decode cX12_readAs 10 = .ok (.invokevirtual 64, 3) := by decide +kernel
theorem dX12_readAs_13 : decode cX12_readAs 13 = .ok (.ireturn, 1) := by decide +kernel
theorem dX12_readAs_14 : decode cX12_readAs 14 = .ok (.aload_n 0, 1) := by decide +kernel
theorem dX12_readAs_15 : decode cX12_readAs 15 = .ok (.iload_n 1, 1) := by decide +kernel
theorem dX12_readAs_16 : decode cX12_readAs 16 = .ok (.invokevirtual 164, 3) := by decide +kernel
theorem dX12_readAs_19 : decode cX12_readAs 19 = .ok (.iload_n 2, 1) := by decide +kernel
theorem dX12_readAs_20 : decode cX12_readAs 20 = .ok (.iconst 0, 1) := by decide +kernel
theorem dX12_readAs_21 : decode cX12_readAs 21 = .ok (.aload_n 0, 1) := by decide +kernel
theorem dX12_readAs_22 : decode cX12_readAs 22 = .ok (.getfield 126, 3) := by decide +kernel
theorem dX12_readAs_25 : decode cX12_readAs 25 = .ok (.iconst 1, 1) := by decide +kernel
theorem dX12_readAs_26 : decode cX12_readAs 26 = .ok (.isub, 1) := by decide +kernel
theorem dX12_readAs_27 : decode cX12_readAs 27 = .ok (.invokestatic 56, 3) := by decide +kernel
theorem dX12_readAs_30 : decode cX12_readAs 30 = .ok (.ifCond .eq 12, 3) := by decide +kernel
theorem dX12_readAs_33 : decode cX12_readAs 33 = .ok (.aload_n 0, 1) := by decide +kernel
theorem dX12_readAs_34 : decode cX12_readAs 34 = .ok (.getfield 28, 3) := by decide +kernel
theorem dX12_readAs_37 : decode cX12_readAs 37 = .ok (.iload_n 2, 1) := by decide +kernel
theorem dX12_readAs_38 : decode cX12_readAs 38 = .ok (.iaload, 1) := by decide +kernel
theorem dX12_readAs_39 : decode cX12_readAs 39 = .ok (.goto 8, 3) := by decide +kernel
theorem dX12_readAs_42 : decode cX12_readAs 42 = .ok (.aload_n 0, 1) := by decide +kernel
theorem dX12_readAs_43 : decode cX12_readAs 43 = .ok (.iconst 1, 1) := by decide +kernel
theorem dX12_readAs_44 : decode cX12_readAs 44 = .ok (.invokevirtual 64, 3) := by decide +kernel
theorem dX12_readAs_47 : decode cX12_readAs 47 = .ok (.ireturn, 1) := by decide +kernel
theorem dX12_word_0 : decode cX12_word 0 = .ok (.iload_n 1, 1) := by decide +kernel
theorem dX12_word_1 : decode cX12_word 1 = .ok (.iconst 0, 1) := by decide +kernel
theorem dX12_word_2 : decode cX12_word 2 = .ok (.iconst 4, 1) := by decide +kernel
theorem dX12_word_3 : decode cX12_word 3 = .ok (.invokestatic 56, 3) := by decide +kernel
theorem dX12_word_6 : decode cX12_word 6 = .ok (.ifCond .eq 10, 3) := by decide +kernel
theorem dX12_word_9 : decode cX12_word 9 = .ok (.iload_n 2, 1) := by decide +kernel
theorem dX12_word_10 : decode cX12_word 10 = .ok (.invokestatic 142, 3) := by decide +kernel
theorem dX12_word_13 : decode cX12_word 13 = .ok (.ifCond .ne 9, 3) := by decide +kernel
theorem dX12_word_16 : decode cX12_word 16 = .ok (.aload_n 0, 1) := by decide +kernel
theorem dX12_word_17 : decode cX12_word 17 = .ok (.iconst 1, 1) := by decide +kernel
theorem dX12_word_18 : decode cX12_word 18 = .ok (.invokevirtual 64, 3) := by decide +kernel
theorem dX12_word_21 : decode cX12_word 21 = .ok (.ireturn, 1) := by decide +kernel
theorem dX12_word_22 : decode cX12_word 22 = .ok (.aload_n 0, 1) := by decide +kernel
theorem dX12_word_23 : decode cX12_word 23 = .ok (.getfield 7, 3) := by decide +kernel
theorem dX12_word_26 : decode cX12_word 26 = .ok (.iconst 1, 1) := by decide +kernel
theorem dX12_word_27 : decode cX12_word 27 = .ok (.iaload, 1) := by decide +kernel
theorem dX12_word_28 : decode cX12_word 28 = .ok (.bipush 12, 2) := by decide +kernel
theorem dX12_word_30 : decode cX12_word 30 = .ok (.if_icmp .ne 9, 3) := by decide +kernel
theorem dX12_word_33 : decode cX12_word 33 = .ok (.aload_n 0, 1) := by decide +kernel
theorem dX12_word_34 : decode cX12_word 34 = .ok (.iconst 4, 1) := by decide +kernel
theorem dX12_word_35 : decode cX12_word 35 = .ok (.invokevirtual 64, 3) := by decide +kernel
theorem dX12_word_38 : decode cX12_word 38 = .ok (.ireturn, 1) := by decide +kernel
theorem dX12_word_39 : decode cX12_word 39 = .ok (.sipush 170, 3) := by decide +kernel
theorem dX12_word_42 : decode cX12_word 42 = .ok (.bipush 8, 2) := by decide +kernel
theorem dX12_word_44 : decode cX12_word 44 = .ok (.aload_n 0, 1) := by decide +kernel
theorem dX12_word_45 : decode cX12_word 45 = .ok (.getfield 7, 3) := by decide +kernel
theorem dX12_word_48 : decode cX12_word 48 = .ok (.iconst 1, 1) := by decide +kernel
theorem dX12_word_49 : decode cX12_word 49 = .ok (.iaload, 1) := by decide +kernel
theorem dX12_word_50 : decode cX12_word 50 = .ok (.imul, 1) := by decide +kernel
theorem dX12_word_51 : decode cX12_word 51 = .ok (.iadd, 1) := by decide +kernel
theorem dX12_word_52 : decode cX12_word 52 = .ok (.istore_n 3, 1) := by decide +kernel
theorem dX12_word_53 : decode cX12_word 53 = .ok (.aload_n 0, 1) := by decide +kernel
theorem dX12_word_54 : decode cX12_word 54 = .ok (.getfield 7, 3) := by decide +kernel
theorem dX12_word_57 : decode cX12_word 57 = .ok (.iload_n 3, 1) := by decide +kernel
theorem dX12_word_58 : decode cX12_word 58 = .ok (.iload_n 1, 1) := by decide +kernel
theorem dX12_word_59 : decode cX12_word 59 = .ok (.iastore, 1) := by decide +kernel
theorem dX12_word_60 : decode cX12_word 60 = .ok (.aload_n 0, 1) := by decide +kernel
theorem dX12_word_61 : decode cX12_word 61 = .ok (.getfield 7, 3) := by decide +kernel
theorem dX12_word_64 : decode cX12_word 64 = .ok (.iload_n 3, 1) := by decide +kernel
theorem dX12_word_65 : decode cX12_word 65 = .ok (.iconst 1, 1) := by decide +kernel
theorem dX12_word_66 : decode cX12_word 66 = .ok (.iadd, 1) := by decide +kernel
theorem dX12_word_67 : decode cX12_word 67 = .ok (.iconst 1, 1) := by decide +kernel
theorem dX12_word_68 : decode cX12_word 68 = .ok (.iastore, 1) := by decide +kernel
theorem dX12_word_69 : decode cX12_word 69 = .ok (.aload_n 0, 1) := by decide +kernel
theorem dX12_word_70 : decode cX12_word 70 = .ok (.getfield 7, 3) := by decide +kernel
theorem dX12_word_73 : decode cX12_word 73 = .ok (.iload_n 3, 1) := by decide +kernel
theorem dX12_word_74 : decode cX12_word 74 = .ok (.iconst 2, 1) := by decide +kernel
theorem dX12_word_75 : decode cX12_word 75 = .ok (.iadd, 1) := by decide +kernel
theorem dX12_word_76 : decode cX12_word 76 = .ok (.iload_n 2, 1) := by decide +kernel
theorem dX12_word_77 : decode cX12_word 77 = .ok (.iastore, 1) := by decide +kernel
theorem dX12_word_78 : decode cX12_word 78 = .ok (.aload_n 0, 1) := by decide +kernel
theorem dX12_word_79 : decode cX12_word 79 = .ok (.getfield 7, 3) := by decide +kernel
theorem dX12_word_82 : decode cX12_word 82 = .ok (.iconst 1, 1) := by decide +kernel
theorem dX12_word_83 : decode cX12_word 83 = .ok (.dup2, 1) := by decide +kernel
theorem dX12_word_84 : decode cX12_word 84 = .ok (.iaload, 1) := by decide +kernel
theorem dX12_word_85 : decode cX12_word 85 = .ok (.iconst 1, 1) := by decide +kernel
theorem dX12_word_86 : decode cX12_word 86 = .ok (.iadd, 1) := by decide +kernel
theorem dX12_word_87 : decode cX12_word 87 = .ok (.iastore, 1) := by decide +kernel
theorem dX12_word_88 : decode cX12_word 88 = .ok (.aload_n 0, 1) := by decide +kernel
theorem dX12_word_89 : decode cX12_word 89 = .ok (.getfield 7, 3) := by decide +kernel
theorem dX12_word_92 : decode cX12_word 92 = .ok (.iconst 1, 1) := by decide +kernel
theorem dX12_word_93 : decode cX12_word 93 = .ok (.iaload, 1) := by decide +kernel
theorem dX12_word_94 : decode cX12_word 94 = .ok (.iconst 1, 1) := by decide +kernel
theorem dX12_word_95 : decode cX12_word 95 = .ok (.isub, 1) := by decide +kernel
theorem dX12_word_96 : decode cX12_word 96 = .ok (.ireturn, 1) := by decide +kernel
theorem dX12_letter_0 : decode cX12_letter 0 = .ok (.aload_n 0, 1) := by decide +kernel
theorem dX12_letter_1 : decode cX12_letter 1 = .ok (.iload_n 1, 1) := by decide +kernel
theorem dX12_letter_2 : decode cX12_letter 2 = .ok (.invokevirtual 189, 3) := by decide +kernel
theorem dX12_letter_5 : decode cX12_letter 5 = .ok (.ifCond .eq 10, 3) := by decide +kernel
theorem dX12_letter_8 : decode cX12_letter 8 = .ok (.iload_n 2, 1) := by decide +kernel
theorem dX12_letter_9 : decode cX12_letter 9 = .ok (.invokestatic 142, 3) := by decide +kernel
theorem dX12_letter_12 : decode cX12_letter 12 = .ok (.ifCond .ne 9, 3) := by decide +kernel
theorem dX12_letter_15 : decode cX12_letter 15 = .ok (.aload_n 0, 1) := by decide +kernel
theorem dX12_letter_16 : decode cX12_letter 16 = .ok (.iconst 1, 1) := by decide +kernel
theorem dX12_letter_17 : decode cX12_letter 17 = .ok (.invokevirtual 64, 3) := by decide +kernel
theorem dX12_letter_20 : decode cX12_letter 20 = .ok (.ireturn, 1) := by decide +kernel
theorem dX12_letter_21 : decode cX12_letter 21 = .ok (.aload_n 0, 1) := by decide +kernel
theorem dX12_letter_22 : decode cX12_letter 22 = .ok (.iload_n 1, 1) := by decide +kernel
theorem dX12_letter_23 : decode cX12_letter 23 = .ok (.invokevirtual 145, 3) := by decide +kernel
theorem dX12_letter_26 : decode cX12_letter 26 = .ok (.istore_n 3, 1) := by decide +kernel
theorem dX12_letter_27 : decode cX12_letter 27 = .ok (.iload_n 3, 1) := by decide +kernel
theorem dX12_letter_28 : decode cX12_letter 28 = .ok (.bipush 6, 2) := by decide +kernel
theorem dX12_letter_30 : decode cX12_letter 30 = .ok (.if_icmp .ne 9, 3) := by decide +kernel
theorem dX12_letter_33 : decode cX12_letter 33 = .ok (.aload_n 0, 1) := by decide +kernel
theorem dX12_letter_34 : decode cX12_letter 34 = .ok (.iconst 4, 1) := by decide +kernel
theorem dX12_letter_35 : decode cX12_letter 35 = .ok (.invokevirtual 64, 3) := by decide +kernel
theorem dX12_letter_38 : decode cX12_letter 38 = .ok (.ireturn, 1) := by decide +kernel
theorem dX12_letter_39 : decode cX12_letter 39 = .ok (.aload_n 0, 1) := by decide +kernel
theorem dX12_letter_40 : decode cX12_letter 40 = .ok (.getfield 7, 3) := by decide +kernel
theorem dX12_letter_43 : decode cX12_letter 43 = .ok (.sipush 170, 3) := by decide +kernel
theorem dX12_letter_46 : decode cX12_letter 46 = .ok (.bipush 8, 2) := by decide +kernel
theorem dX12_letter_48 : decode cX12_letter 48 = .ok (.iload_n 1, 1) := by decide +kernel
theorem dX12_letter_49 : decode cX12_letter 49 = .ok (.imul, 1) := by decide +kernel
theorem dX12_letter_50 : decode cX12_letter 50 = .ok (.iadd, 1) := by decide +kernel
theorem dX12_letter_51 : decode cX12_letter 51 = .ok (.iconst 2, 1) := by decide +kernel
theorem dX12_letter_52 : decode cX12_letter 52 = .ok (.iadd, 1) := by decide +kernel
theorem dX12_letter_53 : decode cX12_letter 53 = .ok (.iload_n 3, 1) := by decide +kernel
theorem dX12_letter_54 : decode cX12_letter 54 = .ok (.iadd, 1) := by decide +kernel
theorem dX12_letter_55 : decode cX12_letter 55 = .ok (.iload_n 2, 1) := by decide +kernel
theorem dX12_letter_56 : decode cX12_letter 56 = .ok (.iastore, 1) := by decide +kernel
theorem dX12_letter_57 : decode cX12_letter 57 = .ok (.aload_n 0, 1) := by decide +kernel
theorem dX12_letter_58 : decode cX12_letter 58 = .ok (.getfield 7, 3) := by decide +kernel
theorem dX12_letter_61 : decode cX12_letter 61 = .ok (.sipush 170, 3) := by decide +kernel
theorem dX12_letter_64 : decode cX12_letter 64 = .ok (.bipush 8, 2) := by decide +kernel
theorem dX12_letter_66 : decode cX12_letter 66 = .ok (.iload_n 1, 1) := by decide +kernel
theorem dX12_letter_67 : decode cX12_letter 67 = .ok (.imul, 1) := by decide +kernel
theorem dX12_letter_68 : decode cX12_letter 68 = .ok (.iadd, 1) := by decide +kernel
theorem dX12_letter_69 : decode cX12_letter 69 = .ok (.iconst 1, 1) := by decide +kernel
theorem dX12_letter_70 : decode cX12_letter 70 = .ok (.iadd, 1) := by decide +kernel
theorem dX12_letter_71 : decode cX12_letter 71 = .ok (.iload_n 3, 1) := by decide +kernel
theorem dX12_letter_72 : decode cX12_letter 72 = .ok (.iconst 1, 1) := by decide +kernel
theorem dX12_letter_73 : decode cX12_letter 73 = .ok (.iadd, 1) := by decide +kernel
theorem dX12_letter_74 : decode cX12_letter 74 = .ok (.iastore, 1) := by decide +kernel
theorem dX12_letter_75 : decode cX12_letter 75 = .ok (.iload_n 3, 1) := by decide +kernel
theorem dX12_letter_76 : decode cX12_letter 76 = .ok (.iconst 1, 1) := by decide +kernel
theorem dX12_letter_77 : decode cX12_letter 77 = .ok (.iadd, 1) := by decide +kernel
theorem dX12_letter_78 : decode cX12_letter 78 = .ok (.ireturn, 1) := by decide +kernel
theorem dX12_wordIs_0 : decode cX12_wordIs 0 = .ok (.aload_n 0, 1) := by decide +kernel
theorem dX12_wordIs_1 : decode cX12_wordIs 1 = .ok (.iload_n 1, 1) := by decide +kernel
theorem dX12_wordIs_2 : decode cX12_wordIs 2 = .ok (.invokevirtual 189, 3) := by decide +kernel
theorem dX12_wordIs_5 : decode cX12_wordIs 5 = .ok (.ifCond .eq 19, 3) := by decide +kernel
theorem dX12_wordIs_8 : decode cX12_wordIs 8 = .ok (.iload_n 2, 1) := by decide +kernel
theorem dX12_wordIs_9 : decode cX12_wordIs 9 = .ok (.bipush (-2), 2) := by decide +kernel
theorem dX12_wordIs_11 : decode cX12_wordIs 11 = .ok (.aload_n 0, 1) := by decide +kernel
theorem dX12_wordIs_12 : decode cX12_wordIs 12 = .ok (.iload_n 1, 1) := by decide +kernel
theorem dX12_wordIs_13 : decode cX12_wordIs 13 = .ok (.invokevirtual 145, 3) := by decide +kernel
theorem dX12_wordIs_16 : decode cX12_wordIs 16 = .ok (.iconst 1, 1) := by decide +kernel
theorem dX12_wordIs_17 : decode cX12_wordIs 17 = .ok (.isub, 1) := by decide +kernel
theorem dX12_wordIs_18 : decode cX12_wordIs 18 = .ok (.invokestatic 56, 3) := by decide +kernel
theorem dX12_wordIs_21 : decode cX12_wordIs 21 = .ok (.ifCond .ne 9, 3) := by decide +kernel
theorem dX12_wordIs_24 : decode cX12_wordIs 24 = .ok (.aload_n 0, 1) := by decide +kernel
theorem dX12_wordIs_25 : decode cX12_wordIs 25 = .ok (.iconst 1, 1) := by decide +kernel
theorem dX12_wordIs_26 : decode cX12_wordIs 26 = .ok (.invokevirtual 64, 3) := by decide +kernel
theorem dX12_wordIs_29 : decode cX12_wordIs 29 = .ok (.ireturn, 1) := by decide +kernel
theorem dX12_wordIs_30 : decode cX12_wordIs 30 = .ok (.iload_n 2, 1) := by decide +kernel
theorem dX12_wordIs_31 : decode cX12_wordIs 31 = .ok (.bipush (-2), 2) := by decide +kernel
theorem dX12_wordIs_33 : decode cX12_wordIs 33 = .ok (.if_icmp .ne 11, 3) := by decide +kernel
theorem dX12_wordIs_36 : decode cX12_wordIs 36 = .ok (.aload_n 0, 1) := by decide +kernel
theorem dX12_wordIs_37 : decode cX12_wordIs 37 = .ok (.iload_n 1, 1) := by decide +kernel
theorem dX12_wordIs_38 : decode cX12_wordIs 38 = .ok (.invokevirtual 145, 3) := by decide +kernel
theorem dX12_wordIs_41 : decode cX12_wordIs 41 = .ok (.goto 22, 3) := by decide +kernel
theorem dX12_wordIs_44 : decode cX12_wordIs 44 = .ok (.iload_n 2, 1) := by decide +kernel
theorem dX12_wordIs_45 : decode cX12_wordIs 45 = .ok (.iconst (-1), 1) := by decide +kernel
theorem dX12_wordIs_46 : decode cX12_wordIs 46 = .ok (.if_icmp .ne 11, 3) := by decide +kernel
theorem dX12_wordIs_49 : decode cX12_wordIs 49 = .ok (.aload_n 0, 1) := by decide +kernel
theorem dX12_wordIs_50 : decode cX12_wordIs 50 = .ok (.iload_n 1, 1) := by decide +kernel
theorem dX12_wordIs_51 : decode cX12_wordIs 51 = .ok (.invokevirtual 151, 3) := by decide +kernel
theorem dX12_wordIs_54 : decode cX12_wordIs 54 = .ok (.goto 9, 3) := by decide +kernel
theorem dX12_wordIs_57 : decode cX12_wordIs 57 = .ok (.aload_n 0, 1) := by decide +kernel
theorem dX12_wordIs_58 : decode cX12_wordIs 58 = .ok (.iload_n 1, 1) := by decide +kernel
theorem dX12_wordIs_59 : decode cX12_wordIs 59 = .ok (.iload_n 2, 1) := by decide +kernel
theorem dX12_wordIs_60 : decode cX12_wordIs 60 = .ok (.invokevirtual 148, 3) := by decide +kernel
theorem dX12_wordIs_63 : decode cX12_wordIs 63 = .ok (.ireturn, 1) := by decide +kernel
theorem dX12_says_0 : decode cX12_says 0 = .ok (.aload_n 0, 1) := by decide +kernel
theorem dX12_says_1 : decode cX12_says 1 = .ok (.iload_n 1, 1) := by decide +kernel
theorem dX12_says_2 : decode cX12_says 2 = .ok (.invokevirtual 133, 3) := by decide +kernel
theorem dX12_says_5 : decode cX12_says 5 = .ok (.ifCond .eq 8, 3) := by decide +kernel
theorem dX12_says_8 : decode cX12_says 8 = .ok (.iload_n 2, 1) := by decide +kernel
theorem dX12_says_9 : decode cX12_says 9 = .ok (.iconst (-1), 1) := by decide +kernel
theorem dX12_says_10 : decode cX12_says 10 = .ok (.if_icmp .ge 9, 3) := by decide +kernel
theorem dX12_says_13 : decode cX12_says 13 = .ok (.aload_n 0, 1) := by decide +kernel
theorem dX12_says_14 : decode cX12_says 14 = .ok (.iconst 1, 1) := by decide +kernel
theorem dX12_says_15 : decode cX12_says 15 = .ok (.invokevirtual 64, 3) := by decide +kernel
theorem dX12_says_18 : decode cX12_says 18 = .ok (.ireturn, 1) := by decide +kernel
theorem dX12_says_19 : decode cX12_says 19 = .ok (.aload_n 0, 1) := by decide +kernel
theorem dX12_says_20 : decode cX12_says 20 = .ok (.iload_n 1, 1) := by decide +kernel
theorem dX12_says_21 : decode cX12_says 21 = .ok (.invokevirtual 173, 3) := by decide +kernel
theorem dX12_says_24 : decode cX12_says 24 = .ok (.ifCond .ne 9, 3) := by decide +kernel
theorem dX12_says_27 : decode cX12_says 27 = .ok (.aload_n 0, 1) := by decide +kernel
theorem dX12_says_28 : decode cX12_says 28 = .ok (.iconst 2, 1) := by decide +kernel
theorem dX12_says_29 : decode cX12_says 29 = .ok (.invokevirtual 64, 3) := by decide +kernel
theorem dX12_says_32 : decode cX12_says 32 = .ok (.ireturn, 1) := by decide +kernel
theorem dX12_says_33 : decode cX12_says 33 = .ok (.aload_n 0, 1) := by decide +kernel
theorem dX12_says_34 : decode cX12_says 34 = .ok (.invokevirtual 192, 3) := by decide +kernel
theorem dX12_says_37 : decode cX12_says 37 = .ok (.iload_n 2, 1) := by decide +kernel
theorem dX12_says_38 : decode cX12_says 38 = .ok (.iconst (-1), 1) := by decide +kernel
theorem dX12_says_39 : decode cX12_says 39 = .ok (.if_icmp .ne 10, 3) := by decide +kernel
theorem dX12_says_42 : decode cX12_says 42 = .ok (.aload_n 0, 1) := by decide +kernel
theorem dX12_says_43 : decode cX12_says 43 = .ok (.getfield 170, 3) := by decide +kernel
theorem dX12_says_46 : decode cX12_says 46 = .ok (.goto 25, 3) := by decide +kernel
theorem dX12_says_49 : decode cX12_says 49 = .ok (.iload_n 2, 1) := by decide +kernel
theorem dX12_says_50 : decode cX12_says 50 = .ok (.aload_n 0, 1) := by decide +kernel
theorem dX12_says_51 : decode cX12_says 51 = .ok (.getfield 170, 3) := by decide +kernel
theorem dX12_says_54 : decode cX12_says 54 = .ok (.if_icmp .ge 12, 3) := by decide +kernel
theorem dX12_says_57 : decode cX12_says 57 = .ok (.aload_n 0, 1) := by decide +kernel
theorem dX12_says_58 : decode cX12_says 58 = .ok (.getfield 34, 3) := by decide +kernel
theorem dX12_says_61 : decode cX12_says 61 = .ok (.iload_n 2, 1) := by decide +kernel
theorem dX12_says_62 : decode cX12_says 62 = .ok (.iaload, 1) := by decide +kernel
theorem dX12_says_63 : decode cX12_says 63 = .ok (.goto 8, 3) := by decide +kernel
theorem dX12_says_66 : decode cX12_says 66 = .ok (.aload_n 0, 1) := by decide +kernel
theorem dX12_says_67 : decode cX12_says 67 = .ok (.iconst 1, 1) := by decide +kernel
theorem dX12_says_68 : decode cX12_says 68 = .ok (.invokevirtual 64, 3) := by decide +kernel
theorem dX12_says_71 : decode cX12_says 71 = .ok (.ireturn, 1) := by decide +kernel
theorem dX12_readsWithDoor_0 : decode cX12_readsWithDoor 0 = .ok (.iconst 0, 1) := by decide +kernel
theorem dX12_readsWithDoor_1 : decode cX12_readsWithDoor 1 = .ok (.istore 4, 2) := by decide +kernel
theorem dX12_readsWithDoor_3 : decode cX12_readsWithDoor 3 = .ok (.iload 4, 2) := by decide +kernel
theorem dX12_readsWithDoor_5 : decode cX12_readsWithDoor 5 = .ok (.iload_n 3, 1) := by decide +kernel
theorem dX12_readsWithDoor_6 : decode cX12_readsWithDoor 6 = .ok (.if_icmp .ge 45, 3) := by decide +kernel
theorem dX12_readsWithDoor_9 : decode cX12_readsWithDoor 9 = .ok (.aload_n 0, 1) := by decide +kernel
theorem dX12_readsWithDoor_10 : decode cX12_readsWithDoor 10 = .ok (.getfield 37, 3) := by decide +kernel
theorem dX12_readsWithDoor_13 : decode cX12_readsWithDoor 13 = .ok (.iload 4, 2) := by decide +kernel
theorem dX12_readsWithDoor_15 : decode cX12_readsWithDoor 15 = .ok (.aload_n 0, 1) := by decide +kernel
theorem dX12_readsWithDoor_16 : decode cX12_readsWithDoor 16 = .ok (.getfield 7, 3) := by decide +kernel
theorem dX12_readsWithDoor_19 : decode cX12_readsWithDoor 19 = .ok (.aload_n 0, 1) := by decide +kernel
theorem dX12_readsWithDoor_20 : decode cX12_readsWithDoor 20 = .ok (.iload_n 1, 1) := by decide +kernel
theorem dX12_readsWithDoor_21 : decode cX12_readsWithDoor 21 = .ok (.iload_n 2, 1) := by decide +kernel
theorem dX12_readsWithDoor_22 : decode cX12_readsWithDoor 22 = .ok (.iload 4, 2) := by decide +kernel
theorem dX12_readsWithDoor_24 : decode cX12_readsWithDoor 24 = .ok (.iadd, 1) := by decide +kernel
theorem dX12_readsWithDoor_25 : decode cX12_readsWithDoor 25 = .ok (.invokevirtual 124, 3) := by decide +kernel
theorem dX12_readsWithDoor_28 : decode cX12_readsWithDoor 28 = .ok (.iaload, 1) := by decide +kernel
theorem dX12_readsWithDoor_29 : decode cX12_readsWithDoor 29 = .ok (.iastore, 1) := by decide +kernel
theorem dX12_readsWithDoor_30 : decode cX12_readsWithDoor 30 = .ok (.aload_n 0, 1) := by decide +kernel
theorem dX12_readsWithDoor_31 : decode cX12_readsWithDoor 31 = .ok (.getfield 7, 3) := by decide +kernel
theorem dX12_readsWithDoor_34 : decode cX12_readsWithDoor 34 = .ok (.aload_n 0, 1) := by decide +kernel
theorem dX12_readsWithDoor_35 : decode cX12_readsWithDoor 35 = .ok (.iload_n 1, 1) := by decide +kernel
theorem dX12_readsWithDoor_36 : decode cX12_readsWithDoor 36 = .ok (.iload_n 2, 1) := by decide +kernel
theorem dX12_readsWithDoor_37 : decode cX12_readsWithDoor 37 = .ok (.iload 4, 2) := by decide +kernel
theorem dX12_readsWithDoor_39 : decode cX12_readsWithDoor 39 = .ok (.iadd, 1) := by decide +kernel
theorem dX12_readsWithDoor_40 : decode cX12_readsWithDoor 40 = .ok (.invokevirtual 124, 3) := by decide +kernel
theorem dX12_readsWithDoor_43 : decode cX12_readsWithDoor 43 = .ok (.iconst 0, 1) := by decide +kernel
theorem dX12_readsWithDoor_44 : decode cX12_readsWithDoor 44 = .ok (.iastore, 1) := by decide +kernel
theorem dX12_readsWithDoor_45 : decode cX12_readsWithDoor 45 = .ok (.iinc 4 1, 3) := by decide +kernel
theorem dX12_readsWithDoor_48 : decode cX12_readsWithDoor 48 = .ok (.goto (-45), 3) := by decide +kernel
theorem dX12_readsWithDoor_51 : decode cX12_readsWithDoor 51 = .ok (.aload_n 0, 1) := by decide +kernel
theorem dX12_readsWithDoor_52 : decode cX12_readsWithDoor 52 = .ok (.iload_n 1, 1) := by decide +kernel
theorem dX12_readsWithDoor_53 : decode cX12_readsWithDoor 53 = .ok (.invokevirtual 173, 3) := by decide +kernel
theorem dX12_readsWithDoor_56 : decode cX12_readsWithDoor 56 = .ok (.istore 4, 2) := by decide +kernel
theorem dX12_readsWithDoor_58 : decode cX12_readsWithDoor 58 = .ok (.iconst 0, 1) := by decide +kernel
theorem dX12_readsWithDoor_59 : decode cX12_readsWithDoor 59 = .ok (.istore 5, 2) := by decide +kernel
theorem dX12_readsWithDoor_61 : decode cX12_readsWithDoor 61 = .ok (.iload 5, 2) := by decide +kernel
theorem dX12_readsWithDoor_63 : decode cX12_readsWithDoor 63 = .ok (.iload_n 3, 1) := by decide +kernel
theorem dX12_readsWithDoor_64 : decode cX12_readsWithDoor 64 = .ok (.if_icmp .ge 30, 3) := by decide +kernel
theorem dX12_readsWithDoor_67 : decode cX12_readsWithDoor 67 = .ok (.aload_n 0, 1) := by decide +kernel
theorem dX12_readsWithDoor_68 : decode cX12_readsWithDoor 68 = .ok (.getfield 7, 3) := by decide +kernel
theorem dX12_readsWithDoor_71 : decode cX12_readsWithDoor 71 = .ok (.aload_n 0, 1) := by decide +kernel
theorem dX12_readsWithDoor_72 : decode cX12_readsWithDoor 72 = .ok (.iload_n 1, 1) := by decide +kernel
theorem dX12_readsWithDoor_73 : decode cX12_readsWithDoor 73 = .ok (.iload_n 2, 1) := by decide +kernel
theorem dX12_readsWithDoor_74 : decode cX12_readsWithDoor 74 = .ok (.iload 5, 2) := by decide +kernel
theorem dX12_readsWithDoor_76 : decode cX12_readsWithDoor 76 = .ok (.iadd, 1) := by decide +kernel
theorem dX12_readsWithDoor_77 : decode cX12_readsWithDoor 77 = .ok (.invokevirtual 124, 3) := by decide +kernel
theorem dX12_readsWithDoor_80 : decode cX12_readsWithDoor 80 = .ok (.aload_n 0, 1) := by decide +kernel
theorem dX12_readsWithDoor_81 : decode cX12_readsWithDoor 81 = .ok (.getfield 37, 3) := by decide +kernel
theorem dX12_readsWithDoor_84 : decode cX12_readsWithDoor 84 = .ok (.iload 5, 2) := by decide +kernel
theorem dX12_readsWithDoor_86 : decode cX12_readsWithDoor 86 = .ok (.iaload, 1) := by decide +kernel
theorem dX12_readsWithDoor_87 : decode cX12_readsWithDoor 87 = .ok (.iastore, 1) := by decide +kernel
theorem dX12_readsWithDoor_88 : decode cX12_readsWithDoor 88 = .ok (.iinc 5 1, 3) := by decide +kernel
theorem dX12_readsWithDoor_91 : decode cX12_readsWithDoor 91 = .ok (.goto (-30), 3) := by decide +kernel
theorem dX12_readsWithDoor_94 : decode cX12_readsWithDoor 94 = .ok (.iload 4, 2) := by decide +kernel
theorem dX12_readsWithDoor_96 : decode cX12_readsWithDoor 96 = .ok (.ireturn, 1) := by decide +kernel
theorem dX12_doors_0 : decode cX12_doors 0 = .ok (.aload_n 0, 1) := by decide +kernel
theorem dX12_doors_1 : decode cX12_doors 1 = .ok (.iload_n 1, 1) := by decide +kernel
theorem dX12_doors_2 : decode cX12_doors 2 = .ok (.invokevirtual 133, 3) := by decide +kernel
theorem dX12_doors_5 : decode cX12_doors 5 = .ok (.ifCond .eq 13, 3) := by decide +kernel
theorem dX12_doors_8 : decode cX12_doors 8 = .ok (.iload_n 2, 1) := by decide +kernel
theorem dX12_doors_9 : decode cX12_doors 9 = .ok (.iconst 1, 1) := by decide +kernel
theorem dX12_doors_10 : decode cX12_doors 10 = .ok (.bipush 12, 2) := by decide +kernel
theorem dX12_doors_12 : decode cX12_doors 12 = .ok (.invokestatic 56, 3) := by decide +kernel
theorem dX12_doors_15 : decode cX12_doors 15 = .ok (.ifCond .ne 9, 3) := by decide +kernel
theorem dX12_doors_18 : decode cX12_doors 18 = .ok (.aload_n 0, 1) := by decide +kernel
theorem dX12_doors_19 : decode cX12_doors 19 = .ok (.iconst 1, 1) := by decide +kernel
theorem dX12_doors_20 : decode cX12_doors 20 = .ok (.invokevirtual 64, 3) := by decide +kernel
theorem dX12_doors_23 : decode cX12_doors 23 = .ok (.ireturn, 1) := by decide +kernel
theorem dX12_doors_24 : decode cX12_doors 24 = .ok (.iconst 0, 1) := by decide +kernel
theorem dX12_doors_25 : decode cX12_doors 25 = .ok (.istore_n 3, 1) := by decide +kernel
theorem dX12_doors_26 : decode cX12_doors 26 = .ok (.iconst 0, 1) := by decide +kernel
theorem dX12_doors_27 : decode cX12_doors 27 = .ok (.istore 4, 2) := by decide +kernel
theorem dX12_doors_29 : decode cX12_doors 29 = .ok (.iload 4, 2) := by decide +kernel
theorem dX12_doors_31 : decode cX12_doors 31 = .ok (.iload_n 2, 1) := by decide +kernel
theorem dX12_doors_32 : decode cX12_doors 32 = .ok (.iadd, 1) := by decide +kernel
theorem dX12_doors_33 : decode cX12_doors 33 = .ok (.aload_n 0, 1) := by decide +kernel
theorem dX12_doors_34 : decode cX12_doors 34 = .ok (.iload_n 1, 1) := by decide +kernel
theorem dX12_doors_35 : decode cX12_doors 35 = .ok (.iconst 2, 1) := by decide +kernel
theorem dX12_doors_36 : decode cX12_doors 36 = .ok (.invokevirtual 60, 3) := by decide +kernel
theorem dX12_doors_39 : decode cX12_doors 39 = .ok (.if_icmp .gt 31, 3) := by decide +kernel
theorem dX12_doors_42 : decode cX12_doors 42 = .ok (.iload_n 3, 1) := by decide +kernel
theorem dX12_doors_43 : decode cX12_doors 43 = .ok (.aload_n 0, 1) := by decide +kernel
theorem dX12_doors_44 : decode cX12_doors 44 = .ok (.iload_n 1, 1) := by decide +kernel
theorem dX12_doors_45 : decode cX12_doors 45 = .ok (.iload 4, 2) := by decide +kernel
theorem dX12_doors_47 : decode cX12_doors 47 = .ok (.iload_n 2, 1) := by decide +kernel
theorem dX12_doors_48 : decode cX12_doors 48 = .ok (.invokevirtual 195, 3) := by decide +kernel
theorem dX12_doors_51 : decode cX12_doors 51 = .ok (.ifCond .eq 10, 3) := by decide +kernel
theorem dX12_doors_54 : decode cX12_doors 54 = .ok (.iconst 1, 1) := by decide +kernel
theorem dX12_doors_55 : decode cX12_doors 55 = .ok (.iload 4, 2) := by decide +kernel
theorem dX12_doors_57 : decode cX12_doors 57 = .ok (.ishl, 1) := by decide +kernel
theorem dX12_doors_58 : decode cX12_doors 58 = .ok (.goto 4, 3) := by decide +kernel
theorem dX12_doors_61 : decode cX12_doors 61 = .ok (.iconst 0, 1) := by decide +kernel
theorem dX12_doors_62 : decode cX12_doors 62 = .ok (.ior, 1) := by decide +kernel
theorem dX12_doors_63 : decode cX12_doors 63 = .ok (.istore_n 3, 1) := by decide +kernel
theorem dX12_doors_64 : decode cX12_doors 64 = .ok (.iinc 4 1, 3) := by decide +kernel
theorem dX12_doors_67 : decode cX12_doors 67 = .ok (.goto (-38), 3) := by decide +kernel
theorem dX12_doors_70 : decode cX12_doors 70 = .ok (.iload_n 3, 1) := by decide +kernel
theorem dX12_doors_71 : decode cX12_doors 71 = .ok (.ireturn, 1) := by decide +kernel
theorem dX12_spare_0 : decode cX12_spare 0 = .ok (.aload_n 0, 1) := by decide +kernel
theorem dX12_spare_1 : decode cX12_spare 1 = .ok (.iload_n 1, 1) := by decide +kernel
theorem dX12_spare_2 : decode cX12_spare 2 = .ok (.invokevirtual 133, 3) := by decide +kernel
theorem dX12_spare_5 : decode cX12_spare 5 = .ok (.ifCond .ne 9, 3) := by decide +kernel
theorem dX12_spare_8 : decode cX12_spare 8 = .ok (.aload_n 0, 1) := by decide +kernel
theorem dX12_spare_9 : decode cX12_spare 9 = .ok (.iconst 1, 1) := by decide +kernel
theorem dX12_spare_10 : decode cX12_spare 10 = .ok (.invokevirtual 64, 3) := by decide +kernel
theorem dX12_spare_13 : decode cX12_spare 13 = .ok (.ireturn, 1) := by decide +kernel
theorem dX12_spare_14 : decode cX12_spare 14 = .ok (.iconst 0, 1) := by decide +kernel
theorem dX12_spare_15 : decode cX12_spare 15 = .ok (.istore_n 2, 1) := by decide +kernel
theorem dX12_spare_16 : decode cX12_spare 16 = .ok (.iconst 0, 1) := by decide +kernel
theorem dX12_spare_17 : decode cX12_spare 17 = .ok (.istore_n 3, 1) := by decide +kernel
theorem dX12_spare_18 : decode cX12_spare 18 = .ok (.iload_n 3, 1) := by decide +kernel
theorem dX12_spare_19 : decode cX12_spare 19 = .ok (.aload_n 0, 1) := by decide +kernel
theorem dX12_spare_20 : decode cX12_spare 20 = .ok (.iload_n 1, 1) := by decide +kernel
theorem dX12_spare_21 : decode cX12_spare 21 = .ok (.iconst 2, 1) := by decide +kernel
theorem dX12_spare_22 : decode cX12_spare 22 = .ok (.invokevirtual 60, 3) := by decide +kernel
theorem dX12_spare_25 : decode cX12_spare 25 = .ok (.if_icmp .ge 43, 3) := by decide +kernel
theorem dX12_spare_28 : decode cX12_spare 28 = .ok (.iload_n 2, 1) := by decide +kernel
theorem dX12_spare_29 : decode cX12_spare 29 = .ok (.aload_n 0, 1) := by decide +kernel
theorem dX12_spare_30 : decode cX12_spare 30 = .ok (.getfield 7, 3) := by decide +kernel
theorem dX12_spare_33 : decode cX12_spare 33 = .ok (.aload_n 0, 1) := by decide +kernel
theorem dX12_spare_34 : decode cX12_spare 34 = .ok (.iload_n 1, 1) := by decide +kernel
theorem dX12_spare_35 : decode cX12_spare 35 = .ok (.iload_n 3, 1) := by decide +kernel
theorem dX12_spare_36 : decode cX12_spare 36 = .ok (.invokevirtual 124, 3) := by decide +kernel
theorem dX12_spare_39 : decode cX12_spare 39 = .ok (.iaload, 1) := by decide +kernel
theorem dX12_spare_40 : decode cX12_spare 40 = .ok (.ifCond .le 19, 3) := by decide +kernel
theorem dX12_spare_43 : decode cX12_spare 43 = .ok (.aload_n 0, 1) := by decide +kernel
theorem dX12_spare_44 : decode cX12_spare 44 = .ok (.iload_n 1, 1) := by decide +kernel
theorem dX12_spare_45 : decode cX12_spare 45 = .ok (.iload_n 3, 1) := by decide +kernel
theorem dX12_spare_46 : decode cX12_spare 46 = .ok (.iconst 1, 1) := by decide +kernel
theorem dX12_spare_47 : decode cX12_spare 47 = .ok (.invokevirtual 195, 3) := by decide +kernel
theorem dX12_spare_50 : decode cX12_spare 50 = .ok (.ifCond .eq 9, 3) := by decide +kernel
theorem dX12_spare_53 : decode cX12_spare 53 = .ok (.iconst 1, 1) := by decide +kernel
theorem dX12_spare_54 : decode cX12_spare 54 = .ok (.iload_n 3, 1) := by decide +kernel
theorem dX12_spare_55 : decode cX12_spare 55 = .ok (.ishl, 1) := by decide +kernel
theorem dX12_spare_56 : decode cX12_spare 56 = .ok (.goto 4, 3) := by decide +kernel
theorem dX12_spare_59 : decode cX12_spare 59 = .ok (.iconst 0, 1) := by decide +kernel
theorem dX12_spare_60 : decode cX12_spare 60 = .ok (.ior, 1) := by decide +kernel
theorem dX12_spare_61 : decode cX12_spare 61 = .ok (.istore_n 2, 1) := by decide +kernel
theorem dX12_spare_62 : decode cX12_spare 62 = .ok (.iinc 3 1, 3) := by decide +kernel
theorem dX12_spare_65 : decode cX12_spare 65 = .ok (.goto (-47), 3) := by decide +kernel
theorem dX12_spare_68 : decode cX12_spare 68 = .ok (.iload_n 2, 1) := by decide +kernel
theorem dX12_spare_69 : decode cX12_spare 69 = .ok (.ireturn, 1) := by decide +kernel
theorem dX12_othersAt_0 : decode cX12_othersAt 0 = .ok (.aload_n 0, 1) := by decide +kernel
theorem dX12_othersAt_1 : decode cX12_othersAt 1 = .ok (.getfield 7, 3) := by decide +kernel
theorem dX12_othersAt_4 : decode cX12_othersAt 4 = .ok (.aload_n 0, 1) := by decide +kernel
theorem dX12_othersAt_5 : decode cX12_othersAt 5 = .ok (.iload_n 1, 1) := by decide +kernel
theorem dX12_othersAt_6 : decode cX12_othersAt 6 = .ok (.iload_n 2, 1) := by decide +kernel
theorem dX12_othersAt_7 : decode cX12_othersAt 7 = .ok (.invokevirtual 124, 3) := by decide +kernel
theorem dX12_othersAt_10 : decode cX12_othersAt 10 = .ok (.iaload, 1) := by decide +kernel
theorem dX12_othersAt_11 : decode cX12_othersAt 11 = .ok (.istore_n 3, 1) := by decide +kernel
theorem dX12_othersAt_12 : decode cX12_othersAt 12 = .ok (.iconst 0, 1) := by decide +kernel
theorem dX12_othersAt_13 : decode cX12_othersAt 13 = .ok (.istore 4, 2) := by decide +kernel
theorem dX12_othersAt_15 : decode cX12_othersAt 15 = .ok (.iconst 1, 1) := by decide +kernel
theorem dX12_othersAt_16 : decode cX12_othersAt 16 = .ok (.istore 5, 2) := by decide +kernel
theorem dX12_othersAt_18 : decode cX12_othersAt 18 = .ok (.iload 5, 2) := by decide +kernel
theorem dX12_othersAt_20 : decode cX12_othersAt 20 = .ok (.bipush 26, 2) := by decide +kernel
theorem dX12_othersAt_22 : decode cX12_othersAt 22 = .ok (.if_icmp .gt 49, 3) := by decide +kernel
theorem dX12_othersAt_25 : decode cX12_othersAt 25 = .ok (.aload_n 0, 1) := by decide +kernel
theorem dX12_othersAt_26 : decode cX12_othersAt 26 = .ok (.getfield 7, 3) := by decide +kernel
theorem dX12_othersAt_29 : decode cX12_othersAt 29 = .ok (.aload_n 0, 1) := by decide +kernel
theorem dX12_othersAt_30 : decode cX12_othersAt 30 = .ok (.iload_n 1, 1) := by decide +kernel
theorem dX12_othersAt_31 : decode cX12_othersAt 31 = .ok (.iload_n 2, 1) := by decide +kernel
theorem dX12_othersAt_32 : decode cX12_othersAt 32 = .ok (.invokevirtual 124, 3) := by decide +kernel
theorem dX12_othersAt_35 : decode cX12_othersAt 35 = .ok (.iload 5, 2) := by decide +kernel
theorem dX12_othersAt_37 : decode cX12_othersAt 37 = .ok (.iastore, 1) := by decide +kernel
theorem dX12_othersAt_38 : decode cX12_othersAt 38 = .ok (.iload 4, 2) := by decide +kernel
theorem dX12_othersAt_40 : decode cX12_othersAt 40 = .ok (.iload 5, 2) := by decide +kernel
theorem dX12_othersAt_42 : decode cX12_othersAt 42 = .ok (.iload_n 3, 1) := by decide +kernel
theorem dX12_othersAt_43 : decode cX12_othersAt 43 = .ok (.if_icmp .eq 18, 3) := by decide +kernel
theorem dX12_othersAt_46 : decode cX12_othersAt 46 = .ok (.aload_n 0, 1) := by decide +kernel
theorem dX12_othersAt_47 : decode cX12_othersAt 47 = .ok (.iload_n 1, 1) := by decide +kernel
theorem dX12_othersAt_48 : decode cX12_othersAt 48 = .ok (.invokevirtual 173, 3) := by decide +kernel
theorem dX12_othersAt_51 : decode cX12_othersAt 51 = .ok (.ifCond .eq 10, 3) := by decide +kernel
theorem dX12_othersAt_54 : decode cX12_othersAt 54 = .ok (.iconst 1, 1) := by decide +kernel
theorem dX12_othersAt_55 : decode cX12_othersAt 55 = .ok (.iload 5, 2) := by decide +kernel
theorem dX12_othersAt_57 : decode cX12_othersAt 57 = .ok (.ishl, 1) := by decide +kernel
theorem dX12_othersAt_58 : decode cX12_othersAt 58 = .ok (.goto 4, 3) := by decide +kernel
theorem dX12_othersAt_61 : decode cX12_othersAt 61 = .ok (.iconst 0, 1) := by decide +kernel
theorem dX12_othersAt_62 : decode cX12_othersAt 62 = .ok (.ior, 1) := by decide +kernel
theorem dX12_othersAt_63 : decode cX12_othersAt 63 = .ok (.istore 4, 2) := by decide +kernel
theorem dX12_othersAt_65 : decode cX12_othersAt 65 = .ok (.iinc 5 1, 3) := by decide +kernel
theorem dX12_othersAt_68 : decode cX12_othersAt 68 = .ok (.goto (-50), 3) := by decide +kernel
theorem dX12_othersAt_71 : decode cX12_othersAt 71 = .ok (.aload_n 0, 1) := by decide +kernel
theorem dX12_othersAt_72 : decode cX12_othersAt 72 = .ok (.getfield 7, 3) := by decide +kernel
theorem dX12_othersAt_75 : decode cX12_othersAt 75 = .ok (.aload_n 0, 1) := by decide +kernel
theorem dX12_othersAt_76 : decode cX12_othersAt 76 = .ok (.iload_n 1, 1) := by decide +kernel
theorem dX12_othersAt_77 : decode cX12_othersAt 77 = .ok (.iload_n 2, 1) := by decide +kernel
theorem dX12_othersAt_78 : decode cX12_othersAt 78 = .ok (.invokevirtual 124, 3) := by decide +kernel
theorem dX12_othersAt_81 : decode cX12_othersAt 81 = .ok (.iload_n 3, 1) := by decide +kernel
theorem dX12_othersAt_82 : decode cX12_othersAt 82 = .ok (.iastore, 1) := by decide +kernel
theorem dX12_othersAt_83 : decode cX12_othersAt 83 = .ok (.iload 4, 2) := by decide +kernel
theorem dX12_othersAt_85 : decode cX12_othersAt 85 = .ok (.ireturn, 1) := by decide +kernel
theorem dX12_others_0 : decode cX12_others 0 = .ok (.aload_n 0, 1) := by decide +kernel
theorem dX12_others_1 : decode cX12_others 1 = .ok (.iload_n 1, 1) := by decide +kernel
theorem dX12_others_2 : decode cX12_others 2 = .ok (.invokevirtual 133, 3) := by decide +kernel
theorem dX12_others_5 : decode cX12_others 5 = .ok (.ifCond .eq 21, 3) := by decide +kernel
theorem dX12_others_8 : decode cX12_others 8 = .ok (.aload_n 0, 1) := by decide +kernel
theorem dX12_others_9 : decode cX12_others 9 = .ok (.iload_n 1, 1) := by decide +kernel
theorem dX12_others_10 : decode cX12_others 10 = .ok (.iload_n 2, 1) := by decide +kernel
theorem dX12_others_11 : decode cX12_others 11 = .ok (.invokevirtual 186, 3) := by decide +kernel
theorem dX12_others_14 : decode cX12_others 14 = .ok (.ifCond .eq 12, 3) := by decide +kernel
theorem dX12_others_17 : decode cX12_others 17 = .ok (.aload_n 0, 1) := by decide +kernel
theorem dX12_others_18 : decode cX12_others 18 = .ok (.iload_n 1, 1) := by decide +kernel
theorem dX12_others_19 : decode cX12_others 19 = .ok (.iload_n 2, 1) := by decide +kernel
theorem dX12_others_20 : decode cX12_others 20 = .ok (.invokevirtual 198, 3) := by decide +kernel
theorem dX12_others_23 : decode cX12_others 23 = .ok (.goto 8, 3) := by decide +kernel
theorem dX12_others_26 : decode cX12_others 26 = .ok (.aload_n 0, 1) := by decide +kernel
theorem dX12_others_27 : decode cX12_others 27 = .ok (.iconst 1, 1) := by decide +kernel
theorem dX12_others_28 : decode cX12_others 28 = .ok (.invokevirtual 64, 3) := by decide +kernel
theorem dX12_others_31 : decode cX12_others 31 = .ok (.ireturn, 1) := by decide +kernel
theorem dX12_bitsOf_0 : decode cX12_bitsOf 0 = .ok (.iconst 0, 1) := by decide +kernel
theorem dX12_bitsOf_1 : decode cX12_bitsOf 1 = .ok (.istore_n 1, 1) := by decide +kernel
theorem dX12_bitsOf_2 : decode cX12_bitsOf 2 = .ok (.iload_n 0, 1) := by decide +kernel
theorem dX12_bitsOf_3 : decode cX12_bitsOf 3 = .ok (.istore_n 2, 1) := by decide +kernel
theorem dX12_bitsOf_4 : decode cX12_bitsOf 4 = .ok (.iload_n 2, 1) := by decide +kernel
theorem dX12_bitsOf_5 : decode cX12_bitsOf 5 = .ok (.ifCond .eq 15, 3) := by decide +kernel
theorem dX12_bitsOf_8 : decode cX12_bitsOf 8 = .ok (.iinc 1 1, 3) := by decide +kernel
theorem dX12_bitsOf_11 : decode cX12_bitsOf 11 = .ok (.iload_n 2, 1) := by decide +kernel
theorem dX12_bitsOf_12 : decode cX12_bitsOf 12 = .ok (.iload_n 2, 1) := by decide +kernel
theorem dX12_bitsOf_13 : decode cX12_bitsOf 13 = .ok (.iconst 1, 1) := by decide +kernel
theorem dX12_bitsOf_14 : decode cX12_bitsOf 14 = .ok (.isub, 1) := by decide +kernel
theorem dX12_bitsOf_15 : decode cX12_bitsOf 15 = .ok (.iand, 1) := by decide +kernel
theorem dX12_bitsOf_16 : decode cX12_bitsOf 16 = .ok (.istore_n 2, 1) := by decide +kernel
theorem dX12_bitsOf_17 : decode cX12_bitsOf 17 = .ok (.goto (-13), 3) := by decide +kernel
theorem dX12_bitsOf_20 : decode cX12_bitsOf 20 = .ok (.iload_n 1, 1) := by decide +kernel
theorem dX12_bitsOf_21 : decode cX12_bitsOf 21 = .ok (.ireturn, 1) := by decide +kernel
theorem dX12_steps_0 : decode cX12_steps 0 = .ok (.aload_n 0, 1) := by decide +kernel
theorem dX12_steps_1 : decode cX12_steps 1 = .ok (.iload_n 1, 1) := by decide +kernel
theorem dX12_steps_2 : decode cX12_steps 2 = .ok (.invokevirtual 133, 3) := by decide +kernel
theorem dX12_steps_5 : decode cX12_steps 5 = .ok (.ifCond .ne 9, 3) := by decide +kernel
theorem dX12_steps_8 : decode cX12_steps 8 = .ok (.aload_n 0, 1) := by decide +kernel
theorem dX12_steps_9 : decode cX12_steps 9 = .ok (.iconst 1, 1) := by decide +kernel
theorem dX12_steps_10 : decode cX12_steps 10 = .ok (.invokevirtual 64, 3) := by decide +kernel
theorem dX12_steps_13 : decode cX12_steps 13 = .ok (.ireturn, 1) := by decide +kernel
theorem dX12_steps_14 : decode cX12_steps 14 = .ok (.iconst 0, 1) := by decide +kernel
theorem dX12_steps_15 : decode cX12_steps 15 = .ok (.istore_n 2, 1) := by decide +kernel
theorem dX12_steps_16 : decode cX12_steps 16 = .ok (.iconst 0, 1) := by decide +kernel
theorem dX12_steps_17 : decode cX12_steps 17 = .ok (.istore_n 3, 1) := by decide +kernel
theorem dX12_steps_18 : decode cX12_steps 18 = .ok (.iload_n 3, 1) := by decide +kernel
theorem dX12_steps_19 : decode cX12_steps 19 = .ok (.aload_n 0, 1) := by decide +kernel
theorem dX12_steps_20 : decode cX12_steps 20 = .ok (.iload_n 1, 1) := by decide +kernel
theorem dX12_steps_21 : decode cX12_steps 21 = .ok (.iconst 2, 1) := by decide +kernel
theorem dX12_steps_22 : decode cX12_steps 22 = .ok (.invokevirtual 60, 3) := by decide +kernel
theorem dX12_steps_25 : decode cX12_steps 25 = .ok (.if_icmp .ge 39, 3) := by decide +kernel
theorem dX12_steps_28 : decode cX12_steps 28 = .ok (.iload_n 2, 1) := by decide +kernel
theorem dX12_steps_29 : decode cX12_steps 29 = .ok (.aload_n 0, 1) := by decide +kernel
theorem dX12_steps_30 : decode cX12_steps 30 = .ok (.getfield 7, 3) := by decide +kernel
theorem dX12_steps_33 : decode cX12_steps 33 = .ok (.aload_n 0, 1) := by decide +kernel
theorem dX12_steps_34 : decode cX12_steps 34 = .ok (.iload_n 1, 1) := by decide +kernel
theorem dX12_steps_35 : decode cX12_steps 35 = .ok (.iload_n 3, 1) := by decide +kernel
theorem dX12_steps_36 : decode cX12_steps 36 = .ok (.invokevirtual 124, 3) := by decide +kernel
theorem dX12_steps_39 : decode cX12_steps 39 = .ok (.iaload, 1) := by decide +kernel
theorem dX12_steps_40 : decode cX12_steps 40 = .ok (.ifCond .le 15, 3) := by decide +kernel
theorem dX12_steps_43 : decode cX12_steps 43 = .ok (.aload_n 0, 1) := by decide +kernel
theorem dX12_steps_44 : decode cX12_steps 44 = .ok (.iload_n 1, 1) := by decide +kernel
theorem dX12_steps_45 : decode cX12_steps 45 = .ok (.iload_n 3, 1) := by decide +kernel
theorem dX12_steps_46 : decode cX12_steps 46 = .ok (.invokevirtual 198, 3) := by decide +kernel
theorem dX12_steps_49 : decode cX12_steps 49 = .ok (.invokestatic 201, 3) := by decide +kernel
theorem dX12_steps_52 : decode cX12_steps 52 = .ok (.goto 4, 3) := by decide +kernel
theorem dX12_steps_55 : decode cX12_steps 55 = .ok (.iconst 0, 1) := by decide +kernel
theorem dX12_steps_56 : decode cX12_steps 56 = .ok (.iadd, 1) := by decide +kernel
theorem dX12_steps_57 : decode cX12_steps 57 = .ok (.istore_n 2, 1) := by decide +kernel
theorem dX12_steps_58 : decode cX12_steps 58 = .ok (.iinc 3 1, 3) := by decide +kernel
theorem dX12_steps_61 : decode cX12_steps 61 = .ok (.goto (-43), 3) := by decide +kernel
theorem dX12_steps_64 : decode cX12_steps 64 = .ok (.iload_n 2, 1) := by decide +kernel
theorem dX12_steps_65 : decode cX12_steps 65 = .ok (.ireturn, 1) := by decide +kernel
theorem dX12_mends_0 : decode cX12_mends 0 = .ok (.aload_n 0, 1) := by decide +kernel
theorem dX12_mends_1 : decode cX12_mends 1 = .ok (.iload_n 1, 1) := by decide +kernel
theorem dX12_mends_2 : decode cX12_mends 2 = .ok (.invokevirtual 133, 3) := by decide +kernel
theorem dX12_mends_5 : decode cX12_mends 5 = .ok (.ifCond .ne 9, 3) := by decide +kernel
theorem dX12_mends_8 : decode cX12_mends 8 = .ok (.aload_n 0, 1) := by decide +kernel
theorem dX12_mends_9 : decode cX12_mends 9 = .ok (.iconst 1, 1) := by decide +kernel
theorem dX12_mends_10 : decode cX12_mends 10 = .ok (.invokevirtual 64, 3) := by decide +kernel
theorem dX12_mends_13 : decode cX12_mends 13 = .ok (.ireturn, 1) := by decide +kernel
theorem dX12_mends_14 : decode cX12_mends 14 = .ok (.aload_n 0, 1) := by decide +kernel
theorem dX12_mends_15 : decode cX12_mends 15 = .ok (.iload_n 1, 1) := by decide +kernel
theorem dX12_mends_16 : decode cX12_mends 16 = .ok (.invokevirtual 164, 3) := by decide +kernel
theorem dX12_mends_19 : decode cX12_mends 19 = .ok (.iconst 0, 1) := by decide +kernel
theorem dX12_mends_20 : decode cX12_mends 20 = .ok (.istore_n 2, 1) := by decide +kernel
theorem dX12_mends_21 : decode cX12_mends 21 = .ok (.iload_n 2, 1) := by decide +kernel
theorem dX12_mends_22 : decode cX12_mends 22 = .ok (.iconst 5, 1) := by decide +kernel
theorem dX12_mends_23 : decode cX12_mends 23 = .ok (.aload_n 0, 1) := by decide +kernel
theorem dX12_mends_24 : decode cX12_mends 24 = .ok (.getfield 126, 3) := by decide +kernel
theorem dX12_mends_27 : decode cX12_mends 27 = .ok (.imul, 1) := by decide +kernel
theorem dX12_mends_28 : decode cX12_mends 28 = .ok (.iconst 4, 1) := by decide +kernel
theorem dX12_mends_29 : decode cX12_mends 29 = .ok (.iadd, 1) := by decide +kernel
theorem dX12_mends_30 : decode cX12_mends 30 = .ok (.if_icmp .gt 26, 3) := by decide +kernel
theorem dX12_mends_33 : decode cX12_mends 33 = .ok (.aload_n 0, 1) := by decide +kernel
theorem dX12_mends_34 : decode cX12_mends 34 = .ok (.getfield 31, 3) := by decide +kernel
theorem dX12_mends_37 : decode cX12_mends 37 = .ok (.iload_n 2, 1) := by decide +kernel
theorem dX12_mends_38 : decode cX12_mends 38 = .ok (.iload_n 2, 1) := by decide +kernel
theorem dX12_mends_39 : decode cX12_mends 39 = .ok (.ifCond .ne 7, 3) := by decide +kernel
theorem dX12_mends_42 : decode cX12_mends 42 = .ok (.iconst 0, 1) := by decide +kernel
theorem dX12_mends_43 : decode cX12_mends 43 = .ok (.goto 6, 3) := by decide +kernel
theorem dX12_mends_46 : decode cX12_mends 46 = .ok (.sipush 9999, 3) := by decide +kernel
theorem dX12_mends_49 : decode cX12_mends 49 = .ok (.iastore, 1) := by decide +kernel
theorem dX12_mends_50 : decode cX12_mends 50 = .ok (.iinc 2 1, 3) := by decide +kernel
theorem dX12_mends_53 : decode cX12_mends 53 = .ok (.goto (-32), 3) := by decide +kernel
theorem dX12_mends_56 : decode cX12_mends 56 = .ok (.iconst 0, 1) := by decide +kernel
theorem dX12_mends_57 : decode cX12_mends 57 = .ok (.istore_n 2, 1) := by decide +kernel
theorem dX12_mends_58 : decode cX12_mends 58 = .ok (.iload_n 2, 1) := by decide +kernel
theorem dX12_mends_59 : decode cX12_mends 59 = .ok (.aload_n 0, 1) := by decide +kernel
theorem dX12_mends_60 : decode cX12_mends 60 = .ok (.getfield 126, 3) := by decide +kernel
theorem dX12_mends_63 : decode cX12_mends 63 = .ok (.if_icmp .ge 154, 3) := by decide +kernel
theorem dX12_mends_66 : decode cX12_mends 66 = .ok (.iconst 0, 1) := by decide +kernel
theorem dX12_mends_67 : decode cX12_mends 67 = .ok (.istore_n 3, 1) := by decide +kernel
theorem dX12_mends_68 : decode cX12_mends 68 = .ok (.iload_n 3, 1) := by decide +kernel
theorem dX12_mends_69 : decode cX12_mends 69 = .ok (.iconst 5, 1) := by decide +kernel
theorem dX12_mends_70 : decode cX12_mends 70 = .ok (.if_icmp .ge 141, 3) := by decide +kernel
theorem dX12_mends_73 : decode cX12_mends 73 = .ok (.iconst 0, 1) := by decide +kernel
theorem dX12_mends_74 : decode cX12_mends 74 = .ok (.istore 4, 2) := by decide +kernel
theorem dX12_mends_76 : decode cX12_mends 76 = .ok (.iload 4, 2) := by decide +kernel
theorem dX12_mends_78 : decode cX12_mends 78 = .ok (.aload_n 0, 1) := by decide +kernel
theorem dX12_mends_79 : decode cX12_mends 79 = .ok (.getfield 7, 3) := by decide +kernel
theorem dX12_mends_82 : decode cX12_mends 82 = .ok (.iconst 1, 1) := by decide +kernel
theorem dX12_mends_83 : decode cX12_mends 83 = .ok (.iaload, 1) := by decide +kernel
theorem dX12_mends_84 : decode cX12_mends 84 = .ok (.if_icmp .ge 121, 3) := by decide +kernel
theorem dX12_mends_87 : decode cX12_mends 87 = .ok (.aload_n 0, 1) := by decide +kernel
theorem dX12_mends_88 : decode cX12_mends 88 = .ok (.getfield 31, 3) := by decide +kernel
theorem dX12_mends_91 : decode cX12_mends 91 = .ok (.iconst 5, 1) := by decide +kernel
theorem dX12_mends_92 : decode cX12_mends 92 = .ok (.iload_n 2, 1) := by decide +kernel
theorem dX12_mends_93 : decode cX12_mends 93 = .ok (.imul, 1) := by decide +kernel
theorem dX12_mends_94 : decode cX12_mends 94 = .ok (.iload_n 3, 1) := by decide +kernel
theorem dX12_mends_95 : decode cX12_mends 95 = .ok (.iadd, 1) := by decide +kernel
theorem dX12_mends_96 : decode cX12_mends 96 = .ok (.iaload, 1) := by decide +kernel
theorem dX12_mends_97 : decode cX12_mends 97 = .ok (.sipush 9999, 3) := by decide +kernel
theorem dX12_mends_100 : decode cX12_mends 100 = .ok (.if_icmp .ge 105, 3) := by decide +kernel
theorem dX12_mends_103 : decode cX12_mends 103 = .ok (.iload_n 3, 1) := by decide +kernel
theorem dX12_mends_104 : decode cX12_mends 104 = .ok (.aload_n 0, 1) := by decide +kernel
theorem dX12_mends_105 : decode cX12_mends 105 = .ok (.iload 4, 2) := by decide +kernel
theorem dX12_mends_107 : decode cX12_mends 107 = .ok (.invokevirtual 151, 3) := by decide +kernel
theorem dX12_mends_110 : decode cX12_mends 110 = .ok (.invokestatic 154, 3) := by decide +kernel
theorem dX12_mends_113 : decode cX12_mends 113 = .ok (.istore 5, 2) := by decide +kernel
theorem dX12_mends_115 : decode cX12_mends 115 = .ok (.aload_n 0, 1) := by decide +kernel
theorem dX12_mends_116 : decode cX12_mends 116 = .ok (.iload 4, 2) := by decide +kernel
theorem dX12_mends_118 : decode cX12_mends 118 = .ok (.iload_n 2, 1) := by decide +kernel
theorem dX12_mends_119 : decode cX12_mends 119 = .ok (.invokevirtual 157, 3) := by decide +kernel
theorem dX12_mends_122 : decode cX12_mends 122 = .ok (.istore 6, 2) := by decide +kernel
theorem dX12_mends_124 : decode cX12_mends 124 = .ok (.iload 5, 2) := by decide +kernel
theorem dX12_mends_126 : decode cX12_mends 126 = .ok (.iconst (-1), 1) := by decide +kernel
theorem dX12_mends_127 : decode cX12_mends 127 = .ok (.if_icmp .eq 72, 3) := by decide +kernel
theorem dX12_mends_130 : decode cX12_mends 130 = .ok (.iload 6, 2) := by decide +kernel
theorem dX12_mends_132 : decode cX12_mends 132 = .ok (.sipush 9999, 3) := by decide +kernel
theorem dX12_mends_135 : decode cX12_mends 135 = .ok (.if_icmp .ge 64, 3) := by decide +kernel
theorem dX12_mends_138 : decode cX12_mends 138 = .ok (.iconst 5, 1) := by decide +kernel
theorem dX12_mends_139 : decode cX12_mends 139 = .ok (.iload_n 2, 1) := by decide +kernel
theorem dX12_mends_140 : decode cX12_mends 140 = .ok (.aload_n 0, 1) := by decide +kernel
theorem dX12_mends_141 : decode cX12_mends 141 = .ok (.iload 4, 2) := by decide +kernel
theorem dX12_mends_143 : decode cX12_mends 143 = .ok (.invokevirtual 145, 3) := by decide +kernel
theorem dX12_mends_146 : decode cX12_mends 146 = .ok (.iadd, 1) := by decide +kernel
theorem dX12_mends_147 : decode cX12_mends 147 = .ok (.imul, 1) := by decide +kernel
theorem dX12_mends_148 : decode cX12_mends 148 = .ok (.iload 5, 2) := by decide +kernel
theorem dX12_mends_150 : decode cX12_mends 150 = .ok (.iadd, 1) := by decide +kernel
theorem dX12_mends_151 : decode cX12_mends 151 = .ok (.istore 7, 2) := by decide +kernel
theorem dX12_mends_153 : decode cX12_mends 153 = .ok (.aload_n 0, 1) := by decide +kernel
theorem dX12_mends_154 : decode cX12_mends 154 = .ok (.getfield 31, 3) := by decide +kernel
theorem dX12_mends_157 : decode cX12_mends 157 = .ok (.iconst 5, 1) := by decide +kernel
theorem dX12_mends_158 : decode cX12_mends 158 = .ok (.iload_n 2, 1) := by decide +kernel
theorem dX12_mends_159 : decode cX12_mends 159 = .ok (.imul, 1) := by decide +kernel
theorem dX12_mends_160 : decode cX12_mends 160 = .ok (.iload_n 3, 1) := by decide +kernel
theorem dX12_mends_161 : decode cX12_mends 161 = .ok (.iadd, 1) := by decide +kernel
theorem dX12_mends_162 : decode cX12_mends 162 = .ok (.iaload, 1) := by decide +kernel
theorem dX12_mends_163 : decode cX12_mends 163 = .ok (.iload 6, 2) := by decide +kernel
theorem dX12_mends_165 : decode cX12_mends 165 = .ok (.iadd, 1) := by decide +kernel
theorem dX12_mends_166 : decode cX12_mends 166 = .ok (.istore 8, 2) := by decide +kernel
theorem dX12_mends_168 : decode cX12_mends 168 = .ok (.aload_n 0, 1) := by decide +kernel
theorem dX12_mends_169 : decode cX12_mends 169 = .ok (.getfield 31, 3) := by decide +kernel
theorem dX12_mends_172 : decode cX12_mends 172 = .ok (.iload 7, 2) := by decide +kernel
theorem dX12_mends_174 : decode cX12_mends 174 = .ok (.iload 8, 2) := by decide +kernel
theorem dX12_mends_176 : decode cX12_mends 176 = .ok (.aload_n 0, 1) := by decide +kernel
theorem dX12_mends_177 : decode cX12_mends 177 = .ok (.getfield 31, 3) := by decide +kernel
theorem dX12_mends_180 : decode cX12_mends 180 = .ok (.iload 7, 2) := by decide +kernel
theorem dX12_mends_182 : decode cX12_mends 182 = .ok (.iaload, 1) := by decide +kernel
theorem dX12_mends_183 : decode cX12_mends 183 = .ok (.if_icmp .ge 8, 3) := by decide +kernel
theorem dX12_mends_186 : decode cX12_mends 186 = .ok (.iload 8, 2) := by decide +kernel
theorem dX12_mends_188 : decode cX12_mends 188 = .ok (.goto 10, 3) := by decide +kernel
theorem dX12_mends_191 : decode cX12_mends 191 = .ok (.aload_n 0, 1) := by decide +kernel
theorem dX12_mends_192 : decode cX12_mends 192 = .ok (.getfield 31, 3) := by decide +kernel
theorem dX12_mends_195 : decode cX12_mends 195 = .ok (.iload 7, 2) := by decide +kernel
theorem dX12_mends_197 : decode cX12_mends 197 = .ok (.iaload, 1) := by decide +kernel
theorem dX12_mends_198 : decode cX12_mends 198 = .ok (.iastore, 1) := by decide +kernel
theorem dX12_mends_199 : decode cX12_mends 199 = .ok (.iinc 4 1, 3) := by decide +kernel
theorem dX12_mends_202 : decode cX12_mends 202 = .ok (.goto (-126), 3) := by decide +kernel
theorem dX12_mends_205 : decode cX12_mends 205 = .ok (.iinc 3 1, 3) := by decide +kernel
theorem dX12_mends_208 : decode cX12_mends 208 = .ok (.goto (-140), 3) := by decide +kernel
theorem dX12_mends_211 : decode cX12_mends 211 = .ok (.iinc 2 1, 3) := by decide +kernel
theorem dX12_mends_214 : decode cX12_mends 214 = .ok (.goto (-156), 3) := by decide +kernel
theorem dX12_mends_217 : decode cX12_mends 217 = .ok (.aload_n 0, 1) := by decide +kernel
theorem dX12_mends_218 : decode cX12_mends 218 = .ok (.getfield 31, 3) := by decide +kernel
theorem dX12_mends_221 : decode cX12_mends 221 = .ok (.iconst 5, 1) := by decide +kernel
theorem dX12_mends_222 : decode cX12_mends 222 = .ok (.aload_n 0, 1) := by decide +kernel
theorem dX12_mends_223 : decode cX12_mends 223 = .ok (.getfield 126, 3) := by decide +kernel
theorem dX12_mends_226 : decode cX12_mends 226 = .ok (.imul, 1) := by decide +kernel
theorem dX12_mends_227 : decode cX12_mends 227 = .ok (.iconst 4, 1) := by decide +kernel
theorem dX12_mends_228 : decode cX12_mends 228 = .ok (.iadd, 1) := by decide +kernel
theorem dX12_mends_229 : decode cX12_mends 229 = .ok (.iaload, 1) := by decide +kernel
theorem dX12_mends_230 : decode cX12_mends 230 = .ok (.istore_n 2, 1) := by decide +kernel
theorem dX12_mends_231 : decode cX12_mends 231 = .ok (.aload_n 0, 1) := by decide +kernel
theorem dX12_mends_232 : decode cX12_mends 232 = .ok (.getfield 126, 3) := by decide +kernel
theorem dX12_mends_235 : decode cX12_mends 235 = .ok (.ifCond .eq 10, 3) := by decide +kernel
theorem dX12_mends_238 : decode cX12_mends 238 = .ok (.iload_n 2, 1) := by decide +kernel
theorem dX12_mends_239 : decode cX12_mends 239 = .ok (.sipush 9999, 3) := by decide +kernel
theorem dX12_mends_242 : decode cX12_mends 242 = .ok (.if_icmp .lt 11, 3) := by decide +kernel
theorem dX12_mends_245 : decode cX12_mends 245 = .ok (.aload_n 0, 1) := by decide +kernel
theorem dX12_mends_246 : decode cX12_mends 246 = .ok (.iconst 2, 1) := by decide +kernel
theorem dX12_mends_247 : decode cX12_mends 247 = .ok (.invokevirtual 64, 3) := by decide +kernel
theorem dX12_mends_250 : decode cX12_mends 250 = .ok (.goto 4, 3) := by decide +kernel
theorem dX12_mends_253 : decode cX12_mends 253 = .ok (.iload_n 2, 1) := by decide +kernel
theorem dX12_mends_254 : decode cX12_mends 254 = .ok (.ireturn, 1) := by decide +kernel
theorem dX12_isSheet_0 : decode cX12_isSheet 0 = .ok (.iload_n 0, 1) := by decide +kernel
theorem dX12_isSheet_1 : decode cX12_isSheet 1 = .ok (.iconst 0, 1) := by decide +kernel
theorem dX12_isSheet_2 : decode cX12_isSheet 2 = .ok (.iconst 3, 1) := by decide +kernel
theorem dX12_isSheet_3 : decode cX12_isSheet 3 = .ok (.invokestatic 56, 3) := by decide +kernel
theorem dX12_isSheet_6 : decode cX12_isSheet 6 = .ok (.ireturn, 1) := by decide +kernel
theorem dX12_wish_0 : decode cX12_wish 0 = .ok (.aload_n 0, 1) := by decide +kernel
theorem dX12_wish_1 : decode cX12_wish 1 = .ok (.iload_n 1, 1) := by decide +kernel
theorem dX12_wish_2 : decode cX12_wish 2 = .ok (.invokevirtual 133, 3) := by decide +kernel
theorem dX12_wish_5 : decode cX12_wish 5 = .ok (.ifCond .eq 10, 3) := by decide +kernel
theorem dX12_wish_8 : decode cX12_wish 8 = .ok (.iload_n 2, 1) := by decide +kernel
theorem dX12_wish_9 : decode cX12_wish 9 = .ok (.invokestatic 204, 3) := by decide +kernel
theorem dX12_wish_12 : decode cX12_wish 12 = .ok (.ifCond .ne 9, 3) := by decide +kernel
theorem dX12_wish_15 : decode cX12_wish 15 = .ok (.aload_n 0, 1) := by decide +kernel
theorem dX12_wish_16 : decode cX12_wish 16 = .ok (.iconst 1, 1) := by decide +kernel
theorem dX12_wish_17 : decode cX12_wish 17 = .ok (.invokevirtual 64, 3) := by decide +kernel
theorem dX12_wish_20 : decode cX12_wish 20 = .ok (.ireturn, 1) := by decide +kernel
theorem dX12_wish_21 : decode cX12_wish 21 = .ok (.aload_n 0, 1) := by decide +kernel
theorem dX12_wish_22 : decode cX12_wish 22 = .ok (.getfield 43, 3) := by decide +kernel
theorem dX12_wish_25 : decode cX12_wish 25 = .ok (.iload_n 2, 1) := by decide +kernel
theorem dX12_wish_26 : decode cX12_wish 26 = .ok (.iaload, 1) := by decide +kernel
theorem dX12_wish_27 : decode cX12_wish 27 = .ok (.ifCond .ne 9, 3) := by decide +kernel
theorem dX12_wish_30 : decode cX12_wish 30 = .ok (.aload_n 0, 1) := by decide +kernel
theorem dX12_wish_31 : decode cX12_wish 31 = .ok (.iconst 2, 1) := by decide +kernel
theorem dX12_wish_32 : decode cX12_wish 32 = .ok (.invokevirtual 64, 3) := by decide +kernel
theorem dX12_wish_35 : decode cX12_wish 35 = .ok (.ireturn, 1) := by decide +kernel
theorem dX12_wish_36 : decode cX12_wish 36 = .ok (.iconst 0, 1) := by decide +kernel
theorem dX12_wish_37 : decode cX12_wish 37 = .ok (.istore_n 3, 1) := by decide +kernel
theorem dX12_wish_38 : decode cX12_wish 38 = .ok (.iconst 0, 1) := by decide +kernel
theorem dX12_wish_39 : decode cX12_wish 39 = .ok (.istore 4, 2) := by decide +kernel
theorem dX12_wish_41 : decode cX12_wish 41 = .ok (.iload 4, 2) := by decide +kernel
theorem dX12_wish_43 : decode cX12_wish 43 = .ok (.aload_n 0, 1) := by decide +kernel
theorem dX12_wish_44 : decode cX12_wish 44 = .ok (.getfield 46, 3) := by decide +kernel
theorem dX12_wish_47 : decode cX12_wish 47 = .ok (.iload_n 2, 1) := by decide +kernel
theorem dX12_wish_48 : decode cX12_wish 48 = .ok (.iaload, 1) := by decide +kernel
theorem dX12_wish_49 : decode cX12_wish 49 = .ok (.if_icmp .ge 53, 3) := by decide +kernel
theorem dX12_wish_52 : decode cX12_wish 52 = .ok (.aload_n 0, 1) := by decide +kernel
theorem dX12_wish_53 : decode cX12_wish 53 = .ok (.aload_n 0, 1) := by decide +kernel
theorem dX12_wish_54 : decode cX12_wish 54 = .ok (.getfield 49, 3) := by decide +kernel
theorem dX12_wish_57 : decode cX12_wish 57 = .ok (.bipush 24, 2) := by decide +kernel
theorem dX12_wish_59 : decode cX12_wish 59 = .ok (.iload_n 2, 1) := by decide +kernel
theorem dX12_wish_60 : decode cX12_wish 60 = .ok (.imul, 1) := by decide +kernel
theorem dX12_wish_61 : decode cX12_wish 61 = .ok (.iload 4, 2) := by decide +kernel
theorem dX12_wish_63 : decode cX12_wish 63 = .ok (.iadd, 1) := by decide +kernel
theorem dX12_wish_64 : decode cX12_wish 64 = .ok (.iaload, 1) := by decide +kernel
theorem dX12_wish_65 : decode cX12_wish 65 = .ok (.invokevirtual 189, 3) := by decide +kernel
theorem dX12_wish_68 : decode cX12_wish 68 = .ok (.ifCond .ne 9, 3) := by decide +kernel
theorem dX12_wish_71 : decode cX12_wish 71 = .ok (.aload_n 0, 1) := by decide +kernel
theorem dX12_wish_72 : decode cX12_wish 72 = .ok (.iconst 1, 1) := by decide +kernel
theorem dX12_wish_73 : decode cX12_wish 73 = .ok (.invokevirtual 64, 3) := by decide +kernel
theorem dX12_wish_76 : decode cX12_wish 76 = .ok (.ireturn, 1) := by decide +kernel
theorem dX12_wish_77 : decode cX12_wish 77 = .ok (.iload_n 3, 1) := by decide +kernel
theorem dX12_wish_78 : decode cX12_wish 78 = .ok (.aload_n 0, 1) := by decide +kernel
theorem dX12_wish_79 : decode cX12_wish 79 = .ok (.aload_n 0, 1) := by decide +kernel
theorem dX12_wish_80 : decode cX12_wish 80 = .ok (.getfield 49, 3) := by decide +kernel
theorem dX12_wish_83 : decode cX12_wish 83 = .ok (.bipush 24, 2) := by decide +kernel
theorem dX12_wish_85 : decode cX12_wish 85 = .ok (.iload_n 2, 1) := by decide +kernel
theorem dX12_wish_86 : decode cX12_wish 86 = .ok (.imul, 1) := by decide +kernel
theorem dX12_wish_87 : decode cX12_wish 87 = .ok (.iload 4, 2) := by decide +kernel
theorem dX12_wish_89 : decode cX12_wish 89 = .ok (.iadd, 1) := by decide +kernel
theorem dX12_wish_90 : decode cX12_wish 90 = .ok (.iaload, 1) := by decide +kernel
theorem dX12_wish_91 : decode cX12_wish 91 = .ok (.invokevirtual 145, 3) := by decide +kernel
theorem dX12_wish_94 : decode cX12_wish 94 = .ok (.iadd, 1) := by decide +kernel
theorem dX12_wish_95 : decode cX12_wish 95 = .ok (.istore_n 3, 1) := by decide +kernel
theorem dX12_wish_96 : decode cX12_wish 96 = .ok (.iinc 4 1, 3) := by decide +kernel
theorem dX12_wish_99 : decode cX12_wish 99 = .ok (.goto (-58), 3) := by decide +kernel
theorem dX12_wish_102 : decode cX12_wish 102 = .ok (.aload_n 0, 1) := by decide +kernel
theorem dX12_wish_103 : decode cX12_wish 103 = .ok (.iload_n 1, 1) := by decide +kernel
theorem dX12_wish_104 : decode cX12_wish 104 = .ok (.invokevirtual 164, 3) := by decide +kernel
theorem dX12_wish_107 : decode cX12_wish 107 = .ok (.iload_n 3, 1) := by decide +kernel
theorem dX12_wish_108 : decode cX12_wish 108 = .ok (.aload_n 0, 1) := by decide +kernel
theorem dX12_wish_109 : decode cX12_wish 109 = .ok (.getfield 126, 3) := by decide +kernel
theorem dX12_wish_112 : decode cX12_wish 112 = .ok (.if_icmp .eq 9, 3) := by decide +kernel
theorem dX12_wish_115 : decode cX12_wish 115 = .ok (.aload_n 0, 1) := by decide +kernel
theorem dX12_wish_116 : decode cX12_wish 116 = .ok (.iconst 2, 1) := by decide +kernel
theorem dX12_wish_117 : decode cX12_wish 117 = .ok (.invokevirtual 64, 3) := by decide +kernel
theorem dX12_wish_120 : decode cX12_wish 120 = .ok (.ireturn, 1) := by decide +kernel
theorem dX12_wish_121 : decode cX12_wish 121 = .ok (.iconst 0, 1) := by decide +kernel
theorem dX12_wish_122 : decode cX12_wish 122 = .ok (.istore 4, 2) := by decide +kernel
theorem dX12_wish_124 : decode cX12_wish 124 = .ok (.iconst 0, 1) := by decide +kernel
theorem dX12_wish_125 : decode cX12_wish 125 = .ok (.istore 5, 2) := by decide +kernel
theorem dX12_wish_127 : decode cX12_wish 127 = .ok (.iconst 0, 1) := by decide +kernel
theorem dX12_wish_128 : decode cX12_wish 128 = .ok (.istore 6, 2) := by decide +kernel
theorem dX12_wish_130 : decode cX12_wish 130 = .ok (.iload 6, 2) := by decide +kernel
theorem dX12_wish_132 : decode cX12_wish 132 = .ok (.aload_n 0, 1) := by decide +kernel
theorem dX12_wish_133 : decode cX12_wish 133 = .ok (.getfield 46, 3) := by decide +kernel
theorem dX12_wish_136 : decode cX12_wish 136 = .ok (.iload_n 2, 1) := by decide +kernel
theorem dX12_wish_137 : decode cX12_wish 137 = .ok (.iaload, 1) := by decide +kernel
theorem dX12_wish_138 : decode cX12_wish 138 = .ok (.if_icmp .ge 53, 3) := by decide +kernel
theorem dX12_wish_141 : decode cX12_wish 141 = .ok (.iload 4, 2) := by decide +kernel
theorem dX12_wish_143 : decode cX12_wish 143 = .ok (.aload_n 0, 1) := by decide +kernel
theorem dX12_wish_144 : decode cX12_wish 144 = .ok (.aload_n 0, 1) := by decide +kernel
theorem dX12_wish_145 : decode cX12_wish 145 = .ok (.getfield 49, 3) := by decide +kernel
theorem dX12_wish_148 : decode cX12_wish 148 = .ok (.bipush 24, 2) := by decide +kernel
theorem dX12_wish_150 : decode cX12_wish 150 = .ok (.iload_n 2, 1) := by decide +kernel
theorem dX12_wish_151 : decode cX12_wish 151 = .ok (.imul, 1) := by decide +kernel
theorem dX12_wish_152 : decode cX12_wish 152 = .ok (.iload 6, 2) := by decide +kernel
theorem dX12_wish_154 : decode cX12_wish 154 = .ok (.iadd, 1) := by decide +kernel
theorem dX12_wish_155 : decode cX12_wish 155 = .ok (.iaload, 1) := by decide +kernel
theorem dX12_wish_156 : decode cX12_wish 156 = .ok (.iload 5, 2) := by decide +kernel
theorem dX12_wish_158 : decode cX12_wish 158 = .ok (.invokevirtual 157, 3) := by decide +kernel
theorem dX12_wish_161 : decode cX12_wish 161 = .ok (.iadd, 1) := by decide +kernel
theorem dX12_wish_162 : decode cX12_wish 162 = .ok (.istore 4, 2) := by decide +kernel
theorem dX12_wish_164 : decode cX12_wish 164 = .ok (.iload 5, 2) := by decide +kernel
theorem dX12_wish_166 : decode cX12_wish 166 = .ok (.aload_n 0, 1) := by decide +kernel
theorem dX12_wish_167 : decode cX12_wish 167 = .ok (.aload_n 0, 1) := by decide +kernel
theorem dX12_wish_168 : decode cX12_wish 168 = .ok (.getfield 49, 3) := by decide +kernel
theorem dX12_wish_171 : decode cX12_wish 171 = .ok (.bipush 24, 2) := by decide +kernel
theorem dX12_wish_173 : decode cX12_wish 173 = .ok (.iload_n 2, 1) := by decide +kernel
theorem dX12_wish_174 : decode cX12_wish 174 = .ok (.imul, 1) := by decide +kernel
theorem dX12_wish_175 : decode cX12_wish 175 = .ok (.iload 6, 2) := by decide +kernel
theorem dX12_wish_177 : decode cX12_wish 177 = .ok (.iadd, 1) := by decide +kernel
theorem dX12_wish_178 : decode cX12_wish 178 = .ok (.iaload, 1) := by decide +kernel
theorem dX12_wish_179 : decode cX12_wish 179 = .ok (.invokevirtual 145, 3) := by decide +kernel
theorem dX12_wish_182 : decode cX12_wish 182 = .ok (.iadd, 1) := by decide +kernel
theorem dX12_wish_183 : decode cX12_wish 183 = .ok (.istore 5, 2) := by decide +kernel
theorem dX12_wish_185 : decode cX12_wish 185 = .ok (.iinc 6 1, 3) := by decide +kernel
theorem dX12_wish_188 : decode cX12_wish 188 = .ok (.goto (-58), 3) := by decide +kernel
theorem dX12_wish_191 : decode cX12_wish 191 = .ok (.iload 4, 2) := by decide +kernel
theorem dX12_wish_193 : decode cX12_wish 193 = .ok (.ireturn, 1) := by decide +kernel
theorem dX12_heap_0 : decode cX12_heap 0 = .ok (.iload_n 1, 1) := by decide +kernel
theorem dX12_heap_1 : decode cX12_heap 1 = .ok (.invokestatic 142, 3) := by decide +kernel
theorem dX12_heap_4 : decode cX12_heap 4 = .ok (.ifCond .eq 13, 3) := by decide +kernel
theorem dX12_heap_7 : decode cX12_heap 7 = .ok (.iload_n 2, 1) := by decide +kernel
theorem dX12_heap_8 : decode cX12_heap 8 = .ok (.iconst (-1), 1) := by decide +kernel
theorem dX12_heap_9 : decode cX12_heap 9 = .ok (.bipush 99, 2) := by decide +kernel
theorem dX12_heap_11 : decode cX12_heap 11 = .ok (.invokestatic 56, 3) := by decide +kernel
theorem dX12_heap_14 : decode cX12_heap 14 = .ok (.ifCond .ne 9, 3) := by decide +kernel
theorem dX12_heap_17 : decode cX12_heap 17 = .ok (.aload_n 0, 1) := by decide +kernel
theorem dX12_heap_18 : decode cX12_heap 18 = .ok (.iconst 1, 1) := by decide +kernel
theorem dX12_heap_19 : decode cX12_heap 19 = .ok (.invokevirtual 64, 3) := by decide +kernel
theorem dX12_heap_22 : decode cX12_heap 22 = .ok (.ireturn, 1) := by decide +kernel
theorem dX12_heap_23 : decode cX12_heap 23 = .ok (.aload_n 0, 1) := by decide +kernel
theorem dX12_heap_24 : decode cX12_heap 24 = .ok (.getfield 7, 3) := by decide +kernel
theorem dX12_heap_27 : decode cX12_heap 27 = .ok (.sipush 266, 3) := by decide +kernel
theorem dX12_heap_30 : decode cX12_heap 30 = .ok (.iload_n 1, 1) := by decide +kernel
theorem dX12_heap_31 : decode cX12_heap 31 = .ok (.iadd, 1) := by decide +kernel
theorem dX12_heap_32 : decode cX12_heap 32 = .ok (.iaload, 1) := by decide +kernel
theorem dX12_heap_33 : decode cX12_heap 33 = .ok (.istore_n 3, 1) := by decide +kernel
theorem dX12_heap_34 : decode cX12_heap 34 = .ok (.aload_n 0, 1) := by decide +kernel
theorem dX12_heap_35 : decode cX12_heap 35 = .ok (.getfield 7, 3) := by decide +kernel
theorem dX12_heap_38 : decode cX12_heap 38 = .ok (.sipush 266, 3) := by decide +kernel
theorem dX12_heap_41 : decode cX12_heap 41 = .ok (.iload_n 1, 1) := by decide +kernel
theorem dX12_heap_42 : decode cX12_heap 42 = .ok (.iadd, 1) := by decide +kernel
theorem dX12_heap_43 : decode cX12_heap 43 = .ok (.iload_n 2, 1) := by decide +kernel
theorem dX12_heap_44 : decode cX12_heap 44 = .ok (.iconst (-1), 1) := by decide +kernel
theorem dX12_heap_45 : decode cX12_heap 45 = .ok (.if_icmp .ne 7, 3) := by decide +kernel
theorem dX12_heap_48 : decode cX12_heap 48 = .ok (.iload_n 3, 1) := by decide +kernel
theorem dX12_heap_49 : decode cX12_heap 49 = .ok (.goto 4, 3) := by decide +kernel
theorem dX12_heap_52 : decode cX12_heap 52 = .ok (.iload_n 2, 1) := by decide +kernel
theorem dX12_heap_53 : decode cX12_heap 53 = .ok (.iastore, 1) := by decide +kernel
theorem dX12_heap_54 : decode cX12_heap 54 = .ok (.iload_n 3, 1) := by decide +kernel
theorem dX12_heap_55 : decode cX12_heap 55 = .ok (.ireturn, 1) := by decide +kernel
theorem dX12_price_0 : decode cX12_price 0 = .ok (.iload_n 1, 1) := by decide +kernel
theorem dX12_price_1 : decode cX12_price 1 = .ok (.invokestatic 142, 3) := by decide +kernel
theorem dX12_price_4 : decode cX12_price 4 = .ok (.ifCond .eq 11, 3) := by decide +kernel
theorem dX12_price_7 : decode cX12_price 7 = .ok (.aload_n 0, 1) := by decide +kernel
theorem dX12_price_8 : decode cX12_price 8 = .ok (.iload_n 1, 1) := by decide +kernel
theorem dX12_price_9 : decode cX12_price 9 = .ok (.invokevirtual 207, 3) := by decide +kernel
theorem dX12_price_12 : decode cX12_price 12 = .ok (.goto 8, 3) := by decide +kernel
theorem dX12_price_15 : decode cX12_price 15 = .ok (.aload_n 0, 1) := by decide +kernel
theorem dX12_price_16 : decode cX12_price 16 = .ok (.iconst 1, 1) := by decide +kernel
theorem dX12_price_17 : decode cX12_price 17 = .ok (.invokevirtual 64, 3) := by decide +kernel
theorem dX12_price_20 : decode cX12_price 20 = .ok (.ireturn, 1) := by decide +kernel
theorem dX12_have_0 : decode cX12_have 0 = .ok (.iload_n 1, 1) := by decide +kernel
theorem dX12_have_1 : decode cX12_have 1 = .ok (.iconst 0, 1) := by decide +kernel
theorem dX12_have_2 : decode cX12_have 2 = .ok (.iconst 1, 1) := by decide +kernel
theorem dX12_have_3 : decode cX12_have 3 = .ok (.invokestatic 56, 3) := by decide +kernel
theorem dX12_have_6 : decode cX12_have 6 = .ok (.ifCond .eq 21, 3) := by decide +kernel
theorem dX12_have_9 : decode cX12_have 9 = .ok (.iload_n 2, 1) := by decide +kernel
theorem dX12_have_10 : decode cX12_have 10 = .ok (.iconst 0, 1) := by decide +kernel
theorem dX12_have_11 : decode cX12_have 11 = .ok (.iload_n 1, 1) := by decide +kernel
theorem dX12_have_12 : decode cX12_have 12 = .ok (.ifCond .ne 7, 3) := by decide +kernel
theorem dX12_have_15 : decode cX12_have 15 = .ok (.iconst 3, 1) := by decide +kernel
theorem dX12_have_16 : decode cX12_have 16 = .ok (.goto 5, 3) := by decide +kernel
theorem dX12_have_19 : decode cX12_have 19 = .ok (.ldc 210, 2) := by decide +kernel
theorem dX12_have_21 : decode cX12_have 21 = .ok (.invokestatic 56, 3) := by decide +kernel
theorem dX12_have_24 : decode cX12_have 24 = .ok (.ifCond .ne 9, 3) := by decide +kernel
theorem dX12_have_27 : decode cX12_have 27 = .ok (.aload_n 0, 1) := by decide +kernel
theorem dX12_have_28 : decode cX12_have 28 = .ok (.iconst 1, 1) := by decide +kernel
theorem dX12_have_29 : decode cX12_have 29 = .ok (.invokevirtual 64, 3) := by decide +kernel
theorem dX12_have_32 : decode cX12_have 32 = .ok (.ireturn, 1) := by decide +kernel
theorem dX12_have_33 : decode cX12_have 33 = .ok (.aload_n 0, 1) := by decide +kernel
theorem dX12_have_34 : decode cX12_have 34 = .ok (.getfield 7, 3) := by decide +kernel
theorem dX12_have_37 : decode cX12_have 37 = .ok (.iconst 2, 1) := by decide +kernel
theorem dX12_have_38 : decode cX12_have 38 = .ok (.iload_n 1, 1) := by decide +kernel
theorem dX12_have_39 : decode cX12_have 39 = .ok (.iadd, 1) := by decide +kernel
theorem dX12_have_40 : decode cX12_have 40 = .ok (.iaload, 1) := by decide +kernel
theorem dX12_have_41 : decode cX12_have 41 = .ok (.istore_n 3, 1) := by decide +kernel
theorem dX12_have_42 : decode cX12_have 42 = .ok (.aload_n 0, 1) := by decide +kernel
theorem dX12_have_43 : decode cX12_have 43 = .ok (.getfield 7, 3) := by decide +kernel
theorem dX12_have_46 : decode cX12_have 46 = .ok (.iconst 2, 1) := by decide +kernel
theorem dX12_have_47 : decode cX12_have 47 = .ok (.iload_n 1, 1) := by decide +kernel
theorem dX12_have_48 : decode cX12_have 48 = .ok (.iadd, 1) := by decide +kernel
theorem dX12_have_49 : decode cX12_have 49 = .ok (.iload_n 2, 1) := by decide +kernel
theorem dX12_have_50 : decode cX12_have 50 = .ok (.iastore, 1) := by decide +kernel
theorem dX12_have_51 : decode cX12_have 51 = .ok (.iload_n 3, 1) := by decide +kernel
