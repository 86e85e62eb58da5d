theorem dX12_have_52 : decode cX12_have 52 = .ok (.ireturn, 1) := by decide +kernel
theorem dX12_letters_0 : decode cX12_letters 0 = .ok (.iconst 0, 1) := by decide +kernel
theorem dX12_letters_1 : decode cX12_letters 1 = .ok (.istore_n 2, 1) := by decide +kernel
theorem dX12_letters_2 : decode cX12_letters 2 = .ok (.iconst 0, 1) := by decide +kernel
theorem dX12_letters_3 : decode cX12_letters 3 = .ok (.istore_n 3, 1) := by decide +kernel
theorem dX12_letters_4 : decode cX12_letters 4 = .ok (.iload_n 3, 1) := by decide +kernel
theorem dX12_letters_5 : decode cX12_letters 5 = .ok (.aload_n 0, 1) := by decide +kernel
theorem dX12_letters_6 : decode cX12_letters 6 = .ok (.iload_n 1, 1) := by decide +kernel
theorem dX12_letters_7 : decode cX12_letters 7 = .ok (.iconst 2, 1) := by decide +kernel
theorem dX12_letters_8 : decode cX12_letters 8 = .ok (.invokevirtual 60, 3) := by decide +kernel
theorem dX12_letters_11 : decode cX12_letters 11 = .ok (.if_icmp .ge 31, 3) := by decide +kernel
theorem dX12_letters_14 : decode cX12_letters 14 = .ok (.iload_n 2, 1) := by decide +kernel
theorem dX12_letters_15 : decode cX12_letters 15 = .ok (.aload_n 0, 1) := by decide +kernel
theorem dX12_letters_16 : decode cX12_letters 16 = .ok (.getfield 7, 3) := by decide +kernel
theorem dX12_letters_19 : decode cX12_letters 19 = .ok (.aload_n 0, 1) := by decide +kernel
theorem dX12_letters_20 : decode cX12_letters 20 = .ok (.iload_n 1, 1) := by decide +kernel
theorem dX12_letters_21 : decode cX12_letters 21 = .ok (.iload_n 3, 1) := by decide +kernel
theorem dX12_letters_22 : decode cX12_letters 22 = .ok (.invokevirtual 124, 3) := by decide +kernel
theorem dX12_letters_25 : decode cX12_letters 25 = .ok (.iaload, 1) := by decide +kernel
theorem dX12_letters_26 : decode cX12_letters 26 = .ok (.ifCond .le 7, 3) := by decide +kernel
theorem dX12_letters_29 : decode cX12_letters 29 = .ok (.iconst 1, 1) := by decide +kernel
theorem dX12_letters_30 : decode cX12_letters 30 = .ok (.goto 4, 3) := by decide +kernel
theorem dX12_letters_33 : decode cX12_letters 33 = .ok (.iconst 0, 1) := by decide +kernel
theorem dX12_letters_34 : decode cX12_letters 34 = .ok (.iadd, 1) := by decide +kernel
theorem dX12_letters_35 : decode cX12_letters 35 = .ok (.istore_n 2, 1) := by decide +kernel
theorem dX12_letters_36 : decode cX12_letters 36 = .ok (.iinc 3 1, 3) := by decide +kernel
theorem dX12_letters_39 : decode cX12_letters 39 = .ok (.goto (-35), 3) := by decide +kernel
theorem dX12_letters_42 : decode cX12_letters 42 = .ok (.iload_n 2, 1) := by decide +kernel
theorem dX12_letters_43 : decode cX12_letters 43 = .ok (.ireturn, 1) := by decide +kernel
theorem dX12_lay_0 : decode cX12_lay 0 = .ok (.aload_n 0, 1) := by decide +kernel
theorem dX12_lay_1 : decode cX12_lay 1 = .ok (.iload_n 1, 1) := by decide +kernel
theorem dX12_lay_2 : decode cX12_lay 2 = .ok (.invokevirtual 133, 3) := by decide +kernel
theorem dX12_lay_5 : decode cX12_lay 5 = .ok (.ifCond .eq 29, 3) := by decide +kernel
theorem dX12_lay_8 : decode cX12_lay 8 = .ok (.aload_n 0, 1) := by decide +kernel
theorem dX12_lay_9 : decode cX12_lay 9 = .ok (.iload_n 1, 1) := by decide +kernel
theorem dX12_lay_10 : decode cX12_lay 10 = .ok (.iload_n 2, 1) := by decide +kernel
theorem dX12_lay_11 : decode cX12_lay 11 = .ok (.invokevirtual 186, 3) := by decide +kernel
theorem dX12_lay_14 : decode cX12_lay 14 = .ok (.ifCond .eq 20, 3) := by decide +kernel
theorem dX12_lay_17 : decode cX12_lay 17 = .ok (.iload_n 3, 1) := by decide +kernel
theorem dX12_lay_18 : decode cX12_lay 18 = .ok (.invokestatic 142, 3) := by decide +kernel
theorem dX12_lay_21 : decode cX12_lay 21 = .ok (.ifCond .eq 13, 3) := by decide +kernel
theorem dX12_lay_24 : decode cX12_lay 24 = .ok (.iload 4, 2) := by decide +kernel
theorem dX12_lay_26 : decode cX12_lay 26 = .ok (.iconst 0, 1) := by decide +kernel
theorem dX12_lay_27 : decode cX12_lay 27 = .ok (.iconst 1, 1) := by decide +kernel
theorem dX12_lay_28 : decode cX12_lay 28 = .ok (.invokestatic 56, 3) := by decide +kernel
theorem dX12_lay_31 : decode cX12_lay 31 = .ok (.ifCond .ne 9, 3) := by decide +kernel
theorem dX12_lay_34 : decode cX12_lay 34 = .ok (.aload_n 0, 1) := by decide +kernel
theorem dX12_lay_35 : decode cX12_lay 35 = .ok (.iconst 1, 1) := by decide +kernel
theorem dX12_lay_36 : decode cX12_lay 36 = .ok (.invokevirtual 64, 3) := by decide +kernel
theorem dX12_lay_39 : decode cX12_lay 39 = .ok (.ireturn, 1) := by decide +kernel
theorem dX12_lay_40 : decode cX12_lay 40 = .ok (.aload_n 0, 1) := by decide +kernel
theorem dX12_lay_41 : decode cX12_lay 41 = .ok (.iload_n 3, 1) := by decide +kernel
theorem dX12_lay_42 : decode cX12_lay 42 = .ok (.invokevirtual 207, 3) := by decide +kernel
theorem dX12_lay_45 : decode cX12_lay 45 = .ok (.istore 5, 2) := by decide +kernel
theorem dX12_lay_47 : decode cX12_lay 47 = .ok (.iload 4, 2) := by decide +kernel
theorem dX12_lay_49 : decode cX12_lay 49 = .ok (.ifCond .ne 24, 3) := by decide +kernel
theorem dX12_lay_52 : decode cX12_lay 52 = .ok (.aload_n 0, 1) := by decide +kernel
theorem dX12_lay_53 : decode cX12_lay 53 = .ok (.getfield 7, 3) := by decide +kernel
theorem dX12_lay_56 : decode cX12_lay 56 = .ok (.sipush 266, 3) := by decide +kernel
theorem dX12_lay_59 : decode cX12_lay 59 = .ok (.iload_n 3, 1) := by decide +kernel
theorem dX12_lay_60 : decode cX12_lay 60 = .ok (.iadd, 1) := by decide +kernel
theorem dX12_lay_61 : decode cX12_lay 61 = .ok (.iaload, 1) := by decide +kernel
theorem dX12_lay_62 : decode cX12_lay 62 = .ok (.ifCond .le 7, 3) := by decide +kernel
theorem dX12_lay_65 : decode cX12_lay 65 = .ok (.iconst 1, 1) := by decide +kernel
theorem dX12_lay_66 : decode cX12_lay 66 = .ok (.goto 23, 3) := by decide +kernel
theorem dX12_lay_69 : decode cX12_lay 69 = .ok (.iconst 0, 1) := by decide +kernel
theorem dX12_lay_70 : decode cX12_lay 70 = .ok (.goto 19, 3) := by decide +kernel
theorem dX12_lay_73 : decode cX12_lay 73 = .ok (.aload_n 0, 1) := by decide +kernel
theorem dX12_lay_74 : decode cX12_lay 74 = .ok (.getfield 7, 3) := by decide +kernel
theorem dX12_lay_77 : decode cX12_lay 77 = .ok (.iconst 3, 1) := by decide +kernel
theorem dX12_lay_78 : decode cX12_lay 78 = .ok (.iaload, 1) := by decide +kernel
theorem dX12_lay_79 : decode cX12_lay 79 = .ok (.iload 5, 2) := by decide +kernel
theorem dX12_lay_81 : decode cX12_lay 81 = .ok (.if_icmp .lt 7, 3) := by decide +kernel
theorem dX12_lay_84 : decode cX12_lay 84 = .ok (.iconst 1, 1) := by decide +kernel
theorem dX12_lay_85 : decode cX12_lay 85 = .ok (.goto 4, 3) := by decide +kernel
theorem dX12_lay_88 : decode cX12_lay 88 = .ok (.iconst 0, 1) := by decide +kernel
theorem dX12_lay_89 : decode cX12_lay 89 = .ok (.istore 6, 2) := by decide +kernel
theorem dX12_lay_91 : decode cX12_lay 91 = .ok (.aload_n 0, 1) := by decide +kernel
theorem dX12_lay_92 : decode cX12_lay 92 = .ok (.getfield 7, 3) := by decide +kernel
theorem dX12_lay_95 : decode cX12_lay 95 = .ok (.aload_n 0, 1) := by decide +kernel
theorem dX12_lay_96 : decode cX12_lay 96 = .ok (.iload_n 1, 1) := by decide +kernel
theorem dX12_lay_97 : decode cX12_lay 97 = .ok (.iload_n 2, 1) := by decide +kernel
theorem dX12_lay_98 : decode cX12_lay 98 = .ok (.invokevirtual 124, 3) := by decide +kernel
theorem dX12_lay_101 : decode cX12_lay 101 = .ok (.iaload, 1) := by decide +kernel
theorem dX12_lay_102 : decode cX12_lay 102 = .ok (.ifCond .ne 8, 3) := by decide +kernel
theorem dX12_lay_105 : decode cX12_lay 105 = .ok (.iload 6, 2) := by decide +kernel
theorem dX12_lay_107 : decode cX12_lay 107 = .ok (.ifCond .ne 9, 3) := by decide +kernel
theorem dX12_lay_110 : decode cX12_lay 110 = .ok (.aload_n 0, 1) := by decide +kernel
theorem dX12_lay_111 : decode cX12_lay 111 = .ok (.iconst 3, 1) := by decide +kernel
theorem dX12_lay_112 : decode cX12_lay 112 = .ok (.invokevirtual 64, 3) := by decide +kernel
theorem dX12_lay_115 : decode cX12_lay 115 = .ok (.ireturn, 1) := by decide +kernel
theorem dX12_lay_116 : decode cX12_lay 116 = .ok (.aload_n 0, 1) := by decide +kernel
theorem dX12_lay_117 : decode cX12_lay 117 = .ok (.getfield 7, 3) := by decide +kernel
theorem dX12_lay_120 : decode cX12_lay 120 = .ok (.sipush 266, 3) := by decide +kernel
theorem dX12_lay_123 : decode cX12_lay 123 = .ok (.iload_n 3, 1) := by decide +kernel
theorem dX12_lay_124 : decode cX12_lay 124 = .ok (.iadd, 1) := by decide +kernel
theorem dX12_lay_125 : decode cX12_lay 125 = .ok (.dup2, 1) := by decide +kernel
theorem dX12_lay_126 : decode cX12_lay 126 = .ok (.iaload, 1) := by decide +kernel
theorem dX12_lay_127 : decode cX12_lay 127 = .ok (.iload 4, 2) := by decide +kernel
theorem dX12_lay_129 : decode cX12_lay 129 = .ok (.ifCond .ne 7, 3) := by decide +kernel
theorem dX12_lay_132 : decode cX12_lay 132 = .ok (.iconst 1, 1) := by decide +kernel
theorem dX12_lay_133 : decode cX12_lay 133 = .ok (.goto 4, 3) := by decide +kernel
theorem dX12_lay_136 : decode cX12_lay 136 = .ok (.iconst 0, 1) := by decide +kernel
theorem dX12_lay_137 : decode cX12_lay 137 = .ok (.isub, 1) := by decide +kernel
theorem dX12_lay_138 : decode cX12_lay 138 = .ok (.iastore, 1) := by decide +kernel
theorem dX12_lay_139 : decode cX12_lay 139 = .ok (.aload_n 0, 1) := by decide +kernel
theorem dX12_lay_140 : decode cX12_lay 140 = .ok (.getfield 7, 3) := by decide +kernel
theorem dX12_lay_143 : decode cX12_lay 143 = .ok (.iconst 3, 1) := by decide +kernel
theorem dX12_lay_144 : decode cX12_lay 144 = .ok (.dup2, 1) := by decide +kernel
theorem dX12_lay_145 : decode cX12_lay 145 = .ok (.iaload, 1) := by decide +kernel
theorem dX12_lay_146 : decode cX12_lay 146 = .ok (.iload 4, 2) := by decide +kernel
theorem dX12_lay_148 : decode cX12_lay 148 = .ok (.ifCond .ne 7, 3) := by decide +kernel
theorem dX12_lay_151 : decode cX12_lay 151 = .ok (.iconst 0, 1) := by decide +kernel
theorem dX12_lay_152 : decode cX12_lay 152 = .ok (.goto 5, 3) := by decide +kernel
theorem dX12_lay_155 : decode cX12_lay 155 = .ok (.iload 5, 2) := by decide +kernel
theorem dX12_lay_157 : decode cX12_lay 157 = .ok (.isub, 1) := by decide +kernel
theorem dX12_lay_158 : decode cX12_lay 158 = .ok (.iastore, 1) := by decide +kernel
theorem dX12_lay_159 : decode cX12_lay 159 = .ok (.aload_n 0, 1) := by decide +kernel
theorem dX12_lay_160 : decode cX12_lay 160 = .ok (.getfield 7, 3) := by decide +kernel
theorem dX12_lay_163 : decode cX12_lay 163 = .ok (.aload_n 0, 1) := by decide +kernel
theorem dX12_lay_164 : decode cX12_lay 164 = .ok (.iload_n 1, 1) := by decide +kernel
theorem dX12_lay_165 : decode cX12_lay 165 = .ok (.iload_n 2, 1) := by decide +kernel
theorem dX12_lay_166 : decode cX12_lay 166 = .ok (.invokevirtual 124, 3) := by decide +kernel
theorem dX12_lay_169 : decode cX12_lay 169 = .ok (.iload_n 3, 1) := by decide +kernel
theorem dX12_lay_170 : decode cX12_lay 170 = .ok (.iastore, 1) := by decide +kernel
theorem dX12_lay_171 : decode cX12_lay 171 = .ok (.aload_n 0, 1) := by decide +kernel
theorem dX12_lay_172 : decode cX12_lay 172 = .ok (.iload_n 1, 1) := by decide +kernel
theorem dX12_lay_173 : decode cX12_lay 173 = .ok (.invokevirtual 211, 3) := by decide +kernel
theorem dX12_lay_176 : decode cX12_lay 176 = .ok (.ireturn, 1) := by decide +kernel
theorem dX12_toHeap_0 : decode cX12_toHeap 0 = .ok (.sipush 266, 3) := by decide +kernel
theorem dX12_toHeap_3 : decode cX12_toHeap 3 = .ok (.aload_n 0, 1) := by decide +kernel
theorem dX12_toHeap_4 : decode cX12_toHeap 4 = .ok (.getfield 7, 3) := by decide +kernel
theorem dX12_toHeap_7 : decode cX12_toHeap 7 = .ok (.aload_n 0, 1) := by decide +kernel
theorem dX12_toHeap_8 : decode cX12_toHeap 8 = .ok (.iload_n 1, 1) := by decide +kernel
theorem dX12_toHeap_9 : decode cX12_toHeap 9 = .ok (.iload_n 2, 1) := by decide +kernel
theorem dX12_toHeap_10 : decode cX12_toHeap 10 = .ok (.invokevirtual 124, 3) := by decide +kernel
theorem dX12_toHeap_13 : decode cX12_toHeap 13 = .ok (.iaload, 1) := by decide +kernel
theorem dX12_toHeap_14 : decode cX12_toHeap 14 = .ok (.iadd, 1) := by decide +kernel
theorem dX12_toHeap_15 : decode cX12_toHeap 15 = .ok (.istore_n 3, 1) := by decide +kernel
theorem dX12_toHeap_16 : decode cX12_toHeap 16 = .ok (.aload_n 0, 1) := by decide +kernel
theorem dX12_toHeap_17 : decode cX12_toHeap 17 = .ok (.getfield 7, 3) := by decide +kernel
theorem dX12_toHeap_20 : decode cX12_toHeap 20 = .ok (.iload_n 3, 1) := by decide +kernel
theorem dX12_toHeap_21 : decode cX12_toHeap 21 = .ok (.aload_n 0, 1) := by decide +kernel
theorem dX12_toHeap_22 : decode cX12_toHeap 22 = .ok (.getfield 7, 3) := by decide +kernel
theorem dX12_toHeap_25 : decode cX12_toHeap 25 = .ok (.iload_n 3, 1) := by decide +kernel
theorem dX12_toHeap_26 : decode cX12_toHeap 26 = .ok (.iaload, 1) := by decide +kernel
theorem dX12_toHeap_27 : decode cX12_toHeap 27 = .ok (.iconst 1, 1) := by decide +kernel
theorem dX12_toHeap_28 : decode cX12_toHeap 28 = .ok (.iadd, 1) := by decide +kernel
theorem dX12_toHeap_29 : decode cX12_toHeap 29 = .ok (.iconst 0, 1) := by decide +kernel
theorem dX12_toHeap_30 : decode cX12_toHeap 30 = .ok (.bipush 99, 2) := by decide +kernel
theorem dX12_toHeap_32 : decode cX12_toHeap 32 = .ok (.invokestatic 161, 3) := by decide +kernel
theorem dX12_toHeap_35 : decode cX12_toHeap 35 = .ok (.iastore, 1) := by decide +kernel
theorem dX12_toHeap_36 : decode cX12_toHeap 36 = .ok (.aload_n 0, 1) := by decide +kernel
theorem dX12_toHeap_37 : decode cX12_toHeap 37 = .ok (.getfield 7, 3) := by decide +kernel
theorem dX12_toHeap_40 : decode cX12_toHeap 40 = .ok (.aload_n 0, 1) := by decide +kernel
theorem dX12_toHeap_41 : decode cX12_toHeap 41 = .ok (.iload_n 1, 1) := by decide +kernel
theorem dX12_toHeap_42 : decode cX12_toHeap 42 = .ok (.iload_n 2, 1) := by decide +kernel
theorem dX12_toHeap_43 : decode cX12_toHeap 43 = .ok (.invokevirtual 124, 3) := by decide +kernel
theorem dX12_toHeap_46 : decode cX12_toHeap 46 = .ok (.iconst 0, 1) := by decide +kernel
theorem dX12_toHeap_47 : decode cX12_toHeap 47 = .ok (.iastore, 1) := by decide +kernel
theorem dX12_toHeap_48 : decode cX12_toHeap 48 = .ok (.return_, 1) := by decide +kernel
theorem dX12_falls_0 : decode cX12_falls 0 = .ok (.aload_n 0, 1) := by decide +kernel
theorem dX12_falls_1 : decode cX12_falls 1 = .ok (.iload_n 1, 1) := by decide +kernel
theorem dX12_falls_2 : decode cX12_falls 2 = .ok (.invokevirtual 133, 3) := by decide +kernel
theorem dX12_falls_5 : decode cX12_falls 5 = .ok (.ifCond .ne 9, 3) := by decide +kernel
theorem dX12_falls_8 : decode cX12_falls 8 = .ok (.aload_n 0, 1) := by decide +kernel
theorem dX12_falls_9 : decode cX12_falls 9 = .ok (.iconst 1, 1) := by decide +kernel
theorem dX12_falls_10 : decode cX12_falls 10 = .ok (.invokevirtual 64, 3) := by decide +kernel
theorem dX12_falls_13 : decode cX12_falls 13 = .ok (.ireturn, 1) := by decide +kernel
theorem dX12_falls_14 : decode cX12_falls 14 = .ok (.aload_n 0, 1) := by decide +kernel
theorem dX12_falls_15 : decode cX12_falls 15 = .ok (.iload_n 1, 1) := by decide +kernel
theorem dX12_falls_16 : decode cX12_falls 16 = .ok (.invokevirtual 211, 3) := by decide +kernel
theorem dX12_falls_19 : decode cX12_falls 19 = .ok (.istore_n 2, 1) := by decide +kernel
theorem dX12_falls_20 : decode cX12_falls 20 = .ok (.iconst 0, 1) := by decide +kernel
theorem dX12_falls_21 : decode cX12_falls 21 = .ok (.istore_n 3, 1) := by decide +kernel
theorem dX12_falls_22 : decode cX12_falls 22 = .ok (.iload_n 3, 1) := by decide +kernel
theorem dX12_falls_23 : decode cX12_falls 23 = .ok (.aload_n 0, 1) := by decide +kernel
theorem dX12_falls_24 : decode cX12_falls 24 = .ok (.iload_n 1, 1) := by decide +kernel
theorem dX12_falls_25 : decode cX12_falls 25 = .ok (.iconst 2, 1) := by decide +kernel
theorem dX12_falls_26 : decode cX12_falls 26 = .ok (.invokevirtual 60, 3) := by decide +kernel
theorem dX12_falls_29 : decode cX12_falls 29 = .ok (.if_icmp .ge 29, 3) := by decide +kernel
theorem dX12_falls_32 : decode cX12_falls 32 = .ok (.aload_n 0, 1) := by decide +kernel
theorem dX12_falls_33 : decode cX12_falls 33 = .ok (.getfield 7, 3) := by decide +kernel
theorem dX12_falls_36 : decode cX12_falls 36 = .ok (.aload_n 0, 1) := by decide +kernel
theorem dX12_falls_37 : decode cX12_falls 37 = .ok (.iload_n 1, 1) := by decide +kernel
theorem dX12_falls_38 : decode cX12_falls 38 = .ok (.iload_n 3, 1) := by decide +kernel
theorem dX12_falls_39 : decode cX12_falls 39 = .ok (.invokevirtual 124, 3) := by decide +kernel
theorem dX12_falls_42 : decode cX12_falls 42 = .ok (.iaload, 1) := by decide +kernel
theorem dX12_falls_43 : decode cX12_falls 43 = .ok (.ifCond .le 9, 3) := by decide +kernel
theorem dX12_falls_46 : decode cX12_falls 46 = .ok (.aload_n 0, 1) := by decide +kernel
theorem dX12_falls_47 : decode cX12_falls 47 = .ok (.iload_n 1, 1) := by decide +kernel
theorem dX12_falls_48 : decode cX12_falls 48 = .ok (.iload_n 3, 1) := by decide +kernel
theorem dX12_falls_49 : decode cX12_falls 49 = .ok (.invokevirtual 214, 3) := by decide +kernel
theorem dX12_falls_52 : decode cX12_falls 52 = .ok (.iinc 3 1, 3) := by decide +kernel
theorem dX12_falls_55 : decode cX12_falls 55 = .ok (.goto (-33), 3) := by decide +kernel
theorem dX12_falls_58 : decode cX12_falls 58 = .ok (.iload_n 2, 1) := by decide +kernel
theorem dX12_falls_59 : decode cX12_falls 59 = .ok (.ireturn, 1) := by decide +kernel
theorem dX12_takesLetters_0 : decode cX12_takesLetters 0 = .ok (.iconst 1, 1) := by decide +kernel
theorem dX12_takesLetters_1 : decode cX12_takesLetters 1 = .ok (.istore_n 2, 1) := by decide +kernel
theorem dX12_takesLetters_2 : decode cX12_takesLetters 2 = .ok (.iconst 0, 1) := by decide +kernel
theorem dX12_takesLetters_3 : decode cX12_takesLetters 3 = .ok (.istore_n 3, 1) := by decide +kernel
theorem dX12_takesLetters_4 : decode cX12_takesLetters 4 = .ok (.iload_n 3, 1) := by decide +kernel
theorem dX12_takesLetters_5 : decode cX12_takesLetters 5 = .ok (.aload_n 0, 1) := by decide +kernel
theorem dX12_takesLetters_6 : decode cX12_takesLetters 6 = .ok (.iload_n 1, 1) := by decide +kernel
theorem dX12_takesLetters_7 : decode cX12_takesLetters 7 = .ok (.invokevirtual 145, 3) := by decide +kernel
theorem dX12_takesLetters_10 : decode cX12_takesLetters 10 = .ok (.if_icmp .ge 56, 3) := by decide +kernel
theorem dX12_takesLetters_13 : decode cX12_takesLetters 13 = .ok (.aload_n 0, 1) := by decide +kernel
theorem dX12_takesLetters_14 : decode cX12_takesLetters 14 = .ok (.getfield 7, 3) := by decide +kernel
theorem dX12_takesLetters_17 : decode cX12_takesLetters 17 = .ok (.sipush 266, 3) := by decide +kernel
theorem dX12_takesLetters_20 : decode cX12_takesLetters 20 = .ok (.aload_n 0, 1) := by decide +kernel
theorem dX12_takesLetters_21 : decode cX12_takesLetters 21 = .ok (.iload_n 1, 1) := by decide +kernel
theorem dX12_takesLetters_22 : decode cX12_takesLetters 22 = .ok (.iload_n 3, 1) := by decide +kernel
theorem dX12_takesLetters_23 : decode cX12_takesLetters 23 = .ok (.invokevirtual 148, 3) := by decide +kernel
theorem dX12_takesLetters_26 : decode cX12_takesLetters 26 = .ok (.iadd, 1) := by decide +kernel
theorem dX12_takesLetters_27 : decode cX12_takesLetters 27 = .ok (.dup2, 1) := by decide +kernel
theorem dX12_takesLetters_28 : decode cX12_takesLetters 28 = .ok (.iaload, 1) := by decide +kernel
theorem dX12_takesLetters_29 : decode cX12_takesLetters 29 = .ok (.iconst 1, 1) := by decide +kernel
theorem dX12_takesLetters_30 : decode cX12_takesLetters 30 = .ok (.isub, 1) := by decide +kernel
theorem dX12_takesLetters_31 : decode cX12_takesLetters 31 = .ok (.iastore, 1) := by decide +kernel
theorem dX12_takesLetters_32 : decode cX12_takesLetters 32 = .ok (.iload_n 2, 1) := by decide +kernel
theorem dX12_takesLetters_33 : decode cX12_takesLetters 33 = .ok (.ifCond .eq 25, 3) := by decide +kernel
theorem dX12_takesLetters_36 : decode cX12_takesLetters 36 = .ok (.aload_n 0, 1) := by decide +kernel
theorem dX12_takesLetters_37 : decode cX12_takesLetters 37 = .ok (.getfield 7, 3) := by decide +kernel
theorem dX12_takesLetters_40 : decode cX12_takesLetters 40 = .ok (.sipush 266, 3) := by decide +kernel
theorem dX12_takesLetters_43 : decode cX12_takesLetters 43 = .ok (.aload_n 0, 1) := by decide +kernel
theorem dX12_takesLetters_44 : decode cX12_takesLetters 44 = .ok (.iload_n 1, 1) := by decide +kernel
theorem dX12_takesLetters_45 : decode cX12_takesLetters 45 = .ok (.iload_n 3, 1) := by decide +kernel
theorem dX12_takesLetters_46 : decode cX12_takesLetters 46 = .ok (.invokevirtual 148, 3) := by decide +kernel
theorem dX12_takesLetters_49 : decode cX12_takesLetters 49 = .ok (.iadd, 1) := by decide +kernel
theorem dX12_takesLetters_50 : decode cX12_takesLetters 50 = .ok (.iaload, 1) := by decide +kernel
theorem dX12_takesLetters_51 : decode cX12_takesLetters 51 = .ok (.ifCond .lt 7, 3) := by decide +kernel
theorem dX12_takesLetters_54 : decode cX12_takesLetters 54 = .ok (.iconst 1, 1) := by decide +kernel
theorem dX12_takesLetters_55 : decode cX12_takesLetters 55 = .ok (.goto 4, 3) := by decide +kernel
theorem dX12_takesLetters_58 : decode cX12_takesLetters 58 = .ok (.iconst 0, 1) := by decide +kernel
theorem dX12_takesLetters_59 : decode cX12_takesLetters 59 = .ok (.istore_n 2, 1) := by decide +kernel
theorem dX12_takesLetters_60 : decode cX12_takesLetters 60 = .ok (.iinc 3 1, 3) := by decide +kernel
theorem dX12_takesLetters_63 : decode cX12_takesLetters 63 = .ok (.goto (-59), 3) := by decide +kernel
theorem dX12_takesLetters_66 : decode cX12_takesLetters 66 = .ok (.iload_n 2, 1) := by decide +kernel
theorem dX12_takesLetters_67 : decode cX12_takesLetters 67 = .ok (.ireturn, 1) := by decide +kernel
theorem dX12_givesLetters_0 : decode cX12_givesLetters 0 = .ok (.iconst 0, 1) := by decide +kernel
theorem dX12_givesLetters_1 : decode cX12_givesLetters 1 = .ok (.istore_n 2, 1) := by decide +kernel
theorem dX12_givesLetters_2 : decode cX12_givesLetters 2 = .ok (.iload_n 2, 1) := by decide +kernel
theorem dX12_givesLetters_3 : decode cX12_givesLetters 3 = .ok (.aload_n 0, 1) := by decide +kernel
theorem dX12_givesLetters_4 : decode cX12_givesLetters 4 = .ok (.iload_n 1, 1) := by decide +kernel
theorem dX12_givesLetters_5 : decode cX12_givesLetters 5 = .ok (.invokevirtual 145, 3) := by decide +kernel
theorem dX12_givesLetters_8 : decode cX12_givesLetters 8 = .ok (.if_icmp .ge 28, 3) := by decide +kernel
theorem dX12_givesLetters_11 : decode cX12_givesLetters 11 = .ok (.aload_n 0, 1) := by decide +kernel
theorem dX12_givesLetters_12 : decode cX12_givesLetters 12 = .ok (.getfield 7, 3) := by decide +kernel
theorem dX12_givesLetters_15 : decode cX12_givesLetters 15 = .ok (.sipush 266, 3) := by decide +kernel
theorem dX12_givesLetters_18 : decode cX12_givesLetters 18 = .ok (.aload_n 0, 1) := by decide +kernel
theorem dX12_givesLetters_19 : decode cX12_givesLetters 19 = .ok (.iload_n 1, 1) := by decide +kernel
theorem dX12_givesLetters_20 : decode cX12_givesLetters 20 = .ok (.iload_n 2, 1) := by decide +kernel
theorem dX12_givesLetters_21 : decode cX12_givesLetters 21 = .ok (.invokevirtual 148, 3) := by decide +kernel
theorem dX12_givesLetters_24 : decode cX12_givesLetters 24 = .ok (.iadd, 1) := by decide +kernel
theorem dX12_givesLetters_25 : decode cX12_givesLetters 25 = .ok (.dup2, 1) := by decide +kernel
theorem dX12_givesLetters_26 : decode cX12_givesLetters 26 = .ok (.iaload, 1) := by decide +kernel
theorem dX12_givesLetters_27 : decode cX12_givesLetters 27 = .ok (.iconst 1, 1) := by decide +kernel
theorem dX12_givesLetters_28 : decode cX12_givesLetters 28 = .ok (.iadd, 1) := by decide +kernel
theorem dX12_givesLetters_29 : decode cX12_givesLetters 29 = .ok (.iastore, 1) := by decide +kernel
theorem dX12_givesLetters_30 : decode cX12_givesLetters 30 = .ok (.iinc 2 1, 3) := by decide +kernel
theorem dX12_givesLetters_33 : decode cX12_givesLetters 33 = .ok (.goto (-31), 3) := by decide +kernel
theorem dX12_givesLetters_36 : decode cX12_givesLetters 36 = .ok (.return_, 1) := by decide +kernel
theorem dX12_builds1_0 : decode cX12_builds1 0 = .ok (.iload_n 3, 1) := by decide +kernel
theorem dX12_builds1_1 : decode cX12_builds1 1 = .ok (.iconst 4, 1) := by decide +kernel
theorem dX12_builds1_2 : decode cX12_builds1 2 = .ok (.if_icmp .ne 39, 3) := by decide +kernel
theorem dX12_builds1_5 : decode cX12_builds1 5 = .ok (.aload_n 0, 1) := by decide +kernel
theorem dX12_builds1_6 : decode cX12_builds1 6 = .ok (.dup, 1) := by decide +kernel
theorem dX12_builds1_7 : decode cX12_builds1 7 = .ok (.getfield 217, 3) := by decide +kernel
theorem dX12_builds1_10 : decode cX12_builds1 10 = .ok (.iconst 1, 1) := by decide +kernel
theorem dX12_builds1_11 : decode cX12_builds1 11 = .ok (.iadd, 1) := by decide +kernel
theorem dX12_builds1_12 : decode cX12_builds1 12 = .ok (.putfield 217, 3) := by decide +kernel
theorem dX12_builds1_15 : decode cX12_builds1 15 = .ok (.aload_n 0, 1) := by decide +kernel
theorem dX12_builds1_16 : decode cX12_builds1 16 = .ok (.getfield 220, 3) := by decide +kernel
theorem dX12_builds1_19 : decode cX12_builds1 19 = .ok (.ifCond .eq 11, 3) := by decide +kernel
theorem dX12_builds1_22 : decode cX12_builds1 22 = .ok (.iload_n 2, 1) := by decide +kernel
theorem dX12_builds1_23 : decode cX12_builds1 23 = .ok (.aload_n 0, 1) := by decide +kernel
theorem dX12_builds1_24 : decode cX12_builds1 24 = .ok (.getfield 223, 3) := by decide +kernel
theorem dX12_builds1_27 : decode cX12_builds1 27 = .ok (.if_icmp .ge 14, 3) := by decide +kernel
theorem dX12_builds1_30 : decode cX12_builds1 30 = .ok (.aload_n 0, 1) := by decide +kernel
theorem dX12_builds1_31 : decode cX12_builds1 31 = .ok (.iload 4, 2) := by decide +kernel
theorem dX12_builds1_33 : decode cX12_builds1 33 = .ok (.putfield 220, 3) := by decide +kernel
theorem dX12_builds1_36 : decode cX12_builds1 36 = .ok (.aload_n 0, 1) := by decide +kernel
theorem dX12_builds1_37 : decode cX12_builds1 37 = .ok (.iload_n 2, 1) := by decide +kernel
theorem dX12_builds1_38 : decode cX12_builds1 38 = .ok (.putfield 223, 3) := by decide +kernel
theorem dX12_builds1_41 : decode cX12_builds1 41 = .ok (.iconst 0, 1) := by decide +kernel
theorem dX12_builds1_42 : decode cX12_builds1 42 = .ok (.istore 5, 2) := by decide +kernel
theorem dX12_builds1_44 : decode cX12_builds1 44 = .ok (.iload 5, 2) := by decide +kernel
theorem dX12_builds1_46 : decode cX12_builds1 46 = .ok (.aload_n 0, 1) := by decide +kernel
theorem dX12_builds1_47 : decode cX12_builds1 47 = .ok (.getfield 7, 3) := by decide +kernel
theorem dX12_builds1_50 : decode cX12_builds1 50 = .ok (.iconst 1, 1) := by decide +kernel
theorem dX12_builds1_51 : decode cX12_builds1 51 = .ok (.iaload, 1) := by decide +kernel
theorem dX12_builds1_52 : decode cX12_builds1 52 = .ok (.if_icmp .ge 67, 3) := by decide +kernel
theorem dX12_builds1_55 : decode cX12_builds1 55 = .ok (.iload_n 2, 1) := by decide +kernel
theorem dX12_builds1_56 : decode cX12_builds1 56 = .ok (.iload_n 1, 1) := by decide +kernel
theorem dX12_builds1_57 : decode cX12_builds1 57 = .ok (.if_icmp .ge 62, 3) := by decide +kernel
theorem dX12_builds1_60 : decode cX12_builds1 60 = .ok (.iload_n 3, 1) := by decide +kernel
theorem dX12_builds1_61 : decode cX12_builds1 61 = .ok (.aload_n 0, 1) := by decide +kernel
theorem dX12_builds1_62 : decode cX12_builds1 62 = .ok (.iload 5, 2) := by decide +kernel
theorem dX12_builds1_64 : decode cX12_builds1 64 = .ok (.invokevirtual 151, 3) := by decide +kernel
theorem dX12_builds1_67 : decode cX12_builds1 67 = .ok (.invokestatic 154, 3) := by decide +kernel
theorem dX12_builds1_70 : decode cX12_builds1 70 = .ok (.istore 6, 2) := by decide +kernel
theorem dX12_builds1_72 : decode cX12_builds1 72 = .ok (.iload 6, 2) := by decide +kernel
theorem dX12_builds1_74 : decode cX12_builds1 74 = .ok (.iconst (-1), 1) := by decide +kernel
theorem dX12_builds1_75 : decode cX12_builds1 75 = .ok (.if_icmp .eq 38, 3) := by decide +kernel
theorem dX12_builds1_78 : decode cX12_builds1 78 = .ok (.aload_n 0, 1) := by decide +kernel
theorem dX12_builds1_79 : decode cX12_builds1 79 = .ok (.iload 5, 2) := by decide +kernel
theorem dX12_builds1_81 : decode cX12_builds1 81 = .ok (.invokevirtual 226, 3) := by decide +kernel
theorem dX12_builds1_84 : decode cX12_builds1 84 = .ok (.ifCond .eq 23, 3) := by decide +kernel
theorem dX12_builds1_87 : decode cX12_builds1 87 = .ok (.aload_n 0, 1) := by decide +kernel
theorem dX12_builds1_88 : decode cX12_builds1 88 = .ok (.iload_n 1, 1) := by decide +kernel
theorem dX12_builds1_89 : decode cX12_builds1 89 = .ok (.iload_n 2, 1) := by decide +kernel
theorem dX12_builds1_90 : decode cX12_builds1 90 = .ok (.iconst 1, 1) := by decide +kernel
theorem dX12_builds1_91 : decode cX12_builds1 91 = .ok (.iadd, 1) := by decide +kernel
theorem dX12_builds1_92 : decode cX12_builds1 92 = .ok (.iload 6, 2) := by decide +kernel
theorem dX12_builds1_94 : decode cX12_builds1 94 = .ok (.bipush 16, 2) := by decide +kernel
theorem dX12_builds1_96 : decode cX12_builds1 96 = .ok (.iload 4, 2) := by decide +kernel
theorem dX12_builds1_98 : decode cX12_builds1 98 = .ok (.imul, 1) := by decide +kernel
theorem dX12_builds1_99 : decode cX12_builds1 99 = .ok (.iload 5, 2) := by decide +kernel
theorem dX12_builds1_101 : decode cX12_builds1 101 = .ok (.iadd, 1) := by decide +kernel
theorem dX12_builds1_102 : decode cX12_builds1 102 = .ok (.iconst 1, 1) := by decide +kernel
theorem dX12_builds1_103 : decode cX12_builds1 103 = .ok (.iadd, 1) := by decide +kernel
theorem dX12_builds1_104 : decode cX12_builds1 104 = .ok (.invokevirtual 229, 3) := by decide +kernel
theorem dX12_builds1_107 : decode cX12_builds1 107 = .ok (.aload_n 0, 1) := by decide +kernel
theorem dX12_builds1_108 : decode cX12_builds1 108 = .ok (.iload 5, 2) := by decide +kernel
theorem dX12_builds1_110 : decode cX12_builds1 110 = .ok (.invokevirtual 233, 3) := by decide +kernel
theorem dX12_builds1_113 : decode cX12_builds1 113 = .ok (.iinc 5 1, 3) := by decide +kernel
theorem dX12_builds1_116 : decode cX12_builds1 116 = .ok (.goto (-72), 3) := by decide +kernel
theorem dX12_builds1_119 : decode cX12_builds1 119 = .ok (.return_, 1) := by decide +kernel
theorem dX12_builds_0 : decode cX12_builds 0 = .ok (.iload_n 1, 1) := by decide +kernel
theorem dX12_builds_1 : decode cX12_builds 1 = .ok (.iconst 1, 1) := by decide +kernel
theorem dX12_builds_2 : decode cX12_builds 2 = .ok (.bipush 7, 2) := by decide +kernel
theorem dX12_builds_4 : decode cX12_builds 4 = .ok (.invokestatic 56, 3) := by decide +kernel
theorem dX12_builds_7 : decode cX12_builds 7 = .ok (.ifCond .eq 12, 3) := by decide +kernel
theorem dX12_builds_10 : decode cX12_builds 10 = .ok (.iload_n 2, 1) := by decide +kernel
theorem dX12_builds_11 : decode cX12_builds 11 = .ok (.iconst 0, 1) := by decide +kernel
theorem dX12_builds_12 : decode cX12_builds 12 = .ok (.iconst 1, 1) := by decide +kernel
theorem dX12_builds_13 : decode cX12_builds 13 = .ok (.invokestatic 56, 3) := by decide +kernel
theorem dX12_builds_16 : decode cX12_builds 16 = .ok (.ifCond .ne 9, 3) := by decide +kernel
theorem dX12_builds_19 : decode cX12_builds 19 = .ok (.aload_n 0, 1) := by decide +kernel
theorem dX12_builds_20 : decode cX12_builds 20 = .ok (.iconst 1, 1) := by decide +kernel
theorem dX12_builds_21 : decode cX12_builds 21 = .ok (.invokevirtual 64, 3) := by decide +kernel
theorem dX12_builds_24 : decode cX12_builds 24 = .ok (.ireturn, 1) := by decide +kernel
theorem dX12_builds_25 : decode cX12_builds 25 = .ok (.aload_n 0, 1) := by decide +kernel
theorem dX12_builds_26 : decode cX12_builds 26 = .ok (.iconst 0, 1) := by decide +kernel
theorem dX12_builds_27 : decode cX12_builds 27 = .ok (.putfield 217, 3) := by decide +kernel
theorem dX12_builds_30 : decode cX12_builds 30 = .ok (.aload_n 0, 1) := by decide +kernel
theorem dX12_builds_31 : decode cX12_builds 31 = .ok (.iconst 0, 1) := by decide +kernel
theorem dX12_builds_32 : decode cX12_builds 32 = .ok (.putfield 220, 3) := by decide +kernel
theorem dX12_builds_35 : decode cX12_builds 35 = .ok (.aload_n 0, 1) := by decide +kernel
theorem dX12_builds_36 : decode cX12_builds 36 = .ok (.iconst 0, 1) := by decide +kernel
theorem dX12_builds_37 : decode cX12_builds 37 = .ok (.putfield 223, 3) := by decide +kernel
theorem dX12_builds_40 : decode cX12_builds 40 = .ok (.aload_n 0, 1) := by decide +kernel
theorem dX12_builds_41 : decode cX12_builds 41 = .ok (.iload_n 1, 1) := by decide +kernel
theorem dX12_builds_42 : decode cX12_builds 42 = .ok (.iconst 0, 1) := by decide +kernel
theorem dX12_builds_43 : decode cX12_builds 43 = .ok (.iconst 0, 1) := by decide +kernel
theorem dX12_builds_44 : decode cX12_builds 44 = .ok (.iconst 0, 1) := by decide +kernel
theorem dX12_builds_45 : decode cX12_builds 45 = .ok (.invokevirtual 229, 3) := by decide +kernel
theorem dX12_builds_48 : decode cX12_builds 48 = .ok (.iload_n 2, 1) := by decide +kernel
theorem dX12_builds_49 : decode cX12_builds 49 = .ok (.ifCond .ne 10, 3) := by decide +kernel
theorem dX12_builds_52 : decode cX12_builds 52 = .ok (.aload_n 0, 1) := by decide +kernel
theorem dX12_builds_53 : decode cX12_builds 53 = .ok (.getfield 217, 3) := by decide +kernel
theorem dX12_builds_56 : decode cX12_builds 56 = .ok (.goto 7, 3) := by decide +kernel
theorem dX12_builds_59 : decode cX12_builds 59 = .ok (.aload_n 0, 1) := by decide +kernel
theorem dX12_builds_60 : decode cX12_builds 60 = .ok (.getfield 220, 3) := by decide +kernel
theorem dX12_builds_63 : decode cX12_builds 63 = .ok (.ireturn, 1) := by decide +kernel
theorem dX12_draw_0 : decode cX12_draw 0 = .ok (.aload_n 0, 1) := by decide +kernel
theorem dX12_draw_1 : decode cX12_draw 1 = .ok (.getfield 7, 3) := by decide +kernel
theorem dX12_draw_4 : decode cX12_draw 4 = .ok (.bipush 6, 2) := by decide +kernel
theorem dX12_draw_6 : decode cX12_draw 6 = .ok (.aload_n 0, 1) := by decide +kernel
theorem dX12_draw_7 : decode cX12_draw 7 = .ok (.getfield 7, 3) := by decide +kernel
theorem dX12_draw_10 : decode cX12_draw 10 = .ok (.bipush 6, 2) := by decide +kernel
theorem dX12_draw_12 : decode cX12_draw 12 = .ok (.iaload, 1) := by decide +kernel
theorem dX12_draw_13 : decode cX12_draw 13 = .ok (.ldc 236, 2) := by decide +kernel
theorem dX12_draw_15 : decode cX12_draw 15 = .ok (.imul, 1) := by decide +kernel
theorem dX12_draw_16 : decode cX12_draw 16 = .ok (.sipush 12345, 3) := by decide +kernel
theorem dX12_draw_19 : decode cX12_draw 19 = .ok (.iadd, 1) := by decide +kernel
theorem dX12_draw_20 : decode cX12_draw 20 = .ok (.iastore, 1) := by decide +kernel
theorem dX12_draw_21 : decode cX12_draw 21 = .ok (.aload_n 0, 1) := by decide +kernel
theorem dX12_draw_22 : decode cX12_draw 22 = .ok (.getfield 7, 3) := by decide +kernel
theorem dX12_draw_25 : decode cX12_draw 25 = .ok (.bipush 6, 2) := by decide +kernel
theorem dX12_draw_27 : decode cX12_draw 27 = .ok (.iaload, 1) := by decide +kernel
theorem dX12_draw_28 : decode cX12_draw 28 = .ok (.bipush 8, 2) := by decide +kernel
theorem dX12_draw_30 : decode cX12_draw 30 = .ok (.iushr, 1) := by decide +kernel
theorem dX12_draw_31 : decode cX12_draw 31 = .ok (.ireturn, 1) := by decide +kernel
theorem dX12_years_0 : decode cX12_years 0 = .ok (.iload_n 1, 1) := by decide +kernel
theorem dX12_years_1 : decode cX12_years 1 = .ok (.iconst 1, 1) := by decide +kernel
theorem dX12_years_2 : decode cX12_years 2 = .ok (.bipush 20, 2) := by decide +kernel
theorem dX12_years_4 : decode cX12_years 4 = .ok (.invokestatic 56, 3) := by decide +kernel
theorem dX12_years_7 : decode cX12_years 7 = .ok (.ifCond .ne 9, 3) := by decide +kernel
theorem dX12_years_10 : decode cX12_years 10 = .ok (.aload_n 0, 1) := by decide +kernel
theorem dX12_years_11 : decode cX12_years 11 = .ok (.iconst 1, 1) := by decide +kernel
theorem dX12_years_12 : decode cX12_years 12 = .ok (.invokevirtual 64, 3) := by decide +kernel
theorem dX12_years_15 : decode cX12_years 15 = .ok (.ireturn, 1) := by decide +kernel
theorem dX12_years_16 : decode cX12_years 16 = .ok (.iconst 0, 1) := by decide +kernel
theorem dX12_years_17 : decode cX12_years 17 = .ok (.istore_n 2, 1) := by decide +kernel
theorem dX12_years_18 : decode cX12_years 18 = .ok (.iconst 0, 1) := by decide +kernel
theorem dX12_years_19 : decode cX12_years 19 = .ok (.istore_n 3, 1) := by decide +kernel
theorem dX12_years_20 : decode cX12_years 20 = .ok (.iload_n 3, 1) := by decide +kernel
theorem dX12_years_21 : decode cX12_years 21 = .ok (.iload_n 1, 1) := by decide +kernel
theorem dX12_years_22 : decode cX12_years 22 = .ok (.if_icmp .ge 124, 3) := by decide +kernel
theorem dX12_years_25 : decode cX12_years 25 = .ok (.aload_n 0, 1) := by decide +kernel
theorem dX12_years_26 : decode cX12_years 26 = .ok (.getfield 7, 3) := by decide +kernel
theorem dX12_years_29 : decode cX12_years 29 = .ok (.iconst 2, 1) := by decide +kernel
theorem dX12_years_30 : decode cX12_years 30 = .ok (.aload_n 0, 1) := by decide +kernel
theorem dX12_years_31 : decode cX12_years 31 = .ok (.invokevirtual 237, 3) := by decide +kernel
theorem dX12_years_34 : decode cX12_years 34 = .ok (.iconst 4, 1) := by decide +kernel
theorem dX12_years_35 : decode cX12_years 35 = .ok (.irem, 1) := by decide +kernel
theorem dX12_years_36 : decode cX12_years 36 = .ok (.iastore, 1) := by decide +kernel
theorem dX12_years_37 : decode cX12_years 37 = .ok (.aload_n 0, 1) := by decide +kernel
theorem dX12_years_38 : decode cX12_years 38 = .ok (.getfield 7, 3) := by decide +kernel
theorem dX12_years_41 : decode cX12_years 41 = .ok (.iconst 3, 1) := by decide +kernel
theorem dX12_years_42 : decode cX12_years 42 = .ok (.aload_n 0, 1) := by decide +kernel
theorem dX12_years_43 : decode cX12_years 43 = .ok (.getfield 7, 3) := by decide +kernel
theorem dX12_years_46 : decode cX12_years 46 = .ok (.iconst 3, 1) := by decide +kernel
theorem dX12_years_47 : decode cX12_years 47 = .ok (.iaload, 1) := by decide +kernel
theorem dX12_years_48 : decode cX12_years 48 = .ok (.bipush 50, 2) := by decide +kernel
theorem dX12_years_50 : decode cX12_years 50 = .ok (.iadd, 1) := by decide +kernel
theorem dX12_years_51 : decode cX12_years 51 = .ok (.iconst 0, 1) := by decide +kernel
theorem dX12_years_52 : decode cX12_years 52 = .ok (.ldc 210, 2) := by decide +kernel
theorem dX12_years_54 : decode cX12_years 54 = .ok (.invokestatic 161, 3) := by decide +kernel
theorem dX12_years_57 : decode cX12_years 57 = .ok (.iastore, 1) := by decide +kernel
theorem dX12_years_58 : decode cX12_years 58 = .ok (.iconst 0, 1) := by decide +kernel
theorem dX12_years_59 : decode cX12_years 59 = .ok (.istore 4, 2) := by decide +kernel
theorem dX12_years_61 : decode cX12_years 61 = .ok (.iload 4, 2) := by decide +kernel
theorem dX12_years_63 : decode cX12_years 63 = .ok (.aload_n 0, 1) := by decide +kernel
theorem dX12_years_64 : decode cX12_years 64 = .ok (.getfield 7, 3) := by decide +kernel
theorem dX12_years_67 : decode cX12_years 67 = .ok (.iconst 0, 1) := by decide +kernel
theorem dX12_years_68 : decode cX12_years 68 = .ok (.iaload, 1) := by decide +kernel
theorem dX12_years_69 : decode cX12_years 69 = .ok (.if_icmp .ge 71, 3) := by decide +kernel
theorem dX12_years_72 : decode cX12_years 72 = .ok (.aload_n 0, 1) := by decide +kernel
theorem dX12_years_73 : decode cX12_years 73 = .ok (.iload 4, 2) := by decide +kernel
theorem dX12_years_75 : decode cX12_years 75 = .ok (.invokevirtual 211, 3) := by decide +kernel
theorem dX12_years_78 : decode cX12_years 78 = .ok (.ifCond .le 56, 3) := by decide +kernel
theorem dX12_years_81 : decode cX12_years 81 = .ok (.aload_n 0, 1) := by decide +kernel
theorem dX12_years_82 : decode cX12_years 82 = .ok (.invokevirtual 237, 3) := by decide +kernel
theorem dX12_years_85 : decode cX12_years 85 = .ok (.aload_n 0, 1) := by decide +kernel
theorem dX12_years_86 : decode cX12_years 86 = .ok (.iload 4, 2) := by decide +kernel
theorem dX12_years_88 : decode cX12_years 88 = .ok (.iconst 2, 1) := by decide +kernel
theorem dX12_years_89 : decode cX12_years 89 = .ok (.invokevirtual 60, 3) := by decide +kernel
theorem dX12_years_92 : decode cX12_years 92 = .ok (.irem, 1) := by decide +kernel
theorem dX12_years_93 : decode cX12_years 93 = .ok (.istore 5, 2) := by decide +kernel
theorem dX12_years_95 : decode cX12_years 95 = .ok (.aload_n 0, 1) := by decide +kernel
theorem dX12_years_96 : decode cX12_years 96 = .ok (.getfield 7, 3) := by decide +kernel
theorem dX12_years_99 : decode cX12_years 99 = .ok (.aload_n 0, 1) := by decide +kernel
theorem dX12_years_100 : decode cX12_years 100 = .ok (.iload 4, 2) := by decide +kernel
theorem dX12_years_102 : decode cX12_years 102 = .ok (.iload 5, 2) := by decide +kernel
theorem dX12_years_104 : decode cX12_years 104 = .ok (.invokevirtual 124, 3) := by decide +kernel
theorem dX12_years_107 : decode cX12_years 107 = .ok (.iaload, 1) := by decide +kernel
theorem dX12_years_108 : decode cX12_years 108 = .ok (.ifCond .le 26, 3) := by decide +kernel
theorem dX12_years_111 : decode cX12_years 111 = .ok (.aload_n 0, 1) := by decide +kernel
theorem dX12_years_112 : decode cX12_years 112 = .ok (.iload 4, 2) := by decide +kernel
theorem dX12_years_114 : decode cX12_years 114 = .ok (.iload 5, 2) := by decide +kernel
theorem dX12_years_116 : decode cX12_years 116 = .ok (.iconst 1, 1) := by decide +kernel
theorem dX12_years_117 : decode cX12_years 117 = .ok (.invokevirtual 195, 3) := by decide +kernel
theorem dX12_years_120 : decode cX12_years 120 = .ok (.ifCond .eq 14, 3) := by decide +kernel
theorem dX12_years_123 : decode cX12_years 123 = .ok (.aload_n 0, 1) := by decide +kernel
theorem dX12_years_124 : decode cX12_years 124 = .ok (.iload 4, 2) := by decide +kernel
theorem dX12_years_126 : decode cX12_years 126 = .ok (.iload 5, 2) := by decide +kernel
theorem dX12_years_128 : decode cX12_years 128 = .ok (.invokevirtual 214, 3) := by decide +kernel
theorem dX12_years_131 : decode cX12_years 131 = .ok (.iinc 2 1, 3) := by decide +kernel
theorem dX12_years_134 : decode cX12_years 134 = .ok (.iinc 4 1, 3) := by decide +kernel
theorem dX12_years_137 : decode cX12_years 137 = .ok (.goto (-76), 3) := by decide +kernel
theorem dX12_years_140 : decode cX12_years 140 = .ok (.iinc 3 1, 3) := by decide +kernel
theorem dX12_years_143 : decode cX12_years 143 = .ok (.goto (-123), 3) := by decide +kernel
theorem dX12_years_146 : decode cX12_years 146 = .ok (.iload_n 2, 1) := by decide +kernel
theorem dX12_years_147 : decode cX12_years 147 = .ok (.ireturn, 1) := by decide +kernel
theorem dX12_seed_0 : decode cX12_seed 0 = .ok (.aload_n 0, 1) := by decide +kernel
theorem dX12_seed_1 : decode cX12_seed 1 = .ok (.getfield 7, 3) := by decide +kernel
theorem dX12_seed_4 : decode cX12_seed 4 = .ok (.bipush 6, 2) := by decide +kernel
theorem dX12_seed_6 : decode cX12_seed 6 = .ok (.iaload, 1) := by decide +kernel
theorem dX12_seed_7 : decode cX12_seed 7 = .ok (.istore_n 2, 1) := by decide +kernel
theorem dX12_seed_8 : decode cX12_seed 8 = .ok (.aload_n 0, 1) := by decide +kernel
theorem dX12_seed_9 : decode cX12_seed 9 = .ok (.getfield 7, 3) := by decide +kernel
theorem dX12_seed_12 : decode cX12_seed 12 = .ok (.bipush 6, 2) := by decide +kernel
theorem dX12_seed_14 : decode cX12_seed 14 = .ok (.iload_n 1, 1) := by decide +kernel
theorem dX12_seed_15 : decode cX12_seed 15 = .ok (.iastore, 1) := by decide +kernel
theorem dX12_seed_16 : decode cX12_seed 16 = .ok (.iload_n 2, 1) := by decide +kernel
theorem dX12_seed_17 : decode cX12_seed 17 = .ok (.ireturn, 1) := by decide +kernel
theorem dX12_begins_0 : decode cX12_begins 0 = .ok (.aload_n 0, 1) := by decide +kernel
theorem dX12_begins_1 : decode cX12_begins 1 = .ok (.getfield 240, 3) := by decide +kernel
theorem dX12_begins_4 : decode cX12_begins 4 = .ok (.bipush 30, 2) := by decide +kernel
theorem dX12_begins_6 : decode cX12_begins 6 = .ok (.if_icmp .ge 23, 3) := by decide +kernel
theorem dX12_begins_9 : decode cX12_begins 9 = .ok (.aload_n 0, 1) := by decide +kernel
theorem dX12_begins_10 : decode cX12_begins 10 = .ok (.getfield 40, 3) := by decide +kernel
theorem dX12_begins_13 : decode cX12_begins 13 = .ok (.aload_n 0, 1) := by decide +kernel
theorem dX12_begins_14 : decode cX12_begins 14 = .ok (.getfield 240, 3) := by decide +kernel
theorem dX12_begins_17 : decode cX12_begins 17 = .ok (.iload_n 1, 1) := by decide +kernel
theorem dX12_begins_18 : decode cX12_begins 18 = .ok (.iastore, 1) := by decide +kernel
theorem dX12_begins_19 : decode cX12_begins 19 = .ok (.aload_n 0, 1) := by decide +kernel
theorem dX12_begins_20 : decode cX12_begins 20 = .ok (.dup, 1) := by decide +kernel
theorem dX12_begins_21 : decode cX12_begins 21 = .ok (.getfield 240, 3) := by decide +kernel
theorem dX12_begins_24 : decode cX12_begins 24 = .ok (.iconst 1, 1) := by decide +kernel
theorem dX12_begins_25 : decode cX12_begins 25 = .ok (.iadd, 1) := by decide +kernel
theorem dX12_begins_26 : decode cX12_begins 26 = .ok (.putfield 240, 3) := by decide +kernel
theorem dX12_begins_29 : decode cX12_begins 29 = .ok (.return_, 1) := by decide +kernel
theorem dX12_above_0 : decode cX12_above 0 = .ok (.iload_n 0, 1) := by decide +kernel
theorem dX12_above_1 : decode cX12_above 1 = .ok (.iconst 4, 1) := by decide +kernel
theorem dX12_above_2 : decode cX12_above 2 = .ok (.if_icmp .ne 7, 3) := by decide +kernel
theorem dX12_above_5 : decode cX12_above 5 = .ok (.iconst 1, 1) := by decide +kernel
theorem dX12_above_6 : decode cX12_above 6 = .ok (.goto 13, 3) := by decide +kernel
theorem dX12_above_9 : decode cX12_above 9 = .ok (.iload_n 0, 1) := by decide +kernel
theorem dX12_above_10 : decode cX12_above 10 = .ok (.iconst 5, 1) := by decide +kernel
theorem dX12_above_11 : decode cX12_above 11 = .ok (.if_icmp .ne 7, 3) := by decide +kernel
theorem dX12_above_14 : decode cX12_above 14 = .ok (.iconst 3, 1) := by decide +kernel
theorem dX12_above_15 : decode cX12_above 15 = .ok (.goto 4, 3) := by decide +kernel
theorem dX12_above_18 : decode cX12_above 18 = .ok (.iconst 0, 1) := by decide +kernel
theorem dX12_above_19 : decode cX12_above 19 = .ok (.ireturn, 1) := by decide +kernel
theorem dX12_kindNow_0 : decode cX12_kindNow 0 = .ok (.aload_n 0, 1) := by decide +kernel
theorem dX12_kindNow_1 : decode cX12_kindNow 1 = .ok (.aload_n 0, 1) := by decide +kernel
theorem dX12_kindNow_2 : decode cX12_kindNow 2 = .ok (.getfield 243, 3) := by decide +kernel
theorem dX12_kindNow_5 : decode cX12_kindNow 5 = .ok (.iconst 0, 1) := by decide +kernel
theorem dX12_kindNow_6 : decode cX12_kindNow 6 = .ok (.invokevirtual 60, 3) := by decide +kernel
theorem dX12_kindNow_9 : decode cX12_kindNow 9 = .ok (.ireturn, 1) := by decide +kernel
theorem dX12_mNow_0 : decode cX12_mNow 0 = .ok (.aload_n 0, 1) := by decide +kernel
theorem dX12_mNow_1 : decode cX12_mNow 1 = .ok (.aload_n 0, 1) := by decide +kernel
theorem dX12_mNow_2 : decode cX12_mNow 2 = .ok (.getfield 243, 3) := by decide +kernel
theorem dX12_mNow_5 : decode cX12_mNow 5 = .ok (.iconst 1, 1) := by decide +kernel
theorem dX12_mNow_6 : decode cX12_mNow 6 = .ok (.invokevirtual 60, 3) := by decide +kernel
theorem dX12_mNow_9 : decode cX12_mNow 9 = .ok (.ireturn, 1) := by decide +kernel
theorem dX12_readsBy_0 : decode cX12_readsBy 0 = .ok (.iload_n 1, 1) := by decide +kernel
theorem dX12_readsBy_1 : decode cX12_readsBy 1 = .ok (.tableswitch 102 0 6 #[43, 56, 102, 102, 75, 102, 93], 43) := by decide +kernel
theorem dX12_readsBy_44 : decode cX12_readsBy 44 = .ok (.aload_n 0, 1) := by decide +kernel
theorem dX12_readsBy_45 : decode cX12_readsBy 45 = .ok (.bipush 10, 2) := by decide +kernel
theorem dX12_readsBy_47 : decode cX12_readsBy 47 = .ok (.invokevirtual 246, 3) := by decide +kernel
theorem dX12_readsBy_50 : decode cX12_readsBy 50 = .ok (.iload_n 2, 1) := by decide +kernel
theorem dX12_readsBy_51 : decode cX12_readsBy 51 = .ok (.aload_n 0, 1) := by decide +kernel
theorem dX12_readsBy_52 : decode cX12_readsBy 52 = .ok (.getfield 243, 3) := by decide +kernel
theorem dX12_readsBy_55 : decode cX12_readsBy 55 = .ok (.iadd, 1) := by decide +kernel
theorem dX12_readsBy_56 : decode cX12_readsBy 56 = .ok (.ireturn, 1) := by decide +kernel
theorem dX12_readsBy_57 : decode cX12_readsBy 57 = .ok (.aload_n 0, 1) := by decide +kernel
theorem dX12_readsBy_58 : decode cX12_readsBy 58 = .ok (.bipush 20, 2) := by decide +kernel
theorem dX12_readsBy_60 : decode cX12_readsBy 60 = .ok (.invokevirtual 246, 3) := by decide +kernel
theorem dX12_readsBy_63 : decode cX12_readsBy 63 = .ok (.aload_n 0, 1) := by decide +kernel
theorem dX12_readsBy_64 : decode cX12_readsBy 64 = .ok (.iconst 1, 1) := by decide +kernel
theorem dX12_readsBy_65 : decode cX12_readsBy 65 = .ok (.invokestatic 249, 3) := by decide +kernel
theorem dX12_readsBy_68 : decode cX12_readsBy 68 = .ok (.iload_n 2, 1) := by decide +kernel
theorem dX12_readsBy_69 : decode cX12_readsBy 69 = .ok (.invokevirtual 252, 3) := by decide +kernel
theorem dX12_readsBy_72 : decode cX12_readsBy 72 = .ok (.bipush 6, 2) := by decide +kernel
theorem dX12_readsBy_74 : decode cX12_readsBy 74 = .ok (.isub, 1) := by decide +kernel
theorem dX12_readsBy_75 : decode cX12_readsBy 75 = .ok (.ireturn, 1) := by decide +kernel
theorem dX12_readsBy_76 : decode cX12_readsBy 76 = .ok (.aload_n 0, 1) := by decide +kernel
theorem dX12_readsBy_77 : decode cX12_readsBy 77 = .ok (.bipush 50, 2) := by decide +kernel
theorem dX12_readsBy_79 : decode cX12_readsBy 79 = .ok (.invokevirtual 246, 3) := by decide +kernel
theorem dX12_readsBy_82 : decode cX12_readsBy 82 = .ok (.aload_n 0, 1) := by decide +kernel
theorem dX12_readsBy_83 : decode cX12_readsBy 83 = .ok (.iconst 4, 1) := by decide +kernel
theorem dX12_readsBy_84 : decode cX12_readsBy 84 = .ok (.invokestatic 249, 3) := by decide +kernel
theorem dX12_readsBy_87 : decode cX12_readsBy 87 = .ok (.iload_n 2, 1) := by decide +kernel
theorem dX12_readsBy_88 : decode cX12_readsBy 88 = .ok (.invokevirtual 252, 3) := by decide +kernel
theorem dX12_readsBy_91 : decode cX12_readsBy 91 = .ok (.iconst 3, 1) := by decide +kernel
theorem dX12_readsBy_92 : decode cX12_readsBy 92 = .ok (.imul, 1) := by decide +kernel
theorem dX12_readsBy_93 : decode cX12_readsBy 93 = .ok (.ireturn, 1) := by decide +kernel
theorem dX12_readsBy_94 : decode cX12_readsBy 94 = .ok (.aload_n 0, 1) := by decide +kernel
theorem dX12_readsBy_95 : decode cX12_readsBy 95 = .ok (.bipush 70, 2) := by decide +kernel
theorem dX12_readsBy_97 : decode cX12_readsBy 97 = .ok (.invokevirtual 246, 3) := by decide +kernel
theorem dX12_readsBy_100 : decode cX12_readsBy 100 = .ok (.bipush 8, 2) := by decide +kernel
theorem dX12_readsBy_102 : decode cX12_readsBy 102 = .ok (.ireturn, 1) := by decide +kernel
theorem dX12_readsBy_103 : decode cX12_readsBy 103 = .ok (.aload_n 0, 1) := by decide +kernel
theorem dX12_readsBy_104 : decode cX12_readsBy 104 = .ok (.iload_n 1, 1) := by decide +kernel
theorem dX12_readsBy_105 : decode cX12_readsBy 105 = .ok (.invokestatic 249, 3) := by decide +kernel
theorem dX12_readsBy_108 : decode cX12_readsBy 108 = .ok (.iload_n 2, 1) := by decide +kernel
theorem dX12_readsBy_109 : decode cX12_readsBy 109 = .ok (.invokevirtual 252, 3) := by decide +kernel
theorem dX12_readsBy_112 : decode cX12_readsBy 112 = .ok (.ireturn, 1) := by decide +kernel
theorem dX12_saysBy_0 : decode cX12_saysBy 0 = .ok (.iload_n 1, 1) := by decide +kernel
theorem dX12_saysBy_1 : decode cX12_saysBy 1 = .ok (.tableswitch 119 0 6 #[43, 119, 61, 119, 119, 79, 97], 43) := by decide +kernel
theorem dX12_saysBy_44 : decode cX12_saysBy 44 = .ok (.aload_n 0, 1) := by decide +kernel
theorem dX12_saysBy_45 : decode cX12_saysBy 45 = .ok (.bipush 11, 2) := by decide +kernel
theorem dX12_saysBy_47 : decode cX12_saysBy 47 = .ok (.invokevirtual 246, 3) := by decide +kernel
theorem dX12_saysBy_50 : decode cX12_saysBy 50 = .ok (.aload_n 0, 1) := by decide +kernel
theorem dX12_saysBy_51 : decode cX12_saysBy 51 = .ok (.aload_n 0, 1) := by decide +kernel
theorem dX12_saysBy_52 : decode cX12_saysBy 52 = .ok (.invokevirtual 255, 3) := by decide +kernel
theorem dX12_saysBy_55 : decode cX12_saysBy 55 = .ok (.iload_n 2, 1) := by decide +kernel
theorem dX12_saysBy_56 : decode cX12_saysBy 56 = .ok (.invokevirtual 252, 3) := by decide +kernel
theorem dX12_saysBy_59 : decode cX12_saysBy 59 = .ok (.iconst 2, 1) := by decide +kernel
theorem dX12_saysBy_60 : decode cX12_saysBy 60 = .ok (.imul, 1) := by decide +kernel
theorem dX12_saysBy_61 : decode cX12_saysBy 61 = .ok (.ireturn, 1) := by decide +kernel
theorem dX12_saysBy_62 : decode cX12_saysBy 62 = .ok (.aload_n 0, 1) := by decide +kernel
theorem dX12_saysBy_63 : decode cX12_saysBy 63 = .ok (.bipush 30, 2) := by decide +kernel
theorem dX12_saysBy_65 : decode cX12_saysBy 65 = .ok (.invokevirtual 246, 3) := by decide +kernel
theorem dX12_saysBy_68 : decode cX12_saysBy 68 = .ok (.iconst 0, 1) := by decide +kernel
theorem dX12_saysBy_69 : decode cX12_saysBy 69 = .ok (.aload_n 0, 1) := by decide +kernel
theorem dX12_saysBy_70 : decode cX12_saysBy 70 = .ok (.iconst 2, 1) := by decide +kernel
theorem dX12_saysBy_71 : decode cX12_saysBy 71 = .ok (.invokestatic 249, 3) := by decide +kernel
theorem dX12_saysBy_74 : decode cX12_saysBy 74 = .ok (.iload_n 2, 1) := by decide +kernel
theorem dX12_saysBy_75 : decode cX12_saysBy 75 = .ok (.invokevirtual 258, 3) := by decide +kernel
theorem dX12_saysBy_78 : decode cX12_saysBy 78 = .ok (.isub, 1) := by decide +kernel
theorem dX12_saysBy_79 : decode cX12_saysBy 79 = .ok (.ireturn, 1) := by decide +kernel
theorem dX12_saysBy_80 : decode cX12_saysBy 80 = .ok (.aload_n 0, 1) := by decide +kernel
theorem dX12_saysBy_81 : decode cX12_saysBy 81 = .ok (.bipush 60, 2) := by decide +kernel
theorem dX12_saysBy_83 : decode cX12_saysBy 83 = .ok (.invokevirtual 246, 3) := by decide +kernel
theorem dX12_saysBy_86 : decode cX12_saysBy 86 = .ok (.aload_n 0, 1) := by decide +kernel
theorem dX12_saysBy_87 : decode cX12_saysBy 87 = .ok (.iconst 5, 1) := by decide +kernel
theorem dX12_saysBy_88 : decode cX12_saysBy 88 = .ok (.invokestatic 249, 3) := by decide +kernel
theorem dX12_saysBy_91 : decode cX12_saysBy 91 = .ok (.iload_n 2, 1) := by decide +kernel
theorem dX12_saysBy_92 : decode cX12_saysBy 92 = .ok (.iconst 1, 1) := by decide +kernel
theorem dX12_saysBy_93 : decode cX12_saysBy 93 = .ok (.iadd, 1) := by decide +kernel
theorem dX12_saysBy_94 : decode cX12_saysBy 94 = .ok (.invokevirtual 258, 3) := by decide +kernel
theorem dX12_saysBy_97 : decode cX12_saysBy 97 = .ok (.ireturn, 1) := by decide +kernel
theorem dX12_saysBy_98 : decode cX12_saysBy 98 = .ok (.aload_n 0, 1) := by decide +kernel
theorem dX12_saysBy_99 : decode cX12_saysBy 99 = .ok (.bipush 71, 2) := by decide +kernel
theorem dX12_saysBy_101 : decode cX12_saysBy 101 = .ok (.invokevirtual 246, 3) := by decide +kernel
theorem dX12_saysBy_104 : decode cX12_saysBy 104 = .ok (.aload_n 0, 1) := by decide +kernel
theorem dX12_saysBy_105 : decode cX12_saysBy 105 = .ok (.bipush 6, 2) := by decide +kernel
theorem dX12_saysBy_107 : decode cX12_saysBy 107 = .ok (.invokestatic 249, 3) := by decide +kernel
theorem dX12_saysBy_110 : decode cX12_saysBy 110 = .ok (.iload_n 2, 1) := by decide +kernel
theorem dX12_saysBy_111 : decode cX12_saysBy 111 = .ok (.invokevirtual 258, 3) := by decide +kernel
theorem dX12_saysBy_114 : decode cX12_saysBy 114 = .ok (.aload_n 0, 1) := by decide +kernel
theorem dX12_saysBy_115 : decode cX12_saysBy 115 = .ok (.invokevirtual 261, 3) := by decide +kernel
theorem dX12_saysBy_118 : decode cX12_saysBy 118 = .ok (.iadd, 1) := by decide +kernel
theorem dX12_saysBy_119 : decode cX12_saysBy 119 = .ok (.ireturn, 1) := by decide +kernel
theorem dX12_saysBy_120 : decode cX12_saysBy 120 = .ok (.aload_n 0, 1) := by decide +kernel
theorem dX12_saysBy_121 : decode cX12_saysBy 121 = .ok (.iload_n 1, 1) := by decide +kernel
theorem dX12_saysBy_122 : decode cX12_saysBy 122 = .ok (.invokestatic 249, 3) := by decide +kernel
theorem dX12_saysBy_125 : decode cX12_saysBy 125 = .ok (.iload_n 2, 1) := by decide +kernel
theorem dX12_saysBy_126 : decode cX12_saysBy 126 = .ok (.invokevirtual 258, 3) := by decide +kernel
theorem dX12_saysBy_129 : decode cX12_saysBy 129 = .ok (.ireturn, 1) := by decide +kernel
theorem dX12_fallsBy_0 : decode cX12_fallsBy 0 = .ok (.iload_n 1, 1) := by decide +kernel
theorem dX12_fallsBy_1 : decode cX12_fallsBy 1 = .ok (.tableswitch 95 0 4 #[35, 95, 95, 56, 74], 35) := by decide +kernel
theorem dX12_fallsBy_36 : decode cX12_fallsBy 36 = .ok (.aload_n 0, 1) := by decide +kernel
theorem dX12_fallsBy_37 : decode cX12_fallsBy 37 = .ok (.bipush 12, 2) := by decide +kernel
theorem dX12_fallsBy_39 : decode cX12_fallsBy 39 = .ok (.invokevirtual 246, 3) := by decide +kernel
theorem dX12_fallsBy_42 : decode cX12_fallsBy 42 = .ok (.aload_n 0, 1) := by decide +kernel
theorem dX12_fallsBy_43 : decode cX12_fallsBy 43 = .ok (.aload_n 0, 1) := by decide +kernel
theorem dX12_fallsBy_44 : decode cX12_fallsBy 44 = .ok (.invokevirtual 255, 3) := by decide +kernel
theorem dX12_fallsBy_47 : decode cX12_fallsBy 47 = .ok (.iload_n 2, 1) := by decide +kernel
theorem dX12_fallsBy_48 : decode cX12_fallsBy 48 = .ok (.invokevirtual 258, 3) := by decide +kernel
theorem dX12_fallsBy_51 : decode cX12_fallsBy 51 = .ok (.aload_n 0, 1) := by decide +kernel
theorem dX12_fallsBy_52 : decode cX12_fallsBy 52 = .ok (.invokevirtual 261, 3) := by decide +kernel
theorem dX12_fallsBy_55 : decode cX12_fallsBy 55 = .ok (.isub, 1) := by decide +kernel
theorem dX12_fallsBy_56 : decode cX12_fallsBy 56 = .ok (.ireturn, 1) := by decide +kernel
theorem dX12_fallsBy_57 : decode cX12_fallsBy 57 = .ok (.aload_n 0, 1) := by decide +kernel
theorem dX12_fallsBy_58 : decode cX12_fallsBy 58 = .ok (.bipush 40, 2) := by decide +kernel
theorem dX12_fallsBy_60 : decode cX12_fallsBy 60 = .ok (.invokevirtual 246, 3) := by decide +kernel
theorem dX12_fallsBy_63 : decode cX12_fallsBy 63 = .ok (.aload_n 0, 1) := by decide +kernel
theorem dX12_fallsBy_64 : decode cX12_fallsBy 64 = .ok (.iconst 3, 1) := by decide +kernel
theorem dX12_fallsBy_65 : decode cX12_fallsBy 65 = .ok (.invokestatic 249, 3) := by decide +kernel
theorem dX12_fallsBy_68 : decode cX12_fallsBy 68 = .ok (.iload_n 2, 1) := by decide +kernel
theorem dX12_fallsBy_69 : decode cX12_fallsBy 69 = .ok (.iconst 2, 1) := by decide +kernel
theorem dX12_fallsBy_70 : decode cX12_fallsBy 70 = .ok (.idiv, 1) := by decide +kernel
theorem dX12_fallsBy_71 : decode cX12_fallsBy 71 = .ok (.invokevirtual 264, 3) := by decide +kernel
theorem dX12_fallsBy_74 : decode cX12_fallsBy 74 = .ok (.ireturn, 1) := by decide +kernel
theorem dX12_fallsBy_75 : decode cX12_fallsBy 75 = .ok (.aload_n 0, 1) := by decide +kernel
theorem dX12_fallsBy_76 : decode cX12_fallsBy 76 = .ok (.bipush 51, 2) := by decide +kernel
theorem dX12_fallsBy_78 : decode cX12_fallsBy 78 = .ok (.invokevirtual 246, 3) := by decide +kernel
theorem dX12_fallsBy_81 : decode cX12_fallsBy 81 = .ok (.aload_n 0, 1) := by decide +kernel
theorem dX12_fallsBy_82 : decode cX12_fallsBy 82 = .ok (.iconst 4, 1) := by decide +kernel
theorem dX12_fallsBy_83 : decode cX12_fallsBy 83 = .ok (.invokestatic 249, 3) := by decide +kernel
theorem dX12_fallsBy_86 : decode cX12_fallsBy 86 = .ok (.iload_n 2, 1) := by decide +kernel
theorem dX12_fallsBy_87 : decode cX12_fallsBy 87 = .ok (.invokevirtual 264, 3) := by decide +kernel
theorem dX12_fallsBy_90 : decode cX12_fallsBy 90 = .ok (.aload_n 0, 1) := by decide +kernel
theorem dX12_fallsBy_91 : decode cX12_fallsBy 91 = .ok (.getfield 243, 3) := by decide +kernel
theorem dX12_fallsBy_94 : decode cX12_fallsBy 94 = .ok (.ixor, 1) := by decide +kernel
theorem dX12_fallsBy_95 : decode cX12_fallsBy 95 = .ok (.ireturn, 1) := by decide +kernel
theorem dX12_fallsBy_96 : decode cX12_fallsBy 96 = .ok (.aload_n 0, 1) := by decide +kernel
theorem dX12_fallsBy_97 : decode cX12_fallsBy 97 = .ok (.iload_n 1, 1) := by decide +kernel
theorem dX12_fallsBy_98 : decode cX12_fallsBy 98 = .ok (.invokestatic 249, 3) := by decide +kernel
theorem dX12_fallsBy_101 : decode cX12_fallsBy 101 = .ok (.iload_n 2, 1) := by decide +kernel
theorem dX12_fallsBy_102 : decode cX12_fallsBy 102 = .ok (.invokevirtual 264, 3) := by decide +kernel
theorem dX12_fallsBy_105 : decode cX12_fallsBy 105 = .ok (.ireturn, 1) := by decide +kernel
theorem dX12_mendsBy_0 : decode cX12_mendsBy 0 = .ok (.iload_n 1, 1) := by decide +kernel
theorem dX12_mendsBy_1 : decode cX12_mendsBy 1 = .ok (.lookupswitch 119 #[(0, 27), (1, 78)], 27) := by decide +kernel
theorem dX12_mendsBy_28 : decode cX12_mendsBy 28 = .ok (.aload_n 0, 1) := by decide +kernel
theorem dX12_mendsBy_29 : decode cX12_mendsBy 29 = .ok (.bipush 13, 2) := by decide +kernel
theorem dX12_mendsBy_31 : decode cX12_mendsBy 31 = .ok (.invokevirtual 246, 3) := by decide +kernel
theorem dX12_mendsBy_34 : decode cX12_mendsBy 34 = .ok (.aload_n 0, 1) := by decide +kernel
theorem dX12_mendsBy_35 : decode cX12_mendsBy 35 = .ok (.invokevirtual 261, 3) := by decide +kernel
theorem dX12_mendsBy_38 : decode cX12_mendsBy 38 = .ok (.aload_n 0, 1) := by decide +kernel
theorem dX12_mendsBy_39 : decode cX12_mendsBy 39 = .ok (.getfield 243, 3) := by decide +kernel
theorem dX12_mendsBy_42 : decode cX12_mendsBy 42 = .ok (.isub, 1) := by decide +kernel
theorem dX12_mendsBy_43 : decode cX12_mendsBy 43 = .ok (.istore_n 3, 1) := by decide +kernel
theorem dX12_mendsBy_44 : decode cX12_mendsBy 44 = .ok (.aload_n 0, 1) := by decide +kernel
theorem dX12_mendsBy_45 : decode cX12_mendsBy 45 = .ok (.iload_n 3, 1) := by decide +kernel
theorem dX12_mendsBy_46 : decode cX12_mendsBy 46 = .ok (.ifCond .ne 7, 3) := by decide +kernel
theorem dX12_mendsBy_49 : decode cX12_mendsBy 49 = .ok (.iconst 1, 1) := by decide +kernel
theorem dX12_mendsBy_50 : decode cX12_mendsBy 50 = .ok (.goto 4, 3) := by decide +kernel
theorem dX12_mendsBy_53 : decode cX12_mendsBy 53 = .ok (.iconst 0, 1) := by decide +kernel
theorem dX12_mendsBy_54 : decode cX12_mendsBy 54 = .ok (.putfield 267, 3) := by decide +kernel
theorem dX12_mendsBy_57 : decode cX12_mendsBy 57 = .ok (.iload_n 3, 1) := by decide +kernel
theorem dX12_mendsBy_58 : decode cX12_mendsBy 58 = .ok (.ifCond .ne 7, 3) := by decide +kernel
theorem dX12_mendsBy_61 : decode cX12_mendsBy 61 = .ok (.iconst 0, 1) := by decide +kernel
theorem dX12_mendsBy_62 : decode cX12_mendsBy 62 = .ok (.goto 16, 3) := by decide +kernel
theorem dX12_mendsBy_65 : decode cX12_mendsBy 65 = .ok (.iload_n 3, 1) := by decide +kernel
theorem dX12_mendsBy_66 : decode cX12_mendsBy 66 = .ok (.iconst (-1), 1) := by decide +kernel
theorem dX12_mendsBy_67 : decode cX12_mendsBy 67 = .ok (.if_icmp .ne 8, 3) := by decide +kernel
theorem dX12_mendsBy_70 : decode cX12_mendsBy 70 = .ok (.iload_n 2, 1) := by decide +kernel
theorem dX12_mendsBy_71 : decode cX12_mendsBy 71 = .ok (.ineg, 1) := by decide +kernel
theorem dX12_mendsBy_72 : decode cX12_mendsBy 72 = .ok (.goto 6, 3) := by decide +kernel
theorem dX12_mendsBy_75 : decode cX12_mendsBy 75 = .ok (.iload_n 2, 1) := by decide +kernel
theorem dX12_mendsBy_76 : decode cX12_mendsBy 76 = .ok (.iload_n 3, 1) := by decide +kernel
theorem dX12_mendsBy_77 : decode cX12_mendsBy 77 = .ok (.idiv, 1) := by decide +kernel
theorem dX12_mendsBy_78 : decode cX12_mendsBy 78 = .ok (.ireturn, 1) := by decide +kernel
theorem dX12_mendsBy_79 : decode cX12_mendsBy 79 = .ok (.aload_n 0, 1) := by decide +kernel
theorem dX12_mendsBy_80 : decode cX12_mendsBy 80 = .ok (.bipush 21, 2) := by decide +kernel
theorem dX12_mendsBy_82 : decode cX12_mendsBy 82 = .ok (.invokevirtual 246, 3) := by decide +kernel
theorem dX12_mendsBy_85 : decode cX12_mendsBy 85 = .ok (.aload_n 0, 1) := by decide +kernel
theorem dX12_mendsBy_86 : decode cX12_mendsBy 86 = .ok (.iconst 1, 1) := by decide +kernel
theorem dX12_mendsBy_87 : decode cX12_mendsBy 87 = .ok (.invokestatic 249, 3) := by decide +kernel
theorem dX12_mendsBy_90 : decode cX12_mendsBy 90 = .ok (.iload_n 2, 1) := by decide +kernel
theorem dX12_mendsBy_91 : decode cX12_mendsBy 91 = .ok (.invokevirtual 271, 3) := by decide +kernel
theorem dX12_mendsBy_94 : decode cX12_mendsBy 94 = .ok (.istore 4, 2) := by decide +kernel
theorem dX12_mendsBy_96 : decode cX12_mendsBy 96 = .ok (.aload_n 0, 1) := by decide +kernel
theorem dX12_mendsBy_97 : decode cX12_mendsBy 97 = .ok (.getfield 267, 3) := by decide +kernel
theorem dX12_mendsBy_100 : decode cX12_mendsBy 100 = .ok (.ifCond .eq 7, 3) := by decide +kernel
theorem dX12_mendsBy_103 : decode cX12_mendsBy 103 = .ok (.iconst 0, 1) := by decide +kernel
theorem dX12_mendsBy_104 : decode cX12_mendsBy 104 = .ok (.goto 15, 3) := by decide +kernel
theorem dX12_mendsBy_107 : decode cX12_mendsBy 107 = .ok (.iload 4, 2) := by decide +kernel
theorem dX12_mendsBy_109 : decode cX12_mendsBy 109 = .ok (.aload_n 0, 1) := by decide +kernel
theorem dX12_mendsBy_110 : decode cX12_mendsBy 110 = .ok (.aload_n 0, 1) := by decide +kernel
theorem dX12_mendsBy_111 : decode cX12_mendsBy 111 = .ok (.invokevirtual 255, 3) := by decide +kernel
theorem dX12_mendsBy_114 : decode cX12_mendsBy 114 = .ok (.iconst 1, 1) := by decide +kernel
theorem dX12_mendsBy_115 : decode cX12_mendsBy 115 = .ok (.invokevirtual 258, 3) := by decide +kernel
theorem dX12_mendsBy_118 : decode cX12_mendsBy 118 = .ok (.iadd, 1) := by decide +kernel
theorem dX12_mendsBy_119 : decode cX12_mendsBy 119 = .ok (.ireturn, 1) := by decide +kernel
theorem dX12_mendsBy_120 : decode cX12_mendsBy 120 = .ok (.aload_n 0, 1) := by decide +kernel
theorem dX12_mendsBy_121 : decode cX12_mendsBy 121 = .ok (.iload_n 1, 1) := by decide +kernel
theorem dX12_mendsBy_122 : decode cX12_mendsBy 122 = .ok (.invokestatic 249, 3) := by decide +kernel
theorem dX12_mendsBy_125 : decode cX12_mendsBy 125 = .ok (.iload_n 2, 1) := by decide +kernel
theorem dX12_mendsBy_126 : decode cX12_mendsBy 126 = .ok (.invokevirtual 271, 3) := by decide +kernel
theorem dX12_mendsBy_129 : decode cX12_mendsBy 129 = .ok (.ireturn, 1) := by decide +kernel
theorem dX12_voice_0 : decode cX12_voice 0 = .ok (.aload_n 0, 1) := by decide +kernel
theorem dX12_voice_1 : decode cX12_voice 1 = .ok (.iload_n 1, 1) := by decide +kernel
theorem dX12_voice_2 : decode cX12_voice 2 = .ok (.invokevirtual 133, 3) := by decide +kernel
theorem dX12_voice_5 : decode cX12_voice 5 = .ok (.ifCond .eq 12, 3) := by decide +kernel
theorem dX12_voice_8 : decode cX12_voice 8 = .ok (.iload_n 2, 1) := by decide +kernel
theorem dX12_voice_9 : decode cX12_voice 9 = .ok (.iconst 0, 1) := by decide +kernel
theorem dX12_voice_10 : decode cX12_voice 10 = .ok (.iconst 3, 1) := by decide +kernel
theorem dX12_voice_11 : decode cX12_voice 11 = .ok (.invokestatic 56, 3) := by decide +kernel
theorem dX12_voice_14 : decode cX12_voice 14 = .ok (.ifCond .ne 9, 3) := by decide +kernel
theorem dX12_voice_17 : decode cX12_voice 17 = .ok (.aload_n 0, 1) := by decide +kernel
theorem dX12_voice_18 : decode cX12_voice 18 = .ok (.iconst 1, 1) := by decide +kernel
theorem dX12_voice_19 : decode cX12_voice 19 = .ok (.invokevirtual 64, 3) := by decide +kernel
theorem dX12_voice_22 : decode cX12_voice 22 = .ok (.ireturn, 1) := by decide +kernel
theorem dX12_voice_23 : decode cX12_voice 23 = .ok (.aload_n 0, 1) := by decide +kernel
theorem dX12_voice_24 : decode cX12_voice 24 = .ok (.iconst 0, 1) := by decide +kernel
theorem dX12_voice_25 : decode cX12_voice 25 = .ok (.putfield 240, 3) := by decide +kernel
theorem dX12_voice_28 : decode cX12_voice 28 = .ok (.aload_n 0, 1) := by decide +kernel
theorem dX12_voice_29 : decode cX12_voice 29 = .ok (.iload_n 1, 1) := by decide +kernel
theorem dX12_voice_30 : decode cX12_voice 30 = .ok (.putfield 243, 3) := by decide +kernel
theorem dX12_voice_33 : decode cX12_voice 33 = .ok (.aload_n 0, 1) := by decide +kernel
theorem dX12_voice_34 : decode cX12_voice 34 = .ok (.iconst 0, 1) := by decide +kernel
theorem dX12_voice_35 : decode cX12_voice 35 = .ok (.putfield 267, 3) := by decide +kernel
theorem dX12_voice_38 : decode cX12_voice 38 = .ok (.aload_n 0, 1) := by decide +kernel
theorem dX12_voice_39 : decode cX12_voice 39 = .ok (.invokevirtual 255, 3) := by decide +kernel
theorem dX12_voice_42 : decode cX12_voice 42 = .ok (.istore 4, 2) := by decide +kernel
theorem dX12_voice_44 : decode cX12_voice 44 = .ok (.iload_n 2, 1) := by decide +kernel
theorem dX12_voice_45 : decode cX12_voice 45 = .ok (.ifCond .ne 13, 3) := by decide +kernel
theorem dX12_voice_48 : decode cX12_voice 48 = .ok (.aload_n 0, 1) := by decide +kernel
theorem dX12_voice_49 : decode cX12_voice 49 = .ok (.iload 4, 2) := by decide +kernel
theorem dX12_voice_51 : decode cX12_voice 51 = .ok (.iload_n 3, 1) := by decide +kernel
theorem dX12_voice_52 : decode cX12_voice 52 = .ok (.invokevirtual 252, 3) := by decide +kernel
theorem dX12_voice_55 : decode cX12_voice 55 = .ok (.goto 40, 3) := by decide +kernel
theorem dX12_voice_58 : decode cX12_voice 58 = .ok (.iload_n 2, 1) := by decide +kernel
theorem dX12_voice_59 : decode cX12_voice 59 = .ok (.iconst 1, 1) := by decide +kernel
theorem dX12_voice_60 : decode cX12_voice 60 = .ok (.if_icmp .ne 13, 3) := by decide +kernel
theorem dX12_voice_63 : decode cX12_voice 63 = .ok (.aload_n 0, 1) := by decide +kernel
theorem dX12_voice_64 : decode cX12_voice 64 = .ok (.iload 4, 2) := by decide +kernel
theorem dX12_voice_66 : decode cX12_voice 66 = .ok (.iload_n 3, 1) := by decide +kernel
theorem dX12_voice_67 : decode cX12_voice 67 = .ok (.invokevirtual 258, 3) := by decide +kernel
theorem dX12_voice_70 : decode cX12_voice 70 = .ok (.goto 25, 3) := by decide +kernel
theorem dX12_voice_73 : decode cX12_voice 73 = .ok (.iload_n 2, 1) := by decide +kernel
theorem dX12_voice_74 : decode cX12_voice 74 = .ok (.iconst 2, 1) := by decide +kernel
theorem dX12_voice_75 : decode cX12_voice 75 = .ok (.if_icmp .ne 13, 3) := by decide +kernel
theorem dX12_voice_78 : decode cX12_voice 78 = .ok (.aload_n 0, 1) := by decide +kernel
theorem dX12_voice_79 : decode cX12_voice 79 = .ok (.iload 4, 2) := by decide +kernel
theorem dX12_voice_81 : decode cX12_voice 81 = .ok (.iload_n 3, 1) := by decide +kernel
theorem dX12_voice_82 : decode cX12_voice 82 = .ok (.invokevirtual 264, 3) := by decide +kernel
theorem dX12_voice_85 : decode cX12_voice 85 = .ok (.goto 10, 3) := by decide +kernel
theorem dX12_voice_88 : decode cX12_voice 88 = .ok (.aload_n 0, 1) := by decide +kernel
theorem dX12_voice_89 : decode cX12_voice 89 = .ok (.iload 4, 2) := by decide +kernel
theorem dX12_voice_91 : decode cX12_voice 91 = .ok (.iload_n 3, 1) := by decide +kernel
theorem dX12_voice_92 : decode cX12_voice 92 = .ok (.invokevirtual 271, 3) := by decide +kernel
theorem dX12_voice_95 : decode cX12_voice 95 = .ok (.istore 5, 2) := by decide +kernel
theorem dX12_voice_97 : decode cX12_voice 97 = .ok (.aload_n 0, 1) := by decide +kernel
theorem dX12_voice_98 : decode cX12_voice 98 = .ok (.getfield 267, 3) := by decide +kernel
theorem dX12_voice_101 : decode cX12_voice 101 = .ok (.ifCond .eq 12, 3) := by decide +kernel
theorem dX12_voice_104 : decode cX12_voice 104 = .ok (.aload_n 0, 1) := by decide +kernel
theorem dX12_voice_105 : decode cX12_voice 105 = .ok (.bipush 6, 2) := by decide +kernel
theorem dX12_voice_107 : decode cX12_voice 107 = .ok (.invokevirtual 64, 3) := by decide +kernel
theorem dX12_voice_110 : decode cX12_voice 110 = .ok (.goto 5, 3) := by decide +kernel
theorem dX12_voice_113 : decode cX12_voice 113 = .ok (.iload 5, 2) := by decide +kernel
theorem dX12_voice_115 : decode cX12_voice 115 = .ok (.ireturn, 1) := by decide +kernel
theorem dX12_body_0 : decode cX12_body 0 = .ok (.iload_n 1, 1) := by decide +kernel
theorem dX12_body_1 : decode cX12_body 1 = .ok (.iconst 0, 1) := by decide +kernel
theorem dX12_body_2 : decode cX12_body 2 = .ok (.aload_n 0, 1) := by decide +kernel
theorem dX12_body_3 : decode cX12_body 3 = .ok (.getfield 240, 3) := by decide +kernel
theorem dX12_body_6 : decode cX12_body 6 = .ok (.iconst 1, 1) := by decide +kernel
theorem dX12_body_7 : decode cX12_body 7 = .ok (.isub, 1) := by decide +kernel
theorem dX12_body_8 : decode cX12_body 8 = .ok (.invokestatic 56, 3) := by decide +kernel
theorem dX12_body_11 : decode cX12_body 11 = .ok (.ifCond .eq 12, 3) := by decide +kernel
theorem dX12_body_14 : decode cX12_body 14 = .ok (.aload_n 0, 1) := by decide +kernel
theorem dX12_body_15 : decode cX12_body 15 = .ok (.getfield 40, 3) := by decide +kernel
theorem dX12_body_18 : decode cX12_body 18 = .ok (.iload_n 1, 1) := by decide +kernel
theorem dX12_body_19 : decode cX12_body 19 = .ok (.iaload, 1) := by decide +kernel
theorem dX12_body_20 : decode cX12_body 20 = .ok (.goto 8, 3) := by decide +kernel
theorem dX12_body_23 : decode cX12_body 23 = .ok (.aload_n 0, 1) := by decide +kernel
theorem dX12_body_24 : decode cX12_body 24 = .ok (.iconst 2, 1) := by decide +kernel
theorem dX12_body_25 : decode cX12_body 25 = .ok (.invokevirtual 64, 3) := by decide +kernel
theorem dX12_body_28 : decode cX12_body 28 = .ok (.ireturn, 1) := by decide +kernel
theorem dX12_sheet_0 : decode cX12_sheet 0 = .ok (.iload_n 1, 1) := by decide +kernel
theorem dX12_sheet_1 : decode cX12_sheet 1 = .ok (.invokestatic 204, 3) := by decide +kernel
theorem dX12_sheet_4 : decode cX12_sheet 4 = .ok (.ifCond .eq 25, 3) := by decide +kernel
theorem dX12_sheet_7 : decode cX12_sheet 7 = .ok (.iload_n 2, 1) := by decide +kernel
theorem dX12_sheet_8 : decode cX12_sheet 8 = .ok (.ifCond .eq 27, 3) := by decide +kernel
theorem dX12_sheet_11 : decode cX12_sheet 11 = .ok (.iload_n 2, 1) := by decide +kernel
theorem dX12_sheet_12 : decode cX12_sheet 12 = .ok (.bipush 8, 2) := by decide +kernel
theorem dX12_sheet_14 : decode cX12_sheet 14 = .ok (.if_icmp .eq 21, 3) := by decide +kernel
theorem dX12_sheet_17 : decode cX12_sheet 17 = .ok (.iload_n 2, 1) := by decide +kernel
theorem dX12_sheet_18 : decode cX12_sheet 18 = .ok (.bipush 16, 2) := by decide +kernel
theorem dX12_sheet_20 : decode cX12_sheet 20 = .ok (.if_icmp .eq 15, 3) := by decide +kernel
theorem dX12_sheet_23 : decode cX12_sheet 23 = .ok (.iload_n 2, 1) := by decide +kernel
theorem dX12_sheet_24 : decode cX12_sheet 24 = .ok (.bipush 32, 2) := by decide +kernel
theorem dX12_sheet_26 : decode cX12_sheet 26 = .ok (.if_icmp .eq 9, 3) := by decide +kernel
theorem dX12_sheet_29 : decode cX12_sheet 29 = .ok (.aload_n 0, 1) := by decide +kernel
theorem dX12_sheet_30 : decode cX12_sheet 30 = .ok (.iconst 1, 1) := by decide +kernel
theorem dX12_sheet_31 : decode cX12_sheet 31 = .ok (.invokevirtual 64, 3) := by decide +kernel
theorem dX12_sheet_34 : decode cX12_sheet 34 = .ok (.ireturn, 1) := by decide +kernel
theorem dX12_sheet_35 : decode cX12_sheet 35 = .ok (.iload_n 2, 1) := by decide +kernel
theorem dX12_sheet_36 : decode cX12_sheet 36 = .ok (.ifCond .eq 13, 3) := by decide +kernel
theorem dX12_sheet_39 : decode cX12_sheet 39 = .ok (.iload_n 3, 1) := by decide +kernel
theorem dX12_sheet_40 : decode cX12_sheet 40 = .ok (.ifCond .ge 9, 3) := by decide +kernel
theorem dX12_sheet_43 : decode cX12_sheet 43 = .ok (.aload_n 0, 1) := by decide +kernel
theorem dX12_sheet_44 : decode cX12_sheet 44 = .ok (.iconst 3, 1) := by decide +kernel
theorem dX12_sheet_45 : decode cX12_sheet 45 = .ok (.invokevirtual 64, 3) := by decide +kernel
theorem dX12_sheet_48 : decode cX12_sheet 48 = .ok (.ireturn, 1) := by decide +kernel
theorem dX12_sheet_49 : decode cX12_sheet 49 = .ok (.iload_n 2, 1) := by decide +kernel
theorem dX12_sheet_50 : decode cX12_sheet 50 = .ok (.ifCond .eq 15, 3) := by decide +kernel
theorem dX12_sheet_53 : decode cX12_sheet 53 = .ok (.iload_n 3, 1) := by decide +kernel
theorem dX12_sheet_54 : decode cX12_sheet 54 = .ok (.bipush 24, 2) := by decide +kernel
theorem dX12_sheet_56 : decode cX12_sheet 56 = .ok (.if_icmp .le 9, 3) := by decide +kernel
theorem dX12_sheet_59 : decode cX12_sheet 59 = .ok (.aload_n 0, 1) := by decide +kernel
theorem dX12_sheet_60 : decode cX12_sheet 60 = .ok (.iconst 1, 1) := by decide +kernel
theorem dX12_sheet_61 : decode cX12_sheet 61 = .ok (.invokevirtual 64, 3) := by decide +kernel
theorem dX12_sheet_64 : decode cX12_sheet 64 = .ok (.ireturn, 1) := by decide +kernel
theorem dX12_sheet_65 : decode cX12_sheet 65 = .ok (.aload_n 0, 1) := by decide +kernel
theorem dX12_sheet_66 : decode cX12_sheet 66 = .ok (.getfield 43, 3) := by decide +kernel
theorem dX12_sheet_69 : decode cX12_sheet 69 = .ok (.iload_n 1, 1) := by decide +kernel
theorem dX12_sheet_70 : decode cX12_sheet 70 = .ok (.iload_n 2, 1) := by decide +kernel
theorem dX12_sheet_71 : decode cX12_sheet 71 = .ok (.iastore, 1) := by decide +kernel
theorem dX12_sheet_72 : decode cX12_sheet 72 = .ok (.aload_n 0, 1) := by decide +kernel
theorem dX12_sheet_73 : decode cX12_sheet 73 = .ok (.getfield 46, 3) := by decide +kernel
theorem dX12_sheet_76 : decode cX12_sheet 76 = .ok (.iload_n 1, 1) := by decide +kernel
theorem dX12_sheet_77 : decode cX12_sheet 77 = .ok (.iload_n 2, 1) := by decide +kernel
theorem dX12_sheet_78 : decode cX12_sheet 78 = .ok (.ifCond .ne 7, 3) := by decide +kernel
theorem dX12_sheet_81 : decode cX12_sheet 81 = .ok (.iconst 0, 1) := by decide +kernel
theorem dX12_sheet_82 : decode cX12_sheet 82 = .ok (.goto 4, 3) := by decide +kernel
theorem dX12_sheet_85 : decode cX12_sheet 85 = .ok (.iload_n 3, 1) := by decide +kernel
theorem dX12_sheet_86 : decode cX12_sheet 86 = .ok (.iastore, 1) := by decide +kernel
theorem dX12_sheet_87 : decode cX12_sheet 87 = .ok (.iconst 0, 1) := by decide +kernel
theorem dX12_sheet_88 : decode cX12_sheet 88 = .ok (.istore 4, 2) := by decide +kernel
theorem dX12_sheet_90 : decode cX12_sheet 90 = .ok (.iload 4, 2) := by decide +kernel
theorem dX12_sheet_92 : decode cX12_sheet 92 = .ok (.bipush 24, 2) := by decide +kernel
theorem dX12_sheet_94 : decode cX12_sheet 94 = .ok (.if_icmp .ge 22, 3) := by decide +kernel
theorem dX12_sheet_97 : decode cX12_sheet 97 = .ok (.aload_n 0, 1) := by decide +kernel
theorem dX12_sheet_98 : decode cX12_sheet 98 = .ok (.getfield 49, 3) := by decide +kernel
theorem dX12_sheet_101 : decode cX12_sheet 101 = .ok (.bipush 24, 2) := by decide +kernel
theorem dX12_sheet_103 : decode cX12_sheet 103 = .ok (.iload_n 1, 1) := by decide +kernel
theorem dX12_sheet_104 : decode cX12_sheet 104 = .ok (.imul, 1) := by decide +kernel
theorem dX12_sheet_105 : decode cX12_sheet 105 = .ok (.iload 4, 2) := by decide +kernel
theorem dX12_sheet_107 : decode cX12_sheet 107 = .ok (.iadd, 1) := by decide +kernel
theorem dX12_sheet_108 : decode cX12_sheet 108 = .ok (.iconst 0, 1) := by decide +kernel
theorem dX12_sheet_109 : decode cX12_sheet 109 = .ok (.iastore, 1) := by decide +kernel
theorem dX12_sheet_110 : decode cX12_sheet 110 = .ok (.iinc 4 1, 3) := by decide +kernel
theorem dX12_sheet_113 : decode cX12_sheet 113 = .ok (.goto (-23), 3) := by decide +kernel
theorem dX12_sheet_116 : decode cX12_sheet 116 = .ok (.iconst 1, 1) := by decide +kernel
theorem dX12_sheet_117 : decode cX12_sheet 117 = .ok (.ireturn, 1) := by decide +kernel
theorem dX12_put_0 : decode cX12_put 0 = .ok (.iload_n 1, 1) := by decide +kernel
theorem dX12_put_1 : decode cX12_put 1 = .ok (.invokestatic 204, 3) := by decide +kernel
theorem dX12_put_4 : decode cX12_put 4 = .ok (.ifCond .ne 9, 3) := by decide +kernel
theorem dX12_put_7 : decode cX12_put 7 = .ok (.aload_n 0, 1) := by decide +kernel
theorem dX12_put_8 : decode cX12_put 8 = .ok (.iconst 1, 1) := by decide +kernel
theorem dX12_put_9 : decode cX12_put 9 = .ok (.invokevirtual 64, 3) := by decide +kernel
theorem dX12_put_12 : decode cX12_put 12 = .ok (.ireturn, 1) := by decide +kernel
theorem dX12_put_13 : decode cX12_put 13 = .ok (.aload_n 0, 1) := by decide +kernel
theorem dX12_put_14 : decode cX12_put 14 = .ok (.getfield 43, 3) := by decide +kernel
theorem dX12_put_17 : decode cX12_put 17 = .ok (.iload_n 1, 1) := by decide +kernel
theorem dX12_put_18 : decode cX12_put 18 = .ok (.iaload, 1) := by decide +kernel
theorem dX12_put_19 : decode cX12_put 19 = .ok (.ifCond .ne 9, 3) := by decide +kernel
theorem dX12_put_22 : decode cX12_put 22 = .ok (.aload_n 0, 1) := by decide +kernel
theorem dX12_put_23 : decode cX12_put 23 = .ok (.iconst 2, 1) := by decide +kernel
theorem dX12_put_24 : decode cX12_put 24 = .ok (.invokevirtual 64, 3) := by decide +kernel
theorem dX12_put_27 : decode cX12_put 27 = .ok (.ireturn, 1) := by decide +kernel
theorem dX12_put_28 : decode cX12_put 28 = .ok (.iload_n 2, 1) := by decide +kernel
theorem dX12_put_29 : decode cX12_put 29 = .ok (.iconst 0, 1) := by decide +kernel
theorem dX12_put_30 : decode cX12_put 30 = .ok (.aload_n 0, 1) := by decide +kernel
theorem dX12_put_31 : decode cX12_put 31 = .ok (.getfield 46, 3) := by decide +kernel
theorem dX12_put_34 : decode cX12_put 34 = .ok (.iload_n 1, 1) := by decide +kernel
theorem dX12_put_35 : decode cX12_put 35 = .ok (.iaload, 1) := by decide +kernel
theorem dX12_put_36 : decode cX12_put 36 = .ok (.iconst 1, 1) := by decide +kernel
theorem dX12_put_37 : decode cX12_put 37 = .ok (.isub, 1) := by decide +kernel
theorem dX12_put_38 : decode cX12_put 38 = .ok (.invokestatic 56, 3) := by decide +kernel
theorem dX12_put_41 : decode cX12_put 41 = .ok (.ifCond .ne 9, 3) := by decide +kernel
theorem dX12_put_44 : decode cX12_put 44 = .ok (.aload_n 0, 1) := by decide +kernel
theorem dX12_put_45 : decode cX12_put 45 = .ok (.iconst 1, 1) := by decide +kernel
theorem dX12_put_46 : decode cX12_put 46 = .ok (.invokevirtual 64, 3) := by decide +kernel
theorem dX12_put_49 : decode cX12_put 49 = .ok (.ireturn, 1) := by decide +kernel
theorem dX12_put_50 : decode cX12_put 50 = .ok (.bipush 32, 2) := by decide +kernel
theorem dX12_put_52 : decode cX12_put 52 = .ok (.aload_n 0, 1) := by decide +kernel
theorem dX12_put_53 : decode cX12_put 53 = .ok (.getfield 43, 3) := by decide +kernel
theorem dX12_put_56 : decode cX12_put 56 = .ok (.iload_n 1, 1) := by decide +kernel
theorem dX12_put_57 : decode cX12_put 57 = .ok (.iaload, 1) := by decide +kernel
theorem dX12_put_58 : decode cX12_put 58 = .ok (.isub, 1) := by decide +kernel
theorem dX12_put_59 : decode cX12_put 59 = .ok (.istore 4, 2) := by decide +kernel
theorem dX12_put_61 : decode cX12_put 61 = .ok (.aload_n 0, 1) := by decide +kernel
theorem dX12_put_62 : decode cX12_put 62 = .ok (.getfield 49, 3) := by decide +kernel
theorem dX12_put_65 : decode cX12_put 65 = .ok (.bipush 24, 2) := by decide +kernel
theorem dX12_put_67 : decode cX12_put 67 = .ok (.iload_n 1, 1) := by decide +kernel
theorem dX12_put_68 : decode cX12_put 68 = .ok (.imul, 1) := by decide +kernel
theorem dX12_put_69 : decode cX12_put 69 = .ok (.iload_n 2, 1) := by decide +kernel
theorem dX12_put_70 : decode cX12_put 70 = .ok (.iadd, 1) := by decide +kernel
theorem dX12_put_71 : decode cX12_put 71 = .ok (.iload_n 3, 1) := by decide +kernel
theorem dX12_put_72 : decode cX12_put 72 = .ok (.iload 4, 2) := by decide +kernel
theorem dX12_put_74 : decode cX12_put 74 = .ok (.ishl, 1) := by decide +kernel
theorem dX12_put_75 : decode cX12_put 75 = .ok (.iload 4, 2) := by decide +kernel
theorem dX12_put_77 : decode cX12_put 77 = .ok (.ishr, 1) := by decide +kernel
theorem dX12_put_78 : decode cX12_put 78 = .ok (.iastore, 1) := by decide +kernel
theorem dX12_put_79 : decode cX12_put 79 = .ok (.iconst 1, 1) := by decide +kernel
theorem dX12_put_80 : decode cX12_put 80 = .ok (.ireturn, 1) := by decide +kernel
theorem dX12_move_0 : decode cX12_move 0 = .ok (.iload_n 1, 1) := by decide +kernel
theorem dX12_move_1 : decode cX12_move 1 = .ok (.invokestatic 204, 3) := by decide +kernel
theorem dX12_move_4 : decode cX12_move 4 = .ok (.ifCond .eq 10, 3) := by decide +kernel
theorem dX12_move_7 : decode cX12_move 7 = .ok (.iload_n 3, 1) := by decide +kernel
theorem dX12_move_8 : decode cX12_move 8 = .ok (.invokestatic 204, 3) := by decide +kernel
theorem dX12_move_11 : decode cX12_move 11 = .ok (.ifCond .ne 9, 3) := by decide +kernel
theorem dX12_move_14 : decode cX12_move 14 = .ok (.aload_n 0, 1) := by decide +kernel
theorem dX12_move_15 : decode cX12_move 15 = .ok (.iconst 1, 1) := by decide +kernel
theorem dX12_move_16 : decode cX12_move 16 = .ok (.invokevirtual 64, 3) := by decide +kernel
theorem dX12_move_19 : decode cX12_move 19 = .ok (.ireturn, 1) := by decide +kernel
theorem dX12_move_20 : decode cX12_move 20 = .ok (.aload_n 0, 1) := by decide +kernel
theorem dX12_move_21 : decode cX12_move 21 = .ok (.getfield 43, 3) := by decide +kernel
theorem dX12_move_24 : decode cX12_move 24 = .ok (.iload_n 1, 1) := by decide +kernel
theorem dX12_move_25 : decode cX12_move 25 = .ok (.iaload, 1) := by decide +kernel
theorem dX12_move_26 : decode cX12_move 26 = .ok (.ifCond .eq 12, 3) := by decide +kernel
theorem dX12_move_29 : decode cX12_move 29 = .ok (.aload_n 0, 1) := by decide +kernel
theorem dX12_move_30 : decode cX12_move 30 = .ok (.getfield 43, 3) := by decide +kernel
theorem dX12_move_33 : decode cX12_move 33 = .ok (.iload_n 3, 1) := by decide +kernel
theorem dX12_move_34 : decode cX12_move 34 = .ok (.iaload, 1) := by decide +kernel
theorem dX12_move_35 : decode cX12_move 35 = .ok (.ifCond .ne 9, 3) := by decide +kernel
theorem dX12_move_38 : decode cX12_move 38 = .ok (.aload_n 0, 1) := by decide +kernel
theorem dX12_move_39 : decode cX12_move 39 = .ok (.iconst 2, 1) := by decide +kernel
theorem dX12_move_40 : decode cX12_move 40 = .ok (.invokevirtual 64, 3) := by decide +kernel
theorem dX12_move_43 : decode cX12_move 43 = .ok (.ireturn, 1) := by decide +kernel
theorem dX12_move_44 : decode cX12_move 44 = .ok (.aload_n 0, 1) := by decide +kernel
theorem dX12_move_45 : decode cX12_move 45 = .ok (.getfield 43, 3) := by decide +kernel
theorem dX12_move_48 : decode cX12_move 48 = .ok (.iload_n 1, 1) := by decide +kernel
theorem dX12_move_49 : decode cX12_move 49 = .ok (.iaload, 1) := by decide +kernel
theorem dX12_move_50 : decode cX12_move 50 = .ok (.aload_n 0, 1) := by decide +kernel
theorem dX12_move_51 : decode cX12_move 51 = .ok (.getfield 43, 3) := by decide +kernel
theorem dX12_move_54 : decode cX12_move 54 = .ok (.iload_n 3, 1) := by decide +kernel
theorem dX12_move_55 : decode cX12_move 55 = .ok (.iaload, 1) := by decide +kernel
theorem dX12_move_56 : decode cX12_move 56 = .ok (.if_icmp .eq 9, 3) := by decide +kernel
theorem dX12_move_59 : decode cX12_move 59 = .ok (.aload_n 0, 1) := by decide +kernel
theorem dX12_move_60 : decode cX12_move 60 = .ok (.iconst 5, 1) := by decide +kernel
theorem dX12_move_61 : decode cX12_move 61 = .ok (.invokevirtual 64, 3) := by decide +kernel
theorem dX12_move_64 : decode cX12_move 64 = .ok (.ireturn, 1) := by decide +kernel
theorem dX12_move_65 : decode cX12_move 65 = .ok (.iload 5, 2) := by decide +kernel
theorem dX12_move_67 : decode cX12_move 67 = .ok (.ifCond .lt 39, 3) := by decide +kernel
theorem dX12_move_70 : decode cX12_move 70 = .ok (.iload_n 2, 1) := by decide +kernel
theorem dX12_move_71 : decode cX12_move 71 = .ok (.ifCond .lt 35, 3) := by decide +kernel
theorem dX12_move_74 : decode cX12_move 74 = .ok (.iload 4, 2) := by decide +kernel
theorem dX12_move_76 : decode cX12_move 76 = .ok (.ifCond .lt 30, 3) := by decide +kernel
theorem dX12_move_79 : decode cX12_move 79 = .ok (.iload_n 2, 1) := by decide +kernel
theorem dX12_move_80 : decode cX12_move 80 = .ok (.aload_n 0, 1) := by decide +kernel
theorem dX12_move_81 : decode cX12_move 81 = .ok (.getfield 46, 3) := by decide +kernel
theorem dX12_move_84 : decode cX12_move 84 = .ok (.iload_n 1, 1) := by decide +kernel
theorem dX12_move_85 : decode cX12_move 85 = .ok (.iaload, 1) := by decide +kernel
theorem dX12_move_86 : decode cX12_move 86 = .ok (.iload 5, 2) := by decide +kernel
theorem dX12_move_88 : decode cX12_move 88 = .ok (.isub, 1) := by decide +kernel
theorem dX12_move_89 : decode cX12_move 89 = .ok (.if_icmp .gt 17, 3) := by decide +kernel
theorem dX12_move_92 : decode cX12_move 92 = .ok (.iload 4, 2) := by decide +kernel
theorem dX12_move_94 : decode cX12_move 94 = .ok (.aload_n 0, 1) := by decide +kernel
theorem dX12_move_95 : decode cX12_move 95 = .ok (.getfield 46, 3) := by decide +kernel
theorem dX12_move_98 : decode cX12_move 98 = .ok (.iload_n 3, 1) := by decide +kernel
theorem dX12_move_99 : decode cX12_move 99 = .ok (.iaload, 1) := by decide +kernel
theorem dX12_move_100 : decode cX12_move 100 = .ok (.iload 5, 2) := by decide +kernel
theorem dX12_move_102 : decode cX12_move 102 = .ok (.isub, 1) := by decide +kernel
theorem dX12_move_103 : decode cX12_move 103 = .ok (.if_icmp .le 9, 3) := by decide +kernel
theorem dX12_move_106 : decode cX12_move 106 = .ok (.aload_n 0, 1) := by decide +kernel
theorem dX12_move_107 : decode cX12_move 107 = .ok (.iconst 1, 1) := by decide +kernel
theorem dX12_move_108 : decode cX12_move 108 = .ok (.invokevirtual 64, 3) := by decide +kernel
theorem dX12_move_111 : decode cX12_move 111 = .ok (.ireturn, 1) := by decide +kernel
theorem dX12_move_112 : decode cX12_move 112 = .ok (.iconst 0, 1) := by decide +kernel
theorem dX12_move_113 : decode cX12_move 113 = .ok (.istore 6, 2) := by decide +kernel
theorem dX12_move_115 : decode cX12_move 115 = .ok (.iload 6, 2) := by decide +kernel
theorem dX12_move_117 : decode cX12_move 117 = .ok (.iload 5, 2) := by decide +kernel
theorem dX12_move_119 : decode cX12_move 119 = .ok (.if_icmp .ge 30, 3) := by decide +kernel
theorem dX12_move_122 : decode cX12_move 122 = .ok (.aload_n 0, 1) := by decide +kernel
theorem dX12_move_123 : decode cX12_move 123 = .ok (.getfield 52, 3) := by decide +kernel
theorem dX12_move_126 : decode cX12_move 126 = .ok (.iload 6, 2) := by decide +kernel
theorem dX12_move_128 : decode cX12_move 128 = .ok (.aload_n 0, 1) := by decide +kernel
theorem dX12_move_129 : decode cX12_move 129 = .ok (.getfield 49, 3) := by decide +kernel
theorem dX12_move_132 : decode cX12_move 132 = .ok (.bipush 24, 2) := by decide +kernel
theorem dX12_move_134 : decode cX12_move 134 = .ok (.iload_n 1, 1) := by decide +kernel
theorem dX12_move_135 : decode cX12_move 135 = .ok (.imul, 1) := by decide +kernel
theorem dX12_move_136 : decode cX12_move 136 = .ok (.iload_n 2, 1) := by decide +kernel
theorem dX12_move_137 : decode cX12_move 137 = .ok (.iadd, 1) := by decide +kernel
theorem dX12_move_138 : decode cX12_move 138 = .ok (.iload 6, 2) := by decide +kernel
theorem dX12_move_140 : decode cX12_move 140 = .ok (.iadd, 1) := by decide +kernel
theorem dX12_move_141 : decode cX12_move 141 = .ok (.iaload, 1) := by decide +kernel
theorem dX12_move_142 : decode cX12_move 142 = .ok (.iastore, 1) := by decide +kernel
theorem dX12_move_143 : decode cX12_move 143 = .ok (.iinc 6 1, 3) := by decide +kernel
theorem dX12_move_146 : decode cX12_move 146 = .ok (.goto (-31), 3) := by decide +kernel
theorem dX12_move_149 : decode cX12_move 149 = .ok (.iconst 0, 1) := by decide +kernel
theorem dX12_move_150 : decode cX12_move 150 = .ok (.istore 6, 2) := by decide +kernel
theorem dX12_move_152 : decode cX12_move 152 = .ok (.iload 6, 2) := by decide +kernel
theorem dX12_move_154 : decode cX12_move 154 = .ok (.iload 5, 2) := by decide +kernel
theorem dX12_move_156 : decode cX12_move 156 = .ok (.if_icmp .ge 31, 3) := by decide +kernel
theorem dX12_move_159 : decode cX12_move 159 = .ok (.aload_n 0, 1) := by decide +kernel
theorem dX12_move_160 : decode cX12_move 160 = .ok (.getfield 49, 3) := by decide +kernel
theorem dX12_move_163 : decode cX12_move 163 = .ok (.bipush 24, 2) := by decide +kernel
theorem dX12_move_165 : decode cX12_move 165 = .ok (.iload_n 3, 1) := by decide +kernel
theorem dX12_move_166 : decode cX12_move 166 = .ok (.imul, 1) := by decide +kernel
theorem dX12_move_167 : decode cX12_move 167 = .ok (.iload 4, 2) := by decide +kernel
theorem dX12_move_169 : decode cX12_move 169 = .ok (.iadd, 1) := by decide +kernel
theorem dX12_move_170 : decode cX12_move 170 = .ok (.iload 6, 2) := by decide +kernel
theorem dX12_move_172 : decode cX12_move 172 = .ok (.iadd, 1) := by decide +kernel
theorem dX12_move_173 : decode cX12_move 173 = .ok (.aload_n 0, 1) := by decide +kernel
theorem dX12_move_174 : decode cX12_move 174 = .ok (.getfield 52, 3) := by decide +kernel
theorem dX12_move_177 : decode cX12_move 177 = .ok (.iload 6, 2) := by decide +kernel
theorem dX12_move_179 : decode cX12_move 179 = .ok (.iaload, 1) := by decide +kernel
theorem dX12_move_180 : decode cX12_move 180 = .ok (.iastore, 1) := by decide +kernel
theorem dX12_move_181 : decode cX12_move 181 = .ok (.iinc 6 1, 3) := by decide +kernel
theorem dX12_move_184 : decode cX12_move 184 = .ok (.goto (-32), 3) := by decide +kernel
theorem dX12_move_187 : decode cX12_move 187 = .ok (.iload 5, 2) := by decide +kernel
theorem dX12_move_189 : decode cX12_move 189 = .ok (.ireturn, 1) := by decide +kernel
theorem dX12_bricks_0 : decode cX12_bricks 0 = .ok (.iload_n 1, 1) := by decide +kernel
theorem dX12_bricks_1 : decode cX12_bricks 1 = .ok (.invokestatic 204, 3) := by decide +kernel
theorem dX12_bricks_4 : decode cX12_bricks 4 = .ok (.ifCond .eq 11, 3) := by decide +kernel
theorem dX12_bricks_7 : decode cX12_bricks 7 = .ok (.aload_n 0, 1) := by decide +kernel
theorem dX12_bricks_8 : decode cX12_bricks 8 = .ok (.iload_n 2, 1) := by decide +kernel
theorem dX12_bricks_9 : decode cX12_bricks 9 = .ok (.invokevirtual 133, 3) := by decide +kernel
theorem dX12_bricks_12 : decode cX12_bricks 12 = .ok (.ifCond .ne 9, 3) := by decide +kernel
theorem dX12_bricks_15 : decode cX12_bricks 15 = .ok (.aload_n 0, 1) := by decide +kernel
theorem dX12_bricks_16 : decode cX12_bricks 16 = .ok (.iconst 1, 1) := by decide +kernel
theorem dX12_bricks_17 : decode cX12_bricks 17 = .ok (.invokevirtual 64, 3) := by decide +kernel
theorem dX12_bricks_20 : decode cX12_bricks 20 = .ok (.ireturn, 1) := by decide +kernel
theorem dX12_bricks_21 : decode cX12_bricks 21 = .ok (.aload_n 0, 1) := by decide +kernel
theorem dX12_bricks_22 : decode cX12_bricks 22 = .ok (.getfield 43, 3) := by decide +kernel
theorem dX12_bricks_25 : decode cX12_bricks 25 = .ok (.iload_n 1, 1) := by decide +kernel
theorem dX12_bricks_26 : decode cX12_bricks 26 = .ok (.iaload, 1) := by decide +kernel
theorem dX12_bricks_27 : decode cX12_bricks 27 = .ok (.ifCond .ne 9, 3) := by decide +kernel
theorem dX12_bricks_30 : decode cX12_bricks 30 = .ok (.aload_n 0, 1) := by decide +kernel
theorem dX12_bricks_31 : decode cX12_bricks 31 = .ok (.iconst 2, 1) := by decide +kernel
theorem dX12_bricks_32 : decode cX12_bricks 32 = .ok (.invokevirtual 64, 3) := by decide +kernel
theorem dX12_bricks_35 : decode cX12_bricks 35 = .ok (.ireturn, 1) := by decide +kernel
theorem dX12_bricks_36 : decode cX12_bricks 36 = .ok (.iconst 0, 1) := by decide +kernel
theorem dX12_bricks_37 : decode cX12_bricks 37 = .ok (.istore_n 3, 1) := by decide +kernel
theorem dX12_bricks_38 : decode cX12_bricks 38 = .ok (.iload_n 3, 1) := by decide +kernel
theorem dX12_bricks_39 : decode cX12_bricks 39 = .ok (.aload_n 0, 1) := by decide +kernel
theorem dX12_bricks_40 : decode cX12_bricks 40 = .ok (.getfield 46, 3) := by decide +kernel
theorem dX12_bricks_43 : decode cX12_bricks 43 = .ok (.iload_n 1, 1) := by decide +kernel
theorem dX12_bricks_44 : decode cX12_bricks 44 = .ok (.iaload, 1) := by decide +kernel
theorem dX12_bricks_45 : decode cX12_bricks 45 = .ok (.if_icmp .ge 60, 3) := by decide +kernel
theorem dX12_bricks_48 : decode cX12_bricks 48 = .ok (.aload_n 0, 1) := by decide +kernel
theorem dX12_bricks_49 : decode cX12_bricks 49 = .ok (.iload_n 2, 1) := by decide +kernel
theorem dX12_bricks_50 : decode cX12_bricks 50 = .ok (.iload_n 3, 1) := by decide +kernel
theorem dX12_bricks_51 : decode cX12_bricks 51 = .ok (.invokevirtual 186, 3) := by decide +kernel
theorem dX12_bricks_54 : decode cX12_bricks 54 = .ok (.ifCond .eq 51, 3) := by decide +kernel
theorem dX12_bricks_57 : decode cX12_bricks 57 = .ok (.aload_n 0, 1) := by decide +kernel
theorem dX12_bricks_58 : decode cX12_bricks 58 = .ok (.getfield 49, 3) := by decide +kernel
theorem dX12_bricks_61 : decode cX12_bricks 61 = .ok (.bipush 24, 2) := by decide +kernel
theorem dX12_bricks_63 : decode cX12_bricks 63 = .ok (.iload_n 1, 1) := by decide +kernel
theorem dX12_bricks_64 : decode cX12_bricks 64 = .ok (.imul, 1) := by decide +kernel
theorem dX12_bricks_65 : decode cX12_bricks 65 = .ok (.iload_n 3, 1) := by decide +kernel
theorem dX12_bricks_66 : decode cX12_bricks 66 = .ok (.iadd, 1) := by decide +kernel
theorem dX12_bricks_67 : decode cX12_bricks 67 = .ok (.iaload, 1) := by decide +kernel
theorem dX12_bricks_68 : decode cX12_bricks 68 = .ok (.iconst 0, 1) := by decide +kernel
theorem dX12_bricks_69 : decode cX12_bricks 69 = .ok (.bipush 26, 2) := by decide +kernel
theorem dX12_bricks_71 : decode cX12_bricks 71 = .ok (.invokestatic 56, 3) := by decide +kernel
theorem dX12_bricks_74 : decode cX12_bricks 74 = .ok (.ifCond .eq 31, 3) := by decide +kernel
theorem dX12_bricks_77 : decode cX12_bricks 77 = .ok (.aload_n 0, 1) := by decide +kernel
theorem dX12_bricks_78 : decode cX12_bricks 78 = .ok (.getfield 7, 3) := by decide +kernel
theorem dX12_bricks_81 : decode cX12_bricks 81 = .ok (.aload_n 0, 1) := by decide +kernel
theorem dX12_bricks_82 : decode cX12_bricks 82 = .ok (.iload_n 2, 1) := by decide +kernel
theorem dX12_bricks_83 : decode cX12_bricks 83 = .ok (.iload_n 3, 1) := by decide +kernel
theorem dX12_bricks_84 : decode cX12_bricks 84 = .ok (.invokevirtual 124, 3) := by decide +kernel
theorem dX12_bricks_87 : decode cX12_bricks 87 = .ok (.aload_n 0, 1) := by decide +kernel
theorem dX12_bricks_88 : decode cX12_bricks 88 = .ok (.getfield 49, 3) := by decide +kernel
theorem dX12_bricks_91 : decode cX12_bricks 91 = .ok (.bipush 24, 2) := by decide +kernel
theorem dX12_bricks_93 : decode cX12_bricks 93 = .ok (.iload_n 1, 1) := by decide +kernel
theorem dX12_bricks_94 : decode cX12_bricks 94 = .ok (.imul, 1) := by decide +kernel
theorem dX12_bricks_95 : decode cX12_bricks 95 = .ok (.iload_n 3, 1) := by decide +kernel
theorem dX12_bricks_96 : decode cX12_bricks 96 = .ok (.iadd, 1) := by decide +kernel
theorem dX12_bricks_97 : decode cX12_bricks 97 = .ok (.iaload, 1) := by decide +kernel
theorem dX12_bricks_98 : decode cX12_bricks 98 = .ok (.iastore, 1) := by decide +kernel
theorem dX12_bricks_99 : decode cX12_bricks 99 = .ok (.iinc 3 1, 3) := by decide +kernel
theorem dX12_bricks_102 : decode cX12_bricks 102 = .ok (.goto (-64), 3) := by decide +kernel
theorem dX12_bricks_105 : decode cX12_bricks 105 = .ok (.iload_n 3, 1) := by decide +kernel
theorem dX12_bricks_106 : decode cX12_bricks 106 = .ok (.ireturn, 1) := by decide +kernel
theorem dX12_image_0 : decode cX12_image 0 = .ok (.aload_n 0, 1) := by decide +kernel
theorem dX12_image_1 : decode cX12_image 1 = .ok (.getfield 7, 3) := by decide +kernel
theorem dX12_image_4 : decode cX12_image 4 = .ok (.aload_n 0, 1) := by decide +kernel
theorem dX12_image_5 : decode cX12_image 5 = .ok (.getfield 13, 3) := by decide +kernel
theorem dX12_image_8 : decode cX12_image 8 = .ok (.invokestatic 274, 3) := by decide +kernel
theorem dX12_image_11 : decode cX12_image 11 = .ok (.aload_n 0, 1) := by decide +kernel
theorem dX12_image_12 : decode cX12_image 12 = .ok (.dup, 1) := by decide +kernel
theorem dX12_image_13 : decode cX12_image 13 = .ok (.getfield 278, 3) := by decide +kernel
theorem dX12_image_16 : decode cX12_image 16 = .ok (.iconst 1, 1) := by decide +kernel
theorem dX12_image_17 : decode cX12_image 17 = .ok (.iadd, 1) := by decide +kernel
theorem dX12_image_18 : decode cX12_image 18 = .ok (.putfield 278, 3) := by decide +kernel
theorem dX12_image_21 : decode cX12_image 21 = .ok (.aload_n 0, 1) := by decide +kernel
theorem dX12_image_22 : decode cX12_image 22 = .ok (.getfield 278, 3) := by decide +kernel
theorem dX12_image_25 : decode cX12_image 25 = .ok (.ireturn, 1) := by decide +kernel
theorem dX12_restore_0 : decode cX12_restore 0 = .ok (.aload_n 0, 1) := by decide +kernel
theorem dX12_restore_1 : decode cX12_restore 1 = .ok (.getfield 278, 3) := by decide +kernel
theorem dX12_restore_4 : decode cX12_restore 4 = .ok (.ifCond .ne 9, 3) := by decide +kernel
theorem dX12_restore_7 : decode cX12_restore 7 = .ok (.aload_n 0, 1) := by decide +kernel
theorem dX12_restore_8 : decode cX12_restore 8 = .ok (.iconst 2, 1) := by decide +kernel
theorem dX12_restore_9 : decode cX12_restore 9 = .ok (.invokevirtual 64, 3) := by decide +kernel
theorem dX12_restore_12 : decode cX12_restore 12 = .ok (.ireturn, 1) := by decide +kernel
theorem dX12_restore_13 : decode cX12_restore 13 = .ok (.aload_n 0, 1) := by decide +kernel
theorem dX12_restore_14 : decode cX12_restore 14 = .ok (.getfield 13, 3) := by decide +kernel
theorem dX12_restore_17 : decode cX12_restore 17 = .ok (.aload_n 0, 1) := by decide +kernel
theorem dX12_restore_18 : decode cX12_restore 18 = .ok (.getfield 7, 3) := by decide +kernel
theorem dX12_restore_21 : decode cX12_restore 21 = .ok (.invokestatic 274, 3) := by decide +kernel
theorem dX12_restore_24 : decode cX12_restore 24 = .ok (.aload_n 0, 1) := by decide +kernel
theorem dX12_restore_25 : decode cX12_restore 25 = .ok (.getfield 7, 3) := by decide +kernel
theorem dX12_restore_28 : decode cX12_restore 28 = .ok (.iconst 0, 1) := by decide +kernel
theorem dX12_restore_29 : decode cX12_restore 29 = .ok (.iaload, 1) := by decide +kernel
theorem dX12_restore_30 : decode cX12_restore 30 = .ok (.ireturn, 1) := by decide +kernel
theorem dX12_tell_0 : decode cX12_tell 0 = .ok (.aload_n 0, 1) := by decide +kernel
theorem dX12_tell_1 : decode cX12_tell 1 = .ok (.getfield 7, 3) := by decide +kernel
theorem dX12_tell_4 : decode cX12_tell 4 = .ok (.iconst 5, 1) := by decide +kernel
theorem dX12_tell_5 : decode cX12_tell 5 = .ok (.iaload, 1) := by decide +kernel
theorem dX12_tell_6 : decode cX12_tell 6 = .ok (.bipush 24, 2) := by decide +kernel
theorem dX12_tell_8 : decode cX12_tell 8 = .ok (.if_icmp .ne 9, 3) := by decide +kernel
theorem dX12_tell_11 : decode cX12_tell 11 = .ok (.aload_n 0, 1) := by decide +kernel
theorem dX12_tell_12 : decode cX12_tell 12 = .ok (.iconst 4, 1) := by decide +kernel
theorem dX12_tell_13 : decode cX12_tell 13 = .ok (.invokevirtual 64, 3) := by decide +kernel
theorem dX12_tell_16 : decode cX12_tell 16 = .ok (.ireturn, 1) := by decide +kernel
theorem dX12_tell_17 : decode cX12_tell 17 = .ok (.aload_n 0, 1) := by decide +kernel
theorem dX12_tell_18 : decode cX12_tell 18 = .ok (.getfield 7, 3) := by decide +kernel
theorem dX12_tell_21 : decode cX12_tell 21 = .ok (.sipush 604, 3) := by decide +kernel
theorem dX12_tell_24 : decode cX12_tell 24 = .ok (.aload_n 0, 1) := by decide +kernel
theorem dX12_tell_25 : decode cX12_tell 25 = .ok (.getfield 7, 3) := by decide +kernel
theorem dX12_tell_28 : decode cX12_tell 28 = .ok (.iconst 5, 1) := by decide +kernel
theorem dX12_tell_29 : decode cX12_tell 29 = .ok (.iaload, 1) := by decide +kernel
theorem dX12_tell_30 : decode cX12_tell 30 = .ok (.iadd, 1) := by decide +kernel
theorem dX12_tell_31 : decode cX12_tell 31 = .ok (.iload_n 1, 1) := by decide +kernel
theorem dX12_tell_32 : decode cX12_tell 32 = .ok (.iastore, 1) := by decide +kernel
theorem dX12_tell_33 : decode cX12_tell 33 = .ok (.aload_n 0, 1) := by decide +kernel
theorem dX12_tell_34 : decode cX12_tell 34 = .ok (.getfield 7, 3) := by decide +kernel
theorem dX12_tell_37 : decode cX12_tell 37 = .ok (.iconst 5, 1) := by decide +kernel
theorem dX12_tell_38 : decode cX12_tell 38 = .ok (.dup2, 1) := by decide +kernel
theorem dX12_tell_39 : decode cX12_tell 39 = .ok (.iaload, 1) := by decide +kernel
theorem dX12_tell_40 : decode cX12_tell 40 = .ok (.iconst 1, 1) := by decide +kernel
theorem dX12_tell_41 : decode cX12_tell 41 = .ok (.iadd, 1) := by decide +kernel
theorem dX12_tell_42 : decode cX12_tell 42 = .ok (.iastore, 1) := by decide +kernel
theorem dX12_tell_43 : decode cX12_tell 43 = .ok (.aload_n 0, 1) := by decide +kernel
theorem dX12_tell_44 : decode cX12_tell 44 = .ok (.getfield 7, 3) := by decide +kernel
theorem dX12_tell_47 : decode cX12_tell 47 = .ok (.iconst 5, 1) := by decide +kernel
theorem dX12_tell_48 : decode cX12_tell 48 = .ok (.iaload, 1) := by decide +kernel
theorem dX12_tell_49 : decode cX12_tell 49 = .ok (.ireturn, 1) := by decide +kernel
theorem dX12_check_0 : decode cX12_check 0 = .ok (.aload_n 0, 1) := by decide +kernel
theorem dX12_check_1 : decode cX12_check 1 = .ok (.getfield 7, 3) := by decide +kernel
theorem dX12_check_4 : decode cX12_check 4 = .ok (.iconst 5, 1) := by decide +kernel
theorem dX12_check_5 : decode cX12_check 5 = .ok (.iaload, 1) := by decide +kernel
theorem dX12_check_6 : decode cX12_check 6 = .ok (.istore_n 2, 1) := by decide +kernel
theorem dX12_check_7 : decode cX12_check 7 = .ok (.aload_n 0, 1) := by decide +kernel
theorem dX12_check_8 : decode cX12_check 8 = .ok (.getfield 7, 3) := by decide +kernel
theorem dX12_check_11 : decode cX12_check 11 = .ok (.iconst 5, 1) := by decide +kernel
theorem dX12_check_12 : decode cX12_check 12 = .ok (.iconst 0, 1) := by decide +kernel
theorem dX12_check_13 : decode cX12_check 13 = .ok (.iastore, 1) := by decide +kernel
theorem dX12_check_14 : decode cX12_check 14 = .ok (.aload_n 0, 1) := by decide +kernel
theorem dX12_check_15 : decode cX12_check 15 = .ok (.iload_n 1, 1) := by decide +kernel
theorem dX12_check_16 : decode cX12_check 16 = .ok (.invokevirtual 133, 3) := by decide +kernel
theorem dX12_check_19 : decode cX12_check 19 = .ok (.ifCond .ne 9, 3) := by decide +kernel
theorem dX12_check_22 : decode cX12_check 22 = .ok (.aload_n 0, 1) := by decide +kernel
theorem dX12_check_23 : decode cX12_check 23 = .ok (.iconst 1, 1) := by decide +kernel
theorem dX12_check_24 : decode cX12_check 24 = .ok (.invokevirtual 64, 3) := by decide +kernel
theorem dX12_check_27 : decode cX12_check 27 = .ok (.ireturn, 1) := by decide +kernel
theorem dX12_check_28 : decode cX12_check 28 = .ok (.aload_n 0, 1) := by decide +kernel
theorem dX12_check_29 : decode cX12_check 29 = .ok (.iload_n 1, 1) := by decide +kernel
theorem dX12_check_30 : decode cX12_check 30 = .ok (.invokevirtual 173, 3) := by decide +kernel
theorem dX12_check_33 : decode cX12_check 33 = .ok (.ifCond .ne 9, 3) := by decide +kernel
theorem dX12_check_36 : decode cX12_check 36 = .ok (.aload_n 0, 1) := by decide +kernel
theorem dX12_check_37 : decode cX12_check 37 = .ok (.iconst 2, 1) := by decide +kernel
theorem dX12_check_38 : decode cX12_check 38 = .ok (.invokevirtual 64, 3) := by decide +kernel
theorem dX12_check_41 : decode cX12_check 41 = .ok (.ireturn, 1) := by decide +kernel
theorem dX12_check_42 : decode cX12_check 42 = .ok (.aload_n 0, 1) := by decide +kernel
theorem dX12_check_43 : decode cX12_check 43 = .ok (.invokevirtual 192, 3) := by decide +kernel
theorem dX12_check_46 : decode cX12_check 46 = .ok (.iconst 0, 1) := by decide +kernel
theorem dX12_check_47 : decode cX12_check 47 = .ok (.istore_n 3, 1) := by decide +kernel
theorem dX12_check_48 : decode cX12_check 48 = .ok (.iload_n 3, 1) := by decide +kernel
theorem dX12_check_49 : decode cX12_check 49 = .ok (.iload_n 2, 1) := by decide +kernel
theorem dX12_check_50 : decode cX12_check 50 = .ok (.if_icmp .ge 36, 3) := by decide +kernel
theorem dX12_check_53 : decode cX12_check 53 = .ok (.iload_n 3, 1) := by decide +kernel
theorem dX12_check_54 : decode cX12_check 54 = .ok (.aload_n 0, 1) := by decide +kernel
theorem dX12_check_55 : decode cX12_check 55 = .ok (.getfield 170, 3) := by decide +kernel
theorem dX12_check_58 : decode cX12_check 58 = .ok (.if_icmp .ge 28, 3) := by decide +kernel
theorem dX12_check_61 : decode cX12_check 61 = .ok (.aload_n 0, 1) := by decide +kernel
theorem dX12_check_62 : decode cX12_check 62 = .ok (.getfield 7, 3) := by decide +kernel
theorem dX12_check_65 : decode cX12_check 65 = .ok (.sipush 604, 3) := by decide +kernel
theorem dX12_check_68 : decode cX12_check 68 = .ok (.iload_n 3, 1) := by decide +kernel
theorem dX12_check_69 : decode cX12_check 69 = .ok (.iadd, 1) := by decide +kernel
theorem dX12_check_70 : decode cX12_check 70 = .ok (.iaload, 1) := by decide +kernel
theorem dX12_check_71 : decode cX12_check 71 = .ok (.aload_n 0, 1) := by decide +kernel
theorem dX12_check_72 : decode cX12_check 72 = .ok (.getfield 34, 3) := by decide +kernel
theorem dX12_check_75 : decode cX12_check 75 = .ok (.iload_n 3, 1) := by decide +kernel
theorem dX12_check_76 : decode cX12_check 76 = .ok (.iaload, 1) := by decide +kernel
theorem dX12_check_77 : decode cX12_check 77 = .ok (.if_icmp .ne 9, 3) := by decide +kernel
theorem dX12_check_80 : decode cX12_check 80 = .ok (.iinc 3 1, 3) := by decide +kernel
theorem dX12_check_83 : decode cX12_check 83 = .ok (.goto (-35), 3) := by decide +kernel
theorem dX12_check_86 : decode cX12_check 86 = .ok (.iload_n 3, 1) := by decide +kernel
theorem dX12_check_87 : decode cX12_check 87 = .ok (.iload_n 2, 1) := by decide +kernel
theorem dX12_check_88 : decode cX12_check 88 = .ok (.if_icmp .ne 15, 3) := by decide +kernel
theorem dX12_check_91 : decode cX12_check 91 = .ok (.iload_n 3, 1) := by decide +kernel
theorem dX12_check_92 : decode cX12_check 92 = .ok (.aload_n 0, 1) := by decide +kernel
theorem dX12_check_93 : decode cX12_check 93 = .ok (.getfield 170, 3) := by decide +kernel
theorem dX12_check_96 : decode cX12_check 96 = .ok (.if_icmp .ne 7, 3) := by decide +kernel
theorem dX12_check_99 : decode cX12_check 99 = .ok (.iconst 0, 1) := by decide +kernel
theorem dX12_check_100 : decode cX12_check 100 = .ok (.goto 6, 3) := by decide +kernel
theorem dX12_check_103 : decode cX12_check 103 = .ok (.iconst 1, 1) := by decide +kernel
theorem dX12_check_104 : decode cX12_check 104 = .ok (.iload_n 3, 1) := by decide +kernel
theorem dX12_check_105 : decode cX12_check 105 = .ok (.iadd, 1) := by decide +kernel
theorem dX12_check_106 : decode cX12_check 106 = .ok (.ireturn, 1) := by decide +kernel
theorem dX12_count_0 : decode cX12_count 0 = .ok (.iload_n 1, 1) := by decide +kernel
theorem dX12_count_1 : decode cX12_count 1 = .ok (.tableswitch 115 0 6 #[43, 50, 57, 88, 95, 102, 107], 43) := by decide +kernel
theorem dX12_count_44 : decode cX12_count 44 = .ok (.aload_n 0, 1) := by decide +kernel
theorem dX12_count_45 : decode cX12_count 45 = .ok (.getfield 7, 3) := by decide +kernel
theorem dX12_count_48 : decode cX12_count 48 = .ok (.iconst 0, 1) := by decide +kernel
theorem dX12_count_49 : decode cX12_count 49 = .ok (.iaload, 1) := by decide +kernel
theorem dX12_count_50 : decode cX12_count 50 = .ok (.ireturn, 1) := by decide +kernel
theorem dX12_count_51 : decode cX12_count 51 = .ok (.aload_n 0, 1) := by decide +kernel
theorem dX12_count_52 : decode cX12_count 52 = .ok (.getfield 7, 3) := by decide +kernel
theorem dX12_count_55 : decode cX12_count 55 = .ok (.iconst 1, 1) := by decide +kernel
theorem dX12_count_56 : decode cX12_count 56 = .ok (.iaload, 1) := by decide +kernel
theorem dX12_count_57 : decode cX12_count 57 = .ok (.ireturn, 1) := by decide +kernel
theorem dX12_count_58 : decode cX12_count 58 = .ok (.iconst 0, 1) := by decide +kernel
theorem dX12_count_59 : decode cX12_count 59 = .ok (.istore_n 2, 1) := by decide +kernel
theorem dX12_count_60 : decode cX12_count 60 = .ok (.iconst 1, 1) := by decide +kernel
theorem dX12_count_61 : decode cX12_count 61 = .ok (.istore_n 3, 1) := by decide +kernel
theorem dX12_count_62 : decode cX12_count 62 = .ok (.iload_n 3, 1) := by decide +kernel
theorem dX12_count_63 : decode cX12_count 63 = .ok (.bipush 26, 2) := by decide +kernel
theorem dX12_count_65 : decode cX12_count 65 = .ok (.if_icmp .gt 22, 3) := by decide +kernel
theorem dX12_count_68 : decode cX12_count 68 = .ok (.iload_n 2, 1) := by decide +kernel
theorem dX12_count_69 : decode cX12_count 69 = .ok (.aload_n 0, 1) := by decide +kernel
theorem dX12_count_70 : decode cX12_count 70 = .ok (.getfield 7, 3) := by decide +kernel
theorem dX12_count_73 : decode cX12_count 73 = .ok (.sipush 266, 3) := by decide +kernel
theorem dX12_count_76 : decode cX12_count 76 = .ok (.iload_n 3, 1) := by decide +kernel
theorem dX12_count_77 : decode cX12_count 77 = .ok (.iadd, 1) := by decide +kernel
theorem dX12_count_78 : decode cX12_count 78 = .ok (.iaload, 1) := by decide +kernel
theorem dX12_count_79 : decode cX12_count 79 = .ok (.iadd, 1) := by decide +kernel
theorem dX12_count_80 : decode cX12_count 80 = .ok (.istore_n 2, 1) := by decide +kernel
theorem dX12_count_81 : decode cX12_count 81 = .ok (.iinc 3 1, 3) := by decide +kernel
theorem dX12_count_84 : decode cX12_count 84 = .ok (.goto (-22), 3) := by decide +kernel
theorem dX12_count_87 : decode cX12_count 87 = .ok (.iload_n 2, 1) := by decide +kernel
theorem dX12_count_88 : decode cX12_count 88 = .ok (.ireturn, 1) := by decide +kernel
theorem dX12_count_89 : decode cX12_count 89 = .ok (.aload_n 0, 1) := by decide +kernel
theorem dX12_count_90 : decode cX12_count 90 = .ok (.getfield 7, 3) := by decide +kernel
theorem dX12_count_93 : decode cX12_count 93 = .ok (.iconst 4, 1) := by decide +kernel
theorem dX12_count_94 : decode cX12_count 94 = .ok (.iaload, 1) := by decide +kernel
theorem dX12_count_95 : decode cX12_count 95 = .ok (.ireturn, 1) := by decide +kernel
theorem dX12_count_96 : decode cX12_count 96 = .ok (.aload_n 0, 1) := by decide +kernel
theorem dX12_count_97 : decode cX12_count 97 = .ok (.getfield 7, 3) := by decide +kernel
theorem dX12_count_100 : decode cX12_count 100 = .ok (.iconst 5, 1) := by decide +kernel
theorem dX12_count_101 : decode cX12_count 101 = .ok (.iaload, 1) := by decide +kernel
theorem dX12_count_102 : decode cX12_count 102 = .ok (.ireturn, 1) := by decide +kernel
theorem dX12_count_103 : decode cX12_count 103 = .ok (.aload_n 0, 1) := by decide +kernel
theorem dX12_count_104 : decode cX12_count 104 = .ok (.getfield 240, 3) := by decide +kernel
theorem dX12_count_107 : decode cX12_count 107 = .ok (.ireturn, 1) := by decide +kernel
theorem dX12_count_108 : decode cX12_count 108 = .ok (.aload_n 0, 1) := by decide +kernel
theorem dX12_count_109 : decode cX12_count 109 = .ok (.getfield 7, 3) := by decide +kernel
theorem dX12_count_112 : decode cX12_count 112 = .ok (.bipush 6, 2) := by decide +kernel
theorem dX12_count_114 : decode cX12_count 114 = .ok (.iaload, 1) := by decide +kernel
theorem dX12_count_115 : decode cX12_count 115 = .ok (.ireturn, 1) := by decide +kernel
theorem dX12_count_116 : decode cX12_count 116 = .ok (.aload_n 0, 1) := by decide +kernel
theorem dX12_count_117 : decode cX12_count 117 = .ok (.iconst 1, 1) := by decide +kernel
theorem dX12_count_118 : decode cX12_count 118 = .ok (.invokevirtual 64, 3) := by decide +kernel
theorem dX12_count_121 : decode cX12_count 121 = .ok (.ireturn, 1) := by decide +kernel
theorem dX12_told_0 : decode cX12_told 0 = .ok (.iload_n 1, 1) := by decide +kernel
theorem dX12_told_1 : decode cX12_told 1 = .ok (.iconst 1, 1) := by decide +kernel
theorem dX12_told_2 : decode cX12_told 2 = .ok (.bipush 6, 2) := by decide +kernel
theorem dX12_told_4 : decode cX12_told 4 = .ok (.invokestatic 56, 3) := by decide +kernel
theorem dX12_told_7 : decode cX12_told 7 = .ok (.ifCond .eq 12, 3) := by decide +kernel
theorem dX12_told_10 : decode cX12_told 10 = .ok (.aload_n 0, 1) := by decide +kernel
theorem dX12_told_11 : decode cX12_told 11 = .ok (.getfield 16, 3) := by decide +kernel
theorem dX12_told_14 : decode cX12_told 14 = .ok (.iload_n 1, 1) := by decide +kernel
theorem dX12_told_15 : decode cX12_told 15 = .ok (.iaload, 1) := by decide +kernel
theorem dX12_told_16 : decode cX12_told 16 = .ok (.goto 8, 3) := by decide +kernel
theorem dX12_told_19 : decode cX12_told 19 = .ok (.aload_n 0, 1) := by decide +kernel
theorem dX12_told_20 : decode cX12_told 20 = .ok (.iconst 1, 1) := by decide +kernel
theorem dX12_told_21 : decode cX12_told 21 = .ok (.invokevirtual 64, 3) := by decide +kernel
theorem dX12_told_24 : decode cX12_told 24 = .ok (.ireturn, 1) := by decide +kernel
