theorem dX11_wallIs_97 : decode cX11_wallIs 97 = .ok (.aload_n 3, 1) := by decide +kernel
theorem dX11_wallIs_98 : decode cX11_wallIs 98 = .ok (.getfield 99, 3) := by decide +kernel
theorem dX11_wallIs_101 : decode cX11_wallIs 101 = .ok (.ireturn, 1) := by decide +kernel
theorem dX11_wallIs_102 : decode cX11_wallIs 102 = .ok (.aload_n 3, 1) := by decide +kernel
theorem dX11_wallIs_103 : decode cX11_wallIs 103 = .ok (.getfield 102, 3) := by decide +kernel
theorem dX11_wallIs_106 : decode cX11_wallIs 106 = .ok (.ireturn, 1) := by decide +kernel
theorem dX11_wallIs_107 : decode cX11_wallIs 107 = .ok (.aload_n 0, 1) := by decide +kernel
theorem dX11_wallIs_108 : decode cX11_wallIs 108 = .ok (.getfield 36, 3) := by decide +kernel
theorem dX11_wallIs_111 : decode cX11_wallIs 111 = .ok (.getfield 105, 3) := by decide +kernel
theorem dX11_wallIs_114 : decode cX11_wallIs 114 = .ok (.ireturn, 1) := by decide +kernel
theorem dX11_wallIs_115 : decode cX11_wallIs 115 = .ok (.aload_n 0, 1) := by decide +kernel
theorem dX11_wallIs_116 : decode cX11_wallIs 116 = .ok (.getfield 29, 3) := by decide +kernel
theorem dX11_wallIs_119 : decode cX11_wallIs 119 = .ok (.aload_n 0, 1) := by decide +kernel
theorem dX11_wallIs_120 : decode cX11_wallIs 120 = .ok (.getfield 12, 3) := by decide +kernel
theorem dX11_wallIs_123 : decode cX11_wallIs 123 = .ok (.getfield 106, 3) := by decide +kernel
theorem dX11_wallIs_126 : decode cX11_wallIs 126 = .ok (.aload_n 0, 1) := by decide +kernel
theorem dX11_wallIs_127 : decode cX11_wallIs 127 = .ok (.getfield 36, 3) := by decide +kernel
theorem dX11_wallIs_130 : decode cX11_wallIs 130 = .ok (.invokevirtual 110, 3) := by decide +kernel
theorem dX11_wallIs_133 : decode cX11_wallIs 133 = .ok (.ifCond .eq 7, 3) := by decide +kernel
theorem dX11_wallIs_136 : decode cX11_wallIs 136 = .ok (.iconst 1, 1) := by decide +kernel
theorem dX11_wallIs_137 : decode cX11_wallIs 137 = .ok (.goto 4, 3) := by decide +kernel
theorem dX11_wallIs_140 : decode cX11_wallIs 140 = .ok (.iconst 0, 1) := by decide +kernel
theorem dX11_wallIs_141 : decode cX11_wallIs 141 = .ok (.ireturn, 1) := by decide +kernel
theorem dX11_wallIs_142 : decode cX11_wallIs 142 = .ok (.aload_n 0, 1) := by decide +kernel
theorem dX11_wallIs_143 : decode cX11_wallIs 143 = .ok (.getfield 29, 3) := by decide +kernel
theorem dX11_wallIs_146 : decode cX11_wallIs 146 = .ok (.aload_n 0, 1) := by decide +kernel
theorem dX11_wallIs_147 : decode cX11_wallIs 147 = .ok (.getfield 12, 3) := by decide +kernel
theorem dX11_wallIs_150 : decode cX11_wallIs 150 = .ok (.getfield 106, 3) := by decide +kernel
theorem dX11_wallIs_153 : decode cX11_wallIs 153 = .ok (.aload_n 0, 1) := by decide +kernel
theorem dX11_wallIs_154 : decode cX11_wallIs 154 = .ok (.getfield 36, 3) := by decide +kernel
theorem dX11_wallIs_157 : decode cX11_wallIs 157 = .ok (.invokevirtual 114, 3) := by decide +kernel
theorem dX11_wallIs_160 : decode cX11_wallIs 160 = .ok (.ireturn, 1) := by decide +kernel
theorem dX11_wallIs_161 : decode cX11_wallIs 161 = .ok (.aload_n 0, 1) := by decide +kernel
theorem dX11_wallIs_162 : decode cX11_wallIs 162 = .ok (.getfield 29, 3) := by decide +kernel
theorem dX11_wallIs_165 : decode cX11_wallIs 165 = .ok (.aload_n 0, 1) := by decide +kernel
theorem dX11_wallIs_166 : decode cX11_wallIs 166 = .ok (.getfield 12, 3) := by decide +kernel
theorem dX11_wallIs_169 : decode cX11_wallIs 169 = .ok (.getfield 106, 3) := by decide +kernel
theorem dX11_wallIs_172 : decode cX11_wallIs 172 = .ok (.aload_n 0, 1) := by decide +kernel
theorem dX11_wallIs_173 : decode cX11_wallIs 173 = .ok (.getfield 36, 3) := by decide +kernel
theorem dX11_wallIs_176 : decode cX11_wallIs 176 = .ok (.invokevirtual 118, 3) := by decide +kernel
theorem dX11_wallIs_179 : decode cX11_wallIs 179 = .ok (.ireturn, 1) := by decide +kernel
theorem dX11_wallIs_180 : decode cX11_wallIs 180 = .ok (.aload_n 0, 1) := by decide +kernel
theorem dX11_wallIs_181 : decode cX11_wallIs 181 = .ok (.getfield 12, 3) := by decide +kernel
theorem dX11_wallIs_184 : decode cX11_wallIs 184 = .ok (.aload_n 3, 1) := by decide +kernel
theorem dX11_wallIs_185 : decode cX11_wallIs 185 = .ok (.invokevirtual 121, 3) := by decide +kernel
theorem dX11_wallIs_188 : decode cX11_wallIs 188 = .ok (.ireturn, 1) := by decide +kernel
theorem dX11_as_0 : decode cX11_as 0 = .ok (.aload_n 0, 1) := by decide +kernel
theorem dX11_as_1 : decode cX11_as 1 = .ok (.getfield 12, 3) := by decide +kernel
theorem dX11_as_4 : decode cX11_as 4 = .ok (.iload_n 1, 1) := by decide +kernel
theorem dX11_as_5 : decode cX11_as 5 = .ok (.invokevirtual 88, 3) := by decide +kernel
theorem dX11_as_8 : decode cX11_as 8 = .ok (.ifCond .eq 13, 3) := by decide +kernel
theorem dX11_as_11 : decode cX11_as 11 = .ok (.iload_n 2, 1) := by decide +kernel
theorem dX11_as_12 : decode cX11_as 12 = .ok (.ifCond .lt 9, 3) := by decide +kernel
theorem dX11_as_15 : decode cX11_as 15 = .ok (.iload_n 2, 1) := by decide +kernel
theorem dX11_as_16 : decode cX11_as 16 = .ok (.bipush 7, 2) := by decide +kernel
theorem dX11_as_18 : decode cX11_as 18 = .ok (.if_icmp .lt 9, 3) := by decide +kernel
theorem dX11_as_21 : decode cX11_as 21 = .ok (.aload_n 0, 1) := by decide +kernel
theorem dX11_as_22 : decode cX11_as 22 = .ok (.iconst 1, 1) := by decide +kernel
theorem dX11_as_23 : decode cX11_as 23 = .ok (.invokevirtual 72, 3) := by decide +kernel
theorem dX11_as_26 : decode cX11_as 26 = .ok (.ireturn, 1) := by decide +kernel
theorem dX11_as_27 : decode cX11_as 27 = .ok (.aload_n 0, 1) := by decide +kernel
theorem dX11_as_28 : decode cX11_as 28 = .ok (.getfield 12, 3) := by decide +kernel
theorem dX11_as_31 : decode cX11_as 31 = .ok (.getfield 80, 3) := by decide +kernel
theorem dX11_as_34 : decode cX11_as 34 = .ok (.iload_n 1, 1) := by decide +kernel
theorem dX11_as_35 : decode cX11_as 35 = .ok (.aaload, 1) := by decide +kernel
theorem dX11_as_36 : decode cX11_as 36 = .ok (.astore_n 3, 1) := by decide +kernel
theorem dX11_as_37 : decode cX11_as 37 = .ok (.aload_n 3, 1) := by decide +kernel
theorem dX11_as_38 : decode cX11_as 38 = .ok (.getfield 96, 3) := by decide +kernel
theorem dX11_as_41 : decode cX11_as 41 = .ok (.iload_n 2, 1) := by decide +kernel
theorem dX11_as_42 : decode cX11_as 42 = .ok (.invokestatic 125, 3) := by decide +kernel
theorem dX11_as_45 : decode cX11_as 45 = .ok (.ifCond .eq 10, 3) := by decide +kernel
theorem dX11_as_48 : decode cX11_as 48 = .ok (.aload_n 3, 1) := by decide +kernel
theorem dX11_as_49 : decode cX11_as 49 = .ok (.getfield 102, 3) := by decide +kernel
theorem dX11_as_52 : decode cX11_as 52 = .ok (.goto 8, 3) := by decide +kernel
theorem dX11_as_55 : decode cX11_as 55 = .ok (.aload_n 0, 1) := by decide +kernel
theorem dX11_as_56 : decode cX11_as 56 = .ok (.iconst 5, 1) := by decide +kernel
theorem dX11_as_57 : decode cX11_as 57 = .ok (.invokevirtual 72, 3) := by decide +kernel
theorem dX11_as_60 : decode cX11_as 60 = .ok (.ireturn, 1) := by decide +kernel
theorem dX11_set_0 : decode cX11_set 0 = .ok (.aload_n 0, 1) := by decide +kernel
theorem dX11_set_1 : decode cX11_set 1 = .ok (.getfield 12, 3) := by decide +kernel
theorem dX11_set_4 : decode cX11_set 4 = .ok (.iload_n 1, 1) := by decide +kernel
theorem dX11_set_5 : decode cX11_set 5 = .ok (.invokevirtual 88, 3) := by decide +kernel
theorem dX11_set_8 : decode cX11_set 8 = .ok (.ifCond .eq 16, 3) := by decide +kernel
theorem dX11_set_11 : decode cX11_set 11 = .ok (.iload_n 2, 1) := by decide +kernel
theorem dX11_set_12 : decode cX11_set 12 = .ok (.ifCond .lt 12, 3) := by decide +kernel
theorem dX11_set_15 : decode cX11_set 15 = .ok (.iload_n 2, 1) := by decide +kernel
theorem dX11_set_16 : decode cX11_set 16 = .ok (.iconst 1, 1) := by decide +kernel
theorem dX11_set_17 : decode cX11_set 17 = .ok (.if_icmp .gt 7, 3) := by decide +kernel
theorem dX11_set_20 : decode cX11_set 20 = .ok (.iload_n 3, 1) := by decide +kernel
theorem dX11_set_21 : decode cX11_set 21 = .ok (.ifCond .ge 9, 3) := by decide +kernel
theorem dX11_set_24 : decode cX11_set 24 = .ok (.aload_n 0, 1) := by decide +kernel
theorem dX11_set_25 : decode cX11_set 25 = .ok (.iconst 1, 1) := by decide +kernel
theorem dX11_set_26 : decode cX11_set 26 = .ok (.invokevirtual 72, 3) := by decide +kernel
theorem dX11_set_29 : decode cX11_set 29 = .ok (.ireturn, 1) := by decide +kernel
theorem dX11_set_30 : decode cX11_set 30 = .ok (.iload_n 3, 1) := by decide +kernel
theorem dX11_set_31 : decode cX11_set 31 = .ok (.iload_n 2, 1) := by decide +kernel
theorem dX11_set_32 : decode cX11_set 32 = .ok (.ifCond .ne 8, 3) := by decide +kernel
theorem dX11_set_35 : decode cX11_set 35 = .ok (.bipush 6, 2) := by decide +kernel
theorem dX11_set_37 : decode cX11_set 37 = .ok (.goto 5, 3) := by decide +kernel
theorem dX11_set_40 : decode cX11_set 40 = .ok (.bipush 9, 2) := by decide +kernel
theorem dX11_set_42 : decode cX11_set 42 = .ok (.if_icmp .le 9, 3) := by decide +kernel
theorem dX11_set_45 : decode cX11_set 45 = .ok (.aload_n 0, 1) := by decide +kernel
theorem dX11_set_46 : decode cX11_set 46 = .ok (.iconst 1, 1) := by decide +kernel
theorem dX11_set_47 : decode cX11_set 47 = .ok (.invokevirtual 72, 3) := by decide +kernel
theorem dX11_set_50 : decode cX11_set 50 = .ok (.ireturn, 1) := by decide +kernel
theorem dX11_set_51 : decode cX11_set 51 = .ok (.aload_n 0, 1) := by decide +kernel
theorem dX11_set_52 : decode cX11_set 52 = .ok (.getfield 12, 3) := by decide +kernel
theorem dX11_set_55 : decode cX11_set 55 = .ok (.getfield 80, 3) := by decide +kernel
theorem dX11_set_58 : decode cX11_set 58 = .ok (.iload_n 1, 1) := by decide +kernel
theorem dX11_set_59 : decode cX11_set 59 = .ok (.aaload, 1) := by decide +kernel
theorem dX11_set_60 : decode cX11_set 60 = .ok (.astore 4, 2) := by decide +kernel
theorem dX11_set_62 : decode cX11_set 62 = .ok (.iload_n 2, 1) := by decide +kernel
theorem dX11_set_63 : decode cX11_set 63 = .ok (.ifCond .ne 11, 3) := by decide +kernel
theorem dX11_set_66 : decode cX11_set 66 = .ok (.aload 4, 2) := by decide +kernel
theorem dX11_set_68 : decode cX11_set 68 = .ok (.getfield 96, 3) := by decide +kernel
theorem dX11_set_71 : decode cX11_set 71 = .ok (.goto 8, 3) := by decide +kernel
theorem dX11_set_74 : decode cX11_set 74 = .ok (.aload 4, 2) := by decide +kernel
theorem dX11_set_76 : decode cX11_set 76 = .ok (.getfield 99, 3) := by decide +kernel
theorem dX11_set_79 : decode cX11_set 79 = .ok (.istore 5, 2) := by decide +kernel
theorem dX11_set_81 : decode cX11_set 81 = .ok (.iload_n 2, 1) := by decide +kernel
theorem dX11_set_82 : decode cX11_set 82 = .ok (.ifCond .ne 12, 3) := by decide +kernel
theorem dX11_set_85 : decode cX11_set 85 = .ok (.aload 4, 2) := by decide +kernel
theorem dX11_set_87 : decode cX11_set 87 = .ok (.iload_n 3, 1) := by decide +kernel
theorem dX11_set_88 : decode cX11_set 88 = .ok (.putfield 96, 3) := by decide +kernel
theorem dX11_set_91 : decode cX11_set 91 = .ok (.goto 9, 3) := by decide +kernel
theorem dX11_set_94 : decode cX11_set 94 = .ok (.aload 4, 2) := by decide +kernel
theorem dX11_set_96 : decode cX11_set 96 = .ok (.iload_n 3, 1) := by decide +kernel
theorem dX11_set_97 : decode cX11_set 97 = .ok (.putfield 99, 3) := by decide +kernel
theorem dX11_set_100 : decode cX11_set 100 = .ok (.iload 5, 2) := by decide +kernel
theorem dX11_set_102 : decode cX11_set 102 = .ok (.ireturn, 1) := by decide +kernel
theorem dX11_brick_0 : decode cX11_brick 0 = .ok (.aload_n 0, 1) := by decide +kernel
theorem dX11_brick_1 : decode cX11_brick 1 = .ok (.getfield 12, 3) := by decide +kernel
theorem dX11_brick_4 : decode cX11_brick 4 = .ok (.iload_n 1, 1) := by decide +kernel
theorem dX11_brick_5 : decode cX11_brick 5 = .ok (.iload_n 2, 1) := by decide +kernel
theorem dX11_brick_6 : decode cX11_brick 6 = .ok (.invokevirtual 129, 3) := by decide +kernel
theorem dX11_brick_9 : decode cX11_brick 9 = .ok (.ifCond .eq 13, 3) := by decide +kernel
theorem dX11_brick_12 : decode cX11_brick 12 = .ok (.iload_n 3, 1) := by decide +kernel
theorem dX11_brick_13 : decode cX11_brick 13 = .ok (.ifCond .lt 9, 3) := by decide +kernel
theorem dX11_brick_16 : decode cX11_brick 16 = .ok (.iload_n 3, 1) := by decide +kernel
theorem dX11_brick_17 : decode cX11_brick 17 = .ok (.bipush 26, 2) := by decide +kernel
theorem dX11_brick_19 : decode cX11_brick 19 = .ok (.if_icmp .le 9, 3) := by decide +kernel
theorem dX11_brick_22 : decode cX11_brick 22 = .ok (.aload_n 0, 1) := by decide +kernel
theorem dX11_brick_23 : decode cX11_brick 23 = .ok (.iconst 1, 1) := by decide +kernel
theorem dX11_brick_24 : decode cX11_brick 24 = .ok (.invokevirtual 72, 3) := by decide +kernel
theorem dX11_brick_27 : decode cX11_brick 27 = .ok (.ireturn, 1) := by decide +kernel
theorem dX11_brick_28 : decode cX11_brick 28 = .ok (.aload_n 0, 1) := by decide +kernel
theorem dX11_brick_29 : decode cX11_brick 29 = .ok (.getfield 12, 3) := by decide +kernel
theorem dX11_brick_32 : decode cX11_brick 32 = .ok (.getfield 80, 3) := by decide +kernel
theorem dX11_brick_35 : decode cX11_brick 35 = .ok (.iload_n 1, 1) := by decide +kernel
theorem dX11_brick_36 : decode cX11_brick 36 = .ok (.aaload, 1) := by decide +kernel
theorem dX11_brick_37 : decode cX11_brick 37 = .ok (.getfield 132, 3) := by decide +kernel
theorem dX11_brick_40 : decode cX11_brick 40 = .ok (.iload_n 2, 1) := by decide +kernel
theorem dX11_brick_41 : decode cX11_brick 41 = .ok (.iaload, 1) := by decide +kernel
theorem dX11_brick_42 : decode cX11_brick 42 = .ok (.istore 4, 2) := by decide +kernel
theorem dX11_brick_44 : decode cX11_brick 44 = .ok (.aload_n 0, 1) := by decide +kernel
theorem dX11_brick_45 : decode cX11_brick 45 = .ok (.getfield 12, 3) := by decide +kernel
theorem dX11_brick_48 : decode cX11_brick 48 = .ok (.getfield 80, 3) := by decide +kernel
theorem dX11_brick_51 : decode cX11_brick 51 = .ok (.iload_n 1, 1) := by decide +kernel
theorem dX11_brick_52 : decode cX11_brick 52 = .ok (.aaload, 1) := by decide +kernel
theorem dX11_brick_53 : decode cX11_brick 53 = .ok (.getfield 132, 3) := by decide +kernel
theorem dX11_brick_56 : decode cX11_brick 56 = .ok (.iload_n 2, 1) := by decide +kernel
theorem dX11_brick_57 : decode cX11_brick 57 = .ok (.iload_n 3, 1) := by decide +kernel
theorem dX11_brick_58 : decode cX11_brick 58 = .ok (.iastore, 1) := by decide +kernel
theorem dX11_brick_59 : decode cX11_brick 59 = .ok (.iload 4, 2) := by decide +kernel
theorem dX11_brick_61 : decode cX11_brick 61 = .ok (.ireturn, 1) := by decide +kernel
theorem dX11_brickOf_0 : decode cX11_brickOf 0 = .ok (.aload_n 0, 1) := by decide +kernel
theorem dX11_brickOf_1 : decode cX11_brickOf 1 = .ok (.getfield 12, 3) := by decide +kernel
theorem dX11_brickOf_4 : decode cX11_brickOf 4 = .ok (.iload_n 1, 1) := by decide +kernel
theorem dX11_brickOf_5 : decode cX11_brickOf 5 = .ok (.iload_n 2, 1) := by decide +kernel
theorem dX11_brickOf_6 : decode cX11_brickOf 6 = .ok (.invokevirtual 129, 3) := by decide +kernel
theorem dX11_brickOf_9 : decode cX11_brickOf 9 = .ok (.ifCond .eq 20, 3) := by decide +kernel
theorem dX11_brickOf_12 : decode cX11_brickOf 12 = .ok (.aload_n 0, 1) := by decide +kernel
theorem dX11_brickOf_13 : decode cX11_brickOf 13 = .ok (.getfield 12, 3) := by decide +kernel
theorem dX11_brickOf_16 : decode cX11_brickOf 16 = .ok (.getfield 80, 3) := by decide +kernel
theorem dX11_brickOf_19 : decode cX11_brickOf 19 = .ok (.iload_n 1, 1) := by decide +kernel
theorem dX11_brickOf_20 : decode cX11_brickOf 20 = .ok (.aaload, 1) := by decide +kernel
theorem dX11_brickOf_21 : decode cX11_brickOf 21 = .ok (.getfield 132, 3) := by decide +kernel
theorem dX11_brickOf_24 : decode cX11_brickOf 24 = .ok (.iload_n 2, 1) := by decide +kernel
theorem dX11_brickOf_25 : decode cX11_brickOf 25 = .ok (.iaload, 1) := by decide +kernel
theorem dX11_brickOf_26 : decode cX11_brickOf 26 = .ok (.goto 8, 3) := by decide +kernel
theorem dX11_brickOf_29 : decode cX11_brickOf 29 = .ok (.aload_n 0, 1) := by decide +kernel
theorem dX11_brickOf_30 : decode cX11_brickOf 30 = .ok (.iconst 1, 1) := by decide +kernel
theorem dX11_brickOf_31 : decode cX11_brickOf 31 = .ok (.invokevirtual 72, 3) := by decide +kernel
theorem dX11_brickOf_34 : decode cX11_brickOf 34 = .ok (.ireturn, 1) := by decide +kernel
theorem dX11_readAs_0 : decode cX11_readAs 0 = .ok (.aload_n 0, 1) := by decide +kernel
theorem dX11_readAs_1 : decode cX11_readAs 1 = .ok (.getfield 12, 3) := by decide +kernel
theorem dX11_readAs_4 : decode cX11_readAs 4 = .ok (.iload_n 1, 1) := by decide +kernel
theorem dX11_readAs_5 : decode cX11_readAs 5 = .ok (.invokevirtual 88, 3) := by decide +kernel
theorem dX11_readAs_8 : decode cX11_readAs 8 = .ok (.ifCond .ne 9, 3) := by decide +kernel
theorem dX11_readAs_11 : decode cX11_readAs 11 = .ok (.aload_n 0, 1) := by decide +kernel
theorem dX11_readAs_12 : decode cX11_readAs 12 = .ok (.iconst 1, 1) := by decide +kernel
theorem dX11_readAs_13 : decode cX11_readAs 13 = .ok (.invokevirtual 72, 3) := by decide +kernel
theorem dX11_readAs_16 : decode cX11_readAs 16 = .ok (.ireturn, 1) := by decide +kernel
theorem dX11_readAs_17 : decode cX11_readAs 17 = .ok (.aload_n 0, 1) := by decide +kernel
theorem dX11_readAs_18 : decode cX11_readAs 18 = .ok (.getfield 12, 3) := by decide +kernel
theorem dX11_readAs_21 : decode cX11_readAs 21 = .ok (.aload_n 0, 1) := by decide +kernel
theorem dX11_readAs_22 : decode cX11_readAs 22 = .ok (.getfield 12, 3) := by decide +kernel
theorem dX11_readAs_25 : decode cX11_readAs 25 = .ok (.getfield 80, 3) := by decide +kernel
theorem dX11_readAs_28 : decode cX11_readAs 28 = .ok (.iload_n 1, 1) := by decide +kernel
theorem dX11_readAs_29 : decode cX11_readAs 29 = .ok (.aaload, 1) := by decide +kernel
theorem dX11_readAs_30 : decode cX11_readAs 30 = .ok (.iload_n 1, 1) := by decide +kernel
theorem dX11_readAs_31 : decode cX11_readAs 31 = .ok (.aload_n 0, 1) := by decide +kernel
theorem dX11_readAs_32 : decode cX11_readAs 32 = .ok (.getfield 36, 3) := by decide +kernel
theorem dX11_readAs_35 : decode cX11_readAs 35 = .ok (.invokevirtual 92, 3) := by decide +kernel
theorem dX11_readAs_38 : decode cX11_readAs 38 = .ok (.iload_n 2, 1) := by decide +kernel
theorem dX11_readAs_39 : decode cX11_readAs 39 = .ok (.ifCond .lt 26, 3) := by decide +kernel
theorem dX11_readAs_42 : decode cX11_readAs 42 = .ok (.iload_n 2, 1) := by decide +kernel
theorem dX11_readAs_43 : decode cX11_readAs 43 = .ok (.aload_n 0, 1) := by decide +kernel
theorem dX11_readAs_44 : decode cX11_readAs 44 = .ok (.getfield 36, 3) := by decide +kernel
theorem dX11_readAs_47 : decode cX11_readAs 47 = .ok (.getfield 105, 3) := by decide +kernel
theorem dX11_readAs_50 : decode cX11_readAs 50 = .ok (.if_icmp .ge 15, 3) := by decide +kernel
theorem dX11_readAs_53 : decode cX11_readAs 53 = .ok (.aload_n 0, 1) := by decide +kernel
theorem dX11_readAs_54 : decode cX11_readAs 54 = .ok (.getfield 36, 3) := by decide +kernel
theorem dX11_readAs_57 : decode cX11_readAs 57 = .ok (.getfield 135, 3) := by decide +kernel
theorem dX11_readAs_60 : decode cX11_readAs 60 = .ok (.iload_n 2, 1) := by decide +kernel
theorem dX11_readAs_61 : decode cX11_readAs 61 = .ok (.iaload, 1) := by decide +kernel
theorem dX11_readAs_62 : decode cX11_readAs 62 = .ok (.goto 8, 3) := by decide +kernel
theorem dX11_readAs_65 : decode cX11_readAs 65 = .ok (.aload_n 0, 1) := by decide +kernel
theorem dX11_readAs_66 : decode cX11_readAs 66 = .ok (.iconst 1, 1) := by decide +kernel
theorem dX11_readAs_67 : decode cX11_readAs 67 = .ok (.invokevirtual 72, 3) := by decide +kernel
theorem dX11_readAs_70 : decode cX11_readAs 70 = .ok (.ireturn, 1) := by decide +kernel
theorem dX11_word_0 : decode cX11_word 0 = .ok (.iload_n 1, 1) := by decide +kernel
theorem dX11_word_1 : decode cX11_word 1 = .ok (.ifCond .lt 15, 3) := by decide +kernel
theorem dX11_word_4 : decode cX11_word 4 = .ok (.iload_n 1, 1) := by decide +kernel
theorem dX11_word_5 : decode cX11_word 5 = .ok (.iconst 5, 1) := by decide +kernel
theorem dX11_word_6 : decode cX11_word 6 = .ok (.if_icmp .ge 10, 3) := by decide +kernel
theorem dX11_word_9 : decode cX11_word 9 = .ok (.iload_n 2, 1) := by decide +kernel
theorem dX11_word_10 : decode cX11_word 10 = .ok (.invokestatic 138, 3) := by decide +kernel
theorem dX11_word_13 : decode cX11_word 13 = .ok (.ifCond .ne 9, 3) := by decide +kernel
theorem dX11_word_16 : decode cX11_word 16 = .ok (.aload_n 0, 1) := by decide +kernel
theorem dX11_word_17 : decode cX11_word 17 = .ok (.iconst 1, 1) := by decide +kernel
theorem dX11_word_18 : decode cX11_word 18 = .ok (.invokevirtual 72, 3) := by decide +kernel
theorem dX11_word_21 : decode cX11_word 21 = .ok (.ireturn, 1) := by decide +kernel
theorem dX11_word_22 : decode cX11_word 22 = .ok (.aload_n 0, 1) := by decide +kernel
theorem dX11_word_23 : decode cX11_word 23 = .ok (.getfield 12, 3) := by decide +kernel
theorem dX11_word_26 : decode cX11_word 26 = .ok (.getfield 106, 3) := by decide +kernel
theorem dX11_word_29 : decode cX11_word 29 = .ok (.getfield 141, 3) := by decide +kernel
theorem dX11_word_32 : decode cX11_word 32 = .ok (.bipush 12, 2) := by decide +kernel
theorem dX11_word_34 : decode cX11_word 34 = .ok (.if_icmp .lt 9, 3) := by decide +kernel
theorem dX11_word_37 : decode cX11_word 37 = .ok (.aload_n 0, 1) := by decide +kernel
theorem dX11_word_38 : decode cX11_word 38 = .ok (.iconst 4, 1) := by decide +kernel
theorem dX11_word_39 : decode cX11_word 39 = .ok (.invokevirtual 72, 3) := by decide +kernel
theorem dX11_word_42 : decode cX11_word 42 = .ok (.ireturn, 1) := by decide +kernel
theorem dX11_word_43 : decode cX11_word 43 = .ok (.aload_n 0, 1) := by decide +kernel
theorem dX11_word_44 : decode cX11_word 44 = .ok (.getfield 12, 3) := by decide +kernel
theorem dX11_word_47 : decode cX11_word 47 = .ok (.getfield 106, 3) := by decide +kernel
theorem dX11_word_50 : decode cX11_word 50 = .ok (.getfield 144, 3) := by decide +kernel
theorem dX11_word_53 : decode cX11_word 53 = .ok (.aload_n 0, 1) := by decide +kernel
theorem dX11_word_54 : decode cX11_word 54 = .ok (.getfield 12, 3) := by decide +kernel
theorem dX11_word_57 : decode cX11_word 57 = .ok (.getfield 106, 3) := by decide +kernel
theorem dX11_word_60 : decode cX11_word 60 = .ok (.getfield 141, 3) := by decide +kernel
theorem dX11_word_63 : decode cX11_word 63 = .ok (.aaload, 1) := by decide +kernel
theorem dX11_word_64 : decode cX11_word 64 = .ok (.iload_n 1, 1) := by decide +kernel
theorem dX11_word_65 : decode cX11_word 65 = .ok (.iload_n 2, 1) := by decide +kernel
theorem dX11_word_66 : decode cX11_word 66 = .ok (.invokevirtual 148, 3) := by decide +kernel
theorem dX11_word_69 : decode cX11_word 69 = .ok (.aload_n 0, 1) := by decide +kernel
theorem dX11_word_70 : decode cX11_word 70 = .ok (.getfield 12, 3) := by decide +kernel
theorem dX11_word_73 : decode cX11_word 73 = .ok (.getfield 106, 3) := by decide +kernel
theorem dX11_word_76 : decode cX11_word 76 = .ok (.dup, 1) := by decide +kernel
theorem dX11_word_77 : decode cX11_word 77 = .ok (.getfield 141, 3) := by decide +kernel
theorem dX11_word_80 : decode cX11_word 80 = .ok (.iconst 1, 1) := by decide +kernel
theorem dX11_word_81 : decode cX11_word 81 = .ok (.iadd, 1) := by decide +kernel
theorem dX11_word_82 : decode cX11_word 82 = .ok (.putfield 141, 3) := by decide +kernel
theorem dX11_word_85 : decode cX11_word 85 = .ok (.aload_n 0, 1) := by decide +kernel
theorem dX11_word_86 : decode cX11_word 86 = .ok (.getfield 12, 3) := by decide +kernel
theorem dX11_word_89 : decode cX11_word 89 = .ok (.getfield 106, 3) := by decide +kernel
theorem dX11_word_92 : decode cX11_word 92 = .ok (.getfield 141, 3) := by decide +kernel
theorem dX11_word_95 : decode cX11_word 95 = .ok (.iconst 1, 1) := by decide +kernel
theorem dX11_word_96 : decode cX11_word 96 = .ok (.isub, 1) := by decide +kernel
theorem dX11_word_97 : decode cX11_word 97 = .ok (.ireturn, 1) := by decide +kernel
theorem dX11_letter_0 : decode cX11_letter 0 = .ok (.aload_n 0, 1) := by decide +kernel
theorem dX11_letter_1 : decode cX11_letter 1 = .ok (.getfield 12, 3) := by decide +kernel
theorem dX11_letter_4 : decode cX11_letter 4 = .ok (.getfield 106, 3) := by decide +kernel
theorem dX11_letter_7 : decode cX11_letter 7 = .ok (.iload_n 1, 1) := by decide +kernel
theorem dX11_letter_8 : decode cX11_letter 8 = .ok (.invokevirtual 153, 3) := by decide +kernel
theorem dX11_letter_11 : decode cX11_letter 11 = .ok (.ifCond .eq 10, 3) := by decide +kernel
theorem dX11_letter_14 : decode cX11_letter 14 = .ok (.iload_n 2, 1) := by decide +kernel
theorem dX11_letter_15 : decode cX11_letter 15 = .ok (.invokestatic 138, 3) := by decide +kernel
theorem dX11_letter_18 : decode cX11_letter 18 = .ok (.ifCond .ne 9, 3) := by decide +kernel
theorem dX11_letter_21 : decode cX11_letter 21 = .ok (.aload_n 0, 1) := by decide +kernel
theorem dX11_letter_22 : decode cX11_letter 22 = .ok (.iconst 1, 1) := by decide +kernel
theorem dX11_letter_23 : decode cX11_letter 23 = .ok (.invokevirtual 72, 3) := by decide +kernel
theorem dX11_letter_26 : decode cX11_letter 26 = .ok (.ireturn, 1) := by decide +kernel
theorem dX11_letter_27 : decode cX11_letter 27 = .ok (.aload_n 0, 1) := by decide +kernel
theorem dX11_letter_28 : decode cX11_letter 28 = .ok (.getfield 12, 3) := by decide +kernel
theorem dX11_letter_31 : decode cX11_letter 31 = .ok (.getfield 106, 3) := by decide +kernel
theorem dX11_letter_34 : decode cX11_letter 34 = .ok (.getfield 144, 3) := by decide +kernel
theorem dX11_letter_37 : decode cX11_letter 37 = .ok (.iload_n 1, 1) := by decide +kernel
theorem dX11_letter_38 : decode cX11_letter 38 = .ok (.aaload, 1) := by decide +kernel
theorem dX11_letter_39 : decode cX11_letter 39 = .ok (.astore_n 3, 1) := by decide +kernel
theorem dX11_letter_40 : decode cX11_letter 40 = .ok (.aload_n 3, 1) := by decide +kernel
theorem dX11_letter_41 : decode cX11_letter 41 = .ok (.getfield 156, 3) := by decide +kernel
theorem dX11_letter_44 : decode cX11_letter 44 = .ok (.bipush 6, 2) := by decide +kernel
theorem dX11_letter_46 : decode cX11_letter 46 = .ok (.if_icmp .lt 9, 3) := by decide +kernel
theorem dX11_letter_49 : decode cX11_letter 49 = .ok (.aload_n 0, 1) := by decide +kernel
theorem dX11_letter_50 : decode cX11_letter 50 = .ok (.iconst 4, 1) := by decide +kernel
theorem dX11_letter_51 : decode cX11_letter 51 = .ok (.invokevirtual 72, 3) := by decide +kernel
theorem dX11_letter_54 : decode cX11_letter 54 = .ok (.ireturn, 1) := by decide +kernel
theorem dX11_letter_55 : decode cX11_letter 55 = .ok (.aload_n 3, 1) := by decide +kernel
theorem dX11_letter_56 : decode cX11_letter 56 = .ok (.getfield 157, 3) := by decide +kernel
theorem dX11_letter_59 : decode cX11_letter 59 = .ok (.aload_n 3, 1) := by decide +kernel
theorem dX11_letter_60 : decode cX11_letter 60 = .ok (.getfield 156, 3) := by decide +kernel
theorem dX11_letter_63 : decode cX11_letter 63 = .ok (.iload_n 2, 1) := by decide +kernel
theorem dX11_letter_64 : decode cX11_letter 64 = .ok (.iastore, 1) := by decide +kernel
theorem dX11_letter_65 : decode cX11_letter 65 = .ok (.aload_n 3, 1) := by decide +kernel
theorem dX11_letter_66 : decode cX11_letter 66 = .ok (.dup, 1) := by decide +kernel
theorem dX11_letter_67 : decode cX11_letter 67 = .ok (.getfield 156, 3) := by decide +kernel
theorem dX11_letter_70 : decode cX11_letter 70 = .ok (.iconst 1, 1) := by decide +kernel
theorem dX11_letter_71 : decode cX11_letter 71 = .ok (.iadd, 1) := by decide +kernel
theorem dX11_letter_72 : decode cX11_letter 72 = .ok (.putfield 156, 3) := by decide +kernel
theorem dX11_letter_75 : decode cX11_letter 75 = .ok (.aload_n 3, 1) := by decide +kernel
theorem dX11_letter_76 : decode cX11_letter 76 = .ok (.getfield 156, 3) := by decide +kernel
theorem dX11_letter_79 : decode cX11_letter 79 = .ok (.ireturn, 1) := by decide +kernel
theorem dX11_wordIs_0 : decode cX11_wordIs 0 = .ok (.aload_n 0, 1) := by decide +kernel
theorem dX11_wordIs_1 : decode cX11_wordIs 1 = .ok (.getfield 12, 3) := by decide +kernel
theorem dX11_wordIs_4 : decode cX11_wordIs 4 = .ok (.getfield 106, 3) := by decide +kernel
theorem dX11_wordIs_7 : decode cX11_wordIs 7 = .ok (.iload_n 1, 1) := by decide +kernel
theorem dX11_wordIs_8 : decode cX11_wordIs 8 = .ok (.invokevirtual 153, 3) := by decide +kernel
theorem dX11_wordIs_11 : decode cX11_wordIs 11 = .ok (.ifCond .ne 9, 3) := by decide +kernel
theorem dX11_wordIs_14 : decode cX11_wordIs 14 = .ok (.aload_n 0, 1) := by decide +kernel
theorem dX11_wordIs_15 : decode cX11_wordIs 15 = .ok (.iconst 1, 1) := by decide +kernel
theorem dX11_wordIs_16 : decode cX11_wordIs 16 = .ok (.invokevirtual 72, 3) := by decide +kernel
theorem dX11_wordIs_19 : decode cX11_wordIs 19 = .ok (.ireturn, 1) := by decide +kernel
theorem dX11_wordIs_20 : decode cX11_wordIs 20 = .ok (.aload_n 0, 1) := by decide +kernel
theorem dX11_wordIs_21 : decode cX11_wordIs 21 = .ok (.getfield 12, 3) := by decide +kernel
theorem dX11_wordIs_24 : decode cX11_wordIs 24 = .ok (.getfield 106, 3) := by decide +kernel
theorem dX11_wordIs_27 : decode cX11_wordIs 27 = .ok (.getfield 144, 3) := by decide +kernel
theorem dX11_wordIs_30 : decode cX11_wordIs 30 = .ok (.iload_n 1, 1) := by decide +kernel
theorem dX11_wordIs_31 : decode cX11_wordIs 31 = .ok (.aaload, 1) := by decide +kernel
theorem dX11_wordIs_32 : decode cX11_wordIs 32 = .ok (.astore_n 3, 1) := by decide +kernel
theorem dX11_wordIs_33 : decode cX11_wordIs 33 = .ok (.iload_n 2, 1) := by decide +kernel
theorem dX11_wordIs_34 : decode cX11_wordIs 34 = .ok (.iconst (-1), 1) := by decide +kernel
theorem dX11_wordIs_35 : decode cX11_wordIs 35 = .ok (.if_icmp .ne 8, 3) := by decide +kernel
theorem dX11_wordIs_38 : decode cX11_wordIs 38 = .ok (.aload_n 3, 1) := by decide +kernel
theorem dX11_wordIs_39 : decode cX11_wordIs 39 = .ok (.getfield 158, 3) := by decide +kernel
theorem dX11_wordIs_42 : decode cX11_wordIs 42 = .ok (.ireturn, 1) := by decide +kernel
theorem dX11_wordIs_43 : decode cX11_wordIs 43 = .ok (.iload_n 2, 1) := by decide +kernel
theorem dX11_wordIs_44 : decode cX11_wordIs 44 = .ok (.bipush (-2), 2) := by decide +kernel
theorem dX11_wordIs_46 : decode cX11_wordIs 46 = .ok (.if_icmp .ne 8, 3) := by decide +kernel
theorem dX11_wordIs_49 : decode cX11_wordIs 49 = .ok (.aload_n 3, 1) := by decide +kernel
theorem dX11_wordIs_50 : decode cX11_wordIs 50 = .ok (.getfield 156, 3) := by decide +kernel
theorem dX11_wordIs_53 : decode cX11_wordIs 53 = .ok (.ireturn, 1) := by decide +kernel
theorem dX11_wordIs_54 : decode cX11_wordIs 54 = .ok (.iload_n 2, 1) := by decide +kernel
theorem dX11_wordIs_55 : decode cX11_wordIs 55 = .ok (.ifCond .lt 20, 3) := by decide +kernel
theorem dX11_wordIs_58 : decode cX11_wordIs 58 = .ok (.iload_n 2, 1) := by decide +kernel
theorem dX11_wordIs_59 : decode cX11_wordIs 59 = .ok (.aload_n 3, 1) := by decide +kernel
theorem dX11_wordIs_60 : decode cX11_wordIs 60 = .ok (.getfield 156, 3) := by decide +kernel
theorem dX11_wordIs_63 : decode cX11_wordIs 63 = .ok (.if_icmp .ge 12, 3) := by decide +kernel
theorem dX11_wordIs_66 : decode cX11_wordIs 66 = .ok (.aload_n 3, 1) := by decide +kernel
theorem dX11_wordIs_67 : decode cX11_wordIs 67 = .ok (.getfield 157, 3) := by decide +kernel
theorem dX11_wordIs_70 : decode cX11_wordIs 70 = .ok (.iload_n 2, 1) := by decide +kernel
theorem dX11_wordIs_71 : decode cX11_wordIs 71 = .ok (.iaload, 1) := by decide +kernel
theorem dX11_wordIs_72 : decode cX11_wordIs 72 = .ok (.goto 8, 3) := by decide +kernel
theorem dX11_wordIs_75 : decode cX11_wordIs 75 = .ok (.aload_n 0, 1) := by decide +kernel
theorem dX11_wordIs_76 : decode cX11_wordIs 76 = .ok (.iconst 1, 1) := by decide +kernel
theorem dX11_wordIs_77 : decode cX11_wordIs 77 = .ok (.invokevirtual 72, 3) := by decide +kernel
theorem dX11_wordIs_80 : decode cX11_wordIs 80 = .ok (.ireturn, 1) := by decide +kernel
theorem dX11_feed_0 : decode cX11_feed 0 = .ok (.iload_n 3, 1) := by decide +kernel
theorem dX11_feed_1 : decode cX11_feed 1 = .ok (.iconst 1, 1) := by decide +kernel
theorem dX11_feed_2 : decode cX11_feed 2 = .ok (.if_icmp .lt 9, 3) := by decide +kernel
theorem dX11_feed_5 : decode cX11_feed 5 = .ok (.iload_n 3, 1) := by decide +kernel
theorem dX11_feed_6 : decode cX11_feed 6 = .ok (.bipush 8, 2) := by decide +kernel
theorem dX11_feed_8 : decode cX11_feed 8 = .ok (.if_icmp .le 9, 3) := by decide +kernel
theorem dX11_feed_11 : decode cX11_feed 11 = .ok (.aload_n 0, 1) := by decide +kernel
theorem dX11_feed_12 : decode cX11_feed 12 = .ok (.iconst 1, 1) := by decide +kernel
theorem dX11_feed_13 : decode cX11_feed 13 = .ok (.invokevirtual 72, 3) := by decide +kernel
theorem dX11_feed_16 : decode cX11_feed 16 = .ok (.ireturn, 1) := by decide +kernel
theorem dX11_feed_17 : decode cX11_feed 17 = .ok (.aload_n 0, 1) := by decide +kernel
theorem dX11_feed_18 : decode cX11_feed 18 = .ok (.getfield 12, 3) := by decide +kernel
theorem dX11_feed_21 : decode cX11_feed 21 = .ok (.getfield 161, 3) := by decide +kernel
theorem dX11_feed_24 : decode cX11_feed 24 = .ok (.iload_n 3, 1) := by decide +kernel
theorem dX11_feed_25 : decode cX11_feed 25 = .ok (.iadd, 1) := by decide +kernel
theorem dX11_feed_26 : decode cX11_feed 26 = .ok (.bipush 60, 2) := by decide +kernel
theorem dX11_feed_28 : decode cX11_feed 28 = .ok (.if_icmp .le 9, 3) := by decide +kernel
theorem dX11_feed_31 : decode cX11_feed 31 = .ok (.aload_n 0, 1) := by decide +kernel
theorem dX11_feed_32 : decode cX11_feed 32 = .ok (.iconst 4, 1) := by decide +kernel
theorem dX11_feed_33 : decode cX11_feed 33 = .ok (.invokevirtual 72, 3) := by decide +kernel
theorem dX11_feed_36 : decode cX11_feed 36 = .ok (.ireturn, 1) := by decide +kernel
theorem dX11_feed_37 : decode cX11_feed 37 = .ok (.iconst 0, 1) := by decide +kernel
theorem dX11_feed_38 : decode cX11_feed 38 = .ok (.istore 4, 2) := by decide +kernel
theorem dX11_feed_40 : decode cX11_feed 40 = .ok (.iload 4, 2) := by decide +kernel
theorem dX11_feed_42 : decode cX11_feed 42 = .ok (.iload_n 3, 1) := by decide +kernel
theorem dX11_feed_43 : decode cX11_feed 43 = .ok (.if_icmp .ge 39, 3) := by decide +kernel
theorem dX11_feed_46 : decode cX11_feed 46 = .ok (.aload_n 0, 1) := by decide +kernel
theorem dX11_feed_47 : decode cX11_feed 47 = .ok (.getfield 12, 3) := by decide +kernel
theorem dX11_feed_50 : decode cX11_feed 50 = .ok (.getfield 164, 3) := by decide +kernel
theorem dX11_feed_53 : decode cX11_feed 53 = .ok (.aload_n 0, 1) := by decide +kernel
theorem dX11_feed_54 : decode cX11_feed 54 = .ok (.getfield 12, 3) := by decide +kernel
theorem dX11_feed_57 : decode cX11_feed 57 = .ok (.getfield 161, 3) := by decide +kernel
theorem dX11_feed_60 : decode cX11_feed 60 = .ok (.iload 4, 2) := by decide +kernel
theorem dX11_feed_62 : decode cX11_feed 62 = .ok (.iadd, 1) := by decide +kernel
theorem dX11_feed_63 : decode cX11_feed 63 = .ok (.lload_n 1, 1) := by decide +kernel
theorem dX11_feed_64 : decode cX11_feed 64 = .ok (.bipush 8, 2) := by decide +kernel
theorem dX11_feed_66 : decode cX11_feed 66 = .ok (.iload 4, 2) := by decide +kernel
theorem dX11_feed_68 : decode cX11_feed 68 = .ok (.imul, 1) := by decide +kernel
theorem dX11_feed_69 : decode cX11_feed 69 = .ok (.lushr, 1) := by decide +kernel
theorem dX11_feed_70 : decode cX11_feed 70 = .ok (.l2i, 1) := by decide +kernel
theorem dX11_feed_71 : decode cX11_feed 71 = .ok (.sipush 255, 3) := by decide +kernel
theorem dX11_feed_74 : decode cX11_feed 74 = .ok (.iand, 1) := by decide +kernel
theorem dX11_feed_75 : decode cX11_feed 75 = .ok (.iastore, 1) := by decide +kernel
theorem dX11_feed_76 : decode cX11_feed 76 = .ok (.iinc 4 1, 3) := by decide +kernel
theorem dX11_feed_79 : decode cX11_feed 79 = .ok (.goto (-39), 3) := by decide +kernel
theorem dX11_feed_82 : decode cX11_feed 82 = .ok (.aload_n 0, 1) := by decide +kernel
theorem dX11_feed_83 : decode cX11_feed 83 = .ok (.getfield 12, 3) := by decide +kernel
theorem dX11_feed_86 : decode cX11_feed 86 = .ok (.dup, 1) := by decide +kernel
theorem dX11_feed_87 : decode cX11_feed 87 = .ok (.getfield 161, 3) := by decide +kernel
theorem dX11_feed_90 : decode cX11_feed 90 = .ok (.iload_n 3, 1) := by decide +kernel
theorem dX11_feed_91 : decode cX11_feed 91 = .ok (.iadd, 1) := by decide +kernel
theorem dX11_feed_92 : decode cX11_feed 92 = .ok (.putfield 161, 3) := by decide +kernel
theorem dX11_feed_95 : decode cX11_feed 95 = .ok (.aload_n 0, 1) := by decide +kernel
theorem dX11_feed_96 : decode cX11_feed 96 = .ok (.getfield 12, 3) := by decide +kernel
theorem dX11_feed_99 : decode cX11_feed 99 = .ok (.getfield 161, 3) := by decide +kernel
theorem dX11_feed_102 : decode cX11_feed 102 = .ok (.ireturn, 1) := by decide +kernel
theorem dX11_text_0 : decode cX11_text 0 = .ok (.iload_n 1, 1) := by decide +kernel
theorem dX11_text_1 : decode cX11_text 1 = .ok (.ifCond .lt 8, 3) := by decide +kernel
theorem dX11_text_4 : decode cX11_text 4 = .ok (.iload_n 1, 1) := by decide +kernel
theorem dX11_text_5 : decode cX11_text 5 = .ok (.iconst 2, 1) := by decide +kernel
theorem dX11_text_6 : decode cX11_text 6 = .ok (.if_icmp .lt 9, 3) := by decide +kernel
theorem dX11_text_9 : decode cX11_text 9 = .ok (.aload_n 0, 1) := by decide +kernel
theorem dX11_text_10 : decode cX11_text 10 = .ok (.iconst 1, 1) := by decide +kernel
theorem dX11_text_11 : decode cX11_text 11 = .ok (.invokevirtual 72, 3) := by decide +kernel
theorem dX11_text_14 : decode cX11_text 14 = .ok (.ireturn, 1) := by decide +kernel
theorem dX11_text_15 : decode cX11_text 15 = .ok (.aload_n 0, 1) := by decide +kernel
theorem dX11_text_16 : decode cX11_text 16 = .ok (.getfield 50, 3) := by decide +kernel
theorem dX11_text_19 : decode cX11_text 19 = .ok (.aload_n 0, 1) := by decide +kernel
theorem dX11_text_20 : decode cX11_text 20 = .ok (.getfield 12, 3) := by decide +kernel
theorem dX11_text_23 : decode cX11_text 23 = .ok (.getfield 164, 3) := by decide +kernel
theorem dX11_text_26 : decode cX11_text 26 = .ok (.aload_n 0, 1) := by decide +kernel
theorem dX11_text_27 : decode cX11_text 27 = .ok (.getfield 12, 3) := by decide +kernel
theorem dX11_text_30 : decode cX11_text 30 = .ok (.getfield 161, 3) := by decide +kernel
theorem dX11_text_33 : decode cX11_text 33 = .ok (.iload_n 1, 1) := by decide +kernel
theorem dX11_text_34 : decode cX11_text 34 = .ok (.ifCond .ne 8, 3) := by decide +kernel
theorem dX11_text_37 : decode cX11_text 37 = .ok (.ldc 167, 2) := by decide +kernel
theorem dX11_text_39 : decode cX11_text 39 = .ok (.goto 5, 3) := by decide +kernel
theorem dX11_text_42 : decode cX11_text 42 = .ok (.ldc 169, 2) := by decide +kernel
theorem dX11_text_44 : decode cX11_text 44 = .ok (.invokevirtual 171, 3) := by decide +kernel
theorem dX11_text_47 : decode cX11_text 47 = .ok (.istore_n 2, 1) := by decide +kernel
theorem dX11_text_48 : decode cX11_text 48 = .ok (.aload_n 0, 1) := by decide +kernel
theorem dX11_text_49 : decode cX11_text 49 = .ok (.getfield 12, 3) := by decide +kernel
theorem dX11_text_52 : decode cX11_text 52 = .ok (.iconst 0, 1) := by decide +kernel
theorem dX11_text_53 : decode cX11_text 53 = .ok (.putfield 161, 3) := by decide +kernel
theorem dX11_text_56 : decode cX11_text 56 = .ok (.iload_n 2, 1) := by decide +kernel
theorem dX11_text_57 : decode cX11_text 57 = .ok (.ifCond .lt 8, 3) := by decide +kernel
theorem dX11_text_60 : decode cX11_text 60 = .ok (.bipush (-10), 2) := by decide +kernel
theorem dX11_text_62 : decode cX11_text 62 = .ok (.iload_n 2, 1) := by decide +kernel
theorem dX11_text_63 : decode cX11_text 63 = .ok (.isub, 1) := by decide +kernel
theorem dX11_text_64 : decode cX11_text 64 = .ok (.ireturn, 1) := by decide +kernel
theorem dX11_text_65 : decode cX11_text 65 = .ok (.aload_n 0, 1) := by decide +kernel
theorem dX11_text_66 : decode cX11_text 66 = .ok (.getfield 50, 3) := by decide +kernel
theorem dX11_text_69 : decode cX11_text 69 = .ok (.aload_n 0, 1) := by decide +kernel
theorem dX11_text_70 : decode cX11_text 70 = .ok (.getfield 12, 3) := by decide +kernel
theorem dX11_text_73 : decode cX11_text 73 = .ok (.iload_n 1, 1) := by decide +kernel
theorem dX11_text_74 : decode cX11_text 74 = .ok (.invokevirtual 175, 3) := by decide +kernel
theorem dX11_text_77 : decode cX11_text 77 = .ok (.invokevirtual 179, 3) := by decide +kernel
theorem dX11_text_80 : decode cX11_text 80 = .ok (.iconst 1, 1) := by decide +kernel
theorem dX11_text_81 : decode cX11_text 81 = .ok (.ireturn, 1) := by decide +kernel
theorem dX11_untell_0 : decode cX11_untell 0 = .ok (.iload_n 1, 1) := by decide +kernel
theorem dX11_untell_1 : decode cX11_untell 1 = .ok (.ifCond .lt 8, 3) := by decide +kernel
theorem dX11_untell_4 : decode cX11_untell 4 = .ok (.iload_n 1, 1) := by decide +kernel
theorem dX11_untell_5 : decode cX11_untell 5 = .ok (.iconst 2, 1) := by decide +kernel
theorem dX11_untell_6 : decode cX11_untell 6 = .ok (.if_icmp .lt 9, 3) := by decide +kernel
theorem dX11_untell_9 : decode cX11_untell 9 = .ok (.aload_n 0, 1) := by decide +kernel
theorem dX11_untell_10 : decode cX11_untell 10 = .ok (.iconst 1, 1) := by decide +kernel
theorem dX11_untell_11 : decode cX11_untell 11 = .ok (.invokevirtual 72, 3) := by decide +kernel
theorem dX11_untell_14 : decode cX11_untell 14 = .ok (.ireturn, 1) := by decide +kernel
theorem dX11_untell_15 : decode cX11_untell 15 = .ok (.aload_n 0, 1) := by decide +kernel
theorem dX11_untell_16 : decode cX11_untell 16 = .ok (.getfield 12, 3) := by decide +kernel
theorem dX11_untell_19 : decode cX11_untell 19 = .ok (.iload_n 1, 1) := by decide +kernel
theorem dX11_untell_20 : decode cX11_untell 20 = .ok (.invokevirtual 175, 3) := by decide +kernel
theorem dX11_untell_23 : decode cX11_untell 23 = .ok (.astore_n 2, 1) := by decide +kernel
theorem dX11_untell_24 : decode cX11_untell 24 = .ok (.aload_n 2, 1) := by decide +kernel
theorem dX11_untell_25 : decode cX11_untell 25 = .ok (.invokevirtual 183, 3) := by decide +kernel
theorem dX11_untell_28 : decode cX11_untell 28 = .ok (.ifCond .eq 7, 3) := by decide +kernel
theorem dX11_untell_31 : decode cX11_untell 31 = .ok (.iconst 1, 1) := by decide +kernel
theorem dX11_untell_32 : decode cX11_untell 32 = .ok (.goto 4, 3) := by decide +kernel
theorem dX11_untell_35 : decode cX11_untell 35 = .ok (.iconst 0, 1) := by decide +kernel
theorem dX11_untell_36 : decode cX11_untell 36 = .ok (.istore_n 3, 1) := by decide +kernel
theorem dX11_untell_37 : decode cX11_untell 37 = .ok (.aload_n 2, 1) := by decide +kernel
theorem dX11_untell_38 : decode cX11_untell 38 = .ok (.iconst 0, 1) := by decide +kernel
theorem dX11_untell_39 : decode cX11_untell 39 = .ok (.putfield 189, 3) := by decide +kernel
theorem dX11_untell_42 : decode cX11_untell 42 = .ok (.iload_n 3, 1) := by decide +kernel
theorem dX11_untell_43 : decode cX11_untell 43 = .ok (.ireturn, 1) := by decide +kernel
theorem dX11_says_0 : decode cX11_says 0 = .ok (.aload_n 0, 1) := by decide +kernel
theorem dX11_says_1 : decode cX11_says 1 = .ok (.getfield 12, 3) := by decide +kernel
theorem dX11_says_4 : decode cX11_says 4 = .ok (.iload_n 1, 1) := by decide +kernel
theorem dX11_says_5 : decode cX11_says 5 = .ok (.invokevirtual 88, 3) := by decide +kernel
theorem dX11_says_8 : decode cX11_says 8 = .ok (.ifCond .eq 8, 3) := by decide +kernel
theorem dX11_says_11 : decode cX11_says 11 = .ok (.iload_n 2, 1) := by decide +kernel
theorem dX11_says_12 : decode cX11_says 12 = .ok (.iconst (-1), 1) := by decide +kernel
theorem dX11_says_13 : decode cX11_says 13 = .ok (.if_icmp .ge 9, 3) := by decide +kernel
theorem dX11_says_16 : decode cX11_says 16 = .ok (.aload_n 0, 1) := by decide +kernel
theorem dX11_says_17 : decode cX11_says 17 = .ok (.iconst 1, 1) := by decide +kernel
theorem dX11_says_18 : decode cX11_says 18 = .ok (.invokevirtual 72, 3) := by decide +kernel
theorem dX11_says_21 : decode cX11_says 21 = .ok (.ireturn, 1) := by decide +kernel
theorem dX11_says_22 : decode cX11_says 22 = .ok (.aload_n 0, 1) := by decide +kernel
theorem dX11_says_23 : decode cX11_says 23 = .ok (.getfield 12, 3) := by decide +kernel
theorem dX11_says_26 : decode cX11_says 26 = .ok (.aload_n 0, 1) := by decide +kernel
theorem dX11_says_27 : decode cX11_says 27 = .ok (.getfield 12, 3) := by decide +kernel
theorem dX11_says_30 : decode cX11_says 30 = .ok (.getfield 80, 3) := by decide +kernel
theorem dX11_says_33 : decode cX11_says 33 = .ok (.iload_n 1, 1) := by decide +kernel
theorem dX11_says_34 : decode cX11_says 34 = .ok (.aaload, 1) := by decide +kernel
theorem dX11_says_35 : decode cX11_says 35 = .ok (.iload_n 1, 1) := by decide +kernel
theorem dX11_says_36 : decode cX11_says 36 = .ok (.aload_n 0, 1) := by decide +kernel
theorem dX11_says_37 : decode cX11_says 37 = .ok (.getfield 36, 3) := by decide +kernel
theorem dX11_says_40 : decode cX11_says 40 = .ok (.invokevirtual 92, 3) := by decide +kernel
theorem dX11_says_43 : decode cX11_says 43 = .ok (.aload_n 0, 1) := by decide +kernel
theorem dX11_says_44 : decode cX11_says 44 = .ok (.getfield 29, 3) := by decide +kernel
theorem dX11_says_47 : decode cX11_says 47 = .ok (.aload_n 0, 1) := by decide +kernel
theorem dX11_says_48 : decode cX11_says 48 = .ok (.getfield 12, 3) := by decide +kernel
theorem dX11_says_51 : decode cX11_says 51 = .ok (.getfield 106, 3) := by decide +kernel
theorem dX11_says_54 : decode cX11_says 54 = .ok (.aload_n 0, 1) := by decide +kernel
theorem dX11_says_55 : decode cX11_says 55 = .ok (.getfield 36, 3) := by decide +kernel
theorem dX11_says_58 : decode cX11_says 58 = .ok (.invokevirtual 190, 3) := by decide +kernel
theorem dX11_says_61 : decode cX11_says 61 = .ok (.ifCond .ne 9, 3) := by decide +kernel
theorem dX11_says_64 : decode cX11_says 64 = .ok (.aload_n 0, 1) := by decide +kernel
theorem dX11_says_65 : decode cX11_says 65 = .ok (.iconst 2, 1) := by decide +kernel
theorem dX11_says_66 : decode cX11_says 66 = .ok (.invokevirtual 72, 3) := by decide +kernel
theorem dX11_says_69 : decode cX11_says 69 = .ok (.ireturn, 1) := by decide +kernel
theorem dX11_says_70 : decode cX11_says 70 = .ok (.iload_n 2, 1) := by decide +kernel
theorem dX11_says_71 : decode cX11_says 71 = .ok (.iconst (-1), 1) := by decide +kernel
theorem dX11_says_72 : decode cX11_says 72 = .ok (.if_icmp .ne 11, 3) := by decide +kernel
theorem dX11_says_75 : decode cX11_says 75 = .ok (.aload_n 0, 1) := by decide +kernel
theorem dX11_says_76 : decode cX11_says 76 = .ok (.getfield 29, 3) := by decide +kernel
theorem dX11_says_79 : decode cX11_says 79 = .ok (.getfield 193, 3) := by decide +kernel
theorem dX11_says_82 : decode cX11_says 82 = .ok (.ireturn, 1) := by decide +kernel
theorem dX11_says_83 : decode cX11_says 83 = .ok (.iload_n 2, 1) := by decide +kernel
theorem dX11_says_84 : decode cX11_says 84 = .ok (.aload_n 0, 1) := by decide +kernel
theorem dX11_says_85 : decode cX11_says 85 = .ok (.getfield 29, 3) := by decide +kernel
theorem dX11_says_88 : decode cX11_says 88 = .ok (.getfield 193, 3) := by decide +kernel
theorem dX11_says_91 : decode cX11_says 91 = .ok (.if_icmp .ge 15, 3) := by decide +kernel
theorem dX11_says_94 : decode cX11_says 94 = .ok (.aload_n 0, 1) := by decide +kernel
theorem dX11_says_95 : decode cX11_says 95 = .ok (.getfield 29, 3) := by decide +kernel
theorem dX11_says_98 : decode cX11_says 98 = .ok (.getfield 196, 3) := by decide +kernel
theorem dX11_says_101 : decode cX11_says 101 = .ok (.iload_n 2, 1) := by decide +kernel
theorem dX11_says_102 : decode cX11_says 102 = .ok (.iaload, 1) := by decide +kernel
theorem dX11_says_103 : decode cX11_says 103 = .ok (.goto 8, 3) := by decide +kernel
theorem dX11_says_106 : decode cX11_says 106 = .ok (.aload_n 0, 1) := by decide +kernel
theorem dX11_says_107 : decode cX11_says 107 = .ok (.iconst 1, 1) := by decide +kernel
theorem dX11_says_108 : decode cX11_says 108 = .ok (.invokevirtual 72, 3) := by decide +kernel
theorem dX11_says_111 : decode cX11_says 111 = .ok (.ireturn, 1) := by decide +kernel
theorem dX11_doors_0 : decode cX11_doors 0 = .ok (.aload_n 0, 1) := by decide +kernel
theorem dX11_doors_1 : decode cX11_doors 1 = .ok (.getfield 12, 3) := by decide +kernel
theorem dX11_doors_4 : decode cX11_doors 4 = .ok (.iload_n 1, 1) := by decide +kernel
theorem dX11_doors_5 : decode cX11_doors 5 = .ok (.invokevirtual 88, 3) := by decide +kernel
theorem dX11_doors_8 : decode cX11_doors 8 = .ok (.ifCond .eq 14, 3) := by decide +kernel
theorem dX11_doors_11 : decode cX11_doors 11 = .ok (.iload_n 2, 1) := by decide +kernel
theorem dX11_doors_12 : decode cX11_doors 12 = .ok (.iconst 1, 1) := by decide +kernel
theorem dX11_doors_13 : decode cX11_doors 13 = .ok (.if_icmp .lt 9, 3) := by decide +kernel
theorem dX11_doors_16 : decode cX11_doors 16 = .ok (.iload_n 2, 1) := by decide +kernel
theorem dX11_doors_17 : decode cX11_doors 17 = .ok (.bipush 12, 2) := by decide +kernel
theorem dX11_doors_19 : decode cX11_doors 19 = .ok (.if_icmp .le 9, 3) := by decide +kernel
theorem dX11_doors_22 : decode cX11_doors 22 = .ok (.aload_n 0, 1) := by decide +kernel
theorem dX11_doors_23 : decode cX11_doors 23 = .ok (.iconst 1, 1) := by decide +kernel
theorem dX11_doors_24 : decode cX11_doors 24 = .ok (.invokevirtual 72, 3) := by decide +kernel
theorem dX11_doors_27 : decode cX11_doors 27 = .ok (.ireturn, 1) := by decide +kernel
theorem dX11_doors_28 : decode cX11_doors 28 = .ok (.aload_n 0, 1) := by decide +kernel
theorem dX11_doors_29 : decode cX11_doors 29 = .ok (.getfield 12, 3) := by decide +kernel
theorem dX11_doors_32 : decode cX11_doors 32 = .ok (.getfield 80, 3) := by decide +kernel
theorem dX11_doors_35 : decode cX11_doors 35 = .ok (.iload_n 1, 1) := by decide +kernel
theorem dX11_doors_36 : decode cX11_doors 36 = .ok (.aaload, 1) := by decide +kernel
theorem dX11_doors_37 : decode cX11_doors 37 = .ok (.astore_n 3, 1) := by decide +kernel
theorem dX11_doors_38 : decode cX11_doors 38 = .ok (.iconst 0, 1) := by decide +kernel
theorem dX11_doors_39 : decode cX11_doors 39 = .ok (.istore 4, 2) := by decide +kernel
theorem dX11_doors_41 : decode cX11_doors 41 = .ok (.iconst 0, 1) := by decide +kernel
theorem dX11_doors_42 : decode cX11_doors 42 = .ok (.istore 5, 2) := by decide +kernel
theorem dX11_doors_44 : decode cX11_doors 44 = .ok (.iload 5, 2) := by decide +kernel
theorem dX11_doors_46 : decode cX11_doors 46 = .ok (.iload_n 2, 1) := by decide +kernel
theorem dX11_doors_47 : decode cX11_doors 47 = .ok (.iadd, 1) := by decide +kernel
theorem dX11_doors_48 : decode cX11_doors 48 = .ok (.aload_n 3, 1) := by decide +kernel
theorem dX11_doors_49 : decode cX11_doors 49 = .ok (.getfield 102, 3) := by decide +kernel
theorem dX11_doors_52 : decode cX11_doors 52 = .ok (.if_icmp .gt 73, 3) := by decide +kernel
theorem dX11_doors_55 : decode cX11_doors 55 = .ok (.aload_n 0, 1) := by decide +kernel
theorem dX11_doors_56 : decode cX11_doors 56 = .ok (.getfield 43, 3) := by decide +kernel
theorem dX11_doors_59 : decode cX11_doors 59 = .ok (.aload_n 3, 1) := by decide +kernel
theorem dX11_doors_60 : decode cX11_doors 60 = .ok (.invokevirtual 199, 3) := by decide +kernel
theorem dX11_doors_63 : decode cX11_doors 63 = .ok (.aload_n 0, 1) := by decide +kernel
theorem dX11_doors_64 : decode cX11_doors 64 = .ok (.getfield 43, 3) := by decide +kernel
theorem dX11_doors_67 : decode cX11_doors 67 = .ok (.iload 5, 2) := by decide +kernel
theorem dX11_doors_69 : decode cX11_doors 69 = .ok (.iload_n 2, 1) := by decide +kernel
theorem dX11_doors_70 : decode cX11_doors 70 = .ok (.invokevirtual 203, 3) := by decide +kernel
theorem dX11_doors_73 : decode cX11_doors 73 = .ok (.aload_n 0, 1) := by decide +kernel
theorem dX11_doors_74 : decode cX11_doors 74 = .ok (.getfield 12, 3) := by decide +kernel
theorem dX11_doors_77 : decode cX11_doors 77 = .ok (.aload_n 0, 1) := by decide +kernel
theorem dX11_doors_78 : decode cX11_doors 78 = .ok (.getfield 43, 3) := by decide +kernel
theorem dX11_doors_81 : decode cX11_doors 81 = .ok (.iload_n 1, 1) := by decide +kernel
theorem dX11_doors_82 : decode cX11_doors 82 = .ok (.aload_n 0, 1) := by decide +kernel
theorem dX11_doors_83 : decode cX11_doors 83 = .ok (.getfield 36, 3) := by decide +kernel
theorem dX11_doors_86 : decode cX11_doors 86 = .ok (.invokevirtual 92, 3) := by decide +kernel
theorem dX11_doors_89 : decode cX11_doors 89 = .ok (.aload_n 0, 1) := by decide +kernel
theorem dX11_doors_90 : decode cX11_doors 90 = .ok (.getfield 29, 3) := by decide +kernel
theorem dX11_doors_93 : decode cX11_doors 93 = .ok (.aload_n 0, 1) := by decide +kernel
theorem dX11_doors_94 : decode cX11_doors 94 = .ok (.getfield 12, 3) := by decide +kernel
theorem dX11_doors_97 : decode cX11_doors 97 = .ok (.getfield 106, 3) := by decide +kernel
theorem dX11_doors_100 : decode cX11_doors 100 = .ok (.aload_n 0, 1) := by decide +kernel
theorem dX11_doors_101 : decode cX11_doors 101 = .ok (.getfield 36, 3) := by decide +kernel
theorem dX11_doors_104 : decode cX11_doors 104 = .ok (.invokevirtual 110, 3) := by decide +kernel
theorem dX11_doors_107 : decode cX11_doors 107 = .ok (.ifCond .eq 12, 3) := by decide +kernel
theorem dX11_doors_110 : decode cX11_doors 110 = .ok (.iload 4, 2) := by decide +kernel
theorem dX11_doors_112 : decode cX11_doors 112 = .ok (.iconst 1, 1) := by decide +kernel
theorem dX11_doors_113 : decode cX11_doors 113 = .ok (.iload 5, 2) := by decide +kernel
theorem dX11_doors_115 : decode cX11_doors 115 = .ok (.ishl, 1) := by decide +kernel
theorem dX11_doors_116 : decode cX11_doors 116 = .ok (.ior, 1) := by decide +kernel
theorem dX11_doors_117 : decode cX11_doors 117 = .ok (.istore 4, 2) := by decide +kernel
theorem dX11_doors_119 : decode cX11_doors 119 = .ok (.iinc 5 1, 3) := by decide +kernel
theorem dX11_doors_122 : decode cX11_doors 122 = .ok (.goto (-78), 3) := by decide +kernel
theorem dX11_doors_125 : decode cX11_doors 125 = .ok (.iload 4, 2) := by decide +kernel
theorem dX11_doors_127 : decode cX11_doors 127 = .ok (.ireturn, 1) := by decide +kernel
theorem dX11_readsWith_0 : decode cX11_readsWith 0 = .ok (.aload_n 0, 1) := by decide +kernel
theorem dX11_readsWith_1 : decode cX11_readsWith 1 = .ok (.getfield 43, 3) := by decide +kernel
theorem dX11_readsWith_4 : decode cX11_readsWith 4 = .ok (.aload_n 0, 1) := by decide +kernel
theorem dX11_readsWith_5 : decode cX11_readsWith 5 = .ok (.getfield 12, 3) := by decide +kernel
theorem dX11_readsWith_8 : decode cX11_readsWith 8 = .ok (.getfield 80, 3) := by decide +kernel
theorem dX11_readsWith_11 : decode cX11_readsWith 11 = .ok (.iload_n 1, 1) := by decide +kernel
theorem dX11_readsWith_12 : decode cX11_readsWith 12 = .ok (.aaload, 1) := by decide +kernel
theorem dX11_readsWith_13 : decode cX11_readsWith 13 = .ok (.invokevirtual 199, 3) := by decide +kernel
theorem dX11_readsWith_16 : decode cX11_readsWith 16 = .ok (.aload_n 0, 1) := by decide +kernel
theorem dX11_readsWith_17 : decode cX11_readsWith 17 = .ok (.getfield 43, 3) := by decide +kernel
theorem dX11_readsWith_20 : decode cX11_readsWith 20 = .ok (.getfield 132, 3) := by decide +kernel
theorem dX11_readsWith_23 : decode cX11_readsWith 23 = .ok (.iload_n 2, 1) := by decide +kernel
theorem dX11_readsWith_24 : decode cX11_readsWith 24 = .ok (.iload_n 3, 1) := by decide +kernel
theorem dX11_readsWith_25 : decode cX11_readsWith 25 = .ok (.iastore, 1) := by decide +kernel
theorem dX11_readsWith_26 : decode cX11_readsWith 26 = .ok (.aload_n 0, 1) := by decide +kernel
theorem dX11_readsWith_27 : decode cX11_readsWith 27 = .ok (.getfield 12, 3) := by decide +kernel
theorem dX11_readsWith_30 : decode cX11_readsWith 30 = .ok (.aload_n 0, 1) := by decide +kernel
theorem dX11_readsWith_31 : decode cX11_readsWith 31 = .ok (.getfield 43, 3) := by decide +kernel
theorem dX11_readsWith_34 : decode cX11_readsWith 34 = .ok (.iload_n 1, 1) := by decide +kernel
theorem dX11_readsWith_35 : decode cX11_readsWith 35 = .ok (.aload_n 0, 1) := by decide +kernel
theorem dX11_readsWith_36 : decode cX11_readsWith 36 = .ok (.getfield 36, 3) := by decide +kernel
theorem dX11_readsWith_39 : decode cX11_readsWith 39 = .ok (.invokevirtual 92, 3) := by decide +kernel
theorem dX11_readsWith_42 : decode cX11_readsWith 42 = .ok (.aload_n 0, 1) := by decide +kernel
theorem dX11_readsWith_43 : decode cX11_readsWith 43 = .ok (.getfield 29, 3) := by decide +kernel
theorem dX11_readsWith_46 : decode cX11_readsWith 46 = .ok (.aload_n 0, 1) := by decide +kernel
theorem dX11_readsWith_47 : decode cX11_readsWith 47 = .ok (.getfield 12, 3) := by decide +kernel
theorem dX11_readsWith_50 : decode cX11_readsWith 50 = .ok (.getfield 106, 3) := by decide +kernel
theorem dX11_readsWith_53 : decode cX11_readsWith 53 = .ok (.aload_n 0, 1) := by decide +kernel
theorem dX11_readsWith_54 : decode cX11_readsWith 54 = .ok (.getfield 36, 3) := by decide +kernel
theorem dX11_readsWith_57 : decode cX11_readsWith 57 = .ok (.invokevirtual 110, 3) := by decide +kernel
theorem dX11_readsWith_60 : decode cX11_readsWith 60 = .ok (.ireturn, 1) := by decide +kernel
theorem dX11_spare_0 : decode cX11_spare 0 = .ok (.aload_n 0, 1) := by decide +kernel
theorem dX11_spare_1 : decode cX11_spare 1 = .ok (.getfield 12, 3) := by decide +kernel
theorem dX11_spare_4 : decode cX11_spare 4 = .ok (.iload_n 1, 1) := by decide +kernel
theorem dX11_spare_5 : decode cX11_spare 5 = .ok (.invokevirtual 88, 3) := by decide +kernel
theorem dX11_spare_8 : decode cX11_spare 8 = .ok (.ifCond .ne 9, 3) := by decide +kernel
theorem dX11_spare_11 : decode cX11_spare 11 = .ok (.aload_n 0, 1) := by decide +kernel
theorem dX11_spare_12 : decode cX11_spare 12 = .ok (.iconst 1, 1) := by decide +kernel
theorem dX11_spare_13 : decode cX11_spare 13 = .ok (.invokevirtual 72, 3) := by decide +kernel
theorem dX11_spare_16 : decode cX11_spare 16 = .ok (.ireturn, 1) := by decide +kernel
theorem dX11_spare_17 : decode cX11_spare 17 = .ok (.aload_n 0, 1) := by decide +kernel
theorem dX11_spare_18 : decode cX11_spare 18 = .ok (.getfield 12, 3) := by decide +kernel
theorem dX11_spare_21 : decode cX11_spare 21 = .ok (.getfield 80, 3) := by decide +kernel
theorem dX11_spare_24 : decode cX11_spare 24 = .ok (.iload_n 1, 1) := by decide +kernel
theorem dX11_spare_25 : decode cX11_spare 25 = .ok (.aaload, 1) := by decide +kernel
theorem dX11_spare_26 : decode cX11_spare 26 = .ok (.astore_n 2, 1) := by decide +kernel
theorem dX11_spare_27 : decode cX11_spare 27 = .ok (.iconst 0, 1) := by decide +kernel
theorem dX11_spare_28 : decode cX11_spare 28 = .ok (.istore_n 3, 1) := by decide +kernel
theorem dX11_spare_29 : decode cX11_spare 29 = .ok (.iconst 0, 1) := by decide +kernel
theorem dX11_spare_30 : decode cX11_spare 30 = .ok (.istore 4, 2) := by decide +kernel
theorem dX11_spare_32 : decode cX11_spare 32 = .ok (.iload 4, 2) := by decide +kernel
theorem dX11_spare_34 : decode cX11_spare 34 = .ok (.aload_n 2, 1) := by decide +kernel
theorem dX11_spare_35 : decode cX11_spare 35 = .ok (.getfield 102, 3) := by decide +kernel
theorem dX11_spare_38 : decode cX11_spare 38 = .ok (.if_icmp .ge 37, 3) := by decide +kernel
theorem dX11_spare_41 : decode cX11_spare 41 = .ok (.aload_n 2, 1) := by decide +kernel
theorem dX11_spare_42 : decode cX11_spare 42 = .ok (.getfield 132, 3) := by decide +kernel
theorem dX11_spare_45 : decode cX11_spare 45 = .ok (.iload 4, 2) := by decide +kernel
theorem dX11_spare_47 : decode cX11_spare 47 = .ok (.iaload, 1) := by decide +kernel
theorem dX11_spare_48 : decode cX11_spare 48 = .ok (.ifCond .eq 21, 3) := by decide +kernel
theorem dX11_spare_51 : decode cX11_spare 51 = .ok (.aload_n 0, 1) := by decide +kernel
theorem dX11_spare_52 : decode cX11_spare 52 = .ok (.iload_n 1, 1) := by decide +kernel
theorem dX11_spare_53 : decode cX11_spare 53 = .ok (.iload 4, 2) := by decide +kernel
theorem dX11_spare_55 : decode cX11_spare 55 = .ok (.iconst 0, 1) := by decide +kernel
theorem dX11_spare_56 : decode cX11_spare 56 = .ok (.invokevirtual 206, 3) := by decide +kernel
theorem dX11_spare_59 : decode cX11_spare 59 = .ok (.ifCond .eq 10, 3) := by decide +kernel
theorem dX11_spare_62 : decode cX11_spare 62 = .ok (.iload_n 3, 1) := by decide +kernel
theorem dX11_spare_63 : decode cX11_spare 63 = .ok (.iconst 1, 1) := by decide +kernel
theorem dX11_spare_64 : decode cX11_spare 64 = .ok (.iload 4, 2) := by decide +kernel
theorem dX11_spare_66 : decode cX11_spare 66 = .ok (.ishl, 1) := by decide +kernel
theorem dX11_spare_67 : decode cX11_spare 67 = .ok (.ior, 1) := by decide +kernel
theorem dX11_spare_68 : decode cX11_spare 68 = .ok (.istore_n 3, 1) := by decide +kernel
theorem dX11_spare_69 : decode cX11_spare 69 = .ok (.iinc 4 1, 3) := by decide +kernel
theorem dX11_spare_72 : decode cX11_spare 72 = .ok (.goto (-40), 3) := by decide +kernel
theorem dX11_spare_75 : decode cX11_spare 75 = .ok (.iload_n 3, 1) := by decide +kernel
theorem dX11_spare_76 : decode cX11_spare 76 = .ok (.ireturn, 1) := by decide +kernel
theorem dX11_othersAt_0 : decode cX11_othersAt 0 = .ok (.aload_n 0, 1) := by decide +kernel
theorem dX11_othersAt_1 : decode cX11_othersAt 1 = .ok (.getfield 12, 3) := by decide +kernel
theorem dX11_othersAt_4 : decode cX11_othersAt 4 = .ok (.getfield 80, 3) := by decide +kernel
theorem dX11_othersAt_7 : decode cX11_othersAt 7 = .ok (.iload_n 1, 1) := by decide +kernel
theorem dX11_othersAt_8 : decode cX11_othersAt 8 = .ok (.aaload, 1) := by decide +kernel
theorem dX11_othersAt_9 : decode cX11_othersAt 9 = .ok (.getfield 132, 3) := by decide +kernel
theorem dX11_othersAt_12 : decode cX11_othersAt 12 = .ok (.iload_n 2, 1) := by decide +kernel
theorem dX11_othersAt_13 : decode cX11_othersAt 13 = .ok (.iaload, 1) := by decide +kernel
theorem dX11_othersAt_14 : decode cX11_othersAt 14 = .ok (.istore_n 3, 1) := by decide +kernel
theorem dX11_othersAt_15 : decode cX11_othersAt 15 = .ok (.iconst 0, 1) := by decide +kernel
theorem dX11_othersAt_16 : decode cX11_othersAt 16 = .ok (.istore 4, 2) := by decide +kernel
theorem dX11_othersAt_18 : decode cX11_othersAt 18 = .ok (.iconst 1, 1) := by decide +kernel
theorem dX11_othersAt_19 : decode cX11_othersAt 19 = .ok (.istore 5, 2) := by decide +kernel
theorem dX11_othersAt_21 : decode cX11_othersAt 21 = .ok (.iload 5, 2) := by decide +kernel
theorem dX11_othersAt_23 : decode cX11_othersAt 23 = .ok (.bipush 26, 2) := by decide +kernel
theorem dX11_othersAt_25 : decode cX11_othersAt 25 = .ok (.if_icmp .gt 35, 3) := by decide +kernel
theorem dX11_othersAt_28 : decode cX11_othersAt 28 = .ok (.iload 5, 2) := by decide +kernel
theorem dX11_othersAt_30 : decode cX11_othersAt 30 = .ok (.iload_n 3, 1) := by decide +kernel
theorem dX11_othersAt_31 : decode cX11_othersAt 31 = .ok (.if_icmp .eq 23, 3) := by decide +kernel
theorem dX11_othersAt_34 : decode cX11_othersAt 34 = .ok (.aload_n 0, 1) := by decide +kernel
theorem dX11_othersAt_35 : decode cX11_othersAt 35 = .ok (.iload_n 1, 1) := by decide +kernel
theorem dX11_othersAt_36 : decode cX11_othersAt 36 = .ok (.iload_n 2, 1) := by decide +kernel
theorem dX11_othersAt_37 : decode cX11_othersAt 37 = .ok (.iload 5, 2) := by decide +kernel
theorem dX11_othersAt_39 : decode cX11_othersAt 39 = .ok (.invokevirtual 206, 3) := by decide +kernel
theorem dX11_othersAt_42 : decode cX11_othersAt 42 = .ok (.ifCond .eq 12, 3) := by decide +kernel
theorem dX11_othersAt_45 : decode cX11_othersAt 45 = .ok (.iload 4, 2) := by decide +kernel
theorem dX11_othersAt_47 : decode cX11_othersAt 47 = .ok (.iconst 1, 1) := by decide +kernel
theorem dX11_othersAt_48 : decode cX11_othersAt 48 = .ok (.iload 5, 2) := by decide +kernel
theorem dX11_othersAt_50 : decode cX11_othersAt 50 = .ok (.ishl, 1) := by decide +kernel
theorem dX11_othersAt_51 : decode cX11_othersAt 51 = .ok (.ior, 1) := by decide +kernel
theorem dX11_othersAt_52 : decode cX11_othersAt 52 = .ok (.istore 4, 2) := by decide +kernel
theorem dX11_othersAt_54 : decode cX11_othersAt 54 = .ok (.iinc 5 1, 3) := by decide +kernel
theorem dX11_othersAt_57 : decode cX11_othersAt 57 = .ok (.goto (-36), 3) := by decide +kernel
theorem dX11_othersAt_60 : decode cX11_othersAt 60 = .ok (.iload 4, 2) := by decide +kernel
theorem dX11_othersAt_62 : decode cX11_othersAt 62 = .ok (.ireturn, 1) := by decide +kernel
theorem dX11_others_0 : decode cX11_others 0 = .ok (.aload_n 0, 1) := by decide +kernel
theorem dX11_others_1 : decode cX11_others 1 = .ok (.getfield 12, 3) := by decide +kernel
theorem dX11_others_4 : decode cX11_others 4 = .ok (.iload_n 1, 1) := by decide +kernel
theorem dX11_others_5 : decode cX11_others 5 = .ok (.iload_n 2, 1) := by decide +kernel
theorem dX11_others_6 : decode cX11_others 6 = .ok (.invokevirtual 129, 3) := by decide +kernel
theorem dX11_others_9 : decode cX11_others 9 = .ok (.ifCond .eq 12, 3) := by decide +kernel
theorem dX11_others_12 : decode cX11_others 12 = .ok (.aload_n 0, 1) := by decide +kernel
theorem dX11_others_13 : decode cX11_others 13 = .ok (.iload_n 1, 1) := by decide +kernel
theorem dX11_others_14 : decode cX11_others 14 = .ok (.iload_n 2, 1) := by decide +kernel
theorem dX11_others_15 : decode cX11_others 15 = .ok (.invokevirtual 210, 3) := by decide +kernel
theorem dX11_others_18 : decode cX11_others 18 = .ok (.goto 8, 3) := by decide +kernel
theorem dX11_others_21 : decode cX11_others 21 = .ok (.aload_n 0, 1) := by decide +kernel
theorem dX11_others_22 : decode cX11_others 22 = .ok (.iconst 1, 1) := by decide +kernel
theorem dX11_others_23 : decode cX11_others 23 = .ok (.invokevirtual 72, 3) := by decide +kernel
theorem dX11_others_26 : decode cX11_others 26 = .ok (.ireturn, 1) := by decide +kernel
theorem dJ6_bitCount_0f7a4_0 : decode cJ6_bitCount_0f7a4 0 = .ok (.iload_n 0, 1) := by decide +kernel
theorem dJ6_bitCount_0f7a4_1 : decode cJ6_bitCount_0f7a4 1 = .ok (.iload_n 0, 1) := by decide +kernel
theorem dJ6_bitCount_0f7a4_2 : decode cJ6_bitCount_0f7a4 2 = .ok (.iconst 1, 1) := by decide +kernel
theorem dJ6_bitCount_0f7a4_3 : decode cJ6_bitCount_0f7a4 3 = .ok (.iushr, 1) := by decide +kernel
theorem dJ6_bitCount_0f7a4_4 : decode cJ6_bitCount_0f7a4 4 = .ok (.ldc_w 265, 3) := by decide +kernel
theorem dJ6_bitCount_0f7a4_7 : decode cJ6_bitCount_0f7a4 7 = .ok (.iand, 1) := by decide +kernel
theorem dJ6_bitCount_0f7a4_8 : decode cJ6_bitCount_0f7a4 8 = .ok (.isub, 1) := by decide +kernel
theorem dJ6_bitCount_0f7a4_9 : decode cJ6_bitCount_0f7a4 9 = .ok (.istore_n 0, 1) := by decide +kernel
theorem dJ6_bitCount_0f7a4_10 : decode cJ6_bitCount_0f7a4 10 = .ok (.iload_n 0, 1) := by decide +kernel
theorem dJ6_bitCount_0f7a4_11 : decode cJ6_bitCount_0f7a4 11 = .ok (.ldc_w 266, 3) := by decide +kernel
theorem dJ6_bitCount_0f7a4_14 : decode cJ6_bitCount_0f7a4 14 = .ok (.iand, 1) := by decide +kernel
theorem dJ6_bitCount_0f7a4_15 : decode cJ6_bitCount_0f7a4 15 = .ok (.iload_n 0, 1) := by decide +kernel
theorem dJ6_bitCount_0f7a4_16 : decode cJ6_bitCount_0f7a4 16 = .ok (.iconst 2, 1) := by decide +kernel
theorem dJ6_bitCount_0f7a4_17 : decode cJ6_bitCount_0f7a4 17 = .ok (.iushr, 1) := by decide +kernel
theorem dJ6_bitCount_0f7a4_18 : decode cJ6_bitCount_0f7a4 18 = .ok (.ldc_w 266, 3) := by decide +kernel
theorem dJ6_bitCount_0f7a4_21 : decode cJ6_bitCount_0f7a4 21 = .ok (.iand, 1) := by decide +kernel
theorem dJ6_bitCount_0f7a4_22 : decode cJ6_bitCount_0f7a4 22 = .ok (.iadd, 1) := by decide +kernel
theorem dJ6_bitCount_0f7a4_23 : decode cJ6_bitCount_0f7a4 23 = .ok (.istore_n 0, 1) := by decide +kernel
theorem dJ6_bitCount_0f7a4_24 : decode cJ6_bitCount_0f7a4 24 = .ok (.iload_n 0, 1) := by decide +kernel
theorem dJ6_bitCount_0f7a4_25 : decode cJ6_bitCount_0f7a4 25 = .ok (.iload_n 0, 1) := by decide +kernel
theorem dJ6_bitCount_0f7a4_26 : decode cJ6_bitCount_0f7a4 26 = .ok (.iconst 4, 1) := by decide +kernel
theorem dJ6_bitCount_0f7a4_27 : decode cJ6_bitCount_0f7a4 27 = .ok (.iushr, 1) := by decide +kernel
theorem dJ6_bitCount_0f7a4_28 : decode cJ6_bitCount_0f7a4 28 = .ok (.iadd, 1) := by decide +kernel
theorem dJ6_bitCount_0f7a4_29 : decode cJ6_bitCount_0f7a4 29 = .ok (.ldc_w 267, 3) := by decide +kernel
theorem dJ6_bitCount_0f7a4_32 : decode cJ6_bitCount_0f7a4 32 = .ok (.iand, 1) := by decide +kernel
theorem dJ6_bitCount_0f7a4_33 : decode cJ6_bitCount_0f7a4 33 = .ok (.istore_n 0, 1) := by decide +kernel
theorem dJ6_bitCount_0f7a4_34 : decode cJ6_bitCount_0f7a4 34 = .ok (.iload_n 0, 1) := by decide +kernel
theorem dJ6_bitCount_0f7a4_35 : decode cJ6_bitCount_0f7a4 35 = .ok (.iload_n 0, 1) := by decide +kernel
theorem dJ6_bitCount_0f7a4_36 : decode cJ6_bitCount_0f7a4 36 = .ok (.bipush 8, 2) := by decide +kernel
theorem dJ6_bitCount_0f7a4_38 : decode cJ6_bitCount_0f7a4 38 = .ok (.iushr, 1) := by decide +kernel
theorem dJ6_bitCount_0f7a4_39 : decode cJ6_bitCount_0f7a4 39 = .ok (.iadd, 1) := by decide +kernel
theorem dJ6_bitCount_0f7a4_40 : decode cJ6_bitCount_0f7a4 40 = .ok (.istore_n 0, 1) := by decide +kernel
theorem dJ6_bitCount_0f7a4_41 : decode cJ6_bitCount_0f7a4 41 = .ok (.iload_n 0, 1) := by decide +kernel
theorem dJ6_bitCount_0f7a4_42 : decode cJ6_bitCount_0f7a4 42 = .ok (.iload_n 0, 1) := by decide +kernel
theorem dJ6_bitCount_0f7a4_43 : decode cJ6_bitCount_0f7a4 43 = .ok (.bipush 16, 2) := by decide +kernel
theorem dJ6_bitCount_0f7a4_45 : decode cJ6_bitCount_0f7a4 45 = .ok (.iushr, 1) := by decide +kernel
theorem dJ6_bitCount_0f7a4_46 : decode cJ6_bitCount_0f7a4 46 = .ok (.iadd, 1) := by decide +kernel
theorem dJ6_bitCount_0f7a4_47 : decode cJ6_bitCount_0f7a4 47 = .ok (.istore_n 0, 1) := by decide +kernel
theorem dJ6_bitCount_0f7a4_48 : decode cJ6_bitCount_0f7a4 48 = .ok (.iload_n 0, 1) := by decide +kernel
theorem dJ6_bitCount_0f7a4_49 : decode cJ6_bitCount_0f7a4 49 = .ok (.bipush 63, 2) := by decide +kernel
theorem dJ6_bitCount_0f7a4_51 : decode cJ6_bitCount_0f7a4 51 = .ok (.iand, 1) := by decide +kernel
theorem dJ6_bitCount_0f7a4_52 : decode cJ6_bitCount_0f7a4 52 = .ok (.ireturn, 1) := by decide +kernel
theorem dX11_steps_0 : decode cX11_steps 0 = .ok (.aload_n 0, 1) := by decide +kernel
theorem dX11_steps_1 : decode cX11_steps 1 = .ok (.getfield 12, 3) := by decide +kernel
theorem dX11_steps_4 : decode cX11_steps 4 = .ok (.iload_n 1, 1) := by decide +kernel
theorem dX11_steps_5 : decode cX11_steps 5 = .ok (.invokevirtual 88, 3) := by decide +kernel
theorem dX11_steps_8 : decode cX11_steps 8 = .ok (.ifCond .ne 9, 3) := by decide +kernel
theorem dX11_steps_11 : decode cX11_steps 11 = .ok (.aload_n 0, 1) := by decide +kernel
theorem dX11_steps_12 : decode cX11_steps 12 = .ok (.iconst 1, 1) := by decide +kernel
theorem dX11_steps_13 : decode cX11_steps 13 = .ok (.invokevirtual 72, 3) := by decide +kernel
theorem dX11_steps_16 : decode cX11_steps 16 = .ok (.ireturn, 1) := by decide +kernel
theorem dX11_steps_17 : decode cX11_steps 17 = .ok (.aload_n 0, 1) := by decide +kernel
theorem dX11_steps_18 : decode cX11_steps 18 = .ok (.getfield 12, 3) := by decide +kernel
theorem dX11_steps_21 : decode cX11_steps 21 = .ok (.getfield 80, 3) := by decide +kernel
theorem dX11_steps_24 : decode cX11_steps 24 = .ok (.iload_n 1, 1) := by decide +kernel
theorem dX11_steps_25 : decode cX11_steps 25 = .ok (.aaload, 1) := by decide +kernel
theorem dX11_steps_26 : decode cX11_steps 26 = .ok (.astore_n 2, 1) := by decide +kernel
theorem dX11_steps_27 : decode cX11_steps 27 = .ok (.iconst 0, 1) := by decide +kernel
theorem dX11_steps_28 : decode cX11_steps 28 = .ok (.istore_n 3, 1) := by decide +kernel
theorem dX11_steps_29 : decode cX11_steps 29 = .ok (.iconst 0, 1) := by decide +kernel
theorem dX11_steps_30 : decode cX11_steps 30 = .ok (.istore 4, 2) := by decide +kernel
theorem dX11_steps_32 : decode cX11_steps 32 = .ok (.iload 4, 2) := by decide +kernel
theorem dX11_steps_34 : decode cX11_steps 34 = .ok (.aload_n 2, 1) := by decide +kernel
theorem dX11_steps_35 : decode cX11_steps 35 = .ok (.getfield 102, 3) := by decide +kernel
theorem dX11_steps_38 : decode cX11_steps 38 = .ok (.if_icmp .ge 32, 3) := by decide +kernel
theorem dX11_steps_41 : decode cX11_steps 41 = .ok (.aload_n 2, 1) := by decide +kernel
theorem dX11_steps_42 : decode cX11_steps 42 = .ok (.getfield 132, 3) := by decide +kernel
theorem dX11_steps_45 : decode cX11_steps 45 = .ok (.iload 4, 2) := by decide +kernel
theorem dX11_steps_47 : decode cX11_steps 47 = .ok (.iaload, 1) := by decide +kernel
theorem dX11_steps_48 : decode cX11_steps 48 = .ok (.ifCond .eq 16, 3) := by decide +kernel
theorem dX11_steps_51 : decode cX11_steps 51 = .ok (.iload_n 3, 1) := by decide +kernel
theorem dX11_steps_52 : decode cX11_steps 52 = .ok (.aload_n 0, 1) := by decide +kernel
theorem dX11_steps_53 : decode cX11_steps 53 = .ok (.iload_n 1, 1) := by decide +kernel
theorem dX11_steps_54 : decode cX11_steps 54 = .ok (.iload 4, 2) := by decide +kernel
theorem dX11_steps_56 : decode cX11_steps 56 = .ok (.invokevirtual 210, 3) := by decide +kernel
theorem dX11_steps_59 : decode cX11_steps 59 = .ok (.invokestatic 214, 3) := by decide +kernel
theorem dX11_steps_62 : decode cX11_steps 62 = .ok (.iadd, 1) := by decide +kernel
theorem dX11_steps_63 : decode cX11_steps 63 = .ok (.istore_n 3, 1) := by decide +kernel
theorem dX11_steps_64 : decode cX11_steps 64 = .ok (.iinc 4 1, 3) := by decide +kernel
theorem dX11_steps_67 : decode cX11_steps 67 = .ok (.goto (-35), 3) := by decide +kernel
theorem dX11_steps_70 : decode cX11_steps 70 = .ok (.iload_n 3, 1) := by decide +kernel
theorem dX11_steps_71 : decode cX11_steps 71 = .ok (.ireturn, 1) := by decide +kernel
theorem dX11_mends_0 : decode cX11_mends 0 = .ok (.aload_n 0, 1) := by decide +kernel
theorem dX11_mends_1 : decode cX11_mends 1 = .ok (.getfield 12, 3) := by decide +kernel
theorem dX11_mends_4 : decode cX11_mends 4 = .ok (.iload_n 1, 1) := by decide +kernel
theorem dX11_mends_5 : decode cX11_mends 5 = .ok (.invokevirtual 88, 3) := by decide +kernel
theorem dX11_mends_8 : decode cX11_mends 8 = .ok (.ifCond .ne 9, 3) := by decide +kernel
theorem dX11_mends_11 : decode cX11_mends 11 = .ok (.aload_n 0, 1) := by decide +kernel
theorem dX11_mends_12 : decode cX11_mends 12 = .ok (.iconst 1, 1) := by decide +kernel
theorem dX11_mends_13 : decode cX11_mends 13 = .ok (.invokevirtual 72, 3) := by decide +kernel
theorem dX11_mends_16 : decode cX11_mends 16 = .ok (.ireturn, 1) := by decide +kernel
theorem dX11_mends_17 : decode cX11_mends 17 = .ok (.aload_n 0, 1) := by decide +kernel
theorem dX11_mends_18 : decode cX11_mends 18 = .ok (.getfield 12, 3) := by decide +kernel
theorem dX11_mends_21 : decode cX11_mends 21 = .ok (.aload_n 0, 1) := by decide +kernel
theorem dX11_mends_22 : decode cX11_mends 22 = .ok (.getfield 12, 3) := by decide +kernel
theorem dX11_mends_25 : decode cX11_mends 25 = .ok (.getfield 80, 3) := by decide +kernel
theorem dX11_mends_28 : decode cX11_mends 28 = .ok (.iload_n 1, 1) := by decide +kernel
theorem dX11_mends_29 : decode cX11_mends 29 = .ok (.aaload, 1) := by decide +kernel
theorem dX11_mends_30 : decode cX11_mends 30 = .ok (.iload_n 1, 1) := by decide +kernel
theorem dX11_mends_31 : decode cX11_mends 31 = .ok (.aload_n 0, 1) := by decide +kernel
theorem dX11_mends_32 : decode cX11_mends 32 = .ok (.getfield 36, 3) := by decide +kernel
theorem dX11_mends_35 : decode cX11_mends 35 = .ok (.invokevirtual 92, 3) := by decide +kernel
theorem dX11_mends_38 : decode cX11_mends 38 = .ok (.aload_n 0, 1) := by decide +kernel
theorem dX11_mends_39 : decode cX11_mends 39 = .ok (.getfield 29, 3) := by decide +kernel
theorem dX11_mends_42 : decode cX11_mends 42 = .ok (.aload_n 0, 1) := by decide +kernel
theorem dX11_mends_43 : decode cX11_mends 43 = .ok (.getfield 12, 3) := by decide +kernel
theorem dX11_mends_46 : decode cX11_mends 46 = .ok (.getfield 106, 3) := by decide +kernel
theorem dX11_mends_49 : decode cX11_mends 49 = .ok (.aload_n 0, 1) := by decide +kernel
theorem dX11_mends_50 : decode cX11_mends 50 = .ok (.getfield 36, 3) := by decide +kernel
theorem dX11_mends_53 : decode cX11_mends 53 = .ok (.invokevirtual 219, 3) := by decide +kernel
theorem dX11_mends_56 : decode cX11_mends 56 = .ok (.istore_n 2, 1) := by decide +kernel
theorem dX11_mends_57 : decode cX11_mends 57 = .ok (.iload_n 2, 1) := by decide +kernel
theorem dX11_mends_58 : decode cX11_mends 58 = .ok (.ldc 222, 2) := by decide +kernel
theorem dX11_mends_60 : decode cX11_mends 60 = .ok (.if_icmp .ge 7, 3) := by decide +kernel
theorem dX11_mends_63 : decode cX11_mends 63 = .ok (.iload_n 2, 1) := by decide +kernel
theorem dX11_mends_64 : decode cX11_mends 64 = .ok (.goto 8, 3) := by decide +kernel
theorem dX11_mends_67 : decode cX11_mends 67 = .ok (.aload_n 0, 1) := by decide +kernel
theorem dX11_mends_68 : decode cX11_mends 68 = .ok (.iconst 2, 1) := by decide +kernel
theorem dX11_mends_69 : decode cX11_mends 69 = .ok (.invokevirtual 72, 3) := by decide +kernel
theorem dX11_mends_72 : decode cX11_mends 72 = .ok (.ireturn, 1) := by decide +kernel
theorem dX11_isSheet_0 : decode cX11_isSheet 0 = .ok (.iload_n 0, 1) := by decide +kernel
theorem dX11_isSheet_1 : decode cX11_isSheet 1 = .ok (.ifCond .lt 12, 3) := by decide +kernel
theorem dX11_isSheet_4 : decode cX11_isSheet 4 = .ok (.iload_n 0, 1) := by decide +kernel
theorem dX11_isSheet_5 : decode cX11_isSheet 5 = .ok (.iconst 4, 1) := by decide +kernel
theorem dX11_isSheet_6 : decode cX11_isSheet 6 = .ok (.if_icmp .ge 7, 3) := by decide +kernel
theorem dX11_isSheet_9 : decode cX11_isSheet 9 = .ok (.iconst 1, 1) := by decide +kernel
theorem dX11_isSheet_10 : decode cX11_isSheet 10 = .ok (.goto 4, 3) := by decide +kernel
theorem dX11_isSheet_13 : decode cX11_isSheet 13 = .ok (.iconst 0, 1) := by decide +kernel
theorem dX11_isSheet_14 : decode cX11_isSheet 14 = .ok (.ireturn, 1) := by decide +kernel
theorem dX11_unlikeWish_0 : decode cX11_unlikeWish 0 = .ok (.iconst 0, 1) := by decide +kernel
theorem dX11_unlikeWish_1 : decode cX11_unlikeWish 1 = .ok (.istore_n 2, 1) := by decide +kernel
theorem dX11_unlikeWish_2 : decode cX11_unlikeWish 2 = .ok (.iconst 0, 1) := by decide +kernel
theorem dX11_unlikeWish_3 : decode cX11_unlikeWish 3 = .ok (.istore_n 3, 1) := by decide +kernel
theorem dX11_unlikeWish_4 : decode cX11_unlikeWish 4 = .ok (.iconst 0, 1) := by decide +kernel
theorem dX11_unlikeWish_5 : decode cX11_unlikeWish 5 = .ok (.istore 4, 2) := by decide +kernel
theorem dX11_unlikeWish_7 : decode cX11_unlikeWish 7 = .ok (.iload 4, 2) := by decide +kernel
theorem dX11_unlikeWish_9 : decode cX11_unlikeWish 9 = .ok (.aload_n 1, 1) := by decide +kernel
theorem dX11_unlikeWish_10 : decode cX11_unlikeWish 10 = .ok (.getfield 229, 3) := by decide +kernel
theorem dX11_unlikeWish_13 : decode cX11_unlikeWish 13 = .ok (.if_icmp .ge 92, 3) := by decide +kernel
theorem dX11_unlikeWish_16 : decode cX11_unlikeWish 16 = .ok (.aload_n 1, 1) := by decide +kernel
theorem dX11_unlikeWish_17 : decode cX11_unlikeWish 17 = .ok (.getfield 230, 3) := by decide +kernel
theorem dX11_unlikeWish_20 : decode cX11_unlikeWish 20 = .ok (.iload 4, 2) := by decide +kernel
theorem dX11_unlikeWish_22 : decode cX11_unlikeWish 22 = .ok (.iaload, 1) := by decide +kernel
theorem dX11_unlikeWish_23 : decode cX11_unlikeWish 23 = .ok (.istore 5, 2) := by decide +kernel
theorem dX11_unlikeWish_25 : decode cX11_unlikeWish 25 = .ok (.aload_n 0, 1) := by decide +kernel
theorem dX11_unlikeWish_26 : decode cX11_unlikeWish 26 = .ok (.getfield 12, 3) := by decide +kernel
theorem dX11_unlikeWish_29 : decode cX11_unlikeWish 29 = .ok (.getfield 106, 3) := by decide +kernel
theorem dX11_unlikeWish_32 : decode cX11_unlikeWish 32 = .ok (.iload 5, 2) := by decide +kernel
theorem dX11_unlikeWish_34 : decode cX11_unlikeWish 34 = .ok (.invokevirtual 153, 3) := by decide +kernel
theorem dX11_unlikeWish_37 : decode cX11_unlikeWish 37 = .ok (.ifCond .ne 6, 3) := by decide +kernel
theorem dX11_unlikeWish_40 : decode cX11_unlikeWish 40 = .ok (.ldc 222, 2) := by decide +kernel
theorem dX11_unlikeWish_42 : decode cX11_unlikeWish 42 = .ok (.ireturn, 1) := by decide +kernel
theorem dX11_unlikeWish_43 : decode cX11_unlikeWish 43 = .ok (.aload_n 0, 1) := by decide +kernel
theorem dX11_unlikeWish_44 : decode cX11_unlikeWish 44 = .ok (.getfield 12, 3) := by decide +kernel
theorem dX11_unlikeWish_47 : decode cX11_unlikeWish 47 = .ok (.getfield 106, 3) := by decide +kernel
theorem dX11_unlikeWish_50 : decode cX11_unlikeWish 50 = .ok (.getfield 144, 3) := by decide +kernel
theorem dX11_unlikeWish_53 : decode cX11_unlikeWish 53 = .ok (.iload 5, 2) := by decide +kernel
theorem dX11_unlikeWish_55 : decode cX11_unlikeWish 55 = .ok (.aaload, 1) := by decide +kernel
theorem dX11_unlikeWish_56 : decode cX11_unlikeWish 56 = .ok (.astore 6, 2) := by decide +kernel
theorem dX11_unlikeWish_58 : decode cX11_unlikeWish 58 = .ok (.aload 6, 2) := by decide +kernel
theorem dX11_unlikeWish_60 : decode cX11_unlikeWish 60 = .ok (.getfield 156, 3) := by decide +kernel
theorem dX11_unlikeWish_63 : decode cX11_unlikeWish 63 = .ok (.aload_n 0, 1) := by decide +kernel
theorem dX11_unlikeWish_64 : decode cX11_unlikeWish 64 = .ok (.getfield 36, 3) := by decide +kernel
theorem dX11_unlikeWish_67 : decode cX11_unlikeWish 67 = .ok (.getfield 105, 3) := by decide +kernel
theorem dX11_unlikeWish_70 : decode cX11_unlikeWish 70 = .ok (.iload_n 2, 1) := by decide +kernel
theorem dX11_unlikeWish_71 : decode cX11_unlikeWish 71 = .ok (.isub, 1) := by decide +kernel
theorem dX11_unlikeWish_72 : decode cX11_unlikeWish 72 = .ok (.if_icmp .le 6, 3) := by decide +kernel
theorem dX11_unlikeWish_75 : decode cX11_unlikeWish 75 = .ok (.ldc 222, 2) := by decide +kernel
theorem dX11_unlikeWish_77 : decode cX11_unlikeWish 77 = .ok (.ireturn, 1) := by decide +kernel
theorem dX11_unlikeWish_78 : decode cX11_unlikeWish 78 = .ok (.iload_n 3, 1) := by decide +kernel
theorem dX11_unlikeWish_79 : decode cX11_unlikeWish 79 = .ok (.aload 6, 2) := by decide +kernel
theorem dX11_unlikeWish_81 : decode cX11_unlikeWish 81 = .ok (.aload_n 0, 1) := by decide +kernel
theorem dX11_unlikeWish_82 : decode cX11_unlikeWish 82 = .ok (.getfield 36, 3) := by decide +kernel
theorem dX11_unlikeWish_85 : decode cX11_unlikeWish 85 = .ok (.iload_n 2, 1) := by decide +kernel
theorem dX11_unlikeWish_86 : decode cX11_unlikeWish 86 = .ok (.invokevirtual 332, 3) := by decide +kernel
theorem dX11_unlikeWish_89 : decode cX11_unlikeWish 89 = .ok (.iadd, 1) := by decide +kernel
theorem dX11_unlikeWish_90 : decode cX11_unlikeWish 90 = .ok (.istore_n 3, 1) := by decide +kernel
theorem dX11_unlikeWish_91 : decode cX11_unlikeWish 91 = .ok (.iload_n 2, 1) := by decide +kernel
theorem dX11_unlikeWish_92 : decode cX11_unlikeWish 92 = .ok (.aload 6, 2) := by decide +kernel
theorem dX11_unlikeWish_94 : decode cX11_unlikeWish 94 = .ok (.getfield 156, 3) := by decide +kernel
theorem dX11_unlikeWish_97 : decode cX11_unlikeWish 97 = .ok (.iadd, 1) := by decide +kernel
theorem dX11_unlikeWish_98 : decode cX11_unlikeWish 98 = .ok (.istore_n 2, 1) := by decide +kernel
theorem dX11_unlikeWish_99 : decode cX11_unlikeWish 99 = .ok (.iinc 4 1, 3) := by decide +kernel
theorem dX11_unlikeWish_102 : decode cX11_unlikeWish 102 = .ok (.goto (-95), 3) := by decide +kernel
theorem dX11_unlikeWish_105 : decode cX11_unlikeWish 105 = .ok (.iload_n 2, 1) := by decide +kernel
theorem dX11_unlikeWish_106 : decode cX11_unlikeWish 106 = .ok (.aload_n 0, 1) := by decide +kernel
theorem dX11_unlikeWish_107 : decode cX11_unlikeWish 107 = .ok (.getfield 36, 3) := by decide +kernel
theorem dX11_unlikeWish_110 : decode cX11_unlikeWish 110 = .ok (.getfield 105, 3) := by decide +kernel
theorem dX11_unlikeWish_113 : decode cX11_unlikeWish 113 = .ok (.if_icmp .ne 7, 3) := by decide +kernel
theorem dX11_unlikeWish_116 : decode cX11_unlikeWish 116 = .ok (.iload_n 3, 1) := by decide +kernel
theorem dX11_unlikeWish_117 : decode cX11_unlikeWish 117 = .ok (.goto 5, 3) := by decide +kernel
theorem dX11_unlikeWish_120 : decode cX11_unlikeWish 120 = .ok (.ldc 222, 2) := by decide +kernel
theorem dX11_unlikeWish_122 : decode cX11_unlikeWish 122 = .ok (.ireturn, 1) := by decide +kernel
theorem dX11_wish_0 : decode cX11_wish 0 = .ok (.aload_n 0, 1) := by decide +kernel
theorem dX11_wish_1 : decode cX11_wish 1 = .ok (.getfield 12, 3) := by decide +kernel
theorem dX11_wish_4 : decode cX11_wish 4 = .ok (.iload_n 1, 1) := by decide +kernel
theorem dX11_wish_5 : decode cX11_wish 5 = .ok (.invokevirtual 88, 3) := by decide +kernel
theorem dX11_wish_8 : decode cX11_wish 8 = .ok (.ifCond .eq 10, 3) := by decide +kernel
theorem dX11_wish_11 : decode cX11_wish 11 = .ok (.iload_n 2, 1) := by decide +kernel
theorem dX11_wish_12 : decode cX11_wish 12 = .ok (.invokestatic 223, 3) := by decide +kernel
theorem dX11_wish_15 : decode cX11_wish 15 = .ok (.ifCond .ne 9, 3) := by decide +kernel
theorem dX11_wish_18 : decode cX11_wish 18 = .ok (.aload_n 0, 1) := by decide +kernel
theorem dX11_wish_19 : decode cX11_wish 19 = .ok (.iconst 1, 1) := by decide +kernel
theorem dX11_wish_20 : decode cX11_wish 20 = .ok (.invokevirtual 72, 3) := by decide +kernel
theorem dX11_wish_23 : decode cX11_wish 23 = .ok (.ireturn, 1) := by decide +kernel
theorem dX11_wish_24 : decode cX11_wish 24 = .ok (.aload_n 0, 1) := by decide +kernel
theorem dX11_wish_25 : decode cX11_wish 25 = .ok (.getfield 21, 3) := by decide +kernel
theorem dX11_wish_28 : decode cX11_wish 28 = .ok (.iload_n 2, 1) := by decide +kernel
theorem dX11_wish_29 : decode cX11_wish 29 = .ok (.aaload, 1) := by decide +kernel
theorem dX11_wish_30 : decode cX11_wish 30 = .ok (.astore_n 3, 1) := by decide +kernel
theorem dX11_wish_31 : decode cX11_wish 31 = .ok (.aload_n 3, 1) := by decide +kernel
theorem dX11_wish_32 : decode cX11_wish 32 = .ok (.invokevirtual 226, 3) := by decide +kernel
theorem dX11_wish_35 : decode cX11_wish 35 = .ok (.ifCond .eq 9, 3) := by decide +kernel
theorem dX11_wish_38 : decode cX11_wish 38 = .ok (.aload_n 0, 1) := by decide +kernel
theorem dX11_wish_39 : decode cX11_wish 39 = .ok (.iconst 2, 1) := by decide +kernel
theorem dX11_wish_40 : decode cX11_wish 40 = .ok (.invokevirtual 72, 3) := by decide +kernel
theorem dX11_wish_43 : decode cX11_wish 43 = .ok (.ireturn, 1) := by decide +kernel
theorem dX11_wish_44 : decode cX11_wish 44 = .ok (.iconst 0, 1) := by decide +kernel
theorem dX11_wish_45 : decode cX11_wish 45 = .ok (.istore 4, 2) := by decide +kernel
theorem dX11_wish_47 : decode cX11_wish 47 = .ok (.iload 4, 2) := by decide +kernel
theorem dX11_wish_49 : decode cX11_wish 49 = .ok (.aload_n 3, 1) := by decide +kernel
theorem dX11_wish_50 : decode cX11_wish 50 = .ok (.getfield 229, 3) := by decide +kernel
theorem dX11_wish_53 : decode cX11_wish 53 = .ok (.if_icmp .ge 35, 3) := by decide +kernel
theorem dX11_wish_56 : decode cX11_wish 56 = .ok (.aload_n 0, 1) := by decide +kernel
theorem dX11_wish_57 : decode cX11_wish 57 = .ok (.getfield 12, 3) := by decide +kernel
theorem dX11_wish_60 : decode cX11_wish 60 = .ok (.getfield 106, 3) := by decide +kernel
theorem dX11_wish_63 : decode cX11_wish 63 = .ok (.aload_n 3, 1) := by decide +kernel
theorem dX11_wish_64 : decode cX11_wish 64 = .ok (.getfield 230, 3) := by decide +kernel
theorem dX11_wish_67 : decode cX11_wish 67 = .ok (.iload 4, 2) := by decide +kernel
theorem dX11_wish_69 : decode cX11_wish 69 = .ok (.iaload, 1) := by decide +kernel
theorem dX11_wish_70 : decode cX11_wish 70 = .ok (.invokevirtual 153, 3) := by decide +kernel
theorem dX11_wish_73 : decode cX11_wish 73 = .ok (.ifCond .ne 9, 3) := by decide +kernel
theorem dX11_wish_76 : decode cX11_wish 76 = .ok (.aload_n 0, 1) := by decide +kernel
theorem dX11_wish_77 : decode cX11_wish 77 = .ok (.iconst 1, 1) := by decide +kernel
theorem dX11_wish_78 : decode cX11_wish 78 = .ok (.invokevirtual 72, 3) := by decide +kernel
theorem dX11_wish_81 : decode cX11_wish 81 = .ok (.ireturn, 1) := by decide +kernel
theorem dX11_wish_82 : decode cX11_wish 82 = .ok (.iinc 4 1, 3) := by decide +kernel
theorem dX11_wish_85 : decode cX11_wish 85 = .ok (.goto (-38), 3) := by decide +kernel
theorem dX11_wish_88 : decode cX11_wish 88 = .ok (.aload_n 0, 1) := by decide +kernel
theorem dX11_wish_89 : decode cX11_wish 89 = .ok (.getfield 12, 3) := by decide +kernel
theorem dX11_wish_92 : decode cX11_wish 92 = .ok (.aload_n 0, 1) := by decide +kernel
theorem dX11_wish_93 : decode cX11_wish 93 = .ok (.getfield 12, 3) := by decide +kernel
theorem dX11_wish_96 : decode cX11_wish 96 = .ok (.getfield 80, 3) := by decide +kernel
theorem dX11_wish_99 : decode cX11_wish 99 = .ok (.iload_n 1, 1) := by decide +kernel
theorem dX11_wish_100 : decode cX11_wish 100 = .ok (.aaload, 1) := by decide +kernel
theorem dX11_wish_101 : decode cX11_wish 101 = .ok (.iload_n 1, 1) := by decide +kernel
theorem dX11_wish_102 : decode cX11_wish 102 = .ok (.aload_n 0, 1) := by decide +kernel
theorem dX11_wish_103 : decode cX11_wish 103 = .ok (.getfield 36, 3) := by decide +kernel
theorem dX11_wish_106 : decode cX11_wish 106 = .ok (.invokevirtual 92, 3) := by decide +kernel
theorem dX11_wish_109 : decode cX11_wish 109 = .ok (.aload_n 0, 1) := by decide +kernel
theorem dX11_wish_110 : decode cX11_wish 110 = .ok (.aload_n 3, 1) := by decide +kernel
theorem dX11_wish_111 : decode cX11_wish 111 = .ok (.invokevirtual 233, 3) := by decide +kernel
theorem dX11_wish_114 : decode cX11_wish 114 = .ok (.istore 4, 2) := by decide +kernel
theorem dX11_wish_116 : decode cX11_wish 116 = .ok (.iload 4, 2) := by decide +kernel
theorem dX11_wish_118 : decode cX11_wish 118 = .ok (.ldc 222, 2) := by decide +kernel
theorem dX11_wish_120 : decode cX11_wish 120 = .ok (.if_icmp .ge 8, 3) := by decide +kernel
theorem dX11_wish_123 : decode cX11_wish 123 = .ok (.iload 4, 2) := by decide +kernel
theorem dX11_wish_125 : decode cX11_wish 125 = .ok (.goto 8, 3) := by decide +kernel
theorem dX11_wish_128 : decode cX11_wish 128 = .ok (.aload_n 0, 1) := by decide +kernel
theorem dX11_wish_129 : decode cX11_wish 129 = .ok (.iconst 2, 1) := by decide +kernel
theorem dX11_wish_130 : decode cX11_wish 130 = .ok (.invokevirtual 72, 3) := by decide +kernel
theorem dX11_wish_133 : decode cX11_wish 133 = .ok (.ireturn, 1) := by decide +kernel
theorem dX11_heap_0 : decode cX11_heap 0 = .ok (.iload_n 1, 1) := by decide +kernel
theorem dX11_heap_1 : decode cX11_heap 1 = .ok (.invokestatic 138, 3) := by decide +kernel
theorem dX11_heap_4 : decode cX11_heap 4 = .ok (.ifCond .eq 14, 3) := by decide +kernel
theorem dX11_heap_7 : decode cX11_heap 7 = .ok (.iload_n 2, 1) := by decide +kernel
theorem dX11_heap_8 : decode cX11_heap 8 = .ok (.iconst (-1), 1) := by decide +kernel
theorem dX11_heap_9 : decode cX11_heap 9 = .ok (.if_icmp .lt 9, 3) := by decide +kernel
theorem dX11_heap_12 : decode cX11_heap 12 = .ok (.iload_n 2, 1) := by decide +kernel
theorem dX11_heap_13 : decode cX11_heap 13 = .ok (.bipush 99, 2) := by decide +kernel
theorem dX11_heap_15 : decode cX11_heap 15 = .ok (.if_icmp .le 9, 3) := by decide +kernel
theorem dX11_heap_18 : decode cX11_heap 18 = .ok (.aload_n 0, 1) := by decide +kernel
theorem dX11_heap_19 : decode cX11_heap 19 = .ok (.iconst 1, 1) := by decide +kernel
theorem dX11_heap_20 : decode cX11_heap 20 = .ok (.invokevirtual 72, 3) := by decide +kernel
theorem dX11_heap_23 : decode cX11_heap 23 = .ok (.ireturn, 1) := by decide +kernel
theorem dX11_heap_24 : decode cX11_heap 24 = .ok (.aload_n 0, 1) := by decide +kernel
theorem dX11_heap_25 : decode cX11_heap 25 = .ok (.getfield 12, 3) := by decide +kernel
theorem dX11_heap_28 : decode cX11_heap 28 = .ok (.getfield 237, 3) := by decide +kernel
theorem dX11_heap_31 : decode cX11_heap 31 = .ok (.iload_n 1, 1) := by decide +kernel
theorem dX11_heap_32 : decode cX11_heap 32 = .ok (.iaload, 1) := by decide +kernel
theorem dX11_heap_33 : decode cX11_heap 33 = .ok (.istore_n 3, 1) := by decide +kernel
theorem dX11_heap_34 : decode cX11_heap 34 = .ok (.iload_n 2, 1) := by decide +kernel
theorem dX11_heap_35 : decode cX11_heap 35 = .ok (.ifCond .lt 13, 3) := by decide +kernel
theorem dX11_heap_38 : decode cX11_heap 38 = .ok (.aload_n 0, 1) := by decide +kernel
theorem dX11_heap_39 : decode cX11_heap 39 = .ok (.getfield 12, 3) := by decide +kernel
theorem dX11_heap_42 : decode cX11_heap 42 = .ok (.getfield 237, 3) := by decide +kernel
theorem dX11_heap_45 : decode cX11_heap 45 = .ok (.iload_n 1, 1) := by decide +kernel
theorem dX11_heap_46 : decode cX11_heap 46 = .ok (.iload_n 2, 1) := by decide +kernel
theorem dX11_heap_47 : decode cX11_heap 47 = .ok (.iastore, 1) := by decide +kernel
theorem dX11_heap_48 : decode cX11_heap 48 = .ok (.iload_n 3, 1) := by decide +kernel
theorem dX11_heap_49 : decode cX11_heap 49 = .ok (.ireturn, 1) := by decide +kernel
theorem dX11_price_0 : decode cX11_price 0 = .ok (.iload_n 1, 1) := by decide +kernel
theorem dX11_price_1 : decode cX11_price 1 = .ok (.invokestatic 138, 3) := by decide +kernel
theorem dX11_price_4 : decode cX11_price 4 = .ok (.ifCond .eq 14, 3) := by decide +kernel
theorem dX11_price_7 : decode cX11_price 7 = .ok (.aload_n 0, 1) := by decide +kernel
theorem dX11_price_8 : decode cX11_price 8 = .ok (.getfield 12, 3) := by decide +kernel
theorem dX11_price_11 : decode cX11_price 11 = .ok (.iload_n 1, 1) := by decide +kernel
theorem dX11_price_12 : decode cX11_price 12 = .ok (.invokevirtual 240, 3) := by decide +kernel
theorem dX11_price_15 : decode cX11_price 15 = .ok (.goto 8, 3) := by decide +kernel
theorem dX11_price_18 : decode cX11_price 18 = .ok (.aload_n 0, 1) := by decide +kernel
theorem dX11_price_19 : decode cX11_price 19 = .ok (.iconst 1, 1) := by decide +kernel
theorem dX11_price_20 : decode cX11_price 20 = .ok (.invokevirtual 72, 3) := by decide +kernel
theorem dX11_price_23 : decode cX11_price 23 = .ok (.ireturn, 1) := by decide +kernel
theorem dX11_have_0 : decode cX11_have 0 = .ok (.iload_n 1, 1) := by decide +kernel
theorem dX11_have_1 : decode cX11_have 1 = .ok (.ifCond .lt 26, 3) := by decide +kernel
theorem dX11_have_4 : decode cX11_have 4 = .ok (.iload_n 1, 1) := by decide +kernel
theorem dX11_have_5 : decode cX11_have 5 = .ok (.iconst 1, 1) := by decide +kernel
theorem dX11_have_6 : decode cX11_have 6 = .ok (.if_icmp .gt 21, 3) := by decide +kernel
theorem dX11_have_9 : decode cX11_have 9 = .ok (.iload_n 2, 1) := by decide +kernel
theorem dX11_have_10 : decode cX11_have 10 = .ok (.ifCond .lt 17, 3) := by decide +kernel
theorem dX11_have_13 : decode cX11_have 13 = .ok (.iload_n 2, 1) := by decide +kernel
theorem dX11_have_14 : decode cX11_have 14 = .ok (.iload_n 1, 1) := by decide +kernel
theorem dX11_have_15 : decode cX11_have 15 = .ok (.ifCond .ne 7, 3) := by decide +kernel
theorem dX11_have_18 : decode cX11_have 18 = .ok (.iconst 3, 1) := by decide +kernel
theorem dX11_have_19 : decode cX11_have 19 = .ok (.goto 5, 3) := by decide +kernel
theorem dX11_have_22 : decode cX11_have 22 = .ok (.ldc 243, 2) := by decide +kernel
theorem dX11_have_24 : decode cX11_have 24 = .ok (.if_icmp .le 9, 3) := by decide +kernel
theorem dX11_have_27 : decode cX11_have 27 = .ok (.aload_n 0, 1) := by decide +kernel
theorem dX11_have_28 : decode cX11_have 28 = .ok (.iconst 1, 1) := by decide +kernel
theorem dX11_have_29 : decode cX11_have 29 = .ok (.invokevirtual 72, 3) := by decide +kernel
theorem dX11_have_32 : decode cX11_have 32 = .ok (.ireturn, 1) := by decide +kernel
theorem dX11_have_33 : decode cX11_have 33 = .ok (.iload_n 1, 1) := by decide +kernel
theorem dX11_have_34 : decode cX11_have 34 = .ok (.ifCond .ne 13, 3) := by decide +kernel
theorem dX11_have_37 : decode cX11_have 37 = .ok (.aload_n 0, 1) := by decide +kernel
theorem dX11_have_38 : decode cX11_have 38 = .ok (.getfield 12, 3) := by decide +kernel
theorem dX11_have_41 : decode cX11_have 41 = .ok (.getfield 244, 3) := by decide +kernel
theorem dX11_have_44 : decode cX11_have 44 = .ok (.goto 10, 3) := by decide +kernel
theorem dX11_have_47 : decode cX11_have 47 = .ok (.aload_n 0, 1) := by decide +kernel
theorem dX11_have_48 : decode cX11_have 48 = .ok (.getfield 12, 3) := by decide +kernel
theorem dX11_have_51 : decode cX11_have 51 = .ok (.getfield 247, 3) := by decide +kernel
theorem dX11_have_54 : decode cX11_have 54 = .ok (.istore_n 3, 1) := by decide +kernel
theorem dX11_have_55 : decode cX11_have 55 = .ok (.iload_n 1, 1) := by decide +kernel
theorem dX11_have_56 : decode cX11_have 56 = .ok (.ifCond .ne 14, 3) := by decide +kernel
theorem dX11_have_59 : decode cX11_have 59 = .ok (.aload_n 0, 1) := by decide +kernel
theorem dX11_have_60 : decode cX11_have 60 = .ok (.getfield 12, 3) := by decide +kernel
theorem dX11_have_63 : decode cX11_have 63 = .ok (.iload_n 2, 1) := by decide +kernel
theorem dX11_have_64 : decode cX11_have 64 = .ok (.putfield 244, 3) := by decide +kernel
theorem dX11_have_67 : decode cX11_have 67 = .ok (.goto 11, 3) := by decide +kernel
theorem dX11_have_70 : decode cX11_have 70 = .ok (.aload_n 0, 1) := by decide +kernel
theorem dX11_have_71 : decode cX11_have 71 = .ok (.getfield 12, 3) := by decide +kernel
theorem dX11_have_74 : decode cX11_have 74 = .ok (.iload_n 2, 1) := by decide +kernel
theorem dX11_have_75 : decode cX11_have 75 = .ok (.putfield 247, 3) := by decide +kernel
theorem dX11_have_78 : decode cX11_have 78 = .ok (.iload_n 3, 1) := by decide +kernel
theorem dX11_have_79 : decode cX11_have 79 = .ok (.ireturn, 1) := by decide +kernel
theorem dX11_lay_0 : decode cX11_lay 0 = .ok (.aload_n 0, 1) := by decide +kernel
theorem dX11_lay_1 : decode cX11_lay 1 = .ok (.getfield 12, 3) := by decide +kernel
theorem dX11_lay_4 : decode cX11_lay 4 = .ok (.iload_n 1, 1) := by decide +kernel
theorem dX11_lay_5 : decode cX11_lay 5 = .ok (.iload_n 2, 1) := by decide +kernel
theorem dX11_lay_6 : decode cX11_lay 6 = .ok (.invokevirtual 129, 3) := by decide +kernel
theorem dX11_lay_9 : decode cX11_lay 9 = .ok (.ifCond .eq 21, 3) := by decide +kernel
theorem dX11_lay_12 : decode cX11_lay 12 = .ok (.iload_n 3, 1) := by decide +kernel
theorem dX11_lay_13 : decode cX11_lay 13 = .ok (.invokestatic 138, 3) := by decide +kernel
theorem dX11_lay_16 : decode cX11_lay 16 = .ok (.ifCond .eq 14, 3) := by decide +kernel
theorem dX11_lay_19 : decode cX11_lay 19 = .ok (.iload 4, 2) := by decide +kernel
theorem dX11_lay_21 : decode cX11_lay 21 = .ok (.ifCond .lt 9, 3) := by decide +kernel
theorem dX11_lay_24 : decode cX11_lay 24 = .ok (.iload 4, 2) := by decide +kernel
theorem dX11_lay_26 : decode cX11_lay 26 = .ok (.iconst 1, 1) := by decide +kernel
theorem dX11_lay_27 : decode cX11_lay 27 = .ok (.if_icmp .le 9, 3) := by decide +kernel
theorem dX11_lay_30 : decode cX11_lay 30 = .ok (.aload_n 0, 1) := by decide +kernel
theorem dX11_lay_31 : decode cX11_lay 31 = .ok (.iconst 1, 1) := by decide +kernel
theorem dX11_lay_32 : decode cX11_lay 32 = .ok (.invokevirtual 72, 3) := by decide +kernel
theorem dX11_lay_35 : decode cX11_lay 35 = .ok (.ireturn, 1) := by decide +kernel
theorem dX11_lay_36 : decode cX11_lay 36 = .ok (.aload_n 0, 1) := by decide +kernel
theorem dX11_lay_37 : decode cX11_lay 37 = .ok (.getfield 12, 3) := by decide +kernel
theorem dX11_lay_40 : decode cX11_lay 40 = .ok (.getfield 80, 3) := by decide +kernel
theorem dX11_lay_43 : decode cX11_lay 43 = .ok (.iload_n 1, 1) := by decide +kernel
theorem dX11_lay_44 : decode cX11_lay 44 = .ok (.aaload, 1) := by decide +kernel
theorem dX11_lay_45 : decode cX11_lay 45 = .ok (.astore 5, 2) := by decide +kernel
theorem dX11_lay_47 : decode cX11_lay 47 = .ok (.aload 5, 2) := by decide +kernel
theorem dX11_lay_49 : decode cX11_lay 49 = .ok (.getfield 132, 3) := by decide +kernel
theorem dX11_lay_52 : decode cX11_lay 52 = .ok (.iload_n 2, 1) := by decide +kernel
theorem dX11_lay_53 : decode cX11_lay 53 = .ok (.iaload, 1) := by decide +kernel
theorem dX11_lay_54 : decode cX11_lay 54 = .ok (.ifCond .eq 9, 3) := by decide +kernel
theorem dX11_lay_57 : decode cX11_lay 57 = .ok (.aload_n 0, 1) := by decide +kernel
theorem dX11_lay_58 : decode cX11_lay 58 = .ok (.iconst 3, 1) := by decide +kernel
theorem dX11_lay_59 : decode cX11_lay 59 = .ok (.invokevirtual 72, 3) := by decide +kernel
theorem dX11_lay_62 : decode cX11_lay 62 = .ok (.ireturn, 1) := by decide +kernel
theorem dX11_lay_63 : decode cX11_lay 63 = .ok (.iload 4, 2) := by decide +kernel
theorem dX11_lay_65 : decode cX11_lay 65 = .ok (.iconst 1, 1) := by decide +kernel
theorem dX11_lay_66 : decode cX11_lay 66 = .ok (.if_icmp .ne 14, 3) := by decide +kernel
theorem dX11_lay_69 : decode cX11_lay 69 = .ok (.aload_n 0, 1) := by decide +kernel
theorem dX11_lay_70 : decode cX11_lay 70 = .ok (.getfield 12, 3) := by decide +kernel
theorem dX11_lay_73 : decode cX11_lay 73 = .ok (.iload_n 3, 1) := by decide +kernel
theorem dX11_lay_74 : decode cX11_lay 74 = .ok (.invokevirtual 240, 3) := by decide +kernel
theorem dX11_lay_77 : decode cX11_lay 77 = .ok (.goto 4, 3) := by decide +kernel
theorem dX11_lay_80 : decode cX11_lay 80 = .ok (.iconst 1, 1) := by decide +kernel
theorem dX11_lay_81 : decode cX11_lay 81 = .ok (.istore 6, 2) := by decide +kernel
theorem dX11_lay_83 : decode cX11_lay 83 = .ok (.iload 6, 2) := by decide +kernel
theorem dX11_lay_85 : decode cX11_lay 85 = .ok (.iload 4, 2) := by decide +kernel
theorem dX11_lay_87 : decode cX11_lay 87 = .ok (.iconst 1, 1) := by decide +kernel
theorem dX11_lay_88 : decode cX11_lay 88 = .ok (.if_icmp .ne 13, 3) := by decide +kernel
theorem dX11_lay_91 : decode cX11_lay 91 = .ok (.aload_n 0, 1) := by decide +kernel
theorem dX11_lay_92 : decode cX11_lay 92 = .ok (.getfield 12, 3) := by decide +kernel
theorem dX11_lay_95 : decode cX11_lay 95 = .ok (.getfield 247, 3) := by decide +kernel
theorem dX11_lay_98 : decode cX11_lay 98 = .ok (.goto 12, 3) := by decide +kernel
theorem dX11_lay_101 : decode cX11_lay 101 = .ok (.aload_n 0, 1) := by decide +kernel
theorem dX11_lay_102 : decode cX11_lay 102 = .ok (.getfield 12, 3) := by decide +kernel
theorem dX11_lay_105 : decode cX11_lay 105 = .ok (.getfield 237, 3) := by decide +kernel
theorem dX11_lay_108 : decode cX11_lay 108 = .ok (.iload_n 3, 1) := by decide +kernel
theorem dX11_lay_109 : decode cX11_lay 109 = .ok (.iaload, 1) := by decide +kernel
theorem dX11_lay_110 : decode cX11_lay 110 = .ok (.if_icmp .le 9, 3) := by decide +kernel
theorem dX11_lay_113 : decode cX11_lay 113 = .ok (.aload_n 0, 1) := by decide +kernel
theorem dX11_lay_114 : decode cX11_lay 114 = .ok (.iconst 3, 1) := by decide +kernel
theorem dX11_lay_115 : decode cX11_lay 115 = .ok (.invokevirtual 72, 3) := by decide +kernel
theorem dX11_lay_118 : decode cX11_lay 118 = .ok (.ireturn, 1) := by decide +kernel
theorem dX11_lay_119 : decode cX11_lay 119 = .ok (.iload 4, 2) := by decide +kernel
theorem dX11_lay_121 : decode cX11_lay 121 = .ok (.iconst 1, 1) := by decide +kernel
theorem dX11_lay_122 : decode cX11_lay 122 = .ok (.if_icmp .ne 20, 3) := by decide +kernel
theorem dX11_lay_125 : decode cX11_lay 125 = .ok (.aload_n 0, 1) := by decide +kernel
theorem dX11_lay_126 : decode cX11_lay 126 = .ok (.getfield 12, 3) := by decide +kernel
theorem dX11_lay_129 : decode cX11_lay 129 = .ok (.dup, 1) := by decide +kernel
theorem dX11_lay_130 : decode cX11_lay 130 = .ok (.getfield 247, 3) := by decide +kernel
theorem dX11_lay_133 : decode cX11_lay 133 = .ok (.iload 6, 2) := by decide +kernel
theorem dX11_lay_135 : decode cX11_lay 135 = .ok (.isub, 1) := by decide +kernel
theorem dX11_lay_136 : decode cX11_lay 136 = .ok (.putfield 247, 3) := by decide +kernel
theorem dX11_lay_139 : decode cX11_lay 139 = .ok (.goto 17, 3) := by decide +kernel
theorem dX11_lay_142 : decode cX11_lay 142 = .ok (.aload_n 0, 1) := by decide +kernel
theorem dX11_lay_143 : decode cX11_lay 143 = .ok (.getfield 12, 3) := by decide +kernel
theorem dX11_lay_146 : decode cX11_lay 146 = .ok (.getfield 237, 3) := by decide +kernel
theorem dX11_lay_149 : decode cX11_lay 149 = .ok (.iload_n 3, 1) := by decide +kernel
theorem dX11_lay_150 : decode cX11_lay 150 = .ok (.dup2, 1) := by decide +kernel
theorem dX11_lay_151 : decode cX11_lay 151 = .ok (.iaload, 1) := by decide +kernel
theorem dX11_lay_152 : decode cX11_lay 152 = .ok (.iload 6, 2) := by decide +kernel
theorem dX11_lay_154 : decode cX11_lay 154 = .ok (.isub, 1) := by decide +kernel
theorem dX11_lay_155 : decode cX11_lay 155 = .ok (.iastore, 1) := by decide +kernel
theorem dX11_lay_156 : decode cX11_lay 156 = .ok (.aload 5, 2) := by decide +kernel
theorem dX11_lay_158 : decode cX11_lay 158 = .ok (.getfield 132, 3) := by decide +kernel
theorem dX11_lay_161 : decode cX11_lay 161 = .ok (.iload_n 2, 1) := by decide +kernel
theorem dX11_lay_162 : decode cX11_lay 162 = .ok (.iload_n 3, 1) := by decide +kernel
theorem dX11_lay_163 : decode cX11_lay 163 = .ok (.iastore, 1) := by decide +kernel
theorem dX11_lay_164 : decode cX11_lay 164 = .ok (.aload 5, 2) := by decide +kernel
theorem dX11_lay_166 : decode cX11_lay 166 = .ok (.invokevirtual 250, 3) := by decide +kernel
theorem dX11_lay_169 : decode cX11_lay 169 = .ok (.ireturn, 1) := by decide +kernel
theorem dX11_falls_0 : decode cX11_falls 0 = .ok (.aload_n 0, 1) := by decide +kernel
theorem dX11_falls_1 : decode cX11_falls 1 = .ok (.getfield 12, 3) := by decide +kernel
theorem dX11_falls_4 : decode cX11_falls 4 = .ok (.iload_n 1, 1) := by decide +kernel
theorem dX11_falls_5 : decode cX11_falls 5 = .ok (.invokevirtual 88, 3) := by decide +kernel
theorem dX11_falls_8 : decode cX11_falls 8 = .ok (.ifCond .ne 9, 3) := by decide +kernel
theorem dX11_falls_11 : decode cX11_falls 11 = .ok (.aload_n 0, 1) := by decide +kernel
theorem dX11_falls_12 : decode cX11_falls 12 = .ok (.iconst 1, 1) := by decide +kernel
theorem dX11_falls_13 : decode cX11_falls 13 = .ok (.invokevirtual 72, 3) := by decide +kernel
theorem dX11_falls_16 : decode cX11_falls 16 = .ok (.ireturn, 1) := by decide +kernel
theorem dX11_falls_17 : decode cX11_falls 17 = .ok (.aload_n 0, 1) := by decide +kernel
theorem dX11_falls_18 : decode cX11_falls 18 = .ok (.getfield 12, 3) := by decide +kernel
theorem dX11_falls_21 : decode cX11_falls 21 = .ok (.getfield 80, 3) := by decide +kernel
theorem dX11_falls_24 : decode cX11_falls 24 = .ok (.iload_n 1, 1) := by decide +kernel
theorem dX11_falls_25 : decode cX11_falls 25 = .ok (.aaload, 1) := by decide +kernel
theorem dX11_falls_26 : decode cX11_falls 26 = .ok (.astore_n 2, 1) := by decide +kernel
theorem dX11_falls_27 : decode cX11_falls 27 = .ok (.aload_n 2, 1) := by decide +kernel
theorem dX11_falls_28 : decode cX11_falls 28 = .ok (.invokevirtual 250, 3) := by decide +kernel
theorem dX11_falls_31 : decode cX11_falls 31 = .ok (.istore_n 3, 1) := by decide +kernel
theorem dX11_falls_32 : decode cX11_falls 32 = .ok (.iconst 0, 1) := by decide +kernel
theorem dX11_falls_33 : decode cX11_falls 33 = .ok (.istore 4, 2) := by decide +kernel
theorem dX11_falls_35 : decode cX11_falls 35 = .ok (.iload 4, 2) := by decide +kernel
theorem dX11_falls_37 : decode cX11_falls 37 = .ok (.aload_n 2, 1) := by decide +kernel
theorem dX11_falls_38 : decode cX11_falls 38 = .ok (.getfield 102, 3) := by decide +kernel
theorem dX11_falls_41 : decode cX11_falls 41 = .ok (.if_icmp .ge 19, 3) := by decide +kernel
theorem dX11_falls_44 : decode cX11_falls 44 = .ok (.aload_n 0, 1) := by decide +kernel
theorem dX11_falls_45 : decode cX11_falls 45 = .ok (.getfield 12, 3) := by decide +kernel
theorem dX11_falls_48 : decode cX11_falls 48 = .ok (.aload_n 2, 1) := by decide +kernel
theorem dX11_falls_49 : decode cX11_falls 49 = .ok (.iload 4, 2) := by decide +kernel
theorem dX11_falls_51 : decode cX11_falls 51 = .ok (.invokevirtual 254, 3) := by decide +kernel
theorem dX11_falls_54 : decode cX11_falls 54 = .ok (.iinc 4 1, 3) := by decide +kernel
theorem dX11_falls_57 : decode cX11_falls 57 = .ok (.goto (-22), 3) := by decide +kernel
theorem dX11_falls_60 : decode cX11_falls 60 = .ok (.iload_n 3, 1) := by decide +kernel
theorem dX11_falls_61 : decode cX11_falls 61 = .ok (.ireturn, 1) := by decide +kernel
theorem dX11_builds_0 : decode cX11_builds 0 = .ok (.iload_n 1, 1) := by decide +kernel
theorem dX11_builds_1 : decode cX11_builds 1 = .ok (.iconst 1, 1) := by decide +kernel
theorem dX11_builds_2 : decode cX11_builds 2 = .ok (.if_icmp .lt 18, 3) := by decide +kernel
theorem dX11_builds_5 : decode cX11_builds 5 = .ok (.iload_n 1, 1) := by decide +kernel
theorem dX11_builds_6 : decode cX11_builds 6 = .ok (.bipush 7, 2) := by decide +kernel
theorem dX11_builds_8 : decode cX11_builds 8 = .ok (.if_icmp .gt 12, 3) := by decide +kernel
theorem dX11_builds_11 : decode cX11_builds 11 = .ok (.iload_n 2, 1) := by decide +kernel
theorem dX11_builds_12 : decode cX11_builds 12 = .ok (.ifCond .lt 8, 3) := by decide +kernel
theorem dX11_builds_15 : decode cX11_builds 15 = .ok (.iload_n 2, 1) := by decide +kernel
theorem dX11_builds_16 : decode cX11_builds 16 = .ok (.iconst 1, 1) := by decide +kernel
theorem dX11_builds_17 : decode cX11_builds 17 = .ok (.if_icmp .le 9, 3) := by decide +kernel
theorem dX11_builds_20 : decode cX11_builds 20 = .ok (.aload_n 0, 1) := by decide +kernel
theorem dX11_builds_21 : decode cX11_builds 21 = .ok (.iconst 1, 1) := by decide +kernel
theorem dX11_builds_22 : decode cX11_builds 22 = .ok (.invokevirtual 72, 3) := by decide +kernel
theorem dX11_builds_25 : decode cX11_builds 25 = .ok (.ireturn, 1) := by decide +kernel
theorem dX11_builds_26 : decode cX11_builds 26 = .ok (.aload_n 0, 1) := by decide +kernel
theorem dX11_builds_27 : decode cX11_builds 27 = .ok (.getfield 57, 3) := by decide +kernel
theorem dX11_builds_30 : decode cX11_builds 30 = .ok (.aload_n 0, 1) := by decide +kernel
theorem dX11_builds_31 : decode cX11_builds 31 = .ok (.getfield 12, 3) := by decide +kernel
theorem dX11_builds_34 : decode cX11_builds 34 = .ok (.getfield 106, 3) := by decide +kernel
theorem dX11_builds_37 : decode cX11_builds 37 = .ok (.aload_n 0, 1) := by decide +kernel
theorem dX11_builds_38 : decode cX11_builds 38 = .ok (.getfield 12, 3) := by decide +kernel
theorem dX11_builds_41 : decode cX11_builds 41 = .ok (.getfield 237, 3) := by decide +kernel
theorem dX11_builds_44 : decode cX11_builds 44 = .ok (.iload_n 1, 1) := by decide +kernel
theorem dX11_builds_45 : decode cX11_builds 45 = .ok (.invokevirtual 258, 3) := by decide +kernel
theorem dX11_builds_48 : decode cX11_builds 48 = .ok (.iload_n 2, 1) := by decide +kernel
theorem dX11_builds_49 : decode cX11_builds 49 = .ok (.ifCond .ne 13, 3) := by decide +kernel
theorem dX11_builds_52 : decode cX11_builds 52 = .ok (.aload_n 0, 1) := by decide +kernel
theorem dX11_builds_53 : decode cX11_builds 53 = .ok (.getfield 57, 3) := by decide +kernel
theorem dX11_builds_56 : decode cX11_builds 56 = .ok (.getfield 262, 3) := by decide +kernel
theorem dX11_builds_59 : decode cX11_builds 59 = .ok (.goto 10, 3) := by decide +kernel
theorem dX11_builds_62 : decode cX11_builds 62 = .ok (.aload_n 0, 1) := by decide +kernel
theorem dX11_builds_63 : decode cX11_builds 63 = .ok (.getfield 57, 3) := by decide +kernel
theorem dX11_builds_66 : decode cX11_builds 66 = .ok (.getfield 265, 3) := by decide +kernel
theorem dX11_builds_69 : decode cX11_builds 69 = .ok (.ireturn, 1) := by decide +kernel
theorem dX11_passYear_0 : decode cX11_passYear 0 = .ok (.aload_n 0, 1) := by decide +kernel
theorem dX11_passYear_1 : decode cX11_passYear 1 = .ok (.getfield 12, 3) := by decide +kernel
theorem dX11_passYear_4 : decode cX11_passYear 4 = .ok (.aload_n 0, 1) := by decide +kernel
theorem dX11_passYear_5 : decode cX11_passYear 5 = .ok (.getfield 12, 3) := by decide +kernel
theorem dX11_passYear_8 : decode cX11_passYear 8 = .ok (.invokevirtual 336, 3) := by decide +kernel
theorem dX11_passYear_11 : decode cX11_passYear 11 = .ok (.iconst 4, 1) := by decide +kernel
theorem dX11_passYear_12 : decode cX11_passYear 12 = .ok (.irem, 1) := by decide +kernel
theorem dX11_passYear_13 : decode cX11_passYear 13 = .ok (.putfield 244, 3) := by decide +kernel
theorem dX11_passYear_16 : decode cX11_passYear 16 = .ok (.aload_n 0, 1) := by decide +kernel
theorem dX11_passYear_17 : decode cX11_passYear 17 = .ok (.getfield 12, 3) := by decide +kernel
theorem dX11_passYear_20 : decode cX11_passYear 20 = .ok (.ldc 243, 2) := by decide +kernel
theorem dX11_passYear_22 : decode cX11_passYear 22 = .ok (.aload_n 0, 1) := by decide +kernel
theorem dX11_passYear_23 : decode cX11_passYear 23 = .ok (.getfield 12, 3) := by decide +kernel
theorem dX11_passYear_26 : decode cX11_passYear 26 = .ok (.getfield 247, 3) := by decide +kernel
theorem dX11_passYear_29 : decode cX11_passYear 29 = .ok (.bipush 50, 2) := by decide +kernel
theorem dX11_passYear_31 : decode cX11_passYear 31 = .ok (.iadd, 1) := by decide +kernel
theorem dX11_passYear_32 : decode cX11_passYear 32 = .ok (.invokestatic 304, 3) := by decide +kernel
theorem dX11_passYear_35 : decode cX11_passYear 35 = .ok (.putfield 247, 3) := by decide +kernel
theorem dX11_passYear_38 : decode cX11_passYear 38 = .ok (.iconst 0, 1) := by decide +kernel
theorem dX11_passYear_39 : decode cX11_passYear 39 = .ok (.istore_n 1, 1) := by decide +kernel
theorem dX11_passYear_40 : decode cX11_passYear 40 = .ok (.iconst 0, 1) := by decide +kernel
theorem dX11_passYear_41 : decode cX11_passYear 41 = .ok (.istore_n 2, 1) := by decide +kernel
theorem dX11_passYear_42 : decode cX11_passYear 42 = .ok (.iload_n 2, 1) := by decide +kernel
theorem dX11_passYear_43 : decode cX11_passYear 43 = .ok (.aload_n 0, 1) := by decide +kernel
theorem dX11_passYear_44 : decode cX11_passYear 44 = .ok (.getfield 12, 3) := by decide +kernel
theorem dX11_passYear_47 : decode cX11_passYear 47 = .ok (.getfield 76, 3) := by decide +kernel
theorem dX11_passYear_50 : decode cX11_passYear 50 = .ok (.if_icmp .ge 84, 3) := by decide +kernel
theorem dX11_passYear_53 : decode cX11_passYear 53 = .ok (.aload_n 0, 1) := by decide +kernel
theorem dX11_passYear_54 : decode cX11_passYear 54 = .ok (.getfield 12, 3) := by decide +kernel
theorem dX11_passYear_57 : decode cX11_passYear 57 = .ok (.getfield 80, 3) := by decide +kernel
theorem dX11_passYear_60 : decode cX11_passYear 60 = .ok (.iload_n 2, 1) := by decide +kernel
theorem dX11_passYear_61 : decode cX11_passYear 61 = .ok (.aaload, 1) := by decide +kernel
theorem dX11_passYear_62 : decode cX11_passYear 62 = .ok (.astore_n 3, 1) := by decide +kernel
theorem dX11_passYear_63 : decode cX11_passYear 63 = .ok (.aload_n 3, 1) := by decide +kernel
theorem dX11_passYear_64 : decode cX11_passYear 64 = .ok (.getfield 102, 3) := by decide +kernel
theorem dX11_passYear_67 : decode cX11_passYear 67 = .ok (.ifCond .eq 61, 3) := by decide +kernel
theorem dX11_passYear_70 : decode cX11_passYear 70 = .ok (.aload_n 3, 1) := by decide +kernel
theorem dX11_passYear_71 : decode cX11_passYear 71 = .ok (.invokevirtual 250, 3) := by decide +kernel
theorem dX11_passYear_74 : decode cX11_passYear 74 = .ok (.ifCond .ne 6, 3) := by decide +kernel
theorem dX11_passYear_77 : decode cX11_passYear 77 = .ok (.goto 51, 3) := by decide +kernel
theorem dX11_passYear_80 : decode cX11_passYear 80 = .ok (.aload_n 0, 1) := by decide +kernel
theorem dX11_passYear_81 : decode cX11_passYear 81 = .ok (.getfield 12, 3) := by decide +kernel
theorem dX11_passYear_84 : decode cX11_passYear 84 = .ok (.invokevirtual 336, 3) := by decide +kernel
theorem dX11_passYear_87 : decode cX11_passYear 87 = .ok (.aload_n 3, 1) := by decide +kernel
theorem dX11_passYear_88 : decode cX11_passYear 88 = .ok (.getfield 102, 3) := by decide +kernel
theorem dX11_passYear_91 : decode cX11_passYear 91 = .ok (.irem, 1) := by decide +kernel
theorem dX11_passYear_92 : decode cX11_passYear 92 = .ok (.istore 4, 2) := by decide +kernel
theorem dX11_passYear_94 : decode cX11_passYear 94 = .ok (.aload_n 3, 1) := by decide +kernel
theorem dX11_passYear_95 : decode cX11_passYear 95 = .ok (.getfield 132, 3) := by decide +kernel
theorem dX11_passYear_98 : decode cX11_passYear 98 = .ok (.iload 4, 2) := by decide +kernel
theorem dX11_passYear_100 : decode cX11_passYear 100 = .ok (.iaload, 1) := by decide +kernel
theorem dX11_passYear_101 : decode cX11_passYear 101 = .ok (.ifCond .eq 27, 3) := by decide +kernel
theorem dX11_passYear_104 : decode cX11_passYear 104 = .ok (.aload_n 0, 1) := by decide +kernel
theorem dX11_passYear_105 : decode cX11_passYear 105 = .ok (.iload_n 2, 1) := by decide +kernel
theorem dX11_passYear_106 : decode cX11_passYear 106 = .ok (.iload 4, 2) := by decide +kernel
theorem dX11_passYear_108 : decode cX11_passYear 108 = .ok (.iconst 0, 1) := by decide +kernel
theorem dX11_passYear_109 : decode cX11_passYear 109 = .ok (.invokevirtual 206, 3) := by decide +kernel
theorem dX11_passYear_112 : decode cX11_passYear 112 = .ok (.ifCond .eq 16, 3) := by decide +kernel
theorem dX11_passYear_115 : decode cX11_passYear 115 = .ok (.aload_n 0, 1) := by decide +kernel
theorem dX11_passYear_116 : decode cX11_passYear 116 = .ok (.getfield 12, 3) := by decide +kernel
theorem dX11_passYear_119 : decode cX11_passYear 119 = .ok (.aload_n 3, 1) := by decide +kernel
theorem dX11_passYear_120 : decode cX11_passYear 120 = .ok (.iload 4, 2) := by decide +kernel
theorem dX11_passYear_122 : decode cX11_passYear 122 = .ok (.invokevirtual 254, 3) := by decide +kernel
theorem dX11_passYear_125 : decode cX11_passYear 125 = .ok (.iinc 1 1, 3) := by decide +kernel
theorem dX11_passYear_128 : decode cX11_passYear 128 = .ok (.iinc 2 1, 3) := by decide +kernel
theorem dX11_passYear_131 : decode cX11_passYear 131 = .ok (.goto (-89), 3) := by decide +kernel
theorem dX11_passYear_134 : decode cX11_passYear 134 = .ok (.iload_n 1, 1) := by decide +kernel
theorem dX11_passYear_135 : decode cX11_passYear 135 = .ok (.ireturn, 1) := by decide +kernel
theorem dX11_years_0 : decode cX11_years 0 = .ok (.iload_n 1, 1) := by decide +kernel
theorem dX11_years_1 : decode cX11_years 1 = .ok (.iconst 1, 1) := by decide +kernel
theorem dX11_years_2 : decode cX11_years 2 = .ok (.if_icmp .lt 9, 3) := by decide +kernel
theorem dX11_years_5 : decode cX11_years 5 = .ok (.iload_n 1, 1) := by decide +kernel
theorem dX11_years_6 : decode cX11_years 6 = .ok (.bipush 20, 2) := by decide +kernel
theorem dX11_years_8 : decode cX11_years 8 = .ok (.if_icmp .le 9, 3) := by decide +kernel
theorem dX11_years_11 : decode cX11_years 11 = .ok (.aload_n 0, 1) := by decide +kernel
theorem dX11_years_12 : decode cX11_years 12 = .ok (.iconst 1, 1) := by decide +kernel
theorem dX11_years_13 : decode cX11_years 13 = .ok (.invokevirtual 72, 3) := by decide +kernel
theorem dX11_years_16 : decode cX11_years 16 = .ok (.ireturn, 1) := by decide +kernel
theorem dX11_years_17 : decode cX11_years 17 = .ok (.iconst 0, 1) := by decide +kernel
theorem dX11_years_18 : decode cX11_years 18 = .ok (.istore_n 2, 1) := by decide +kernel
theorem dX11_years_19 : decode cX11_years 19 = .ok (.iconst 0, 1) := by decide +kernel
theorem dX11_years_20 : decode cX11_years 20 = .ok (.istore_n 3, 1) := by decide +kernel
theorem dX11_years_21 : decode cX11_years 21 = .ok (.iload_n 3, 1) := by decide +kernel
theorem dX11_years_22 : decode cX11_years 22 = .ok (.iload_n 1, 1) := by decide +kernel
theorem dX11_years_23 : decode cX11_years 23 = .ok (.if_icmp .ge 16, 3) := by decide +kernel
theorem dX11_years_26 : decode cX11_years 26 = .ok (.iload_n 2, 1) := by decide +kernel
theorem dX11_years_27 : decode cX11_years 27 = .ok (.aload_n 0, 1) := by decide +kernel
theorem dX11_years_28 : decode cX11_years 28 = .ok (.invokevirtual 268, 3) := by decide +kernel
theorem dX11_years_31 : decode cX11_years 31 = .ok (.iadd, 1) := by decide +kernel
theorem dX11_years_32 : decode cX11_years 32 = .ok (.istore_n 2, 1) := by decide +kernel
theorem dX11_years_33 : decode cX11_years 33 = .ok (.iinc 3 1, 3) := by decide +kernel
theorem dX11_years_36 : decode cX11_years 36 = .ok (.goto (-15), 3) := by decide +kernel
theorem dX11_years_39 : decode cX11_years 39 = .ok (.iload_n 2, 1) := by decide +kernel
theorem dX11_years_40 : decode cX11_years 40 = .ok (.ireturn, 1) := by decide +kernel
theorem dX11_seed_0 : decode cX11_seed 0 = .ok (.aload_n 0, 1) := by decide +kernel
theorem dX11_seed_1 : decode cX11_seed 1 = .ok (.getfield 12, 3) := by decide +kernel
theorem dX11_seed_4 : decode cX11_seed 4 = .ok (.getfield 271, 3) := by decide +kernel
theorem dX11_seed_7 : decode cX11_seed 7 = .ok (.istore_n 2, 1) := by decide +kernel
theorem dX11_seed_8 : decode cX11_seed 8 = .ok (.aload_n 0, 1) := by decide +kernel
theorem dX11_seed_9 : decode cX11_seed 9 = .ok (.getfield 12, 3) := by decide +kernel
theorem dX11_seed_12 : decode cX11_seed 12 = .ok (.iload_n 1, 1) := by decide +kernel
theorem dX11_seed_13 : decode cX11_seed 13 = .ok (.putfield 271, 3) := by decide +kernel
theorem dX11_seed_16 : decode cX11_seed 16 = .ok (.iload_n 2, 1) := by decide +kernel
theorem dX11_seed_17 : decode cX11_seed 17 = .ok (.ireturn, 1) := by decide +kernel
theorem dX11_voice_0 : decode cX11_voice 0 = .ok (.aload_n 0, 1) := by decide +kernel
theorem dX11_voice_1 : decode cX11_voice 1 = .ok (.getfield 12, 3) := by decide +kernel
theorem dX11_voice_4 : decode cX11_voice 4 = .ok (.iload_n 1, 1) := by decide +kernel
theorem dX11_voice_5 : decode cX11_voice 5 = .ok (.invokevirtual 88, 3) := by decide +kernel
theorem dX11_voice_8 : decode cX11_voice 8 = .ok (.ifCond .eq 12, 3) := by decide +kernel
theorem dX11_voice_11 : decode cX11_voice 11 = .ok (.iload_n 2, 1) := by decide +kernel
theorem dX11_voice_12 : decode cX11_voice 12 = .ok (.ifCond .lt 8, 3) := by decide +kernel
theorem dX11_voice_15 : decode cX11_voice 15 = .ok (.iload_n 2, 1) := by decide +kernel
theorem dX11_voice_16 : decode cX11_voice 16 = .ok (.iconst 4, 1) := by decide +kernel
theorem dX11_voice_17 : decode cX11_voice 17 = .ok (.if_icmp .lt 9, 3) := by decide +kernel
theorem dX11_voice_20 : decode cX11_voice 20 = .ok (.aload_n 0, 1) := by decide +kernel
theorem dX11_voice_21 : decode cX11_voice 21 = .ok (.iconst 1, 1) := by decide +kernel
theorem dX11_voice_22 : decode cX11_voice 22 = .ok (.invokevirtual 72, 3) := by decide +kernel
theorem dX11_voice_25 : decode cX11_voice 25 = .ok (.ireturn, 1) := by decide +kernel
theorem dX11_voice_26 : decode cX11_voice 26 = .ok (.aload_n 0, 1) := by decide +kernel
theorem dX11_voice_27 : decode cX11_voice 27 = .ok (.getfield 64, 3) := by decide +kernel
theorem dX11_voice_30 : decode cX11_voice 30 = .ok (.aload_n 0, 1) := by decide +kernel
theorem dX11_voice_31 : decode cX11_voice 31 = .ok (.getfield 12, 3) := by decide +kernel
theorem dX11_voice_34 : decode cX11_voice 34 = .ok (.getfield 80, 3) := by decide +kernel
theorem dX11_voice_37 : decode cX11_voice 37 = .ok (.iload_n 1, 1) := by decide +kernel
theorem dX11_voice_38 : decode cX11_voice 38 = .ok (.aaload, 1) := by decide +kernel
theorem dX11_voice_39 : decode cX11_voice 39 = .ok (.iload_n 1, 1) := by decide +kernel
theorem dX11_voice_40 : decode cX11_voice 40 = .ok (.iload_n 2, 1) := by decide +kernel
theorem dX11_voice_41 : decode cX11_voice 41 = .ok (.iload_n 3, 1) := by decide +kernel
theorem dX11_voice_42 : decode cX11_voice 42 = .ok (.invokevirtual 274, 3) := by decide +kernel
theorem dX11_voice_45 : decode cX11_voice 45 = .ok (.istore 4, 2) := by decide +kernel
theorem dX11_voice_47 : decode cX11_voice 47 = .ok (.aload_n 0, 1) := by decide +kernel
theorem dX11_voice_48 : decode cX11_voice 48 = .ok (.getfield 64, 3) := by decide +kernel
theorem dX11_voice_51 : decode cX11_voice 51 = .ok (.getfield 278, 3) := by decide +kernel
theorem dX11_voice_54 : decode cX11_voice 54 = .ok (.ifCond .eq 12, 3) := by decide +kernel
theorem dX11_voice_57 : decode cX11_voice 57 = .ok (.aload_n 0, 1) := by decide +kernel
theorem dX11_voice_58 : decode cX11_voice 58 = .ok (.bipush 6, 2) := by decide +kernel
theorem dX11_voice_60 : decode cX11_voice 60 = .ok (.invokevirtual 72, 3) := by decide +kernel
theorem dX11_voice_63 : decode cX11_voice 63 = .ok (.goto 5, 3) := by decide +kernel
theorem dX11_voice_66 : decode cX11_voice 66 = .ok (.iload 4, 2) := by decide +kernel
theorem dX11_voice_68 : decode cX11_voice 68 = .ok (.ireturn, 1) := by decide +kernel
theorem dX11_body_0 : decode cX11_body 0 = .ok (.iload_n 1, 1) := by decide +kernel
theorem dX11_body_1 : decode cX11_body 1 = .ok (.ifCond .lt 26, 3) := by decide +kernel
theorem dX11_body_4 : decode cX11_body 4 = .ok (.iload_n 1, 1) := by decide +kernel
theorem dX11_body_5 : decode cX11_body 5 = .ok (.aload_n 0, 1) := by decide +kernel
theorem dX11_body_6 : decode cX11_body 6 = .ok (.getfield 64, 3) := by decide +kernel
theorem dX11_body_9 : decode cX11_body 9 = .ok (.getfield 282, 3) := by decide +kernel
theorem dX11_body_12 : decode cX11_body 12 = .ok (.if_icmp .ge 15, 3) := by decide +kernel
theorem dX11_body_15 : decode cX11_body 15 = .ok (.aload_n 0, 1) := by decide +kernel
theorem dX11_body_16 : decode cX11_body 16 = .ok (.getfield 64, 3) := by decide +kernel
theorem dX11_body_19 : decode cX11_body 19 = .ok (.getfield 285, 3) := by decide +kernel
theorem dX11_body_22 : decode cX11_body 22 = .ok (.iload_n 1, 1) := by decide +kernel
theorem dX11_body_23 : decode cX11_body 23 = .ok (.iaload, 1) := by decide +kernel
theorem dX11_body_24 : decode cX11_body 24 = .ok (.goto 8, 3) := by decide +kernel
theorem dX11_body_27 : decode cX11_body 27 = .ok (.aload_n 0, 1) := by decide +kernel
theorem dX11_body_28 : decode cX11_body 28 = .ok (.iconst 2, 1) := by decide +kernel
theorem dX11_body_29 : decode cX11_body 29 = .ok (.invokevirtual 72, 3) := by decide +kernel
theorem dX11_body_32 : decode cX11_body 32 = .ok (.ireturn, 1) := by decide +kernel
theorem dX11_sheet_0 : decode cX11_sheet 0 = .ok (.iload_n 1, 1) := by decide +kernel
theorem dX11_sheet_1 : decode cX11_sheet 1 = .ok (.invokestatic 223, 3) := by decide +kernel
theorem dX11_sheet_4 : decode cX11_sheet 4 = .ok (.ifCond .eq 25, 3) := by decide +kernel
theorem dX11_sheet_7 : decode cX11_sheet 7 = .ok (.iload_n 2, 1) := by decide +kernel
theorem dX11_sheet_8 : decode cX11_sheet 8 = .ok (.ifCond .eq 27, 3) := by decide +kernel
theorem dX11_sheet_11 : decode cX11_sheet 11 = .ok (.iload_n 2, 1) := by decide +kernel
theorem dX11_sheet_12 : decode cX11_sheet 12 = .ok (.bipush 8, 2) := by decide +kernel
theorem dX11_sheet_14 : decode cX11_sheet 14 = .ok (.if_icmp .eq 21, 3) := by decide +kernel
theorem dX11_sheet_17 : decode cX11_sheet 17 = .ok (.iload_n 2, 1) := by decide +kernel
theorem dX11_sheet_18 : decode cX11_sheet 18 = .ok (.bipush 16, 2) := by decide +kernel
theorem dX11_sheet_20 : decode cX11_sheet 20 = .ok (.if_icmp .eq 15, 3) := by decide +kernel
theorem dX11_sheet_23 : decode cX11_sheet 23 = .ok (.iload_n 2, 1) := by decide +kernel
theorem dX11_sheet_24 : decode cX11_sheet 24 = .ok (.bipush 32, 2) := by decide +kernel
theorem dX11_sheet_26 : decode cX11_sheet 26 = .ok (.if_icmp .eq 9, 3) := by decide +kernel
theorem dX11_sheet_29 : decode cX11_sheet 29 = .ok (.aload_n 0, 1) := by decide +kernel
theorem dX11_sheet_30 : decode cX11_sheet 30 = .ok (.iconst 1, 1) := by decide +kernel
theorem dX11_sheet_31 : decode cX11_sheet 31 = .ok (.invokevirtual 72, 3) := by decide +kernel
theorem dX11_sheet_34 : decode cX11_sheet 34 = .ok (.ireturn, 1) := by decide +kernel
theorem dX11_sheet_35 : decode cX11_sheet 35 = .ok (.iload_n 2, 1) := by decide +kernel
theorem dX11_sheet_36 : decode cX11_sheet 36 = .ok (.ifCond .ne 16, 3) := by decide +kernel
theorem dX11_sheet_39 : decode cX11_sheet 39 = .ok (.aload_n 0, 1) := by decide +kernel
theorem dX11_sheet_40 : decode cX11_sheet 40 = .ok (.getfield 21, 3) := by decide +kernel
theorem dX11_sheet_43 : decode cX11_sheet 43 = .ok (.iload_n 1, 1) := by decide +kernel
theorem dX11_sheet_44 : decode cX11_sheet 44 = .ok (.aaload, 1) := by decide +kernel
theorem dX11_sheet_45 : decode cX11_sheet 45 = .ok (.iconst 0, 1) := by decide +kernel
theorem dX11_sheet_46 : decode cX11_sheet 46 = .ok (.iconst 0, 1) := by decide +kernel
theorem dX11_sheet_47 : decode cX11_sheet 47 = .ok (.invokevirtual 288, 3) := by decide +kernel
theorem dX11_sheet_50 : decode cX11_sheet 50 = .ok (.iconst 1, 1) := by decide +kernel
theorem dX11_sheet_51 : decode cX11_sheet 51 = .ok (.ireturn, 1) := by decide +kernel
theorem dX11_sheet_52 : decode cX11_sheet 52 = .ok (.iload_n 3, 1) := by decide +kernel
theorem dX11_sheet_53 : decode cX11_sheet 53 = .ok (.ifCond .ge 9, 3) := by decide +kernel
theorem dX11_sheet_56 : decode cX11_sheet 56 = .ok (.aload_n 0, 1) := by decide +kernel
theorem dX11_sheet_57 : decode cX11_sheet 57 = .ok (.iconst 3, 1) := by decide +kernel
theorem dX11_sheet_58 : decode cX11_sheet 58 = .ok (.invokevirtual 72, 3) := by decide +kernel
theorem dX11_sheet_61 : decode cX11_sheet 61 = .ok (.ireturn, 1) := by decide +kernel
theorem dX11_sheet_62 : decode cX11_sheet 62 = .ok (.iload_n 3, 1) := by decide +kernel
theorem dX11_sheet_63 : decode cX11_sheet 63 = .ok (.bipush 24, 2) := by decide +kernel
theorem dX11_sheet_65 : decode cX11_sheet 65 = .ok (.if_icmp .le 9, 3) := by decide +kernel
theorem dX11_sheet_68 : decode cX11_sheet 68 = .ok (.aload_n 0, 1) := by decide +kernel
theorem dX11_sheet_69 : decode cX11_sheet 69 = .ok (.iconst 1, 1) := by decide +kernel
theorem dX11_sheet_70 : decode cX11_sheet 70 = .ok (.invokevirtual 72, 3) := by decide +kernel
theorem dX11_sheet_73 : decode cX11_sheet 73 = .ok (.ireturn, 1) := by decide +kernel
theorem dX11_sheet_74 : decode cX11_sheet 74 = .ok (.aload_n 0, 1) := by decide +kernel
theorem dX11_sheet_75 : decode cX11_sheet 75 = .ok (.getfield 21, 3) := by decide +kernel
theorem dX11_sheet_78 : decode cX11_sheet 78 = .ok (.iload_n 1, 1) := by decide +kernel
theorem dX11_sheet_79 : decode cX11_sheet 79 = .ok (.aaload, 1) := by decide +kernel
theorem dX11_sheet_80 : decode cX11_sheet 80 = .ok (.iload_n 2, 1) := by decide +kernel
theorem dX11_sheet_81 : decode cX11_sheet 81 = .ok (.iload_n 3, 1) := by decide +kernel
theorem dX11_sheet_82 : decode cX11_sheet 82 = .ok (.invokevirtual 288, 3) := by decide +kernel
theorem dX11_sheet_85 : decode cX11_sheet 85 = .ok (.iconst 1, 1) := by decide +kernel
theorem dX11_sheet_86 : decode cX11_sheet 86 = .ok (.ireturn, 1) := by decide +kernel
theorem dX11_put_0 : decode cX11_put 0 = .ok (.iload_n 1, 1) := by decide +kernel
theorem dX11_put_1 : decode cX11_put 1 = .ok (.invokestatic 223, 3) := by decide +kernel
theorem dX11_put_4 : decode cX11_put 4 = .ok (.ifCond .ne 9, 3) := by decide +kernel
theorem dX11_put_7 : decode cX11_put 7 = .ok (.aload_n 0, 1) := by decide +kernel
theorem dX11_put_8 : decode cX11_put 8 = .ok (.iconst 1, 1) := by decide +kernel
theorem dX11_put_9 : decode cX11_put 9 = .ok (.invokevirtual 72, 3) := by decide +kernel
theorem dX11_put_12 : decode cX11_put 12 = .ok (.ireturn, 1) := by decide +kernel
theorem dX11_put_13 : decode cX11_put 13 = .ok (.aload_n 0, 1) := by decide +kernel
theorem dX11_put_14 : decode cX11_put 14 = .ok (.getfield 21, 3) := by decide +kernel
theorem dX11_put_17 : decode cX11_put 17 = .ok (.iload_n 1, 1) := by decide +kernel
theorem dX11_put_18 : decode cX11_put 18 = .ok (.aaload, 1) := by decide +kernel
theorem dX11_put_19 : decode cX11_put 19 = .ok (.astore 4, 2) := by decide +kernel
theorem dX11_put_21 : decode cX11_put 21 = .ok (.aload 4, 2) := by decide +kernel
theorem dX11_put_23 : decode cX11_put 23 = .ok (.invokevirtual 226, 3) := by decide +kernel
theorem dX11_put_26 : decode cX11_put 26 = .ok (.ifCond .eq 9, 3) := by decide +kernel
theorem dX11_put_29 : decode cX11_put 29 = .ok (.aload_n 0, 1) := by decide +kernel
theorem dX11_put_30 : decode cX11_put 30 = .ok (.iconst 2, 1) := by decide +kernel
theorem dX11_put_31 : decode cX11_put 31 = .ok (.invokevirtual 72, 3) := by decide +kernel
theorem dX11_put_34 : decode cX11_put 34 = .ok (.ireturn, 1) := by decide +kernel
theorem dX11_put_35 : decode cX11_put 35 = .ok (.iload_n 2, 1) := by decide +kernel
theorem dX11_put_36 : decode cX11_put 36 = .ok (.ifCond .lt 12, 3) := by decide +kernel
theorem dX11_put_39 : decode cX11_put 39 = .ok (.iload_n 2, 1) := by decide +kernel
theorem dX11_put_40 : decode cX11_put 40 = .ok (.aload 4, 2) := by decide +kernel
theorem dX11_put_42 : decode cX11_put 42 = .ok (.getfield 229, 3) := by decide +kernel
theorem dX11_put_45 : decode cX11_put 45 = .ok (.if_icmp .lt 9, 3) := by decide +kernel
theorem dX11_put_48 : decode cX11_put 48 = .ok (.aload_n 0, 1) := by decide +kernel
theorem dX11_put_49 : decode cX11_put 49 = .ok (.iconst 1, 1) := by decide +kernel
theorem dX11_put_50 : decode cX11_put 50 = .ok (.invokevirtual 72, 3) := by decide +kernel
theorem dX11_put_53 : decode cX11_put 53 = .ok (.ireturn, 1) := by decide +kernel
theorem dX11_put_54 : decode cX11_put 54 = .ok (.aload 4, 2) := by decide +kernel
theorem dX11_put_56 : decode cX11_put 56 = .ok (.iload_n 2, 1) := by decide +kernel
theorem dX11_put_57 : decode cX11_put 57 = .ok (.iload_n 3, 1) := by decide +kernel
theorem dX11_put_58 : decode cX11_put 58 = .ok (.invokevirtual 289, 3) := by decide +kernel
theorem dX11_put_61 : decode cX11_put 61 = .ok (.iconst 1, 1) := by decide +kernel
theorem dX11_put_62 : decode cX11_put 62 = .ok (.ireturn, 1) := by decide +kernel
theorem dX11_move_0 : decode cX11_move 0 = .ok (.iload_n 1, 1) := by decide +kernel
theorem dX11_move_1 : decode cX11_move 1 = .ok (.invokestatic 223, 3) := by decide +kernel
theorem dX11_move_4 : decode cX11_move 4 = .ok (.ifCond .eq 10, 3) := by decide +kernel
theorem dX11_move_7 : decode cX11_move 7 = .ok (.iload_n 3, 1) := by decide +kernel
theorem dX11_move_8 : decode cX11_move 8 = .ok (.invokestatic 223, 3) := by decide +kernel
theorem dX11_move_11 : decode cX11_move 11 = .ok (.ifCond .ne 9, 3) := by decide +kernel
theorem dX11_move_14 : decode cX11_move 14 = .ok (.aload_n 0, 1) := by decide +kernel
theorem dX11_move_15 : decode cX11_move 15 = .ok (.iconst 1, 1) := by decide +kernel
theorem dX11_move_16 : decode cX11_move 16 = .ok (.invokevirtual 72, 3) := by decide +kernel
theorem dX11_move_19 : decode cX11_move 19 = .ok (.ireturn, 1) := by decide +kernel
theorem dX11_move_20 : decode cX11_move 20 = .ok (.aload_n 0, 1) := by decide +kernel
theorem dX11_move_21 : decode cX11_move 21 = .ok (.getfield 21, 3) := by decide +kernel
theorem dX11_move_24 : decode cX11_move 24 = .ok (.iload_n 1, 1) := by decide +kernel
theorem dX11_move_25 : decode cX11_move 25 = .ok (.aaload, 1) := by decide +kernel
theorem dX11_move_26 : decode cX11_move 26 = .ok (.astore 6, 2) := by decide +kernel
theorem dX11_move_28 : decode cX11_move 28 = .ok (.aload_n 0, 1) := by decide +kernel
theorem dX11_move_29 : decode cX11_move 29 = .ok (.getfield 21, 3) := by decide +kernel
theorem dX11_move_32 : decode cX11_move 32 = .ok (.iload_n 3, 1) := by decide +kernel
theorem dX11_move_33 : decode cX11_move 33 = .ok (.aaload, 1) := by decide +kernel
theorem dX11_move_34 : decode cX11_move 34 = .ok (.astore 7, 2) := by decide +kernel
theorem dX11_move_36 : decode cX11_move 36 = .ok (.aload 6, 2) := by decide +kernel
theorem dX11_move_38 : decode cX11_move 38 = .ok (.invokevirtual 226, 3) := by decide +kernel
theorem dX11_move_41 : decode cX11_move 41 = .ok (.ifCond .ne 11, 3) := by decide +kernel
theorem dX11_move_44 : decode cX11_move 44 = .ok (.aload 7, 2) := by decide +kernel
theorem dX11_move_46 : decode cX11_move 46 = .ok (.invokevirtual 226, 3) := by decide +kernel
theorem dX11_move_49 : decode cX11_move 49 = .ok (.ifCond .eq 9, 3) := by decide +kernel
theorem dX11_move_52 : decode cX11_move 52 = .ok (.aload_n 0, 1) := by decide +kernel
theorem dX11_move_53 : decode cX11_move 53 = .ok (.iconst 2, 1) := by decide +kernel
theorem dX11_move_54 : decode cX11_move 54 = .ok (.invokevirtual 72, 3) := by decide +kernel
theorem dX11_move_57 : decode cX11_move 57 = .ok (.ireturn, 1) := by decide +kernel
theorem dX11_move_58 : decode cX11_move 58 = .ok (.aload 6, 2) := by decide +kernel
theorem dX11_move_60 : decode cX11_move 60 = .ok (.getfield 292, 3) := by decide +kernel
theorem dX11_move_63 : decode cX11_move 63 = .ok (.aload 7, 2) := by decide +kernel
theorem dX11_move_65 : decode cX11_move 65 = .ok (.getfield 292, 3) := by decide +kernel
theorem dX11_move_68 : decode cX11_move 68 = .ok (.if_icmp .eq 9, 3) := by decide +kernel
theorem dX11_move_71 : decode cX11_move 71 = .ok (.aload_n 0, 1) := by decide +kernel
theorem dX11_move_72 : decode cX11_move 72 = .ok (.iconst 5, 1) := by decide +kernel
theorem dX11_move_73 : decode cX11_move 73 = .ok (.invokevirtual 72, 3) := by decide +kernel
theorem dX11_move_76 : decode cX11_move 76 = .ok (.ireturn, 1) := by decide +kernel
theorem dX11_move_77 : decode cX11_move 77 = .ok (.aload 6, 2) := by decide +kernel
theorem dX11_move_79 : decode cX11_move 79 = .ok (.iload_n 2, 1) := by decide +kernel
theorem dX11_move_80 : decode cX11_move 80 = .ok (.iload 5, 2) := by decide +kernel
theorem dX11_move_82 : decode cX11_move 82 = .ok (.invokevirtual 295, 3) := by decide +kernel
theorem dX11_move_85 : decode cX11_move 85 = .ok (.ifCond .eq 15, 3) := by decide +kernel
theorem dX11_move_88 : decode cX11_move 88 = .ok (.aload 7, 2) := by decide +kernel
theorem dX11_move_90 : decode cX11_move 90 = .ok (.iload 4, 2) := by decide +kernel
theorem dX11_move_92 : decode cX11_move 92 = .ok (.iload 5, 2) := by decide +kernel
theorem dX11_move_94 : decode cX11_move 94 = .ok (.invokevirtual 295, 3) := by decide +kernel
theorem dX11_move_97 : decode cX11_move 97 = .ok (.ifCond .ne 9, 3) := by decide +kernel
theorem dX11_move_100 : decode cX11_move 100 = .ok (.aload_n 0, 1) := by decide +kernel
theorem dX11_move_101 : decode cX11_move 101 = .ok (.iconst 1, 1) := by decide +kernel
theorem dX11_move_102 : decode cX11_move 102 = .ok (.invokevirtual 72, 3) := by decide +kernel
theorem dX11_move_105 : decode cX11_move 105 = .ok (.ireturn, 1) := by decide +kernel
theorem dX11_move_106 : decode cX11_move 106 = .ok (.aload 6, 2) := by decide +kernel
theorem dX11_move_108 : decode cX11_move 108 = .ok (.getfield 230, 3) := by decide +kernel
theorem dX11_move_111 : decode cX11_move 111 = .ok (.iload_n 2, 1) := by decide +kernel
theorem dX11_move_112 : decode cX11_move 112 = .ok (.aload 7, 2) := by decide +kernel
theorem dX11_move_114 : decode cX11_move 114 = .ok (.getfield 230, 3) := by decide +kernel
theorem dX11_move_117 : decode cX11_move 117 = .ok (.iload 4, 2) := by decide +kernel
theorem dX11_move_119 : decode cX11_move 119 = .ok (.iload 5, 2) := by decide +kernel
theorem dX11_move_121 : decode cX11_move 121 = .ok (.invokestatic 298, 3) := by decide +kernel
theorem dX11_move_124 : decode cX11_move 124 = .ok (.iload 5, 2) := by decide +kernel
theorem dX11_move_126 : decode cX11_move 126 = .ok (.ireturn, 1) := by decide +kernel
theorem dX11_bricks_0 : decode cX11_bricks 0 = .ok (.iload_n 1, 1) := by decide +kernel
theorem dX11_bricks_1 : decode cX11_bricks 1 = .ok (.invokestatic 223, 3) := by decide +kernel
theorem dX11_bricks_4 : decode cX11_bricks 4 = .ok (.ifCond .eq 14, 3) := by decide +kernel
theorem dX11_bricks_7 : decode cX11_bricks 7 = .ok (.aload_n 0, 1) := by decide +kernel
theorem dX11_bricks_8 : decode cX11_bricks 8 = .ok (.getfield 12, 3) := by decide +kernel
theorem dX11_bricks_11 : decode cX11_bricks 11 = .ok (.iload_n 2, 1) := by decide +kernel
theorem dX11_bricks_12 : decode cX11_bricks 12 = .ok (.invokevirtual 88, 3) := by decide +kernel
theorem dX11_bricks_15 : decode cX11_bricks 15 = .ok (.ifCond .ne 9, 3) := by decide +kernel
theorem dX11_bricks_18 : decode cX11_bricks 18 = .ok (.aload_n 0, 1) := by decide +kernel
theorem dX11_bricks_19 : decode cX11_bricks 19 = .ok (.iconst 1, 1) := by decide +kernel
theorem dX11_bricks_20 : decode cX11_bricks 20 = .ok (.invokevirtual 72, 3) := by decide +kernel
theorem dX11_bricks_23 : decode cX11_bricks 23 = .ok (.ireturn, 1) := by decide +kernel
theorem dX11_bricks_24 : decode cX11_bricks 24 = .ok (.aload_n 0, 1) := by decide +kernel
theorem dX11_bricks_25 : decode cX11_bricks 25 = .ok (.getfield 21, 3) := by decide +kernel
theorem dX11_bricks_28 : decode cX11_bricks 28 = .ok (.iload_n 1, 1) := by decide +kernel
theorem dX11_bricks_29 : decode cX11_bricks 29 = .ok (.aaload, 1) := by decide +kernel
theorem dX11_bricks_30 : decode cX11_bricks 30 = .ok (.astore_n 3, 1) := by decide +kernel
theorem dX11_bricks_31 : decode cX11_bricks 31 = .ok (.aload_n 3, 1) := by decide +kernel
theorem dX11_bricks_32 : decode cX11_bricks 32 = .ok (.invokevirtual 226, 3) := by decide +kernel
theorem dX11_bricks_35 : decode cX11_bricks 35 = .ok (.ifCond .eq 9, 3) := by decide +kernel
theorem dX11_bricks_38 : decode cX11_bricks 38 = .ok (.aload_n 0, 1) := by decide +kernel
theorem dX11_bricks_39 : decode cX11_bricks 39 = .ok (.iconst 2, 1) := by decide +kernel
theorem dX11_bricks_40 : decode cX11_bricks 40 = .ok (.invokevirtual 72, 3) := by decide +kernel
theorem dX11_bricks_43 : decode cX11_bricks 43 = .ok (.ireturn, 1) := by decide +kernel
theorem dX11_bricks_44 : decode cX11_bricks 44 = .ok (.aload_n 0, 1) := by decide +kernel
theorem dX11_bricks_45 : decode cX11_bricks 45 = .ok (.getfield 12, 3) := by decide +kernel
theorem dX11_bricks_48 : decode cX11_bricks 48 = .ok (.getfield 80, 3) := by decide +kernel
theorem dX11_bricks_51 : decode cX11_bricks 51 = .ok (.iload_n 2, 1) := by decide +kernel
theorem dX11_bricks_52 : decode cX11_bricks 52 = .ok (.aaload, 1) := by decide +kernel
theorem dX11_bricks_53 : decode cX11_bricks 53 = .ok (.astore 4, 2) := by decide +kernel
theorem dX11_bricks_55 : decode cX11_bricks 55 = .ok (.aload_n 3, 1) := by decide +kernel
theorem dX11_bricks_56 : decode cX11_bricks 56 = .ok (.getfield 229, 3) := by decide +kernel
theorem dX11_bricks_59 : decode cX11_bricks 59 = .ok (.aload 4, 2) := by decide +kernel
theorem dX11_bricks_61 : decode cX11_bricks 61 = .ok (.getfield 102, 3) := by decide +kernel
theorem dX11_bricks_64 : decode cX11_bricks 64 = .ok (.invokestatic 304, 3) := by decide +kernel
theorem dX11_bricks_67 : decode cX11_bricks 67 = .ok (.istore 5, 2) := by decide +kernel
theorem dX11_bricks_69 : decode cX11_bricks 69 = .ok (.iconst 0, 1) := by decide +kernel
theorem dX11_bricks_70 : decode cX11_bricks 70 = .ok (.istore 6, 2) := by decide +kernel
theorem dX11_bricks_72 : decode cX11_bricks 72 = .ok (.iload 6, 2) := by decide +kernel
theorem dX11_bricks_74 : decode cX11_bricks 74 = .ok (.iload 5, 2) := by decide +kernel
theorem dX11_bricks_76 : decode cX11_bricks 76 = .ok (.if_icmp .ge 44, 3) := by decide +kernel
theorem dX11_bricks_79 : decode cX11_bricks 79 = .ok (.aload_n 3, 1) := by decide +kernel
theorem dX11_bricks_80 : decode cX11_bricks 80 = .ok (.getfield 230, 3) := by decide +kernel
theorem dX11_bricks_83 : decode cX11_bricks 83 = .ok (.iload 6, 2) := by decide +kernel
theorem dX11_bricks_85 : decode cX11_bricks 85 = .ok (.iaload, 1) := by decide +kernel
theorem dX11_bricks_86 : decode cX11_bricks 86 = .ok (.istore 7, 2) := by decide +kernel
theorem dX11_bricks_88 : decode cX11_bricks 88 = .ok (.iload 7, 2) := by decide +kernel
theorem dX11_bricks_90 : decode cX11_bricks 90 = .ok (.ifCond .eq 14, 3) := by decide +kernel
theorem dX11_bricks_93 : decode cX11_bricks 93 = .ok (.iload 7, 2) := by decide +kernel
theorem dX11_bricks_95 : decode cX11_bricks 95 = .ok (.invokestatic 138, 3) := by decide +kernel
theorem dX11_bricks_98 : decode cX11_bricks 98 = .ok (.ifCond .ne 6, 3) := by decide +kernel
theorem dX11_bricks_101 : decode cX11_bricks 101 = .ok (.iload 6, 2) := by decide +kernel
theorem dX11_bricks_103 : decode cX11_bricks 103 = .ok (.ireturn, 1) := by decide +kernel
theorem dX11_bricks_104 : decode cX11_bricks 104 = .ok (.aload 4, 2) := by decide +kernel
theorem dX11_bricks_106 : decode cX11_bricks 106 = .ok (.getfield 132, 3) := by decide +kernel
theorem dX11_bricks_109 : decode cX11_bricks 109 = .ok (.iload 6, 2) := by decide +kernel
theorem dX11_bricks_111 : decode cX11_bricks 111 = .ok (.iload 7, 2) := by decide +kernel
theorem dX11_bricks_113 : decode cX11_bricks 113 = .ok (.iastore, 1) := by decide +kernel
theorem dX11_bricks_114 : decode cX11_bricks 114 = .ok (.iinc 6 1, 3) := by decide +kernel
theorem dX11_bricks_117 : decode cX11_bricks 117 = .ok (.goto (-45), 3) := by decide +kernel
theorem dX11_bricks_120 : decode cX11_bricks 120 = .ok (.iload 5, 2) := by decide +kernel
theorem dX11_bricks_122 : decode cX11_bricks 122 = .ok (.ireturn, 1) := by decide +kernel
theorem dX11_image_0 : decode cX11_image 0 = .ok (.aload_n 0, 1) := by decide +kernel
theorem dX11_image_1 : decode cX11_image 1 = .ok (.getfield 16, 3) := by decide +kernel
theorem dX11_image_4 : decode cX11_image 4 = .ok (.aload_n 0, 1) := by decide +kernel
theorem dX11_image_5 : decode cX11_image 5 = .ok (.getfield 12, 3) := by decide +kernel
theorem dX11_image_8 : decode cX11_image 8 = .ok (.invokevirtual 309, 3) := by decide +kernel
theorem dX11_image_11 : decode cX11_image 11 = .ok (.aload_n 0, 1) := by decide +kernel
theorem dX11_image_12 : decode cX11_image 12 = .ok (.dup, 1) := by decide +kernel
theorem dX11_image_13 : decode cX11_image 13 = .ok (.getfield 312, 3) := by decide +kernel
theorem dX11_image_16 : decode cX11_image 16 = .ok (.iconst 1, 1) := by decide +kernel
theorem dX11_image_17 : decode cX11_image 17 = .ok (.iadd, 1) := by decide +kernel
theorem dX11_image_18 : decode cX11_image 18 = .ok (.putfield 312, 3) := by decide +kernel
theorem dX11_image_21 : decode cX11_image 21 = .ok (.aload_n 0, 1) := by decide +kernel
theorem dX11_image_22 : decode cX11_image 22 = .ok (.getfield 312, 3) := by decide +kernel
theorem dX11_image_25 : decode cX11_image 25 = .ok (.ireturn, 1) := by decide +kernel
theorem dX11_restore_0 : decode cX11_restore 0 = .ok (.aload_n 0, 1) := by decide +kernel
theorem dX11_restore_1 : decode cX11_restore 1 = .ok (.getfield 312, 3) := by decide +kernel
theorem dX11_restore_4 : decode cX11_restore 4 = .ok (.ifCond .ne 9, 3) := by decide +kernel
theorem dX11_restore_7 : decode cX11_restore 7 = .ok (.aload_n 0, 1) := by decide +kernel
theorem dX11_restore_8 : decode cX11_restore 8 = .ok (.iconst 2, 1) := by decide +kernel
theorem dX11_restore_9 : decode cX11_restore 9 = .ok (.invokevirtual 72, 3) := by decide +kernel
theorem dX11_restore_12 : decode cX11_restore 12 = .ok (.ireturn, 1) := by decide +kernel
theorem dX11_restore_13 : decode cX11_restore 13 = .ok (.aload_n 0, 1) := by decide +kernel
theorem dX11_restore_14 : decode cX11_restore 14 = .ok (.getfield 12, 3) := by decide +kernel
theorem dX11_restore_17 : decode cX11_restore 17 = .ok (.aload_n 0, 1) := by decide +kernel
theorem dX11_restore_18 : decode cX11_restore 18 = .ok (.getfield 16, 3) := by decide +kernel
theorem dX11_restore_21 : decode cX11_restore 21 = .ok (.invokevirtual 309, 3) := by decide +kernel
theorem dX11_restore_24 : decode cX11_restore 24 = .ok (.aload_n 0, 1) := by decide +kernel
theorem dX11_restore_25 : decode cX11_restore 25 = .ok (.getfield 12, 3) := by decide +kernel
theorem dX11_restore_28 : decode cX11_restore 28 = .ok (.getfield 76, 3) := by decide +kernel
theorem dX11_restore_31 : decode cX11_restore 31 = .ok (.ireturn, 1) := by decide +kernel
theorem dX11_tell_0 : decode cX11_tell 0 = .ok (.aload_n 0, 1) := by decide +kernel
theorem dX11_tell_1 : decode cX11_tell 1 = .ok (.getfield 12, 3) := by decide +kernel
theorem dX11_tell_4 : decode cX11_tell 4 = .ok (.getfield 315, 3) := by decide +kernel
theorem dX11_tell_7 : decode cX11_tell 7 = .ok (.bipush 24, 2) := by decide +kernel
theorem dX11_tell_9 : decode cX11_tell 9 = .ok (.if_icmp .lt 9, 3) := by decide +kernel
theorem dX11_tell_12 : decode cX11_tell 12 = .ok (.aload_n 0, 1) := by decide +kernel
theorem dX11_tell_13 : decode cX11_tell 13 = .ok (.iconst 4, 1) := by decide +kernel
theorem dX11_tell_14 : decode cX11_tell 14 = .ok (.invokevirtual 72, 3) := by decide +kernel
theorem dX11_tell_17 : decode cX11_tell 17 = .ok (.ireturn, 1) := by decide +kernel
theorem dX11_tell_18 : decode cX11_tell 18 = .ok (.aload_n 0, 1) := by decide +kernel
theorem dX11_tell_19 : decode cX11_tell 19 = .ok (.getfield 12, 3) := by decide +kernel
theorem dX11_tell_22 : decode cX11_tell 22 = .ok (.getfield 318, 3) := by decide +kernel
theorem dX11_tell_25 : decode cX11_tell 25 = .ok (.aload_n 0, 1) := by decide +kernel
theorem dX11_tell_26 : decode cX11_tell 26 = .ok (.getfield 12, 3) := by decide +kernel
theorem dX11_tell_29 : decode cX11_tell 29 = .ok (.getfield 315, 3) := by decide +kernel
theorem dX11_tell_32 : decode cX11_tell 32 = .ok (.iload_n 1, 1) := by decide +kernel
theorem dX11_tell_33 : decode cX11_tell 33 = .ok (.iastore, 1) := by decide +kernel
theorem dX11_tell_34 : decode cX11_tell 34 = .ok (.aload_n 0, 1) := by decide +kernel
theorem dX11_tell_35 : decode cX11_tell 35 = .ok (.getfield 12, 3) := by decide +kernel
theorem dX11_tell_38 : decode cX11_tell 38 = .ok (.dup, 1) := by decide +kernel
theorem dX11_tell_39 : decode cX11_tell 39 = .ok (.getfield 315, 3) := by decide +kernel
theorem dX11_tell_42 : decode cX11_tell 42 = .ok (.iconst 1, 1) := by decide +kernel
theorem dX11_tell_43 : decode cX11_tell 43 = .ok (.iadd, 1) := by decide +kernel
theorem dX11_tell_44 : decode cX11_tell 44 = .ok (.putfield 315, 3) := by decide +kernel
theorem dX11_tell_47 : decode cX11_tell 47 = .ok (.aload_n 0, 1) := by decide +kernel
theorem dX11_tell_48 : decode cX11_tell 48 = .ok (.getfield 12, 3) := by decide +kernel
theorem dX11_tell_51 : decode cX11_tell 51 = .ok (.getfield 315, 3) := by decide +kernel
theorem dX11_tell_54 : decode cX11_tell 54 = .ok (.ireturn, 1) := by decide +kernel
theorem dX11_check_0 : decode cX11_check 0 = .ok (.aload_n 0, 1) := by decide +kernel
theorem dX11_check_1 : decode cX11_check 1 = .ok (.getfield 12, 3) := by decide +kernel
theorem dX11_check_4 : decode cX11_check 4 = .ok (.getfield 315, 3) := by decide +kernel
theorem dX11_check_7 : decode cX11_check 7 = .ok (.istore_n 2, 1) := by decide +kernel
theorem dX11_check_8 : decode cX11_check 8 = .ok (.aload_n 0, 1) := by decide +kernel
theorem dX11_check_9 : decode cX11_check 9 = .ok (.getfield 12, 3) := by decide +kernel
theorem dX11_check_12 : decode cX11_check 12 = .ok (.iconst 0, 1) := by decide +kernel
theorem dX11_check_13 : decode cX11_check 13 = .ok (.putfield 315, 3) := by decide +kernel
theorem dX11_check_16 : decode cX11_check 16 = .ok (.aload_n 0, 1) := by decide +kernel
theorem dX11_check_17 : decode cX11_check 17 = .ok (.getfield 12, 3) := by decide +kernel
theorem dX11_check_20 : decode cX11_check 20 = .ok (.iload_n 1, 1) := by decide +kernel
theorem dX11_check_21 : decode cX11_check 21 = .ok (.invokevirtual 88, 3) := by decide +kernel
theorem dX11_check_24 : decode cX11_check 24 = .ok (.ifCond .ne 9, 3) := by decide +kernel
theorem dX11_check_27 : decode cX11_check 27 = .ok (.aload_n 0, 1) := by decide +kernel
theorem dX11_check_28 : decode cX11_check 28 = .ok (.iconst 1, 1) := by decide +kernel
theorem dX11_check_29 : decode cX11_check 29 = .ok (.invokevirtual 72, 3) := by decide +kernel
theorem dX11_check_32 : decode cX11_check 32 = .ok (.ireturn, 1) := by decide +kernel
theorem dX11_check_33 : decode cX11_check 33 = .ok (.aload_n 0, 1) := by decide +kernel
theorem dX11_check_34 : decode cX11_check 34 = .ok (.getfield 12, 3) := by decide +kernel
theorem dX11_check_37 : decode cX11_check 37 = .ok (.aload_n 0, 1) := by decide +kernel
theorem dX11_check_38 : decode cX11_check 38 = .ok (.getfield 12, 3) := by decide +kernel
theorem dX11_check_41 : decode cX11_check 41 = .ok (.getfield 80, 3) := by decide +kernel
theorem dX11_check_44 : decode cX11_check 44 = .ok (.iload_n 1, 1) := by decide +kernel
theorem dX11_check_45 : decode cX11_check 45 = .ok (.aaload, 1) := by decide +kernel
theorem dX11_check_46 : decode cX11_check 46 = .ok (.iload_n 1, 1) := by decide +kernel
theorem dX11_check_47 : decode cX11_check 47 = .ok (.aload_n 0, 1) := by decide +kernel
theorem dX11_check_48 : decode cX11_check 48 = .ok (.getfield 36, 3) := by decide +kernel
theorem dX11_check_51 : decode cX11_check 51 = .ok (.invokevirtual 92, 3) := by decide +kernel
theorem dX11_check_54 : decode cX11_check 54 = .ok (.aload_n 0, 1) := by decide +kernel
theorem dX11_check_55 : decode cX11_check 55 = .ok (.getfield 29, 3) := by decide +kernel
theorem dX11_check_58 : decode cX11_check 58 = .ok (.aload_n 0, 1) := by decide +kernel
theorem dX11_check_59 : decode cX11_check 59 = .ok (.getfield 12, 3) := by decide +kernel
theorem dX11_check_62 : decode cX11_check 62 = .ok (.getfield 106, 3) := by decide +kernel
theorem dX11_check_65 : decode cX11_check 65 = .ok (.aload_n 0, 1) := by decide +kernel
theorem dX11_check_66 : decode cX11_check 66 = .ok (.getfield 36, 3) := by decide +kernel
theorem dX11_check_69 : decode cX11_check 69 = .ok (.invokevirtual 190, 3) := by decide +kernel
theorem dX11_check_72 : decode cX11_check 72 = .ok (.ifCond .ne 9, 3) := by decide +kernel
theorem dX11_check_75 : decode cX11_check 75 = .ok (.aload_n 0, 1) := by decide +kernel
theorem dX11_check_76 : decode cX11_check 76 = .ok (.iconst 2, 1) := by decide +kernel
theorem dX11_check_77 : decode cX11_check 77 = .ok (.invokevirtual 72, 3) := by decide +kernel
theorem dX11_check_80 : decode cX11_check 80 = .ok (.ireturn, 1) := by decide +kernel
theorem dX11_check_81 : decode cX11_check 81 = .ok (.aload_n 0, 1) := by decide +kernel
theorem dX11_check_82 : decode cX11_check 82 = .ok (.getfield 29, 3) := by decide +kernel
theorem dX11_check_85 : decode cX11_check 85 = .ok (.aload_n 0, 1) := by decide +kernel
theorem dX11_check_86 : decode cX11_check 86 = .ok (.getfield 12, 3) := by decide +kernel
theorem dX11_check_89 : decode cX11_check 89 = .ok (.getfield 318, 3) := by decide +kernel
theorem dX11_check_92 : decode cX11_check 92 = .ok (.iload_n 2, 1) := by decide +kernel
theorem dX11_check_93 : decode cX11_check 93 = .ok (.invokevirtual 321, 3) := by decide +kernel
theorem dX11_check_96 : decode cX11_check 96 = .ok (.iconst 1, 1) := by decide +kernel
theorem dX11_check_97 : decode cX11_check 97 = .ok (.iadd, 1) := by decide +kernel
theorem dX11_check_98 : decode cX11_check 98 = .ok (.ireturn, 1) := by decide +kernel
theorem dX11_count_0 : decode cX11_count 0 = .ok (.iload_n 1, 1) := by decide +kernel
theorem dX11_count_1 : decode cX11_count 1 = .ok (.tableswitch 102 0 6 #[43, 51, 62, 70, 78, 86, 94], 43) := by decide +kernel
theorem dX11_count_44 : decode cX11_count 44 = .ok (.aload_n 0, 1) := by decide +kernel
theorem dX11_count_45 : decode cX11_count 45 = .ok (.getfield 12, 3) := by decide +kernel
theorem dX11_count_48 : decode cX11_count 48 = .ok (.getfield 76, 3) := by decide +kernel
theorem dX11_count_51 : decode cX11_count 51 = .ok (.ireturn, 1) := by decide +kernel
theorem dX11_count_52 : decode cX11_count 52 = .ok (.aload_n 0, 1) := by decide +kernel
theorem dX11_count_53 : decode cX11_count 53 = .ok (.getfield 12, 3) := by decide +kernel
theorem dX11_count_56 : decode cX11_count 56 = .ok (.getfield 106, 3) := by decide +kernel
theorem dX11_count_59 : decode cX11_count 59 = .ok (.getfield 141, 3) := by decide +kernel
theorem dX11_count_62 : decode cX11_count 62 = .ok (.ireturn, 1) := by decide +kernel
theorem dX11_count_63 : decode cX11_count 63 = .ok (.aload_n 0, 1) := by decide +kernel
theorem dX11_count_64 : decode cX11_count 64 = .ok (.getfield 12, 3) := by decide +kernel
theorem dX11_count_67 : decode cX11_count 67 = .ok (.invokevirtual 325, 3) := by decide +kernel
theorem dX11_count_70 : decode cX11_count 70 = .ok (.ireturn, 1) := by decide +kernel
theorem dX11_count_71 : decode cX11_count 71 = .ok (.aload_n 0, 1) := by decide +kernel
theorem dX11_count_72 : decode cX11_count 72 = .ok (.getfield 12, 3) := by decide +kernel
theorem dX11_count_75 : decode cX11_count 75 = .ok (.getfield 161, 3) := by decide +kernel
theorem dX11_count_78 : decode cX11_count 78 = .ok (.ireturn, 1) := by decide +kernel
theorem dX11_count_79 : decode cX11_count 79 = .ok (.aload_n 0, 1) := by decide +kernel
theorem dX11_count_80 : decode cX11_count 80 = .ok (.getfield 12, 3) := by decide +kernel
theorem dX11_count_83 : decode cX11_count 83 = .ok (.getfield 315, 3) := by decide +kernel
theorem dX11_count_86 : decode cX11_count 86 = .ok (.ireturn, 1) := by decide +kernel
theorem dX11_count_87 : decode cX11_count 87 = .ok (.aload_n 0, 1) := by decide +kernel
theorem dX11_count_88 : decode cX11_count 88 = .ok (.getfield 64, 3) := by decide +kernel
theorem dX11_count_91 : decode cX11_count 91 = .ok (.getfield 282, 3) := by decide +kernel
theorem dX11_count_94 : decode cX11_count 94 = .ok (.ireturn, 1) := by decide +kernel
theorem dX11_count_95 : decode cX11_count 95 = .ok (.aload_n 0, 1) := by decide +kernel
theorem dX11_count_96 : decode cX11_count 96 = .ok (.getfield 12, 3) := by decide +kernel
theorem dX11_count_99 : decode cX11_count 99 = .ok (.getfield 271, 3) := by decide +kernel
theorem dX11_count_102 : decode cX11_count 102 = .ok (.ireturn, 1) := by decide +kernel
theorem dX11_count_103 : decode cX11_count 103 = .ok (.aload_n 0, 1) := by decide +kernel
theorem dX11_count_104 : decode cX11_count 104 = .ok (.iconst 1, 1) := by decide +kernel
theorem dX11_count_105 : decode cX11_count 105 = .ok (.invokevirtual 72, 3) := by decide +kernel
theorem dX11_count_108 : decode cX11_count 108 = .ok (.ireturn, 1) := by decide +kernel
theorem dX11_told_0 : decode cX11_told 0 = .ok (.iload_n 1, 1) := by decide +kernel
theorem dX11_told_1 : decode cX11_told 1 = .ok (.iconst 1, 1) := by decide +kernel
theorem dX11_told_2 : decode cX11_told 2 = .ok (.if_icmp .lt 18, 3) := by decide +kernel
theorem dX11_told_5 : decode cX11_told 5 = .ok (.iload_n 1, 1) := by decide +kernel
theorem dX11_told_6 : decode cX11_told 6 = .ok (.bipush 6, 2) := by decide +kernel
theorem dX11_told_8 : decode cX11_told 8 = .ok (.if_icmp .gt 12, 3) := by decide +kernel
theorem dX11_told_11 : decode cX11_told 11 = .ok (.aload_n 0, 1) := by decide +kernel
theorem dX11_told_12 : decode cX11_told 12 = .ok (.getfield 68, 3) := by decide +kernel
theorem dX11_told_15 : decode cX11_told 15 = .ok (.iload_n 1, 1) := by decide +kernel
theorem dX11_told_16 : decode cX11_told 16 = .ok (.iaload, 1) := by decide +kernel
theorem dX11_told_17 : decode cX11_told 17 = .ok (.goto 8, 3) := by decide +kernel
theorem dX11_told_20 : decode cX11_told 20 = .ok (.aload_n 0, 1) := by decide +kernel
theorem dX11_told_21 : decode cX11_told 21 = .ok (.iconst 1, 1) := by decide +kernel
theorem dX11_told_22 : decode cX11_told 22 = .ok (.invokevirtual 72, 3) := by decide +kernel
theorem dX11_told_25 : decode cX11_told 25 = .ok (.ireturn, 1) := by decide +kernel
theorem dX12_error_0 : decode cX12_error 0 = .ok (.aload_n 0, 1) := by decide +kernel
theorem dX12_error_1 : decode cX12_error 1 = .ok (.getfield 16, 3) := by decide +kernel
theorem dX12_error_4 : decode cX12_error 4 = .ok (.iload_n 1, 1) := by decide +kernel
theorem dX12_error_5 : decode cX12_error 5 = .ok (.dup2, 1) := by decide +kernel
theorem dX12_error_6 : decode cX12_error 6 = .ok (.iaload, 1) := by decide +kernel
theorem dX12_error_7 : decode cX12_error 7 = .ok (.iconst 1, 1) := by decide +kernel
theorem dX12_error_8 : decode cX12_error 8 = .ok (.iadd, 1) := by decide +kernel
theorem dX12_error_9 : decode cX12_error 9 = .ok (.iastore, 1) := by decide +kernel
theorem dX12_error_10 : decode cX12_error 10 = .ok (.ldc 55, 2) := by decide +kernel
theorem dX12_error_12 : decode cX12_error 12 = .ok (.iload_n 1, 1) := by decide +kernel
theorem dX12_error_13 : decode cX12_error 13 = .ok (.isub, 1) := by decide +kernel
theorem dX12_error_14 : decode cX12_error 14 = .ok (.ireturn, 1) := by decide +kernel
theorem dX12_in_0 : decode cX12_in 0 = .ok (.iload_n 0, 1) := by decide +kernel
theorem dX12_in_1 : decode cX12_in 1 = .ok (.iload_n 1, 1) := by decide +kernel
theorem dX12_in_2 : decode cX12_in 2 = .ok (.if_icmp .lt 12, 3) := by decide +kernel
theorem dX12_in_5 : decode cX12_in 5 = .ok (.iload_n 0, 1) := by decide +kernel
theorem dX12_in_6 : decode cX12_in 6 = .ok (.iload_n 2, 1) := by decide +kernel
theorem dX12_in_7 : decode cX12_in 7 = .ok (.if_icmp .gt 7, 3) := by decide +kernel
theorem dX12_in_10 : decode cX12_in 10 = .ok (.iconst 1, 1) := by decide +kernel
theorem dX12_in_11 : decode cX12_in 11 = .ok (.goto 4, 3) := by decide +kernel
theorem dX12_in_14 : decode cX12_in 14 = .ok (.iconst 0, 1) := by decide +kernel
theorem dX12_in_15 : decode cX12_in 15 = .ok (.ireturn, 1) := by decide +kernel
theorem dX12_held_0 : decode cX12_held 0 = .ok (.iload_n 0, 1) := by decide +kernel
theorem dX12_held_1 : decode cX12_held 1 = .ok (.iload_n 1, 1) := by decide +kernel
theorem dX12_held_2 : decode cX12_held 2 = .ok (.if_icmp .ge 7, 3) := by decide +kernel
theorem dX12_held_5 : decode cX12_held 5 = .ok (.iload_n 1, 1) := by decide +kernel
theorem dX12_held_6 : decode cX12_held 6 = .ok (.goto 13, 3) := by decide +kernel
theorem dX12_held_9 : decode cX12_held 9 = .ok (.iload_n 0, 1) := by decide +kernel
theorem dX12_held_10 : decode cX12_held 10 = .ok (.iload_n 2, 1) := by decide +kernel
theorem dX12_held_11 : decode cX12_held 11 = .ok (.if_icmp .le 7, 3) := by decide +kernel
theorem dX12_held_14 : decode cX12_held 14 = .ok (.iload_n 2, 1) := by decide +kernel
theorem dX12_held_15 : decode cX12_held 15 = .ok (.goto 4, 3) := by decide +kernel
theorem dX12_held_18 : decode cX12_held 18 = .ok (.iload_n 0, 1) := by decide +kernel
theorem dX12_held_19 : decode cX12_held 19 = .ok (.ireturn, 1) := by decide +kernel
theorem dX12_carry_0 : decode cX12_carry 0 = .ok (.iconst 0, 1) := by decide +kernel
theorem dX12_carry_1 : decode cX12_carry 1 = .ok (.istore_n 2, 1) := by decide +kernel
theorem dX12_carry_2 : decode cX12_carry 2 = .ok (.iload_n 2, 1) := by decide +kernel
theorem dX12_carry_3 : decode cX12_carry 3 = .ok (.sipush 628, 3) := by decide +kernel
theorem dX12_carry_6 : decode cX12_carry 6 = .ok (.if_icmp .ge 15, 3) := by decide +kernel
theorem dX12_carry_9 : decode cX12_carry 9 = .ok (.aload_n 1, 1) := by decide +kernel
theorem dX12_carry_10 : decode cX12_carry 10 = .ok (.iload_n 2, 1) := by decide +kernel
theorem dX12_carry_11 : decode cX12_carry 11 = .ok (.aload_n 0, 1) := by decide +kernel
theorem dX12_carry_12 : decode cX12_carry 12 = .ok (.iload_n 2, 1) := by decide +kernel
theorem dX12_carry_13 : decode cX12_carry 13 = .ok (.iaload, 1) := by decide +kernel
theorem dX12_carry_14 : decode cX12_carry 14 = .ok (.iastore, 1) := by decide +kernel
theorem dX12_carry_15 : decode cX12_carry 15 = .ok (.iinc 2 1, 3) := by decide +kernel
theorem dX12_carry_18 : decode cX12_carry 18 = .ok (.goto (-16), 3) := by decide +kernel
theorem dX12_carry_21 : decode cX12_carry 21 = .ok (.return_, 1) := by decide +kernel
theorem dX12_isWall_0 : decode cX12_isWall 0 = .ok (.iload_n 1, 1) := by decide +kernel
theorem dX12_isWall_1 : decode cX12_isWall 1 = .ok (.iconst 0, 1) := by decide +kernel
theorem dX12_isWall_2 : decode cX12_isWall 2 = .ok (.aload_n 0, 1) := by decide +kernel
theorem dX12_isWall_3 : decode cX12_isWall 3 = .ok (.getfield 7, 3) := by decide +kernel
theorem dX12_isWall_6 : decode cX12_isWall 6 = .ok (.iconst 0, 1) := by decide +kernel
theorem dX12_isWall_7 : decode cX12_isWall 7 = .ok (.iaload, 1) := by decide +kernel
theorem dX12_isWall_8 : decode cX12_isWall 8 = .ok (.iconst 1, 1) := by decide +kernel
theorem dX12_isWall_9 : decode cX12_isWall 9 = .ok (.isub, 1) := by decide +kernel
theorem dX12_isWall_10 : decode cX12_isWall 10 = .ok (.invokestatic 56, 3) := by decide +kernel
theorem dX12_isWall_13 : decode cX12_isWall 13 = .ok (.ireturn, 1) := by decide +kernel
theorem dX12_isWord_0 : decode cX12_isWord 0 = .ok (.iload_n 1, 1) := by decide +kernel
theorem dX12_isWord_1 : decode cX12_isWord 1 = .ok (.iconst 0, 1) := by decide +kernel
theorem dX12_isWord_2 : decode cX12_isWord 2 = .ok (.aload_n 0, 1) := by decide +kernel
theorem dX12_isWord_3 : decode cX12_isWord 3 = .ok (.getfield 7, 3) := by decide +kernel
theorem dX12_isWord_6 : decode cX12_isWord 6 = .ok (.iconst 1, 1) := by decide +kernel
theorem dX12_isWord_7 : decode cX12_isWord 7 = .ok (.iaload, 1) := by decide +kernel
theorem dX12_isWord_8 : decode cX12_isWord 8 = .ok (.iconst 1, 1) := by decide +kernel
theorem dX12_isWord_9 : decode cX12_isWord 9 = .ok (.isub, 1) := by decide +kernel
theorem dX12_isWord_10 : decode cX12_isWord 10 = .ok (.invokestatic 56, 3) := by decide +kernel
theorem dX12_isWord_13 : decode cX12_isWord 13 = .ok (.ireturn, 1) := by decide +kernel
theorem dX12_isLetter_0 : decode cX12_isLetter 0 = .ok (.iload_n 0, 1) := by decide +kernel
theorem dX12_isLetter_1 : decode cX12_isLetter 1 = .ok (.iconst 1, 1) := by decide +kernel
theorem dX12_isLetter_2 : decode cX12_isLetter 2 = .ok (.bipush 26, 2) := by decide +kernel
theorem dX12_isLetter_4 : decode cX12_isLetter 4 = .ok (.invokestatic 56, 3) := by decide +kernel
theorem dX12_isLetter_7 : decode cX12_isLetter 7 = .ok (.ireturn, 1) := by decide +kernel
theorem dX12_its_0 : decode cX12_its 0 = .ok (.aload_n 0, 1) := by decide +kernel
theorem dX12_its_1 : decode cX12_its 1 = .ok (.getfield 7, 3) := by decide +kernel
theorem dX12_its_4 : decode cX12_its 4 = .ok (.bipush 8, 2) := by decide +kernel
theorem dX12_its_6 : decode cX12_its 6 = .ok (.bipush 27, 2) := by decide +kernel
theorem dX12_its_8 : decode cX12_its 8 = .ok (.iload_n 1, 1) := by decide +kernel
theorem dX12_its_9 : decode cX12_its 9 = .ok (.imul, 1) := by decide +kernel
theorem dX12_its_10 : decode cX12_its 10 = .ok (.iadd, 1) := by decide +kernel
theorem dX12_its_11 : decode cX12_its 11 = .ok (.iload_n 2, 1) := by decide +kernel
theorem dX12_its_12 : decode cX12_its 12 = .ok (.iadd, 1) := by decide +kernel
theorem dX12_its_13 : decode cX12_its 13 = .ok (.iaload, 1) := by decide +kernel
theorem dX12_its_14 : decode cX12_its 14 = .ok (.ireturn, 1) := by decide +kernel
theorem dX12_isPlace_0 : decode cX12_isPlace 0 = .ok (.iload_n 2, 1) := by decide +kernel
theorem dX12_isPlace_1 : decode cX12_isPlace 1 = .ok (.iconst 0, 1) := by decide +kernel
theorem dX12_isPlace_2 : decode cX12_isPlace 2 = .ok (.aload_n 0, 1) := by decide +kernel
theorem dX12_isPlace_3 : decode cX12_isPlace 3 = .ok (.iload_n 1, 1) := by decide +kernel
theorem dX12_isPlace_4 : decode cX12_isPlace 4 = .ok (.iconst 2, 1) := by decide +kernel
theorem dX12_isPlace_5 : decode cX12_isPlace 5 = .ok (.invokevirtual 60, 3) := by decide +kernel
theorem dX12_isPlace_8 : decode cX12_isPlace 8 = .ok (.iconst 1, 1) := by decide +kernel
theorem dX12_isPlace_9 : decode cX12_isPlace 9 = .ok (.isub, 1) := by decide +kernel
theorem dX12_isPlace_10 : decode cX12_isPlace 10 = .ok (.invokestatic 56, 3) := by decide +kernel
theorem dX12_isPlace_13 : decode cX12_isPlace 13 = .ok (.ireturn, 1) := by decide +kernel
theorem dX12_at_0 : decode cX12_at 0 = .ok (.bipush 8, 2) := by decide +kernel
theorem dX12_at_2 : decode cX12_at 2 = .ok (.bipush 27, 2) := by decide +kernel
theorem dX12_at_4 : decode cX12_at 4 = .ok (.iload_n 1, 1) := by decide +kernel
theorem dX12_at_5 : decode cX12_at 5 = .ok (.imul, 1) := by decide +kernel
theorem dX12_at_6 : decode cX12_at 6 = .ok (.iadd, 1) := by decide +kernel
theorem dX12_at_7 : decode cX12_at 7 = .ok (.iconst 3, 1) := by decide +kernel
theorem dX12_at_8 : decode cX12_at 8 = .ok (.iadd, 1) := by decide +kernel
theorem dX12_at_9 : decode cX12_at 9 = .ok (.iload_n 2, 1) := by decide +kernel
theorem dX12_at_10 : decode cX12_at 10 = .ok (.iadd, 1) := by decide +kernel
theorem dX12_at_11 : decode cX12_at 11 = .ok (.ireturn, 1) := by decide +kernel
theorem dX12_sortOf_0 : decode cX12_sortOf 0 = .ok (.aload_n 0, 1) := by decide +kernel
theorem dX12_sortOf_1 : decode cX12_sortOf 1 = .ok (.getfield 7, 3) := by decide +kernel
theorem dX12_sortOf_4 : decode cX12_sortOf 4 = .ok (.sipush 170, 3) := by decide +kernel
theorem dX12_sortOf_7 : decode cX12_sortOf 7 = .ok (.bipush 8, 2) := by decide +kernel
theorem dX12_sortOf_9 : decode cX12_sortOf 9 = .ok (.iload_n 1, 1) := by decide +kernel
theorem dX12_sortOf_10 : decode cX12_sortOf 10 = .ok (.imul, 1) := by decide +kernel
theorem dX12_sortOf_11 : decode cX12_sortOf 11 = .ok (.iadd, 1) := by decide +kernel
theorem dX12_sortOf_12 : decode cX12_sortOf 12 = .ok (.iaload, 1) := by decide +kernel
theorem dX12_sortOf_13 : decode cX12_sortOf 13 = .ok (.ireturn, 1) := by decide +kernel
theorem dX12_lengthOf_0 : decode cX12_lengthOf 0 = .ok (.aload_n 0, 1) := by decide +kernel
theorem dX12_lengthOf_1 : decode cX12_lengthOf 1 = .ok (.getfield 7, 3) := by decide +kernel
theorem dX12_lengthOf_4 : decode cX12_lengthOf 4 = .ok (.sipush 170, 3) := by decide +kernel
theorem dX12_lengthOf_7 : decode cX12_lengthOf 7 = .ok (.bipush 8, 2) := by decide +kernel
theorem dX12_lengthOf_9 : decode cX12_lengthOf 9 = .ok (.iload_n 1, 1) := by decide +kernel
theorem dX12_lengthOf_10 : decode cX12_lengthOf 10 = .ok (.imul, 1) := by decide +kernel
theorem dX12_lengthOf_11 : decode cX12_lengthOf 11 = .ok (.iadd, 1) := by decide +kernel
theorem dX12_lengthOf_12 : decode cX12_lengthOf 12 = .ok (.iconst 1, 1) := by decide +kernel
theorem dX12_lengthOf_13 : decode cX12_lengthOf 13 = .ok (.iadd, 1) := by decide +kernel
theorem dX12_lengthOf_14 : decode cX12_lengthOf 14 = .ok (.iaload, 1) := by decide +kernel
theorem dX12_lengthOf_15 : decode cX12_lengthOf 15 = .ok (.ireturn, 1) := by decide +kernel
theorem dX12_letterOf_0 : decode cX12_letterOf 0 = .ok (.aload_n 0, 1) := by decide +kernel
theorem dX12_letterOf_1 : decode cX12_letterOf 1 = .ok (.getfield 7, 3) := by decide +kernel
theorem dX12_letterOf_4 : decode cX12_letterOf 4 = .ok (.sipush 170, 3) := by decide +kernel
theorem dX12_letterOf_7 : decode cX12_letterOf 7 = .ok (.bipush 8, 2) := by decide +kernel
theorem dX12_letterOf_9 : decode cX12_letterOf 9 = .ok (.iload_n 1, 1) := by decide +kernel
theorem dX12_letterOf_10 : decode cX12_letterOf 10 = .ok (.imul, 1) := by decide +kernel
theorem dX12_letterOf_11 : decode cX12_letterOf 11 = .ok (.iadd, 1) := by decide +kernel
theorem dX12_letterOf_12 : decode cX12_letterOf 12 = .ok (.iconst 2, 1) := by decide +kernel
theorem dX12_letterOf_13 : decode cX12_letterOf 13 = .ok (.iadd, 1) := by decide +kernel
theorem dX12_letterOf_14 : decode cX12_letterOf 14 = .ok (.iload_n 2, 1) := by decide +kernel
theorem dX12_letterOf_15 : decode cX12_letterOf 15 = .ok (.iadd, 1) := by decide +kernel
theorem dX12_letterOf_16 : decode cX12_letterOf 16 = .ok (.iaload, 1) := by decide +kernel
theorem dX12_letterOf_17 : decode cX12_letterOf 17 = .ok (.ireturn, 1) := by decide +kernel
theorem dX12_feed_0 : decode cX12_feed 0 = .ok (.iload_n 3, 1) := by decide +kernel
theorem dX12_feed_1 : decode cX12_feed 1 = .ok (.iconst 1, 1) := by decide +kernel
theorem dX12_feed_2 : decode cX12_feed 2 = .ok (.bipush 8, 2) := by decide +kernel
theorem dX12_feed_4 : decode cX12_feed 4 = .ok (.invokestatic 56, 3) := by decide +kernel
theorem dX12_feed_7 : decode cX12_feed 7 = .ok (.ifCond .ne 9, 3) := by decide +kernel
theorem dX12_feed_10 : decode cX12_feed 10 = .ok (.aload_n 0, 1) := by decide +kernel
theorem dX12_feed_11 : decode cX12_feed 11 = .ok (.iconst 1, 1) := by decide +kernel
theorem dX12_feed_12 : decode cX12_feed 12 = .ok (.invokevirtual 64, 3) := by decide +kernel
theorem dX12_feed_15 : decode cX12_feed 15 = .ok (.ireturn, 1) := by decide +kernel
theorem dX12_feed_16 : decode cX12_feed 16 = .ok (.aload_n 0, 1) := by decide +kernel
theorem dX12_feed_17 : decode cX12_feed 17 = .ok (.getfield 7, 3) := by decide +kernel
theorem dX12_feed_20 : decode cX12_feed 20 = .ok (.iconst 4, 1) := by decide +kernel
theorem dX12_feed_21 : decode cX12_feed 21 = .ok (.iaload, 1) := by decide +kernel
theorem dX12_feed_22 : decode cX12_feed 22 = .ok (.iload_n 3, 1) := by decide +kernel
theorem dX12_feed_23 : decode cX12_feed 23 = .ok (.iadd, 1) := by decide +kernel
theorem dX12_feed_24 : decode cX12_feed 24 = .ok (.bipush 60, 2) := by decide +kernel
theorem dX12_feed_26 : decode cX12_feed 26 = .ok (.if_icmp .le 9, 3) := by decide +kernel
theorem dX12_feed_29 : decode cX12_feed 29 = .ok (.aload_n 0, 1) := by decide +kernel
theorem dX12_feed_30 : decode cX12_feed 30 = .ok (.iconst 4, 1) := by decide +kernel
theorem dX12_feed_31 : decode cX12_feed 31 = .ok (.invokevirtual 64, 3) := by decide +kernel
theorem dX12_feed_34 : decode cX12_feed 34 = .ok (.ireturn, 1) := by decide +kernel
theorem dX12_feed_35 : decode cX12_feed 35 = .ok (.iconst 0, 1) := by decide +kernel
theorem dX12_feed_36 : decode cX12_feed 36 = .ok (.istore 4, 2) := by decide +kernel
theorem dX12_feed_38 : decode cX12_feed 38 = .ok (.iload 4, 2) := by decide +kernel
theorem dX12_feed_40 : decode cX12_feed 40 = .ok (.iload_n 3, 1) := by decide +kernel
theorem dX12_feed_41 : decode cX12_feed 41 = .ok (.if_icmp .ge 46, 3) := by decide +kernel
theorem dX12_feed_44 : decode cX12_feed 44 = .ok (.aload_n 0, 1) := by decide +kernel
theorem dX12_feed_45 : decode cX12_feed 45 = .ok (.getfield 7, 3) := by decide +kernel
theorem dX12_feed_48 : decode cX12_feed 48 = .ok (.sipush 544, 3) := by decide +kernel
theorem dX12_feed_51 : decode cX12_feed 51 = .ok (.aload_n 0, 1) := by decide +kernel
theorem dX12_feed_52 : decode cX12_feed 52 = .ok (.getfield 7, 3) := by decide +kernel
theorem dX12_feed_55 : decode cX12_feed 55 = .ok (.iconst 4, 1) := by decide +kernel
theorem dX12_feed_56 : decode cX12_feed 56 = .ok (.iaload, 1) := by decide +kernel
theorem dX12_feed_57 : decode cX12_feed 57 = .ok (.iadd, 1) := by decide +kernel
theorem dX12_feed_58 : decode cX12_feed 58 = .ok (.lload_n 1, 1) := by decide +kernel
theorem dX12_feed_59 : decode cX12_feed 59 = .ok (.bipush 8, 2) := by decide +kernel
theorem dX12_feed_61 : decode cX12_feed 61 = .ok (.iload 4, 2) := by decide +kernel
theorem dX12_feed_63 : decode cX12_feed 63 = .ok (.imul, 1) := by decide +kernel
theorem dX12_feed_64 : decode cX12_feed 64 = .ok (.lshr, 1) := by decide +kernel
theorem dX12_feed_65 : decode cX12_feed 65 = .ok (.ldc2_w 68, 3) := by decide +kernel
theorem dX12_feed_68 : decode cX12_feed 68 = .ok (.land, 1) := by decide +kernel
theorem dX12_feed_69 : decode cX12_feed 69 = .ok (.l2i, 1) := by decide +kernel
theorem dX12_feed_70 : decode cX12_feed 70 = .ok (.iastore, 1) := by decide +kernel
theorem dX12_feed_71 : decode cX12_feed 71 = .ok (.aload_n 0, 1) := by decide +kernel
theorem dX12_feed_72 : decode cX12_feed 72 = .ok (.getfield 7, 3) := by decide +kernel
theorem dX12_feed_75 : decode cX12_feed 75 = .ok (.iconst 4, 1) := by decide +kernel
theorem dX12_feed_76 : decode cX12_feed 76 = .ok (.dup2, 1) := by decide +kernel
theorem dX12_feed_77 : decode cX12_feed 77 = .ok (.iaload, 1) := by decide +kernel
theorem dX12_feed_78 : decode cX12_feed 78 = .ok (.iconst 1, 1) := by decide +kernel
theorem dX12_feed_79 : decode cX12_feed 79 = .ok (.iadd, 1) := by decide +kernel
theorem dX12_feed_80 : decode cX12_feed 80 = .ok (.iastore, 1) := by decide +kernel
theorem dX12_feed_81 : decode cX12_feed 81 = .ok (.iinc 4 1, 3) := by decide +kernel
theorem dX12_feed_84 : decode cX12_feed 84 = .ok (.goto (-46), 3) := by decide +kernel
theorem dX12_feed_87 : decode cX12_feed 87 = .ok (.aload_n 0, 1) := by decide +kernel
theorem dX12_feed_88 : decode cX12_feed 88 = .ok (.getfield 7, 3) := by decide +kernel
theorem dX12_feed_91 : decode cX12_feed 91 = .ok (.iconst 4, 1) := by decide +kernel
theorem dX12_feed_92 : decode cX12_feed 92 = .ok (.iaload, 1) := by decide +kernel
theorem dX12_feed_93 : decode cX12_feed 93 = .ok (.ireturn, 1) := by decide +kernel
theorem dX12_look_0 : decode cX12_look 0 = .ok (.aload_n 0, 1) := by decide +kernel
theorem dX12_look_1 : decode cX12_look 1 = .ok (.getfield 70, 3) := by decide +kernel
theorem dX12_look_4 : decode cX12_look 4 = .ok (.aload_n 0, 1) := by decide +kernel
theorem dX12_look_5 : decode cX12_look 5 = .ok (.getfield 7, 3) := by decide +kernel
theorem dX12_look_8 : decode cX12_look 8 = .ok (.iconst 4, 1) := by decide +kernel
theorem dX12_look_9 : decode cX12_look 9 = .ok (.iaload, 1) := by decide +kernel
theorem dX12_look_10 : decode cX12_look 10 = .ok (.if_icmp .ge 19, 3) := by decide +kernel
theorem dX12_look_13 : decode cX12_look 13 = .ok (.aload_n 0, 1) := by decide +kernel
theorem dX12_look_14 : decode cX12_look 14 = .ok (.getfield 7, 3) := by decide +kernel
theorem dX12_look_17 : decode cX12_look 17 = .ok (.sipush 544, 3) := by decide +kernel
theorem dX12_look_20 : decode cX12_look 20 = .ok (.aload_n 0, 1) := by decide +kernel
theorem dX12_look_21 : decode cX12_look 21 = .ok (.getfield 70, 3) := by decide +kernel
theorem dX12_look_24 : decode cX12_look 24 = .ok (.iadd, 1) := by decide +kernel
theorem dX12_look_25 : decode cX12_look 25 = .ok (.iaload, 1) := by decide +kernel
theorem dX12_look_26 : decode cX12_look 26 = .ok (.goto 4, 3) := by decide +kernel
theorem dX12_look_29 : decode cX12_look 29 = .ok (.iconst (-1), 1) := by decide +kernel
theorem dX12_look_30 : decode cX12_look 30 = .ok (.ireturn, 1) := by decide +kernel
theorem dX12_isName_0 : decode cX12_isName 0 = .ok (.iload_n 1, 1) := by decide +kernel
theorem dX12_isName_1 : decode cX12_isName 1 = .ok (.bipush 108, 2) := by decide +kernel
theorem dX12_isName_3 : decode cX12_isName 3 = .ok (.if_icmp .ne 5, 3) := by decide +kernel
theorem dX12_isName_6 : decode cX12_isName 6 = .ok (.iconst 1, 1) := by decide +kernel
theorem dX12_isName_7 : decode cX12_isName 7 = .ok (.ireturn, 1) := by decide +kernel
theorem dX12_isName_8 : decode cX12_isName 8 = .ok (.aload_n 0, 1) := by decide +kernel
theorem dX12_isName_9 : decode cX12_isName 9 = .ok (.getfield 74, 3) := by decide +kernel
theorem dX12_isName_12 : decode cX12_isName 12 = .ok (.ifCond .ne 29, 3) := by decide +kernel
theorem dX12_isName_15 : decode cX12_isName 15 = .ok (.iload_n 1, 1) := by decide +kernel
theorem dX12_isName_16 : decode cX12_isName 16 = .ok (.bipush 105, 2) := by decide +kernel
theorem dX12_isName_18 : decode cX12_isName 18 = .ok (.if_icmp .eq 15, 3) := by decide +kernel
theorem dX12_isName_21 : decode cX12_isName 21 = .ok (.iload_n 1, 1) := by decide +kernel
theorem dX12_isName_22 : decode cX12_isName 22 = .ok (.bipush 110, 2) := by decide +kernel
theorem dX12_isName_24 : decode cX12_isName 24 = .ok (.if_icmp .eq 9, 3) := by decide +kernel
theorem dX12_isName_27 : decode cX12_isName 27 = .ok (.iload_n 1, 1) := by decide +kernel
theorem dX12_isName_28 : decode cX12_isName 28 = .ok (.bipush 109, 2) := by decide +kernel
theorem dX12_isName_30 : decode cX12_isName 30 = .ok (.if_icmp .ne 7, 3) := by decide +kernel
theorem dX12_isName_33 : decode cX12_isName 33 = .ok (.iconst 1, 1) := by decide +kernel
theorem dX12_isName_34 : decode cX12_isName 34 = .ok (.goto 24, 3) := by decide +kernel
theorem dX12_isName_37 : decode cX12_isName 37 = .ok (.iconst 0, 1) := by decide +kernel
theorem dX12_isName_38 : decode cX12_isName 38 = .ok (.goto 20, 3) := by decide +kernel
theorem dX12_isName_41 : decode cX12_isName 41 = .ok (.iload_n 1, 1) := by decide +kernel
theorem dX12_isName_42 : decode cX12_isName 42 = .ok (.bipush 115, 2) := by decide +kernel
theorem dX12_isName_44 : decode cX12_isName 44 = .ok (.if_icmp .eq 9, 3) := by decide +kernel
theorem dX12_isName_47 : decode cX12_isName 47 = .ok (.iload_n 1, 1) := by decide +kernel
theorem dX12_isName_48 : decode cX12_isName 48 = .ok (.bipush 104, 2) := by decide +kernel
theorem dX12_isName_50 : decode cX12_isName 50 = .ok (.if_icmp .ne 7, 3) := by decide +kernel
theorem dX12_isName_53 : decode cX12_isName 53 = .ok (.iconst 1, 1) := by decide +kernel
theorem dX12_isName_54 : decode cX12_isName 54 = .ok (.goto 4, 3) := by decide +kernel
theorem dX12_isName_57 : decode cX12_isName 57 = .ok (.iconst 0, 1) := by decide +kernel
theorem dX12_isName_58 : decode cX12_isName 58 = .ok (.ireturn, 1) := by decide +kernel
theorem dX12_lays_0 : decode cX12_lays 0 = .ok (.aload_n 0, 1) := by decide +kernel
theorem dX12_lays_1 : decode cX12_lays 1 = .ok (.getfield 19, 3) := by decide +kernel
theorem dX12_lays_4 : decode cX12_lays 4 = .ok (.iconst 2, 1) := by decide +kernel
theorem dX12_lays_5 : decode cX12_lays 5 = .ok (.aload_n 0, 1) := by decide +kernel
theorem dX12_lays_6 : decode cX12_lays 6 = .ok (.getfield 77, 3) := by decide +kernel
theorem dX12_lays_9 : decode cX12_lays 9 = .ok (.imul, 1) := by decide +kernel
theorem dX12_lays_10 : decode cX12_lays 10 = .ok (.iload_n 1, 1) := by decide +kernel
theorem dX12_lays_11 : decode cX12_lays 11 = .ok (.iastore, 1) := by decide +kernel
theorem dX12_lays_12 : decode cX12_lays 12 = .ok (.aload_n 0, 1) := by decide +kernel
theorem dX12_lays_13 : decode cX12_lays 13 = .ok (.getfield 19, 3) := by decide +kernel
theorem dX12_lays_16 : decode cX12_lays 16 = .ok (.iconst 2, 1) := by decide +kernel
theorem dX12_lays_17 : decode cX12_lays 17 = .ok (.aload_n 0, 1) := by decide +kernel
theorem dX12_lays_18 : decode cX12_lays 18 = .ok (.getfield 77, 3) := by decide +kernel
theorem dX12_lays_21 : decode cX12_lays 21 = .ok (.imul, 1) := by decide +kernel
theorem dX12_lays_22 : decode cX12_lays 22 = .ok (.iconst 1, 1) := by decide +kernel
theorem dX12_lays_23 : decode cX12_lays 23 = .ok (.iadd, 1) := by decide +kernel
theorem dX12_lays_24 : decode cX12_lays 24 = .ok (.iload_n 2, 1) := by decide +kernel
theorem dX12_lays_25 : decode cX12_lays 25 = .ok (.iastore, 1) := by decide +kernel
theorem dX12_lays_26 : decode cX12_lays 26 = .ok (.aload_n 0, 1) := by decide +kernel
theorem dX12_lays_27 : decode cX12_lays 27 = .ok (.dup, 1) := by decide +kernel
theorem dX12_lays_28 : decode cX12_lays 28 = .ok (.getfield 77, 3) := by decide +kernel
theorem dX12_lays_31 : decode cX12_lays 31 = .ok (.iconst 1, 1) := by decide +kernel
theorem dX12_lays_32 : decode cX12_lays 32 = .ok (.iadd, 1) := by decide +kernel
theorem dX12_lays_33 : decode cX12_lays 33 = .ok (.putfield 77, 3) := by decide +kernel
theorem dX12_lays_36 : decode cX12_lays 36 = .ok (.return_, 1) := by decide +kernel
theorem dX12_opens_0 : decode cX12_opens 0 = .ok (.aload_n 0, 1) := by decide +kernel
theorem dX12_opens_1 : decode cX12_opens 1 = .ok (.getfield 104, 3) := by decide +kernel
theorem dX12_opens_4 : decode cX12_opens 4 = .ok (.iconst 5, 1) := by decide +kernel
theorem dX12_opens_5 : decode cX12_opens 5 = .ok (.if_icmp .ne 5, 3) := by decide +kernel
theorem dX12_opens_8 : decode cX12_opens 8 = .ok (.iconst 0, 1) := by decide +kernel
theorem dX12_opens_9 : decode cX12_opens 9 = .ok (.ireturn, 1) := by decide +kernel
theorem dX12_opens_10 : decode cX12_opens 10 = .ok (.aload_n 0, 1) := by decide +kernel
theorem dX12_opens_11 : decode cX12_opens 11 = .ok (.dup, 1) := by decide +kernel
theorem dX12_opens_12 : decode cX12_opens 12 = .ok (.getfield 104, 3) := by decide +kernel
theorem dX12_opens_15 : decode cX12_opens 15 = .ok (.iconst 1, 1) := by decide +kernel
theorem dX12_opens_16 : decode cX12_opens 16 = .ok (.iadd, 1) := by decide +kernel
theorem dX12_opens_17 : decode cX12_opens 17 = .ok (.putfield 104, 3) := by decide +kernel
theorem dX12_opens_20 : decode cX12_opens 20 = .ok (.aload_n 0, 1) := by decide +kernel
theorem dX12_opens_21 : decode cX12_opens 21 = .ok (.dup, 1) := by decide +kernel
theorem dX12_opens_22 : decode cX12_opens 22 = .ok (.getfield 70, 3) := by decide +kernel
theorem dX12_opens_25 : decode cX12_opens 25 = .ok (.iconst 1, 1) := by decide +kernel
theorem dX12_opens_26 : decode cX12_opens 26 = .ok (.iadd, 1) := by decide +kernel
theorem dX12_opens_27 : decode cX12_opens 27 = .ok (.putfield 70, 3) := by decide +kernel
theorem dX12_opens_30 : decode cX12_opens 30 = .ok (.iconst 1, 1) := by decide +kernel
theorem dX12_opens_31 : decode cX12_opens 31 = .ok (.ireturn, 1) := by decide +kernel
theorem dX12_whole_0 : decode cX12_whole 0 = .ok (.aload_n 0, 1) := by decide +kernel
theorem dX12_whole_1 : decode cX12_whole 1 = .ok (.invokevirtual 80, 3) := by decide +kernel
theorem dX12_whole_4 : decode cX12_whole 4 = .ok (.ifCond .ne 5, 3) := by decide +kernel
theorem dX12_whole_7 : decode cX12_whole 7 = .ok (.iconst 0, 1) := by decide +kernel
theorem dX12_whole_8 : decode cX12_whole 8 = .ok (.ireturn, 1) := by decide +kernel
theorem dX12_whole_9 : decode cX12_whole 9 = .ok (.aload_n 0, 1) := by decide +kernel
theorem dX12_whole_10 : decode cX12_whole 10 = .ok (.invokevirtual 84, 3) := by decide +kernel
theorem dX12_whole_13 : decode cX12_whole 13 = .ok (.bipush 124, 2) := by decide +kernel
theorem dX12_whole_15 : decode cX12_whole 15 = .ok (.if_icmp .ne 32, 3) := by decide +kernel
theorem dX12_whole_18 : decode cX12_whole 18 = .ok (.aload_n 0, 1) := by decide +kernel
theorem dX12_whole_19 : decode cX12_whole 19 = .ok (.dup, 1) := by decide +kernel
theorem dX12_whole_20 : decode cX12_whole 20 = .ok (.getfield 70, 3) := by decide +kernel
theorem dX12_whole_23 : decode cX12_whole 23 = .ok (.iconst 1, 1) := by decide +kernel
theorem dX12_whole_24 : decode cX12_whole 24 = .ok (.iadd, 1) := by decide +kernel
theorem dX12_whole_25 : decode cX12_whole 25 = .ok (.putfield 70, 3) := by decide +kernel
theorem dX12_whole_28 : decode cX12_whole 28 = .ok (.aload_n 0, 1) := by decide +kernel
theorem dX12_whole_29 : decode cX12_whole 29 = .ok (.invokevirtual 80, 3) := by decide +kernel
theorem dX12_whole_32 : decode cX12_whole 32 = .ok (.ifCond .ne 5, 3) := by decide +kernel
theorem dX12_whole_35 : decode cX12_whole 35 = .ok (.iconst 0, 1) := by decide +kernel
theorem dX12_whole_36 : decode cX12_whole 36 = .ok (.ireturn, 1) := by decide +kernel
theorem dX12_whole_37 : decode cX12_whole 37 = .ok (.aload_n 0, 1) := by decide +kernel
theorem dX12_whole_38 : decode cX12_whole 38 = .ok (.iconst 3, 1) := by decide +kernel
theorem dX12_whole_39 : decode cX12_whole 39 = .ok (.bipush 124, 2) := by decide +kernel
theorem dX12_whole_41 : decode cX12_whole 41 = .ok (.invokevirtual 88, 3) := by decide +kernel
theorem dX12_whole_44 : decode cX12_whole 44 = .ok (.goto (-35), 3) := by decide +kernel
theorem dX12_whole_47 : decode cX12_whole 47 = .ok (.iconst 1, 1) := by decide +kernel
theorem dX12_whole_48 : decode cX12_whole 48 = .ok (.ireturn, 1) := by decide +kernel
theorem dX12_both_0 : decode cX12_both 0 = .ok (.aload_n 0, 1) := by decide +kernel
theorem dX12_both_1 : decode cX12_both 1 = .ok (.invokevirtual 92, 3) := by decide +kernel
theorem dX12_both_4 : decode cX12_both 4 = .ok (.ifCond .ne 5, 3) := by decide +kernel
theorem dX12_both_7 : decode cX12_both 7 = .ok (.iconst 0, 1) := by decide +kernel
theorem dX12_both_8 : decode cX12_both 8 = .ok (.ireturn, 1) := by decide +kernel
theorem dX12_both_9 : decode cX12_both 9 = .ok (.aload_n 0, 1) := by decide +kernel
theorem dX12_both_10 : decode cX12_both 10 = .ok (.invokevirtual 84, 3) := by decide +kernel
theorem dX12_both_13 : decode cX12_both 13 = .ok (.bipush 38, 2) := by decide +kernel
theorem dX12_both_15 : decode cX12_both 15 = .ok (.if_icmp .ne 32, 3) := by decide +kernel
theorem dX12_both_18 : decode cX12_both 18 = .ok (.aload_n 0, 1) := by decide +kernel
theorem dX12_both_19 : decode cX12_both 19 = .ok (.dup, 1) := by decide +kernel
theorem dX12_both_20 : decode cX12_both 20 = .ok (.getfield 70, 3) := by decide +kernel
theorem dX12_both_23 : decode cX12_both 23 = .ok (.iconst 1, 1) := by decide +kernel
theorem dX12_both_24 : decode cX12_both 24 = .ok (.iadd, 1) := by decide +kernel
theorem dX12_both_25 : decode cX12_both 25 = .ok (.putfield 70, 3) := by decide +kernel
theorem dX12_both_28 : decode cX12_both 28 = .ok (.aload_n 0, 1) := by decide +kernel
theorem dX12_both_29 : decode cX12_both 29 = .ok (.invokevirtual 92, 3) := by decide +kernel
theorem dX12_both_32 : decode cX12_both 32 = .ok (.ifCond .ne 5, 3) := by decide +kernel
theorem dX12_both_35 : decode cX12_both 35 = .ok (.iconst 0, 1) := by decide +kernel
theorem dX12_both_36 : decode cX12_both 36 = .ok (.ireturn, 1) := by decide +kernel
theorem dX12_both_37 : decode cX12_both 37 = .ok (.aload_n 0, 1) := by decide +kernel
theorem dX12_both_38 : decode cX12_both 38 = .ok (.iconst 3, 1) := by decide +kernel
theorem dX12_both_39 : decode cX12_both 39 = .ok (.bipush 38, 2) := by decide +kernel
theorem dX12_both_41 : decode cX12_both 41 = .ok (.invokevirtual 88, 3) := by decide +kernel
theorem dX12_both_44 : decode cX12_both 44 = .ok (.goto (-35), 3) := by decide +kernel
theorem dX12_both_47 : decode cX12_both 47 = .ok (.iconst 1, 1) := by decide +kernel
theorem dX12_both_48 : decode cX12_both 48 = .ok (.ireturn, 1) := by decide +kernel
theorem dX12_compared_0 : decode cX12_compared 0 = .ok (.aload_n 0, 1) := by decide +kernel
theorem dX12_compared_1 : decode cX12_compared 1 = .ok (.invokevirtual 95, 3) := by decide +kernel
theorem dX12_compared_4 : decode cX12_compared 4 = .ok (.ifCond .ne 5, 3) := by decide +kernel
theorem dX12_compared_7 : decode cX12_compared 7 = .ok (.iconst 0, 1) := by decide +kernel
theorem dX12_compared_8 : decode cX12_compared 8 = .ok (.ireturn, 1) := by decide +kernel
theorem dX12_compared_9 : decode cX12_compared 9 = .ok (.aload_n 0, 1) := by decide +kernel
theorem dX12_compared_10 : decode cX12_compared 10 = .ok (.invokevirtual 84, 3) := by decide +kernel
theorem dX12_compared_13 : decode cX12_compared 13 = .ok (.istore_n 1, 1) := by decide +kernel
theorem dX12_compared_14 : decode cX12_compared 14 = .ok (.iload_n 1, 1) := by decide +kernel
theorem dX12_compared_15 : decode cX12_compared 15 = .ok (.bipush 60, 2) := by decide +kernel
theorem dX12_compared_17 : decode cX12_compared 17 = .ok (.if_icmp .eq 17, 3) := by decide +kernel
theorem dX12_compared_20 : decode cX12_compared 20 = .ok (.iload_n 1, 1) := by decide +kernel
theorem dX12_compared_21 : decode cX12_compared 21 = .ok (.bipush 61, 2) := by decide +kernel
theorem dX12_compared_23 : decode cX12_compared 23 = .ok (.if_icmp .eq 11, 3) := by decide +kernel
theorem dX12_compared_26 : decode cX12_compared 26 = .ok (.iload_n 1, 1) := by decide +kernel
theorem dX12_compared_27 : decode cX12_compared 27 = .ok (.bipush 62, 2) := by decide +kernel
theorem dX12_compared_29 : decode cX12_compared 29 = .ok (.if_icmp .eq 5, 3) := by decide +kernel
theorem dX12_compared_32 : decode cX12_compared 32 = .ok (.iconst 1, 1) := by decide +kernel
theorem dX12_compared_33 : decode cX12_compared 33 = .ok (.ireturn, 1) := by decide +kernel
theorem dX12_compared_34 : decode cX12_compared 34 = .ok (.aload_n 0, 1) := by decide +kernel
theorem dX12_compared_35 : decode cX12_compared 35 = .ok (.dup, 1) := by decide +kernel
theorem dX12_compared_36 : decode cX12_compared 36 = .ok (.getfield 70, 3) := by decide +kernel
theorem dX12_compared_39 : decode cX12_compared 39 = .ok (.iconst 1, 1) := by decide +kernel
theorem dX12_compared_40 : decode cX12_compared 40 = .ok (.iadd, 1) := by decide +kernel
theorem dX12_compared_41 : decode cX12_compared 41 = .ok (.putfield 70, 3) := by decide +kernel
theorem dX12_compared_44 : decode cX12_compared 44 = .ok (.aload_n 0, 1) := by decide +kernel
theorem dX12_compared_45 : decode cX12_compared 45 = .ok (.invokevirtual 95, 3) := by decide +kernel
theorem dX12_compared_48 : decode cX12_compared 48 = .ok (.ifCond .ne 5, 3) := by decide +kernel
theorem dX12_compared_51 : decode cX12_compared 51 = .ok (.iconst 0, 1) := by decide +kernel
theorem dX12_compared_52 : decode cX12_compared 52 = .ok (.ireturn, 1) := by decide +kernel
theorem dX12_compared_53 : decode cX12_compared 53 = .ok (.aload_n 0, 1) := by decide +kernel
theorem dX12_compared_54 : decode cX12_compared 54 = .ok (.iconst 3, 1) := by decide +kernel
theorem dX12_compared_55 : decode cX12_compared 55 = .ok (.iload_n 1, 1) := by decide +kernel
theorem dX12_compared_56 : decode cX12_compared 56 = .ok (.invokevirtual 88, 3) := by decide +kernel
theorem dX12_compared_59 : decode cX12_compared 59 = .ok (.iconst 1, 1) := by decide +kernel
theorem dX12_compared_60 : decode cX12_compared 60 = .ok (.ireturn, 1) := by decide +kernel
theorem dX12_sum_0 : decode cX12_sum 0 = .ok (.aload_n 0, 1) := by decide +kernel
theorem dX12_sum_1 : decode cX12_sum 1 = .ok (.invokevirtual 98, 3) := by decide +kernel
theorem dX12_sum_4 : decode cX12_sum 4 = .ok (.ifCond .ne 5, 3) := by decide +kernel
theorem dX12_sum_7 : decode cX12_sum 7 = .ok (.iconst 0, 1) := by decide +kernel
theorem dX12_sum_8 : decode cX12_sum 8 = .ok (.ireturn, 1) := by decide +kernel
theorem dX12_sum_9 : decode cX12_sum 9 = .ok (.aload_n 0, 1) := by decide +kernel
theorem dX12_sum_10 : decode cX12_sum 10 = .ok (.invokevirtual 84, 3) := by decide +kernel
theorem dX12_sum_13 : decode cX12_sum 13 = .ok (.bipush 43, 2) := by decide +kernel
theorem dX12_sum_15 : decode cX12_sum 15 = .ok (.if_icmp .eq 12, 3) := by decide +kernel
theorem dX12_sum_18 : decode cX12_sum 18 = .ok (.aload_n 0, 1) := by decide +kernel
theorem dX12_sum_19 : decode cX12_sum 19 = .ok (.invokevirtual 84, 3) := by decide +kernel
theorem dX12_sum_22 : decode cX12_sum 22 = .ok (.bipush 45, 2) := by decide +kernel
theorem dX12_sum_24 : decode cX12_sum 24 = .ok (.if_icmp .ne 36, 3) := by decide +kernel
theorem dX12_sum_27 : decode cX12_sum 27 = .ok (.aload_n 0, 1) := by decide +kernel
theorem dX12_sum_28 : decode cX12_sum 28 = .ok (.invokevirtual 84, 3) := by decide +kernel
theorem dX12_sum_31 : decode cX12_sum 31 = .ok (.istore_n 1, 1) := by decide +kernel
theorem dX12_sum_32 : decode cX12_sum 32 = .ok (.aload_n 0, 1) := by decide +kernel
theorem dX12_sum_33 : decode cX12_sum 33 = .ok (.dup, 1) := by decide +kernel
theorem dX12_sum_34 : decode cX12_sum 34 = .ok (.getfield 70, 3) := by decide +kernel
theorem dX12_sum_37 : decode cX12_sum 37 = .ok (.iconst 1, 1) := by decide +kernel
theorem dX12_sum_38 : decode cX12_sum 38 = .ok (.iadd, 1) := by decide +kernel
theorem dX12_sum_39 : decode cX12_sum 39 = .ok (.putfield 70, 3) := by decide +kernel
theorem dX12_sum_42 : decode cX12_sum 42 = .ok (.aload_n 0, 1) := by decide +kernel
theorem dX12_sum_43 : decode cX12_sum 43 = .ok (.invokevirtual 98, 3) := by decide +kernel
theorem dX12_sum_46 : decode cX12_sum 46 = .ok (.ifCond .ne 5, 3) := by decide +kernel
theorem dX12_sum_49 : decode cX12_sum 49 = .ok (.iconst 0, 1) := by decide +kernel
theorem dX12_sum_50 : decode cX12_sum 50 = .ok (.ireturn, 1) := by decide +kernel
theorem dX12_sum_51 : decode cX12_sum 51 = .ok (.aload_n 0, 1) := by decide +kernel
theorem dX12_sum_52 : decode cX12_sum 52 = .ok (.iconst 3, 1) := by decide +kernel
theorem dX12_sum_53 : decode cX12_sum 53 = .ok (.iload_n 1, 1) := by decide +kernel
theorem dX12_sum_54 : decode cX12_sum 54 = .ok (.invokevirtual 88, 3) := by decide +kernel
theorem dX12_sum_57 : decode cX12_sum 57 = .ok (.goto (-48), 3) := by decide +kernel
theorem dX12_sum_60 : decode cX12_sum 60 = .ok (.iconst 1, 1) := by decide +kernel
theorem dX12_sum_61 : decode cX12_sum 61 = .ok (.ireturn, 1) := by decide +kernel
theorem dX12_product_0 : decode cX12_product 0 = .ok (.aload_n 0, 1) := by decide +kernel
theorem dX12_product_1 : decode cX12_product 1 = .ok (.invokevirtual 101, 3) := by decide +kernel
theorem dX12_product_4 : decode cX12_product 4 = .ok (.ifCond .ne 5, 3) := by decide +kernel
theorem dX12_product_7 : decode cX12_product 7 = .ok (.iconst 0, 1) := by decide +kernel
theorem dX12_product_8 : decode cX12_product 8 = .ok (.ireturn, 1) := by decide +kernel
theorem dX12_product_9 : decode cX12_product 9 = .ok (.aload_n 0, 1) := by decide +kernel
theorem dX12_product_10 : decode cX12_product 10 = .ok (.invokevirtual 84, 3) := by decide +kernel
theorem dX12_product_13 : decode cX12_product 13 = .ok (.bipush 42, 2) := by decide +kernel
theorem dX12_product_15 : decode cX12_product 15 = .ok (.if_icmp .eq 21, 3) := by decide +kernel
theorem dX12_product_18 : decode cX12_product 18 = .ok (.aload_n 0, 1) := by decide +kernel
theorem dX12_product_19 : decode cX12_product 19 = .ok (.invokevirtual 84, 3) := by decide +kernel
theorem dX12_product_22 : decode cX12_product 22 = .ok (.bipush 47, 2) := by decide +kernel
theorem dX12_product_24 : decode cX12_product 24 = .ok (.if_icmp .eq 12, 3) := by decide +kernel
theorem dX12_product_27 : decode cX12_product 27 = .ok (.aload_n 0, 1) := by decide +kernel
theorem dX12_product_28 : decode cX12_product 28 = .ok (.invokevirtual 84, 3) := by decide +kernel
theorem dX12_product_31 : decode cX12_product 31 = .ok (.bipush 37, 2) := by decide +kernel
theorem dX12_product_33 : decode cX12_product 33 = .ok (.if_icmp .ne 36, 3) := by decide +kernel
theorem dX12_product_36 : decode cX12_product 36 = .ok (.aload_n 0, 1) := by decide +kernel
theorem dX12_product_37 : decode cX12_product 37 = .ok (.invokevirtual 84, 3) := by decide +kernel
theorem dX12_product_40 : decode cX12_product 40 = .ok (.istore_n 1, 1) := by decide +kernel
theorem dX12_product_41 : decode cX12_product 41 = .ok (.aload_n 0, 1) := by decide +kernel
theorem dX12_product_42 : decode cX12_product 42 = .ok (.dup, 1) := by decide +kernel
theorem dX12_product_43 : decode cX12_product 43 = .ok (.getfield 70, 3) := by decide +kernel
theorem dX12_product_46 : decode cX12_product 46 = .ok (.iconst 1, 1) := by decide +kernel
theorem dX12_product_47 : decode cX12_product 47 = .ok (.iadd, 1) := by decide +kernel
theorem dX12_product_48 : decode cX12_product 48 = .ok (.putfield 70, 3) := by decide +kernel
theorem dX12_product_51 : decode cX12_product 51 = .ok (.aload_n 0, 1) := by decide +kernel
theorem dX12_product_52 : decode cX12_product 52 = .ok (.invokevirtual 101, 3) := by decide +kernel
