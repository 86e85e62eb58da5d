theorem dX0_giveBack_0 : decode cX0_giveBack 0 = .ok (.iconst 0, 1) := by decide +kernel
theorem dX0_giveBack_1 : decode cX0_giveBack 1 = .ok (.istore_n 2, 1) := by decide +kernel
theorem dX0_giveBack_2 : decode cX0_giveBack 2 = .ok (.iload_n 2, 1) := by decide +kernel
theorem dX0_giveBack_3 : decode cX0_giveBack 3 = .ok (.aload_n 1, 1) := by decide +kernel
theorem dX0_giveBack_4 : decode cX0_giveBack 4 = .ok (.getfield 80, 3) := by decide +kernel
theorem dX0_giveBack_7 : decode cX0_giveBack 7 = .ok (.if_icmp .ge 24, 3) := by decide +kernel
theorem dX0_giveBack_10 : decode cX0_giveBack 10 = .ok (.aload_n 0, 1) := by decide +kernel
theorem dX0_giveBack_11 : decode cX0_giveBack 11 = .ok (.getfield 9, 3) := by decide +kernel
theorem dX0_giveBack_14 : decode cX0_giveBack 14 = .ok (.aload_n 1, 1) := by decide +kernel
theorem dX0_giveBack_15 : decode cX0_giveBack 15 = .ok (.getfield 81, 3) := by decide +kernel
theorem dX0_giveBack_18 : decode cX0_giveBack 18 = .ok (.iload_n 2, 1) := by decide +kernel
theorem dX0_giveBack_19 : decode cX0_giveBack 19 = .ok (.iaload, 1) := by decide +kernel
theorem dX0_giveBack_20 : decode cX0_giveBack 20 = .ok (.dup2, 1) := by decide +kernel
theorem dX0_giveBack_21 : decode cX0_giveBack 21 = .ok (.iaload, 1) := by decide +kernel
theorem dX0_giveBack_22 : decode cX0_giveBack 22 = .ok (.iconst 1, 1) := by decide +kernel
theorem dX0_giveBack_23 : decode cX0_giveBack 23 = .ok (.iadd, 1) := by decide +kernel
theorem dX0_giveBack_24 : decode cX0_giveBack 24 = .ok (.iastore, 1) := by decide +kernel
theorem dX0_giveBack_25 : decode cX0_giveBack 25 = .ok (.iinc 2 1, 3) := by decide +kernel
theorem dX0_giveBack_28 : decode cX0_giveBack 28 = .ok (.goto (-26), 3) := by decide +kernel
theorem dX0_giveBack_31 : decode cX0_giveBack 31 = .ok (.return_, 1) := by decide +kernel
theorem dX0_note_0 : decode cX0_note 0 = .ok (.aload_n 0, 1) := by decide +kernel
theorem dX0_note_1 : decode cX0_note 1 = .ok (.dup, 1) := by decide +kernel
theorem dX0_note_2 : decode cX0_note 2 = .ok (.getfield 35, 3) := by decide +kernel
theorem dX0_note_5 : decode cX0_note 5 = .ok (.iconst 1, 1) := by decide +kernel
theorem dX0_note_6 : decode cX0_note 6 = .ok (.iadd, 1) := by decide +kernel
theorem dX0_note_7 : decode cX0_note 7 = .ok (.putfield 35, 3) := by decide +kernel
theorem dX0_note_10 : decode cX0_note 10 = .ok (.iload_n 1, 1) := by decide +kernel
theorem dX0_note_11 : decode cX0_note 11 = .ok (.aload_n 0, 1) := by decide +kernel
theorem dX0_note_12 : decode cX0_note 12 = .ok (.getfield 41, 3) := by decide +kernel
theorem dX0_note_15 : decode cX0_note 15 = .ok (.if_icmp .ge 13, 3) := by decide +kernel
theorem dX0_note_18 : decode cX0_note 18 = .ok (.aload_n 0, 1) := by decide +kernel
theorem dX0_note_19 : decode cX0_note 19 = .ok (.iload_n 1, 1) := by decide +kernel
theorem dX0_note_20 : decode cX0_note 20 = .ok (.putfield 41, 3) := by decide +kernel
theorem dX0_note_23 : decode cX0_note 23 = .ok (.aload_n 0, 1) := by decide +kernel
theorem dX0_note_24 : decode cX0_note 24 = .ok (.iload_n 2, 1) := by decide +kernel
theorem dX0_note_25 : decode cX0_note 25 = .ok (.putfield 38, 3) := by decide +kernel
theorem dX0_note_28 : decode cX0_note 28 = .ok (.return_, 1) := by decide +kernel
theorem dX0_take_0 : decode cX0_take 0 = .ok (.iconst 1, 1) := by decide +kernel
theorem dX0_take_1 : decode cX0_take 1 = .ok (.istore_n 2, 1) := by decide +kernel
theorem dX0_take_2 : decode cX0_take 2 = .ok (.iconst 0, 1) := by decide +kernel
theorem dX0_take_3 : decode cX0_take 3 = .ok (.istore_n 3, 1) := by decide +kernel
theorem dX0_take_4 : decode cX0_take 4 = .ok (.iload_n 3, 1) := by decide +kernel
theorem dX0_take_5 : decode cX0_take 5 = .ok (.aload_n 1, 1) := by decide +kernel
theorem dX0_take_6 : decode cX0_take 6 = .ok (.getfield 80, 3) := by decide +kernel
theorem dX0_take_9 : decode cX0_take 9 = .ok (.if_icmp .ge 48, 3) := by decide +kernel
theorem dX0_take_12 : decode cX0_take 12 = .ok (.aload_n 0, 1) := by decide +kernel
theorem dX0_take_13 : decode cX0_take 13 = .ok (.getfield 9, 3) := by decide +kernel
theorem dX0_take_16 : decode cX0_take 16 = .ok (.aload_n 1, 1) := by decide +kernel
theorem dX0_take_17 : decode cX0_take 17 = .ok (.getfield 81, 3) := by decide +kernel
theorem dX0_take_20 : decode cX0_take 20 = .ok (.iload_n 3, 1) := by decide +kernel
theorem dX0_take_21 : decode cX0_take 21 = .ok (.iaload, 1) := by decide +kernel
theorem dX0_take_22 : decode cX0_take 22 = .ok (.dup2, 1) := by decide +kernel
theorem dX0_take_23 : decode cX0_take 23 = .ok (.iaload, 1) := by decide +kernel
theorem dX0_take_24 : decode cX0_take 24 = .ok (.iconst 1, 1) := by decide +kernel
theorem dX0_take_25 : decode cX0_take 25 = .ok (.isub, 1) := by decide +kernel
theorem dX0_take_26 : decode cX0_take 26 = .ok (.iastore, 1) := by decide +kernel
theorem dX0_take_27 : decode cX0_take 27 = .ok (.iload_n 2, 1) := by decide +kernel
theorem dX0_take_28 : decode cX0_take 28 = .ok (.ifCond .eq 21, 3) := by decide +kernel
theorem dX0_take_31 : decode cX0_take 31 = .ok (.aload_n 0, 1) := by decide +kernel
theorem dX0_take_32 : decode cX0_take 32 = .ok (.getfield 9, 3) := by decide +kernel
theorem dX0_take_35 : decode cX0_take 35 = .ok (.aload_n 1, 1) := by decide +kernel
theorem dX0_take_36 : decode cX0_take 36 = .ok (.getfield 81, 3) := by decide +kernel
theorem dX0_take_39 : decode cX0_take 39 = .ok (.iload_n 3, 1) := by decide +kernel
theorem dX0_take_40 : decode cX0_take 40 = .ok (.iaload, 1) := by decide +kernel
theorem dX0_take_41 : decode cX0_take 41 = .ok (.iaload, 1) := by decide +kernel
theorem dX0_take_42 : decode cX0_take 42 = .ok (.ifCond .lt 7, 3) := by decide +kernel
theorem dX0_take_45 : decode cX0_take 45 = .ok (.iconst 1, 1) := by decide +kernel
theorem dX0_take_46 : decode cX0_take 46 = .ok (.goto 4, 3) := by decide +kernel
theorem dX0_take_49 : decode cX0_take 49 = .ok (.iconst 0, 1) := by decide +kernel
theorem dX0_take_50 : decode cX0_take 50 = .ok (.istore_n 2, 1) := by decide +kernel
theorem dX0_take_51 : decode cX0_take 51 = .ok (.iinc 3 1, 3) := by decide +kernel
theorem dX0_take_54 : decode cX0_take 54 = .ok (.goto (-50), 3) := by decide +kernel
theorem dX0_take_57 : decode cX0_take 57 = .ok (.iload_n 2, 1) := by decide +kernel
theorem dX0_take_58 : decode cX0_take 58 = .ok (.ireturn, 1) := by decide +kernel
theorem dX0_extend_0 : decode cX0_extend 0 = .ok (.iload_n 1, 1) := by decide +kernel
theorem dX0_extend_1 : decode cX0_extend 1 = .ok (.iconst 4, 1) := by decide +kernel
theorem dX0_extend_2 : decode cX0_extend 2 = .ok (.if_icmp .ne 9, 3) := by decide +kernel
theorem dX0_extend_5 : decode cX0_extend 5 = .ok (.aload_n 0, 1) := by decide +kernel
theorem dX0_extend_6 : decode cX0_extend 6 = .ok (.iload_n 2, 1) := by decide +kernel
theorem dX0_extend_7 : decode cX0_extend 7 = .ok (.iload_n 3, 1) := by decide +kernel
theorem dX0_extend_8 : decode cX0_extend 8 = .ok (.invokevirtual 48, 3) := by decide +kernel
theorem dX0_extend_11 : decode cX0_extend 11 = .ok (.iload_n 2, 1) := by decide +kernel
theorem dX0_extend_12 : decode cX0_extend 12 = .ok (.aload_n 0, 1) := by decide +kernel
theorem dX0_extend_13 : decode cX0_extend 13 = .ok (.getfield 31, 3) := by decide +kernel
theorem dX0_extend_16 : decode cX0_extend 16 = .ok (.if_icmp .ge 10, 3) := by decide +kernel
theorem dX0_extend_19 : decode cX0_extend 19 = .ok (.aload_n 0, 1) := by decide +kernel
theorem dX0_extend_20 : decode cX0_extend 20 = .ok (.getfield 21, 3) := by decide +kernel
theorem dX0_extend_23 : decode cX0_extend 23 = .ok (.ifnonnull 4, 3) := by decide +kernel
theorem dX0_extend_26 : decode cX0_extend 26 = .ok (.return_, 1) := by decide +kernel
theorem dX0_extend_27 : decode cX0_extend 27 = .ok (.iconst 0, 1) := by decide +kernel
theorem dX0_extend_28 : decode cX0_extend 28 = .ok (.istore 4, 2) := by decide +kernel
theorem dX0_extend_30 : decode cX0_extend 30 = .ok (.iload 4, 2) := by decide +kernel
theorem dX0_extend_32 : decode cX0_extend 32 = .ok (.aload_n 0, 1) := by decide +kernel
theorem dX0_extend_33 : decode cX0_extend 33 = .ok (.getfield 21, 3) := by decide +kernel
theorem dX0_extend_36 : decode cX0_extend 36 = .ok (.getfield 52, 3) := by decide +kernel
theorem dX0_extend_39 : decode cX0_extend 39 = .ok (.if_icmp .ge 77, 3) := by decide +kernel
theorem dX0_extend_42 : decode cX0_extend 42 = .ok (.aload_n 0, 1) := by decide +kernel
theorem dX0_extend_43 : decode cX0_extend 43 = .ok (.getfield 21, 3) := by decide +kernel
theorem dX0_extend_46 : decode cX0_extend 46 = .ok (.getfield 57, 3) := by decide +kernel
theorem dX0_extend_49 : decode cX0_extend 49 = .ok (.iload 4, 2) := by decide +kernel
theorem dX0_extend_51 : decode cX0_extend 51 = .ok (.aaload, 1) := by decide +kernel
theorem dX0_extend_52 : decode cX0_extend 52 = .ok (.astore 5, 2) := by decide +kernel
theorem dX0_extend_54 : decode cX0_extend 54 = .ok (.getstatic 61, 3) := by decide +kernel
theorem dX0_extend_57 : decode cX0_extend 57 = .ok (.aload 5, 2) := by decide +kernel
theorem dX0_extend_59 : decode cX0_extend 59 = .ok (.getfield 64, 3) := by decide +kernel
theorem dX0_extend_62 : decode cX0_extend 62 = .ok (.iaload, 1) := by decide +kernel
theorem dX0_extend_63 : decode cX0_extend 63 = .ok (.iconst 1, 1) := by decide +kernel
theorem dX0_extend_64 : decode cX0_extend 64 = .ok (.iload_n 1, 1) := by decide +kernel
theorem dX0_extend_65 : decode cX0_extend 65 = .ok (.ishl, 1) := by decide +kernel
theorem dX0_extend_66 : decode cX0_extend 66 = .ok (.iand, 1) := by decide +kernel
theorem dX0_extend_67 : decode cX0_extend 67 = .ok (.ifCond .eq 43, 3) := by decide +kernel
theorem dX0_extend_70 : decode cX0_extend 70 = .ok (.aload_n 0, 1) := by decide +kernel
theorem dX0_extend_71 : decode cX0_extend 71 = .ok (.aload 5, 2) := by decide +kernel
theorem dX0_extend_73 : decode cX0_extend 73 = .ok (.invokevirtual 69, 3) := by decide +kernel
theorem dX0_extend_76 : decode cX0_extend 76 = .ok (.ifCond .eq 28, 3) := by decide +kernel
theorem dX0_extend_79 : decode cX0_extend 79 = .ok (.aload_n 0, 1) := by decide +kernel
theorem dX0_extend_80 : decode cX0_extend 80 = .ok (.getstatic 73, 3) := by decide +kernel
theorem dX0_extend_83 : decode cX0_extend 83 = .ok (.aload 5, 2) := by decide +kernel
theorem dX0_extend_85 : decode cX0_extend 85 = .ok (.getfield 64, 3) := by decide +kernel
theorem dX0_extend_88 : decode cX0_extend 88 = .ok (.iaload, 1) := by decide +kernel
theorem dX0_extend_89 : decode cX0_extend 89 = .ok (.iload_n 2, 1) := by decide +kernel
theorem dX0_extend_90 : decode cX0_extend 90 = .ok (.iconst 1, 1) := by decide +kernel
theorem dX0_extend_91 : decode cX0_extend 91 = .ok (.iadd, 1) := by decide +kernel
theorem dX0_extend_92 : decode cX0_extend 92 = .ok (.iload_n 3, 1) := by decide +kernel
theorem dX0_extend_93 : decode cX0_extend 93 = .ok (.bipush 16, 2) := by decide +kernel
theorem dX0_extend_95 : decode cX0_extend 95 = .ok (.imul, 1) := by decide +kernel
theorem dX0_extend_96 : decode cX0_extend 96 = .ok (.iload 4, 2) := by decide +kernel
theorem dX0_extend_98 : decode cX0_extend 98 = .ok (.iadd, 1) := by decide +kernel
theorem dX0_extend_99 : decode cX0_extend 99 = .ok (.iconst 1, 1) := by decide +kernel
theorem dX0_extend_100 : decode cX0_extend 100 = .ok (.iadd, 1) := by decide +kernel
theorem dX0_extend_101 : decode cX0_extend 101 = .ok (.invokevirtual 44, 3) := by decide +kernel
theorem dX0_extend_104 : decode cX0_extend 104 = .ok (.aload_n 0, 1) := by decide +kernel
theorem dX0_extend_105 : decode cX0_extend 105 = .ok (.aload 5, 2) := by decide +kernel
theorem dX0_extend_107 : decode cX0_extend 107 = .ok (.invokevirtual 76, 3) := by decide +kernel
theorem dX0_extend_110 : decode cX0_extend 110 = .ok (.iinc 4 1, 3) := by decide +kernel
theorem dX0_extend_113 : decode cX0_extend 113 = .ok (.goto (-83), 3) := by decide +kernel
theorem dX0_extend_116 : decode cX0_extend 116 = .ok (.return_, 1) := by decide +kernel
theorem dX0_search_0 : decode cX0_search 0 = .ok (.aload_n 2, 1) := by decide +kernel
theorem dX0_search_1 : decode cX0_search 1 = .ok (.iconst 0, 1) := by decide +kernel
theorem dX0_search_2 : decode cX0_search 2 = .ok (.aload_n 0, 1) := by decide +kernel
theorem dX0_search_3 : decode cX0_search 3 = .ok (.getfield 9, 3) := by decide +kernel
theorem dX0_search_6 : decode cX0_search 6 = .ok (.iconst 0, 1) := by decide +kernel
theorem dX0_search_7 : decode cX0_search 7 = .ok (.bipush 27, 2) := by decide +kernel
theorem dX0_search_9 : decode cX0_search 9 = .ok (.invokestatic 15, 3) := by decide +kernel
theorem dX0_search_12 : decode cX0_search 12 = .ok (.aload_n 0, 1) := by decide +kernel
theorem dX0_search_13 : decode cX0_search 13 = .ok (.aload_n 1, 1) := by decide +kernel
theorem dX0_search_14 : decode cX0_search 14 = .ok (.putfield 21, 3) := by decide +kernel
theorem dX0_search_17 : decode cX0_search 17 = .ok (.aload_n 0, 1) := by decide +kernel
theorem dX0_search_18 : decode cX0_search 18 = .ok (.iload_n 3, 1) := by decide +kernel
theorem dX0_search_19 : decode cX0_search 19 = .ok (.bipush 7, 2) := by decide +kernel
theorem dX0_search_21 : decode cX0_search 21 = .ok (.invokestatic 25, 3) := by decide +kernel
theorem dX0_search_24 : decode cX0_search 24 = .ok (.putfield 31, 3) := by decide +kernel
theorem dX0_search_27 : decode cX0_search 27 = .ok (.aload_n 0, 1) := by decide +kernel
theorem dX0_search_28 : decode cX0_search 28 = .ok (.iconst 0, 1) := by decide +kernel
theorem dX0_search_29 : decode cX0_search 29 = .ok (.putfield 35, 3) := by decide +kernel
theorem dX0_search_32 : decode cX0_search 32 = .ok (.aload_n 0, 1) := by decide +kernel
theorem dX0_search_33 : decode cX0_search 33 = .ok (.iconst 0, 1) := by decide +kernel
theorem dX0_search_34 : decode cX0_search 34 = .ok (.putfield 38, 3) := by decide +kernel
theorem dX0_search_37 : decode cX0_search 37 = .ok (.aload_n 0, 1) := by decide +kernel
theorem dX0_search_38 : decode cX0_search 38 = .ok (.bipush 8, 2) := by decide +kernel
theorem dX0_search_40 : decode cX0_search 40 = .ok (.putfield 41, 3) := by decide +kernel
theorem dX0_search_43 : decode cX0_search 43 = .ok (.aload_n 0, 1) := by decide +kernel
theorem dX0_search_44 : decode cX0_search 44 = .ok (.iconst 0, 1) := by decide +kernel
theorem dX0_search_45 : decode cX0_search 45 = .ok (.iconst 0, 1) := by decide +kernel
theorem dX0_search_46 : decode cX0_search 46 = .ok (.iconst 0, 1) := by decide +kernel
theorem dX0_search_47 : decode cX0_search 47 = .ok (.invokevirtual 44, 3) := by decide +kernel
theorem dX0_search_50 : decode cX0_search 50 = .ok (.return_, 1) := by decide +kernel
theorem dJ7_fill_53178_0 : decode cJ7_fill_53178 0 = .ok (.iconst 0, 1) := by decide +kernel
theorem dJ7_fill_53178_1 : decode cJ7_fill_53178 1 = .ok (.istore_n 2, 1) := by decide +kernel
theorem dJ7_fill_53178_2 : decode cJ7_fill_53178 2 = .ok (.aload_n 0, 1) := by decide +kernel
theorem dJ7_fill_53178_3 : decode cJ7_fill_53178 3 = .ok (.arraylength, 1) := by decide +kernel
theorem dJ7_fill_53178_4 : decode cJ7_fill_53178 4 = .ok (.istore_n 3, 1) := by decide +kernel
theorem dJ7_fill_53178_5 : decode cJ7_fill_53178 5 = .ok (.iload_n 2, 1) := by decide +kernel
theorem dJ7_fill_53178_6 : decode cJ7_fill_53178 6 = .ok (.iload_n 3, 1) := by decide +kernel
theorem dJ7_fill_53178_7 : decode cJ7_fill_53178 7 = .ok (.if_icmp .ge 13, 3) := by decide +kernel
theorem dJ7_fill_53178_10 : decode cJ7_fill_53178 10 = .ok (.aload_n 0, 1) := by decide +kernel
theorem dJ7_fill_53178_11 : decode cJ7_fill_53178 11 = .ok (.iload_n 2, 1) := by decide +kernel
theorem dJ7_fill_53178_12 : decode cJ7_fill_53178 12 = .ok (.iload_n 1, 1) := by decide +kernel
theorem dJ7_fill_53178_13 : decode cJ7_fill_53178 13 = .ok (.iastore, 1) := by decide +kernel
theorem dJ7_fill_53178_14 : decode cJ7_fill_53178 14 = .ok (.iinc 2 1, 3) := by decide +kernel
theorem dJ7_fill_53178_17 : decode cJ7_fill_53178 17 = .ok (.goto (-12), 3) := by decide +kernel
theorem dJ7_fill_53178_20 : decode cJ7_fill_53178 20 = .ok (.return_, 1) := by decide +kernel
theorem dX10_standsAt_0 : decode cX10_standsAt 0 = .ok (.iload_n 2, 1) := by decide +kernel
theorem dX10_standsAt_1 : decode cX10_standsAt 1 = .ok (.ifCond .lt 16, 3) := by decide +kernel
theorem dX10_standsAt_4 : decode cX10_standsAt 4 = .ok (.aload_n 0, 1) := by decide +kernel
theorem dX10_standsAt_5 : decode cX10_standsAt 5 = .ok (.getfield 19, 3) := by decide +kernel
theorem dX10_standsAt_8 : decode cX10_standsAt 8 = .ok (.aload_n 1, 1) := by decide +kernel
theorem dX10_standsAt_9 : decode cX10_standsAt 9 = .ok (.getfield 28, 3) := by decide +kernel
theorem dX10_standsAt_12 : decode cX10_standsAt 12 = .ok (.iload_n 2, 1) := by decide +kernel
theorem dX10_standsAt_13 : decode cX10_standsAt 13 = .ok (.isub, 1) := by decide +kernel
theorem dX10_standsAt_14 : decode cX10_standsAt 14 = .ok (.if_icmp .le 5, 3) := by decide +kernel
theorem dX10_standsAt_17 : decode cX10_standsAt 17 = .ok (.iconst 0, 1) := by decide +kernel
theorem dX10_standsAt_18 : decode cX10_standsAt 18 = .ok (.ireturn, 1) := by decide +kernel
theorem dX10_standsAt_19 : decode cX10_standsAt 19 = .ok (.iconst 0, 1) := by decide +kernel
theorem dX10_standsAt_20 : decode cX10_standsAt 20 = .ok (.istore_n 3, 1) := by decide +kernel
theorem dX10_standsAt_21 : decode cX10_standsAt 21 = .ok (.iload_n 3, 1) := by decide +kernel
theorem dX10_standsAt_22 : decode cX10_standsAt 22 = .ok (.aload_n 0, 1) := by decide +kernel
theorem dX10_standsAt_23 : decode cX10_standsAt 23 = .ok (.getfield 19, 3) := by decide +kernel
theorem dX10_standsAt_26 : decode cX10_standsAt 26 = .ok (.if_icmp .ge 28, 3) := by decide +kernel
theorem dX10_standsAt_29 : decode cX10_standsAt 29 = .ok (.aload_n 1, 1) := by decide +kernel
theorem dX10_standsAt_30 : decode cX10_standsAt 30 = .ok (.getfield 31, 3) := by decide +kernel
theorem dX10_standsAt_33 : decode cX10_standsAt 33 = .ok (.iload_n 2, 1) := by decide +kernel
theorem dX10_standsAt_34 : decode cX10_standsAt 34 = .ok (.iload_n 3, 1) := by decide +kernel
theorem dX10_standsAt_35 : decode cX10_standsAt 35 = .ok (.iadd, 1) := by decide +kernel
theorem dX10_standsAt_36 : decode cX10_standsAt 36 = .ok (.iaload, 1) := by decide +kernel
theorem dX10_standsAt_37 : decode cX10_standsAt 37 = .ok (.aload_n 0, 1) := by decide +kernel
theorem dX10_standsAt_38 : decode cX10_standsAt 38 = .ok (.getfield 9, 3) := by decide +kernel
theorem dX10_standsAt_41 : decode cX10_standsAt 41 = .ok (.iload_n 3, 1) := by decide +kernel
theorem dX10_standsAt_42 : decode cX10_standsAt 42 = .ok (.iaload, 1) := by decide +kernel
theorem dX10_standsAt_43 : decode cX10_standsAt 43 = .ok (.if_icmp .eq 5, 3) := by decide +kernel
theorem dX10_standsAt_46 : decode cX10_standsAt 46 = .ok (.iconst 0, 1) := by decide +kernel
theorem dX10_standsAt_47 : decode cX10_standsAt 47 = .ok (.ireturn, 1) := by decide +kernel
theorem dX10_standsAt_48 : decode cX10_standsAt 48 = .ok (.iinc 3 1, 3) := by decide +kernel
theorem dX10_standsAt_51 : decode cX10_standsAt 51 = .ok (.goto (-30), 3) := by decide +kernel
theorem dX10_standsAt_54 : decode cX10_standsAt 54 = .ok (.iconst 1, 1) := by decide +kernel
theorem dX10_standsAt_55 : decode cX10_standsAt 55 = .ok (.ireturn, 1) := by decide +kernel
theorem dX1_leadsToEnd_0 : decode cX1_leadsToEnd 0 = .ok (.aload_n 1, 1) := by decide +kernel
theorem dX1_leadsToEnd_1 : decode cX1_leadsToEnd 1 = .ok (.aload_n 2, 1) := by decide +kernel
theorem dX1_leadsToEnd_2 : decode cX1_leadsToEnd 2 = .ok (.iload_n 3, 1) := by decide +kernel
theorem dX1_leadsToEnd_3 : decode cX1_leadsToEnd 3 = .ok (.invokevirtual 52, 3) := by decide +kernel
theorem dX1_leadsToEnd_6 : decode cX1_leadsToEnd 6 = .ok (.ifCond .eq 32, 3) := by decide +kernel
theorem dX1_leadsToEnd_9 : decode cX1_leadsToEnd 9 = .ok (.aload_n 0, 1) := by decide +kernel
theorem dX1_leadsToEnd_10 : decode cX1_leadsToEnd 10 = .ok (.getfield 9, 3) := by decide +kernel
theorem dX1_leadsToEnd_13 : decode cX1_leadsToEnd 13 = .ok (.iload_n 3, 1) := by decide +kernel
theorem dX1_leadsToEnd_14 : decode cX1_leadsToEnd 14 = .ok (.aload_n 1, 1) := by decide +kernel
theorem dX1_leadsToEnd_15 : decode cX1_leadsToEnd 15 = .ok (.getfield 56, 3) := by decide +kernel
theorem dX1_leadsToEnd_18 : decode cX1_leadsToEnd 18 = .ok (.iadd, 1) := by decide +kernel
theorem dX1_leadsToEnd_19 : decode cX1_leadsToEnd 19 = .ok (.iaload, 1) := by decide +kernel
theorem dX1_leadsToEnd_20 : decode cX1_leadsToEnd 20 = .ok (.iconst 1, 1) := by decide +kernel
theorem dX1_leadsToEnd_21 : decode cX1_leadsToEnd 21 = .ok (.getstatic 57, 3) := by decide +kernel
theorem dX1_leadsToEnd_24 : decode cX1_leadsToEnd 24 = .ok (.aload_n 1, 1) := by decide +kernel
theorem dX1_leadsToEnd_25 : decode cX1_leadsToEnd 25 = .ok (.getfield 47, 3) := by decide +kernel
theorem dX1_leadsToEnd_28 : decode cX1_leadsToEnd 28 = .ok (.iaload, 1) := by decide +kernel
theorem dX1_leadsToEnd_29 : decode cX1_leadsToEnd 29 = .ok (.ishl, 1) := by decide +kernel
theorem dX1_leadsToEnd_30 : decode cX1_leadsToEnd 30 = .ok (.iand, 1) := by decide +kernel
theorem dX1_leadsToEnd_31 : decode cX1_leadsToEnd 31 = .ok (.ifCond .eq 7, 3) := by decide +kernel
theorem dX1_leadsToEnd_34 : decode cX1_leadsToEnd 34 = .ok (.iconst 1, 1) := by decide +kernel
theorem dX1_leadsToEnd_35 : decode cX1_leadsToEnd 35 = .ok (.goto 4, 3) := by decide +kernel
theorem dX1_leadsToEnd_38 : decode cX1_leadsToEnd 38 = .ok (.iconst 0, 1) := by decide +kernel
theorem dX1_leadsToEnd_39 : decode cX1_leadsToEnd 39 = .ok (.ireturn, 1) := by decide +kernel
theorem dX1_hold_0 : decode cX1_hold 0 = .ok (.aload_n 0, 1) := by decide +kernel
theorem dX1_hold_1 : decode cX1_hold 1 = .ok (.getfield 9, 3) := by decide +kernel
theorem dX1_hold_4 : decode cX1_hold 4 = .ok (.iconst 0, 1) := by decide +kernel
theorem dX1_hold_5 : decode cX1_hold 5 = .ok (.invokestatic 21, 3) := by decide +kernel
theorem dX1_hold_8 : decode cX1_hold 8 = .ok (.aload_n 0, 1) := by decide +kernel
theorem dX1_hold_9 : decode cX1_hold 9 = .ok (.getfield 9, 3) := by decide +kernel
theorem dX1_hold_12 : decode cX1_hold 12 = .ok (.aload_n 2, 1) := by decide +kernel
theorem dX1_hold_13 : decode cX1_hold 13 = .ok (.getfield 27, 3) := by decide +kernel
theorem dX1_hold_16 : decode cX1_hold 16 = .ok (.bipush 16, 2) := by decide +kernel
theorem dX1_hold_18 : decode cX1_hold 18 = .ok (.iastore, 1) := by decide +kernel
theorem dX1_hold_19 : decode cX1_hold 19 = .ok (.aload_n 2, 1) := by decide +kernel
theorem dX1_hold_20 : decode cX1_hold 20 = .ok (.getfield 27, 3) := by decide +kernel
theorem dX1_hold_23 : decode cX1_hold 23 = .ok (.iconst 1, 1) := by decide +kernel
theorem dX1_hold_24 : decode cX1_hold 24 = .ok (.isub, 1) := by decide +kernel
theorem dX1_hold_25 : decode cX1_hold 25 = .ok (.istore_n 3, 1) := by decide +kernel
theorem dX1_hold_26 : decode cX1_hold 26 = .ok (.iload_n 3, 1) := by decide +kernel
theorem dX1_hold_27 : decode cX1_hold 27 = .ok (.ifCond .lt 66, 3) := by decide +kernel
theorem dX1_hold_30 : decode cX1_hold 30 = .ok (.iconst 0, 1) := by decide +kernel
theorem dX1_hold_31 : decode cX1_hold 31 = .ok (.istore 4, 2) := by decide +kernel
theorem dX1_hold_33 : decode cX1_hold 33 = .ok (.iload 4, 2) := by decide +kernel
theorem dX1_hold_35 : decode cX1_hold 35 = .ok (.aload_n 1, 1) := by decide +kernel
theorem dX1_hold_36 : decode cX1_hold 36 = .ok (.getfield 33, 3) := by decide +kernel
theorem dX1_hold_39 : decode cX1_hold 39 = .ok (.if_icmp .ge 48, 3) := by decide +kernel
theorem dX1_hold_42 : decode cX1_hold 42 = .ok (.aload_n 0, 1) := by decide +kernel
theorem dX1_hold_43 : decode cX1_hold 43 = .ok (.aload_n 1, 1) := by decide +kernel
theorem dX1_hold_44 : decode cX1_hold 44 = .ok (.getfield 36, 3) := by decide +kernel
theorem dX1_hold_47 : decode cX1_hold 47 = .ok (.iload 4, 2) := by decide +kernel
theorem dX1_hold_49 : decode cX1_hold 49 = .ok (.aaload, 1) := by decide +kernel
theorem dX1_hold_50 : decode cX1_hold 50 = .ok (.aload_n 2, 1) := by decide +kernel
theorem dX1_hold_51 : decode cX1_hold 51 = .ok (.iload_n 3, 1) := by decide +kernel
theorem dX1_hold_52 : decode cX1_hold 52 = .ok (.invokevirtual 40, 3) := by decide +kernel
theorem dX1_hold_55 : decode cX1_hold 55 = .ok (.ifCond .eq 26, 3) := by decide +kernel
theorem dX1_hold_58 : decode cX1_hold 58 = .ok (.aload_n 0, 1) := by decide +kernel
theorem dX1_hold_59 : decode cX1_hold 59 = .ok (.getfield 9, 3) := by decide +kernel
theorem dX1_hold_62 : decode cX1_hold 62 = .ok (.iload_n 3, 1) := by decide +kernel
theorem dX1_hold_63 : decode cX1_hold 63 = .ok (.dup2, 1) := by decide +kernel
theorem dX1_hold_64 : decode cX1_hold 64 = .ok (.iaload, 1) := by decide +kernel
theorem dX1_hold_65 : decode cX1_hold 65 = .ok (.getstatic 44, 3) := by decide +kernel
theorem dX1_hold_68 : decode cX1_hold 68 = .ok (.aload_n 1, 1) := by decide +kernel
theorem dX1_hold_69 : decode cX1_hold 69 = .ok (.getfield 36, 3) := by decide +kernel
theorem dX1_hold_72 : decode cX1_hold 72 = .ok (.iload 4, 2) := by decide +kernel
theorem dX1_hold_74 : decode cX1_hold 74 = .ok (.aaload, 1) := by decide +kernel
theorem dX1_hold_75 : decode cX1_hold 75 = .ok (.getfield 47, 3) := by decide +kernel
theorem dX1_hold_78 : decode cX1_hold 78 = .ok (.iaload, 1) := by decide +kernel
theorem dX1_hold_79 : decode cX1_hold 79 = .ok (.ior, 1) := by decide +kernel
theorem dX1_hold_80 : decode cX1_hold 80 = .ok (.iastore, 1) := by decide +kernel
theorem dX1_hold_81 : decode cX1_hold 81 = .ok (.iinc 4 1, 3) := by decide +kernel
theorem dX1_hold_84 : decode cX1_hold 84 = .ok (.goto (-51), 3) := by decide +kernel
theorem dX1_hold_87 : decode cX1_hold 87 = .ok (.iinc 3 (-1), 3) := by decide +kernel
theorem dX1_hold_90 : decode cX1_hold 90 = .ok (.goto (-64), 3) := by decide +kernel
theorem dX1_hold_93 : decode cX1_hold 93 = .ok (.aload_n 0, 1) := by decide +kernel
theorem dX1_hold_94 : decode cX1_hold 94 = .ok (.getfield 9, 3) := by decide +kernel
theorem dX1_hold_97 : decode cX1_hold 97 = .ok (.iconst 0, 1) := by decide +kernel
theorem dX1_hold_98 : decode cX1_hold 98 = .ok (.iaload, 1) := by decide +kernel
theorem dX1_hold_99 : decode cX1_hold 99 = .ok (.iconst 1, 1) := by decide +kernel
theorem dX1_hold_100 : decode cX1_hold 100 = .ok (.iand, 1) := by decide +kernel
theorem dX1_hold_101 : decode cX1_hold 101 = .ok (.ifCond .eq 7, 3) := by decide +kernel
theorem dX1_hold_104 : decode cX1_hold 104 = .ok (.iconst 1, 1) := by decide +kernel
theorem dX1_hold_105 : decode cX1_hold 105 = .ok (.goto 4, 3) := by decide +kernel
theorem dX1_hold_108 : decode cX1_hold 108 = .ok (.iconst 0, 1) := by decide +kernel
theorem dX1_hold_109 : decode cX1_hold 109 = .ok (.ireturn, 1) := by decide +kernel
theorem dX1_lowestThatLeadsOn_0 : decode cX1_lowestThatLeadsOn 0 = .ok (.iconst 0, 1) := by decide +kernel
theorem dX1_lowestThatLeadsOn_1 : decode cX1_lowestThatLeadsOn 1 = .ok (.istore 5, 2) := by decide +kernel
theorem dX1_lowestThatLeadsOn_3 : decode cX1_lowestThatLeadsOn 3 = .ok (.iload 5, 2) := by decide +kernel
theorem dX1_lowestThatLeadsOn_5 : decode cX1_lowestThatLeadsOn 5 = .ok (.aload_n 1, 1) := by decide +kernel
theorem dX1_lowestThatLeadsOn_6 : decode cX1_lowestThatLeadsOn 6 = .ok (.getfield 33, 3) := by decide +kernel
theorem dX1_lowestThatLeadsOn_9 : decode cX1_lowestThatLeadsOn 9 = .ok (.if_icmp .ge 49, 3) := by decide +kernel
theorem dX1_lowestThatLeadsOn_12 : decode cX1_lowestThatLeadsOn 12 = .ok (.aload_n 1, 1) := by decide +kernel
theorem dX1_lowestThatLeadsOn_13 : decode cX1_lowestThatLeadsOn 13 = .ok (.getfield 36, 3) := by decide +kernel
theorem dX1_lowestThatLeadsOn_16 : decode cX1_lowestThatLeadsOn 16 = .ok (.iload 5, 2) := by decide +kernel
theorem dX1_lowestThatLeadsOn_18 : decode cX1_lowestThatLeadsOn 18 = .ok (.aaload, 1) := by decide +kernel
theorem dX1_lowestThatLeadsOn_19 : decode cX1_lowestThatLeadsOn 19 = .ok (.astore 6, 2) := by decide +kernel
theorem dX1_lowestThatLeadsOn_21 : decode cX1_lowestThatLeadsOn 21 = .ok (.getstatic 44, 3) := by decide +kernel
theorem dX1_lowestThatLeadsOn_24 : decode cX1_lowestThatLeadsOn 24 = .ok (.aload 6, 2) := by decide +kernel
theorem dX1_lowestThatLeadsOn_26 : decode cX1_lowestThatLeadsOn 26 = .ok (.getfield 47, 3) := by decide +kernel
theorem dX1_lowestThatLeadsOn_29 : decode cX1_lowestThatLeadsOn 29 = .ok (.iaload, 1) := by decide +kernel
theorem dX1_lowestThatLeadsOn_30 : decode cX1_lowestThatLeadsOn 30 = .ok (.iconst 1, 1) := by decide +kernel
theorem dX1_lowestThatLeadsOn_31 : decode cX1_lowestThatLeadsOn 31 = .ok (.iload 4, 2) := by decide +kernel
theorem dX1_lowestThatLeadsOn_33 : decode cX1_lowestThatLeadsOn 33 = .ok (.ishl, 1) := by decide +kernel
theorem dX1_lowestThatLeadsOn_34 : decode cX1_lowestThatLeadsOn 34 = .ok (.iand, 1) := by decide +kernel
theorem dX1_lowestThatLeadsOn_35 : decode cX1_lowestThatLeadsOn 35 = .ok (.ifCond .eq 17, 3) := by decide +kernel
theorem dX1_lowestThatLeadsOn_38 : decode cX1_lowestThatLeadsOn 38 = .ok (.aload_n 0, 1) := by decide +kernel
theorem dX1_lowestThatLeadsOn_39 : decode cX1_lowestThatLeadsOn 39 = .ok (.aload 6, 2) := by decide +kernel
theorem dX1_lowestThatLeadsOn_41 : decode cX1_lowestThatLeadsOn 41 = .ok (.aload_n 2, 1) := by decide +kernel
theorem dX1_lowestThatLeadsOn_42 : decode cX1_lowestThatLeadsOn 42 = .ok (.iload_n 3, 1) := by decide +kernel
theorem dX1_lowestThatLeadsOn_43 : decode cX1_lowestThatLeadsOn 43 = .ok (.invokevirtual 40, 3) := by decide +kernel
theorem dX1_lowestThatLeadsOn_46 : decode cX1_lowestThatLeadsOn 46 = .ok (.ifCond .eq 6, 3) := by decide +kernel
theorem dX1_lowestThatLeadsOn_49 : decode cX1_lowestThatLeadsOn 49 = .ok (.iload 5, 2) := by decide +kernel
theorem dX1_lowestThatLeadsOn_51 : decode cX1_lowestThatLeadsOn 51 = .ok (.ireturn, 1) := by decide +kernel
theorem dX1_lowestThatLeadsOn_52 : decode cX1_lowestThatLeadsOn 52 = .ok (.iinc 5 1, 3) := by decide +kernel
theorem dX1_lowestThatLeadsOn_55 : decode cX1_lowestThatLeadsOn 55 = .ok (.goto (-52), 3) := by decide +kernel
theorem dX1_lowestThatLeadsOn_58 : decode cX1_lowestThatLeadsOn 58 = .ok (.iconst (-1), 1) := by decide +kernel
theorem dX1_lowestThatLeadsOn_59 : decode cX1_lowestThatLeadsOn 59 = .ok (.ireturn, 1) := by decide +kernel
theorem dX1_find_0 : decode cX1_find 0 = .ok (.aload_n 0, 1) := by decide +kernel
theorem dX1_find_1 : decode cX1_find 1 = .ok (.iconst 0, 1) := by decide +kernel
theorem dX1_find_2 : decode cX1_find 2 = .ok (.putfield 60, 3) := by decide +kernel
theorem dX1_find_5 : decode cX1_find 5 = .ok (.aload_n 0, 1) := by decide +kernel
theorem dX1_find_6 : decode cX1_find 6 = .ok (.aload_n 1, 1) := by decide +kernel
theorem dX1_find_7 : decode cX1_find 7 = .ok (.aload_n 2, 1) := by decide +kernel
theorem dX1_find_8 : decode cX1_find 8 = .ok (.invokevirtual 63, 3) := by decide +kernel
theorem dX1_find_11 : decode cX1_find 11 = .ok (.ifCond .ne 5, 3) := by decide +kernel
theorem dX1_find_14 : decode cX1_find 14 = .ok (.iconst 0, 1) := by decide +kernel
theorem dX1_find_15 : decode cX1_find 15 = .ok (.ireturn, 1) := by decide +kernel
theorem dX1_find_16 : decode cX1_find 16 = .ok (.iconst 0, 1) := by decide +kernel
theorem dX1_find_17 : decode cX1_find 17 = .ok (.istore_n 3, 1) := by decide +kernel
theorem dX1_find_18 : decode cX1_find 18 = .ok (.iconst 0, 1) := by decide +kernel
theorem dX1_find_19 : decode cX1_find 19 = .ok (.istore 4, 2) := by decide +kernel
theorem dX1_find_21 : decode cX1_find 21 = .ok (.iconst 0, 1) := by decide +kernel
theorem dX1_find_22 : decode cX1_find 22 = .ok (.istore 5, 2) := by decide +kernel
theorem dX1_find_24 : decode cX1_find 24 = .ok (.iload 5, 2) := by decide +kernel
theorem dX1_find_26 : decode cX1_find 26 = .ok (.bipush 48, 2) := by decide +kernel
theorem dX1_find_28 : decode cX1_find 28 = .ok (.if_icmp .ge 83, 3) := by decide +kernel
theorem dX1_find_31 : decode cX1_find 31 = .ok (.iload_n 3, 1) := by decide +kernel
theorem dX1_find_32 : decode cX1_find 32 = .ok (.aload_n 2, 1) := by decide +kernel
theorem dX1_find_33 : decode cX1_find 33 = .ok (.getfield 27, 3) := by decide +kernel
theorem dX1_find_36 : decode cX1_find 36 = .ok (.if_icmp .ge 75, 3) := by decide +kernel
theorem dX1_find_39 : decode cX1_find 39 = .ok (.aload_n 0, 1) := by decide +kernel
theorem dX1_find_40 : decode cX1_find 40 = .ok (.aload_n 1, 1) := by decide +kernel
theorem dX1_find_41 : decode cX1_find 41 = .ok (.aload_n 2, 1) := by decide +kernel
theorem dX1_find_42 : decode cX1_find 42 = .ok (.iload_n 3, 1) := by decide +kernel
theorem dX1_find_43 : decode cX1_find 43 = .ok (.iload 4, 2) := by decide +kernel
theorem dX1_find_45 : decode cX1_find 45 = .ok (.invokevirtual 67, 3) := by decide +kernel
theorem dX1_find_48 : decode cX1_find 48 = .ok (.istore 6, 2) := by decide +kernel
theorem dX1_find_50 : decode cX1_find 50 = .ok (.iload 6, 2) := by decide +kernel
theorem dX1_find_52 : decode cX1_find 52 = .ok (.ifCond .ge 5, 3) := by decide +kernel
theorem dX1_find_55 : decode cX1_find 55 = .ok (.iconst 0, 1) := by decide +kernel
theorem dX1_find_56 : decode cX1_find 56 = .ok (.ireturn, 1) := by decide +kernel
theorem dX1_find_57 : decode cX1_find 57 = .ok (.aload_n 0, 1) := by decide +kernel
theorem dX1_find_58 : decode cX1_find 58 = .ok (.getfield 18, 3) := by decide +kernel
theorem dX1_find_61 : decode cX1_find 61 = .ok (.iload 5, 2) := by decide +kernel
theorem dX1_find_63 : decode cX1_find 63 = .ok (.iload 6, 2) := by decide +kernel
theorem dX1_find_65 : decode cX1_find 65 = .ok (.iastore, 1) := by decide +kernel
theorem dX1_find_66 : decode cX1_find 66 = .ok (.aload_n 0, 1) := by decide +kernel
theorem dX1_find_67 : decode cX1_find 67 = .ok (.dup, 1) := by decide +kernel
theorem dX1_find_68 : decode cX1_find 68 = .ok (.getfield 60, 3) := by decide +kernel
theorem dX1_find_71 : decode cX1_find 71 = .ok (.iconst 1, 1) := by decide +kernel
theorem dX1_find_72 : decode cX1_find 72 = .ok (.iadd, 1) := by decide +kernel
theorem dX1_find_73 : decode cX1_find 73 = .ok (.putfield 60, 3) := by decide +kernel
theorem dX1_find_76 : decode cX1_find 76 = .ok (.iload_n 3, 1) := by decide +kernel
theorem dX1_find_77 : decode cX1_find 77 = .ok (.aload_n 1, 1) := by decide +kernel
theorem dX1_find_78 : decode cX1_find 78 = .ok (.getfield 36, 3) := by decide +kernel
theorem dX1_find_81 : decode cX1_find 81 = .ok (.iload 6, 2) := by decide +kernel
theorem dX1_find_83 : decode cX1_find 83 = .ok (.aaload, 1) := by decide +kernel
theorem dX1_find_84 : decode cX1_find 84 = .ok (.getfield 56, 3) := by decide +kernel
theorem dX1_find_87 : decode cX1_find 87 = .ok (.iadd, 1) := by decide +kernel
theorem dX1_find_88 : decode cX1_find 88 = .ok (.istore_n 3, 1) := by decide +kernel
theorem dX1_find_89 : decode cX1_find 89 = .ok (.getstatic 57, 3) := by decide +kernel
theorem dX1_find_92 : decode cX1_find 92 = .ok (.aload_n 1, 1) := by decide +kernel
theorem dX1_find_93 : decode cX1_find 93 = .ok (.getfield 36, 3) := by decide +kernel
theorem dX1_find_96 : decode cX1_find 96 = .ok (.iload 6, 2) := by decide +kernel
theorem dX1_find_98 : decode cX1_find 98 = .ok (.aaload, 1) := by decide +kernel
theorem dX1_find_99 : decode cX1_find 99 = .ok (.getfield 47, 3) := by decide +kernel
theorem dX1_find_102 : decode cX1_find 102 = .ok (.iaload, 1) := by decide +kernel
theorem dX1_find_103 : decode cX1_find 103 = .ok (.istore 4, 2) := by decide +kernel
theorem dX1_find_105 : decode cX1_find 105 = .ok (.iinc 5 1, 3) := by decide +kernel
theorem dX1_find_108 : decode cX1_find 108 = .ok (.goto (-84), 3) := by decide +kernel
theorem dX1_find_111 : decode cX1_find 111 = .ok (.iconst 1, 1) := by decide +kernel
theorem dX1_find_112 : decode cX1_find 112 = .ok (.ireturn, 1) := by decide +kernel
theorem dX1_firstNotSaid_0 : decode cX1_firstNotSaid 0 = .ok (.iload_n 2, 1) := by decide +kernel
theorem dX1_firstNotSaid_1 : decode cX1_firstNotSaid 1 = .ok (.aload_n 0, 1) := by decide +kernel
theorem dX1_firstNotSaid_2 : decode cX1_firstNotSaid 2 = .ok (.getfield 60, 3) := by decide +kernel
theorem dX1_firstNotSaid_5 : decode cX1_firstNotSaid 5 = .ok (.invokestatic 71, 3) := by decide +kernel
theorem dX1_firstNotSaid_8 : decode cX1_firstNotSaid 8 = .ok (.istore_n 3, 1) := by decide +kernel
theorem dX1_firstNotSaid_9 : decode cX1_firstNotSaid 9 = .ok (.iconst 0, 1) := by decide +kernel
theorem dX1_firstNotSaid_10 : decode cX1_firstNotSaid 10 = .ok (.istore 4, 2) := by decide +kernel
theorem dX1_firstNotSaid_12 : decode cX1_firstNotSaid 12 = .ok (.iload 4, 2) := by decide +kernel
theorem dX1_firstNotSaid_14 : decode cX1_firstNotSaid 14 = .ok (.iload_n 3, 1) := by decide +kernel
theorem dX1_firstNotSaid_15 : decode cX1_firstNotSaid 15 = .ok (.if_icmp .ge 26, 3) := by decide +kernel
theorem dX1_firstNotSaid_18 : decode cX1_firstNotSaid 18 = .ok (.aload_n 1, 1) := by decide +kernel
theorem dX1_firstNotSaid_19 : decode cX1_firstNotSaid 19 = .ok (.iload 4, 2) := by decide +kernel
theorem dX1_firstNotSaid_21 : decode cX1_firstNotSaid 21 = .ok (.iaload, 1) := by decide +kernel
theorem dX1_firstNotSaid_22 : decode cX1_firstNotSaid 22 = .ok (.aload_n 0, 1) := by decide +kernel
theorem dX1_firstNotSaid_23 : decode cX1_firstNotSaid 23 = .ok (.getfield 18, 3) := by decide +kernel
theorem dX1_firstNotSaid_26 : decode cX1_firstNotSaid 26 = .ok (.iload 4, 2) := by decide +kernel
theorem dX1_firstNotSaid_28 : decode cX1_firstNotSaid 28 = .ok (.iaload, 1) := by decide +kernel
theorem dX1_firstNotSaid_29 : decode cX1_firstNotSaid 29 = .ok (.if_icmp .eq 6, 3) := by decide +kernel
theorem dX1_firstNotSaid_32 : decode cX1_firstNotSaid 32 = .ok (.iload 4, 2) := by decide +kernel
theorem dX1_firstNotSaid_34 : decode cX1_firstNotSaid 34 = .ok (.ireturn, 1) := by decide +kernel
theorem dX1_firstNotSaid_35 : decode cX1_firstNotSaid 35 = .ok (.iinc 4 1, 3) := by decide +kernel
theorem dX1_firstNotSaid_38 : decode cX1_firstNotSaid 38 = .ok (.goto (-26), 3) := by decide +kernel
theorem dX1_firstNotSaid_41 : decode cX1_firstNotSaid 41 = .ok (.iload_n 2, 1) := by decide +kernel
theorem dX1_firstNotSaid_42 : decode cX1_firstNotSaid 42 = .ok (.aload_n 0, 1) := by decide +kernel
theorem dX1_firstNotSaid_43 : decode cX1_firstNotSaid 43 = .ok (.getfield 60, 3) := by decide +kernel
theorem dX1_firstNotSaid_46 : decode cX1_firstNotSaid 46 = .ok (.if_icmp .ne 7, 3) := by decide +kernel
theorem dX1_firstNotSaid_49 : decode cX1_firstNotSaid 49 = .ok (.iconst (-1), 1) := by decide +kernel
theorem dX1_firstNotSaid_50 : decode cX1_firstNotSaid 50 = .ok (.goto 4, 3) := by decide +kernel
theorem dX1_firstNotSaid_53 : decode cX1_firstNotSaid 53 = .ok (.iload_n 3, 1) := by decide +kernel
theorem dX1_firstNotSaid_54 : decode cX1_firstNotSaid 54 = .ok (.ireturn, 1) := by decide +kernel
theorem dX1_waysInto_0 : decode cX1_waysInto 0 = .ok (.iconst 0, 1) := by decide +kernel
theorem dX1_waysInto_1 : decode cX1_waysInto 1 = .ok (.istore_n 3, 1) := by decide +kernel
theorem dX1_waysInto_2 : decode cX1_waysInto 2 = .ok (.iconst 0, 1) := by decide +kernel
theorem dX1_waysInto_3 : decode cX1_waysInto 3 = .ok (.istore 4, 2) := by decide +kernel
theorem dX1_waysInto_5 : decode cX1_waysInto 5 = .ok (.iload 4, 2) := by decide +kernel
theorem dX1_waysInto_7 : decode cX1_waysInto 7 = .ok (.iconst 5, 1) := by decide +kernel
theorem dX1_waysInto_8 : decode cX1_waysInto 8 = .ok (.if_icmp .ge 36, 3) := by decide +kernel
theorem dX1_waysInto_11 : decode cX1_waysInto 11 = .ok (.getstatic 44, 3) := by decide +kernel
theorem dX1_waysInto_14 : decode cX1_waysInto 14 = .ok (.iload_n 1, 1) := by decide +kernel
theorem dX1_waysInto_15 : decode cX1_waysInto 15 = .ok (.iaload, 1) := by decide +kernel
theorem dX1_waysInto_16 : decode cX1_waysInto 16 = .ok (.iconst 1, 1) := by decide +kernel
theorem dX1_waysInto_17 : decode cX1_waysInto 17 = .ok (.iload 4, 2) := by decide +kernel
theorem dX1_waysInto_19 : decode cX1_waysInto 19 = .ok (.ishl, 1) := by decide +kernel
theorem dX1_waysInto_20 : decode cX1_waysInto 20 = .ok (.iand, 1) := by decide +kernel
theorem dX1_waysInto_21 : decode cX1_waysInto 21 = .ok (.ifCond .eq 17, 3) := by decide +kernel
theorem dX1_waysInto_24 : decode cX1_waysInto 24 = .ok (.iload_n 3, 1) := by decide +kernel
theorem dX1_waysInto_25 : decode cX1_waysInto 25 = .ok (.aload_n 0, 1) := by decide +kernel
theorem dX1_waysInto_26 : decode cX1_waysInto 26 = .ok (.getfield 15, 3) := by decide +kernel
theorem dX1_waysInto_29 : decode cX1_waysInto 29 = .ok (.iload_n 2, 1) := by decide +kernel
theorem dX1_waysInto_30 : decode cX1_waysInto 30 = .ok (.iconst 5, 1) := by decide +kernel
theorem dX1_waysInto_31 : decode cX1_waysInto 31 = .ok (.imul, 1) := by decide +kernel
theorem dX1_waysInto_32 : decode cX1_waysInto 32 = .ok (.iload 4, 2) := by decide +kernel
theorem dX1_waysInto_34 : decode cX1_waysInto 34 = .ok (.iadd, 1) := by decide +kernel
theorem dX1_waysInto_35 : decode cX1_waysInto 35 = .ok (.iaload, 1) := by decide +kernel
theorem dX1_waysInto_36 : decode cX1_waysInto 36 = .ok (.iadd, 1) := by decide +kernel
theorem dX1_waysInto_37 : decode cX1_waysInto 37 = .ok (.istore_n 3, 1) := by decide +kernel
theorem dX1_waysInto_38 : decode cX1_waysInto 38 = .ok (.iinc 4 1, 3) := by decide +kernel
theorem dX1_waysInto_41 : decode cX1_waysInto 41 = .ok (.goto (-36), 3) := by decide +kernel
theorem dX1_waysInto_44 : decode cX1_waysInto 44 = .ok (.iload_n 3, 1) := by decide +kernel
theorem dX1_waysInto_45 : decode cX1_waysInto 45 = .ok (.ireturn, 1) := by decide +kernel
theorem dX1_countFromBegin_0 : decode cX1_countFromBegin 0 = .ok (.aload_n 0, 1) := by decide +kernel
theorem dX1_countFromBegin_1 : decode cX1_countFromBegin 1 = .ok (.getfield 15, 3) := by decide +kernel
theorem dX1_countFromBegin_4 : decode cX1_countFromBegin 4 = .ok (.iconst 0, 1) := by decide +kernel
theorem dX1_countFromBegin_5 : decode cX1_countFromBegin 5 = .ok (.invokestatic 21, 3) := by decide +kernel
theorem dX1_countFromBegin_8 : decode cX1_countFromBegin 8 = .ok (.aload_n 0, 1) := by decide +kernel
theorem dX1_countFromBegin_9 : decode cX1_countFromBegin 9 = .ok (.getfield 15, 3) := by decide +kernel
theorem dX1_countFromBegin_12 : decode cX1_countFromBegin 12 = .ok (.iconst 0, 1) := by decide +kernel
theorem dX1_countFromBegin_13 : decode cX1_countFromBegin 13 = .ok (.iconst 1, 1) := by decide +kernel
theorem dX1_countFromBegin_14 : decode cX1_countFromBegin 14 = .ok (.iastore, 1) := by decide +kernel
theorem dX1_countFromBegin_15 : decode cX1_countFromBegin 15 = .ok (.iconst 0, 1) := by decide +kernel
theorem dX1_countFromBegin_16 : decode cX1_countFromBegin 16 = .ok (.istore_n 3, 1) := by decide +kernel
theorem dX1_countFromBegin_17 : decode cX1_countFromBegin 17 = .ok (.iload_n 3, 1) := by decide +kernel
theorem dX1_countFromBegin_18 : decode cX1_countFromBegin 18 = .ok (.aload_n 2, 1) := by decide +kernel
theorem dX1_countFromBegin_19 : decode cX1_countFromBegin 19 = .ok (.getfield 27, 3) := by decide +kernel
theorem dX1_countFromBegin_22 : decode cX1_countFromBegin 22 = .ok (.if_icmp .ge 97, 3) := by decide +kernel
theorem dX1_countFromBegin_25 : decode cX1_countFromBegin 25 = .ok (.iconst 0, 1) := by decide +kernel
theorem dX1_countFromBegin_26 : decode cX1_countFromBegin 26 = .ok (.istore 4, 2) := by decide +kernel
theorem dX1_countFromBegin_28 : decode cX1_countFromBegin 28 = .ok (.iload 4, 2) := by decide +kernel
theorem dX1_countFromBegin_30 : decode cX1_countFromBegin 30 = .ok (.aload_n 1, 1) := by decide +kernel
theorem dX1_countFromBegin_31 : decode cX1_countFromBegin 31 = .ok (.getfield 33, 3) := by decide +kernel
theorem dX1_countFromBegin_34 : decode cX1_countFromBegin 34 = .ok (.if_icmp .ge 79, 3) := by decide +kernel
theorem dX1_countFromBegin_37 : decode cX1_countFromBegin 37 = .ok (.aload_n 1, 1) := by decide +kernel
theorem dX1_countFromBegin_38 : decode cX1_countFromBegin 38 = .ok (.getfield 36, 3) := by decide +kernel
theorem dX1_countFromBegin_41 : decode cX1_countFromBegin 41 = .ok (.iload 4, 2) := by decide +kernel
theorem dX1_countFromBegin_43 : decode cX1_countFromBegin 43 = .ok (.aaload, 1) := by decide +kernel
theorem dX1_countFromBegin_44 : decode cX1_countFromBegin 44 = .ok (.astore 5, 2) := by decide +kernel
theorem dX1_countFromBegin_46 : decode cX1_countFromBegin 46 = .ok (.aload 5, 2) := by decide +kernel
theorem dX1_countFromBegin_48 : decode cX1_countFromBegin 48 = .ok (.aload_n 2, 1) := by decide +kernel
theorem dX1_countFromBegin_49 : decode cX1_countFromBegin 49 = .ok (.iload_n 3, 1) := by decide +kernel
theorem dX1_countFromBegin_50 : decode cX1_countFromBegin 50 = .ok (.invokevirtual 52, 3) := by decide +kernel
theorem dX1_countFromBegin_53 : decode cX1_countFromBegin 53 = .ok (.ifCond .eq 54, 3) := by decide +kernel
theorem dX1_countFromBegin_56 : decode cX1_countFromBegin 56 = .ok (.iload_n 3, 1) := by decide +kernel
theorem dX1_countFromBegin_57 : decode cX1_countFromBegin 57 = .ok (.aload 5, 2) := by decide +kernel
theorem dX1_countFromBegin_59 : decode cX1_countFromBegin 59 = .ok (.getfield 56, 3) := by decide +kernel
theorem dX1_countFromBegin_62 : decode cX1_countFromBegin 62 = .ok (.iadd, 1) := by decide +kernel
theorem dX1_countFromBegin_63 : decode cX1_countFromBegin 63 = .ok (.iconst 5, 1) := by decide +kernel
theorem dX1_countFromBegin_64 : decode cX1_countFromBegin 64 = .ok (.imul, 1) := by decide +kernel
theorem dX1_countFromBegin_65 : decode cX1_countFromBegin 65 = .ok (.getstatic 57, 3) := by decide +kernel
theorem dX1_countFromBegin_68 : decode cX1_countFromBegin 68 = .ok (.aload 5, 2) := by decide +kernel
theorem dX1_countFromBegin_70 : decode cX1_countFromBegin 70 = .ok (.getfield 47, 3) := by decide +kernel
theorem dX1_countFromBegin_73 : decode cX1_countFromBegin 73 = .ok (.iaload, 1) := by decide +kernel
theorem dX1_countFromBegin_74 : decode cX1_countFromBegin 74 = .ok (.iadd, 1) := by decide +kernel
theorem dX1_countFromBegin_75 : decode cX1_countFromBegin 75 = .ok (.istore 6, 2) := by decide +kernel
theorem dX1_countFromBegin_77 : decode cX1_countFromBegin 77 = .ok (.aload_n 0, 1) := by decide +kernel
theorem dX1_countFromBegin_78 : decode cX1_countFromBegin 78 = .ok (.getfield 15, 3) := by decide +kernel
theorem dX1_countFromBegin_81 : decode cX1_countFromBegin 81 = .ok (.iload 6, 2) := by decide +kernel
theorem dX1_countFromBegin_83 : decode cX1_countFromBegin 83 = .ok (.ldc 77, 2) := by decide +kernel
theorem dX1_countFromBegin_85 : decode cX1_countFromBegin 85 = .ok (.aload_n 0, 1) := by decide +kernel
theorem dX1_countFromBegin_86 : decode cX1_countFromBegin 86 = .ok (.getfield 15, 3) := by decide +kernel
theorem dX1_countFromBegin_89 : decode cX1_countFromBegin 89 = .ok (.iload 6, 2) := by decide +kernel
theorem dX1_countFromBegin_91 : decode cX1_countFromBegin 91 = .ok (.iaload, 1) := by decide +kernel
theorem dX1_countFromBegin_92 : decode cX1_countFromBegin 92 = .ok (.aload_n 0, 1) := by decide +kernel
theorem dX1_countFromBegin_93 : decode cX1_countFromBegin 93 = .ok (.aload 5, 2) := by decide +kernel
theorem dX1_countFromBegin_95 : decode cX1_countFromBegin 95 = .ok (.getfield 47, 3) := by decide +kernel
theorem dX1_countFromBegin_98 : decode cX1_countFromBegin 98 = .ok (.iload_n 3, 1) := by decide +kernel
theorem dX1_countFromBegin_99 : decode cX1_countFromBegin 99 = .ok (.invokevirtual 78, 3) := by decide +kernel
theorem dX1_countFromBegin_102 : decode cX1_countFromBegin 102 = .ok (.iadd, 1) := by decide +kernel
theorem dX1_countFromBegin_103 : decode cX1_countFromBegin 103 = .ok (.invokestatic 71, 3) := by decide +kernel
theorem dX1_countFromBegin_106 : decode cX1_countFromBegin 106 = .ok (.iastore, 1) := by decide +kernel
theorem dX1_countFromBegin_107 : decode cX1_countFromBegin 107 = .ok (.iinc 4 1, 3) := by decide +kernel
theorem dX1_countFromBegin_110 : decode cX1_countFromBegin 110 = .ok (.goto (-82), 3) := by decide +kernel
theorem dX1_countFromBegin_113 : decode cX1_countFromBegin 113 = .ok (.iinc 3 1, 3) := by decide +kernel
theorem dX1_countFromBegin_116 : decode cX1_countFromBegin 116 = .ok (.goto (-99), 3) := by decide +kernel
theorem dX1_countFromBegin_119 : decode cX1_countFromBegin 119 = .ok (.return_, 1) := by decide +kernel
theorem dX1_countWays_0 : decode cX1_countWays 0 = .ok (.aload_n 0, 1) := by decide +kernel
theorem dX1_countWays_1 : decode cX1_countWays 1 = .ok (.aload_n 1, 1) := by decide +kernel
theorem dX1_countWays_2 : decode cX1_countWays 2 = .ok (.aload_n 2, 1) := by decide +kernel
theorem dX1_countWays_3 : decode cX1_countWays 3 = .ok (.invokevirtual 81, 3) := by decide +kernel
theorem dX1_countWays_6 : decode cX1_countWays 6 = .ok (.aload_n 0, 1) := by decide +kernel
theorem dX1_countWays_7 : decode cX1_countWays 7 = .ok (.getfield 15, 3) := by decide +kernel
theorem dX1_countWays_10 : decode cX1_countWays 10 = .ok (.aload_n 2, 1) := by decide +kernel
theorem dX1_countWays_11 : decode cX1_countWays 11 = .ok (.getfield 27, 3) := by decide +kernel
theorem dX1_countWays_14 : decode cX1_countWays 14 = .ok (.iconst 5, 1) := by decide +kernel
theorem dX1_countWays_15 : decode cX1_countWays 15 = .ok (.imul, 1) := by decide +kernel
theorem dX1_countWays_16 : decode cX1_countWays 16 = .ok (.iconst 4, 1) := by decide +kernel
theorem dX1_countWays_17 : decode cX1_countWays 17 = .ok (.iadd, 1) := by decide +kernel
theorem dX1_countWays_18 : decode cX1_countWays 18 = .ok (.iaload, 1) := by decide +kernel
theorem dX1_countWays_19 : decode cX1_countWays 19 = .ok (.ireturn, 1) := by decide +kernel
theorem dX1_stuckAt_0 : decode cX1_stuckAt 0 = .ok (.aload_n 0, 1) := by decide +kernel
theorem dX1_stuckAt_1 : decode cX1_stuckAt 1 = .ok (.aload_n 1, 1) := by decide +kernel
theorem dX1_stuckAt_2 : decode cX1_stuckAt 2 = .ok (.aload_n 2, 1) := by decide +kernel
theorem dX1_stuckAt_3 : decode cX1_stuckAt 3 = .ok (.invokevirtual 81, 3) := by decide +kernel
theorem dX1_stuckAt_6 : decode cX1_stuckAt 6 = .ok (.iconst 0, 1) := by decide +kernel
theorem dX1_stuckAt_7 : decode cX1_stuckAt 7 = .ok (.istore_n 3, 1) := by decide +kernel
theorem dX1_stuckAt_8 : decode cX1_stuckAt 8 = .ok (.iconst 0, 1) := by decide +kernel
theorem dX1_stuckAt_9 : decode cX1_stuckAt 9 = .ok (.istore 4, 2) := by decide +kernel
theorem dX1_stuckAt_11 : decode cX1_stuckAt 11 = .ok (.iload 4, 2) := by decide +kernel
theorem dX1_stuckAt_13 : decode cX1_stuckAt 13 = .ok (.aload_n 2, 1) := by decide +kernel
theorem dX1_stuckAt_14 : decode cX1_stuckAt 14 = .ok (.getfield 27, 3) := by decide +kernel
theorem dX1_stuckAt_17 : decode cX1_stuckAt 17 = .ok (.iconst 1, 1) := by decide +kernel
theorem dX1_stuckAt_18 : decode cX1_stuckAt 18 = .ok (.iadd, 1) := by decide +kernel
theorem dX1_stuckAt_19 : decode cX1_stuckAt 19 = .ok (.iconst 5, 1) := by decide +kernel
theorem dX1_stuckAt_20 : decode cX1_stuckAt 20 = .ok (.imul, 1) := by decide +kernel
theorem dX1_stuckAt_21 : decode cX1_stuckAt 21 = .ok (.if_icmp .ge 24, 3) := by decide +kernel
theorem dX1_stuckAt_24 : decode cX1_stuckAt 24 = .ok (.aload_n 0, 1) := by decide +kernel
theorem dX1_stuckAt_25 : decode cX1_stuckAt 25 = .ok (.getfield 15, 3) := by decide +kernel
theorem dX1_stuckAt_28 : decode cX1_stuckAt 28 = .ok (.iload 4, 2) := by decide +kernel
theorem dX1_stuckAt_30 : decode cX1_stuckAt 30 = .ok (.iaload, 1) := by decide +kernel
theorem dX1_stuckAt_31 : decode cX1_stuckAt 31 = .ok (.ifCond .le 8, 3) := by decide +kernel
theorem dX1_stuckAt_34 : decode cX1_stuckAt 34 = .ok (.iload 4, 2) := by decide +kernel
theorem dX1_stuckAt_36 : decode cX1_stuckAt 36 = .ok (.iconst 5, 1) := by decide +kernel
theorem dX1_stuckAt_37 : decode cX1_stuckAt 37 = .ok (.idiv, 1) := by decide +kernel
theorem dX1_stuckAt_38 : decode cX1_stuckAt 38 = .ok (.istore_n 3, 1) := by decide +kernel
theorem dX1_stuckAt_39 : decode cX1_stuckAt 39 = .ok (.iinc 4 1, 3) := by decide +kernel
theorem dX1_stuckAt_42 : decode cX1_stuckAt 42 = .ok (.goto (-31), 3) := by decide +kernel
theorem dX1_stuckAt_45 : decode cX1_stuckAt 45 = .ok (.iload_n 3, 1) := by decide +kernel
theorem dX1_stuckAt_46 : decode cX1_stuckAt 46 = .ok (.ireturn, 1) := by decide +kernel
theorem dX10_unlikeAt_0 : decode cX10_unlikeAt 0 = .ok (.iload_n 2, 1) := by decide +kernel
theorem dX10_unlikeAt_1 : decode cX10_unlikeAt 1 = .ok (.ifCond .lt 16, 3) := by decide +kernel
theorem dX10_unlikeAt_4 : decode cX10_unlikeAt 4 = .ok (.aload_n 0, 1) := by decide +kernel
theorem dX10_unlikeAt_5 : decode cX10_unlikeAt 5 = .ok (.getfield 19, 3) := by decide +kernel
theorem dX10_unlikeAt_8 : decode cX10_unlikeAt 8 = .ok (.aload_n 1, 1) := by decide +kernel
theorem dX10_unlikeAt_9 : decode cX10_unlikeAt 9 = .ok (.getfield 28, 3) := by decide +kernel
theorem dX10_unlikeAt_12 : decode cX10_unlikeAt 12 = .ok (.iload_n 2, 1) := by decide +kernel
theorem dX10_unlikeAt_13 : decode cX10_unlikeAt 13 = .ok (.isub, 1) := by decide +kernel
theorem dX10_unlikeAt_14 : decode cX10_unlikeAt 14 = .ok (.if_icmp .le 6, 3) := by decide +kernel
theorem dX10_unlikeAt_17 : decode cX10_unlikeAt 17 = .ok (.ldc 32, 2) := by decide +kernel
theorem dX10_unlikeAt_19 : decode cX10_unlikeAt 19 = .ok (.ireturn, 1) := by decide +kernel
theorem dX10_unlikeAt_20 : decode cX10_unlikeAt 20 = .ok (.iconst 0, 1) := by decide +kernel
theorem dX10_unlikeAt_21 : decode cX10_unlikeAt 21 = .ok (.istore_n 3, 1) := by decide +kernel
theorem dX10_unlikeAt_22 : decode cX10_unlikeAt 22 = .ok (.iconst 0, 1) := by decide +kernel
theorem dX10_unlikeAt_23 : decode cX10_unlikeAt 23 = .ok (.istore 4, 2) := by decide +kernel
theorem dX10_unlikeAt_25 : decode cX10_unlikeAt 25 = .ok (.iload 4, 2) := by decide +kernel
theorem dX10_unlikeAt_27 : decode cX10_unlikeAt 27 = .ok (.aload_n 0, 1) := by decide +kernel
theorem dX10_unlikeAt_28 : decode cX10_unlikeAt 28 = .ok (.getfield 19, 3) := by decide +kernel
theorem dX10_unlikeAt_31 : decode cX10_unlikeAt 31 = .ok (.if_icmp .ge 36, 3) := by decide +kernel
theorem dX10_unlikeAt_34 : decode cX10_unlikeAt 34 = .ok (.iload_n 3, 1) := by decide +kernel
theorem dX10_unlikeAt_35 : decode cX10_unlikeAt 35 = .ok (.aload_n 1, 1) := by decide +kernel
theorem dX10_unlikeAt_36 : decode cX10_unlikeAt 36 = .ok (.getfield 31, 3) := by decide +kernel
theorem dX10_unlikeAt_39 : decode cX10_unlikeAt 39 = .ok (.iload_n 2, 1) := by decide +kernel
theorem dX10_unlikeAt_40 : decode cX10_unlikeAt 40 = .ok (.iload 4, 2) := by decide +kernel
theorem dX10_unlikeAt_42 : decode cX10_unlikeAt 42 = .ok (.iadd, 1) := by decide +kernel
theorem dX10_unlikeAt_43 : decode cX10_unlikeAt 43 = .ok (.iaload, 1) := by decide +kernel
theorem dX10_unlikeAt_44 : decode cX10_unlikeAt 44 = .ok (.aload_n 0, 1) := by decide +kernel
theorem dX10_unlikeAt_45 : decode cX10_unlikeAt 45 = .ok (.getfield 9, 3) := by decide +kernel
theorem dX10_unlikeAt_48 : decode cX10_unlikeAt 48 = .ok (.iload 4, 2) := by decide +kernel
theorem dX10_unlikeAt_50 : decode cX10_unlikeAt 50 = .ok (.iaload, 1) := by decide +kernel
theorem dX10_unlikeAt_51 : decode cX10_unlikeAt 51 = .ok (.if_icmp .eq 7, 3) := by decide +kernel
theorem dX10_unlikeAt_54 : decode cX10_unlikeAt 54 = .ok (.iconst 1, 1) := by decide +kernel
theorem dX10_unlikeAt_55 : decode cX10_unlikeAt 55 = .ok (.goto 4, 3) := by decide +kernel
theorem dX10_unlikeAt_58 : decode cX10_unlikeAt 58 = .ok (.iconst 0, 1) := by decide +kernel
theorem dX10_unlikeAt_59 : decode cX10_unlikeAt 59 = .ok (.iadd, 1) := by decide +kernel
theorem dX10_unlikeAt_60 : decode cX10_unlikeAt 60 = .ok (.istore_n 3, 1) := by decide +kernel
theorem dX10_unlikeAt_61 : decode cX10_unlikeAt 61 = .ok (.iinc 4 1, 3) := by decide +kernel
theorem dX10_unlikeAt_64 : decode cX10_unlikeAt 64 = .ok (.goto (-39), 3) := by decide +kernel
theorem dX10_unlikeAt_67 : decode cX10_unlikeAt 67 = .ok (.iload_n 3, 1) := by decide +kernel
theorem dX10_unlikeAt_68 : decode cX10_unlikeAt 68 = .ok (.ireturn, 1) := by decide +kernel
theorem dX1_leastInto_0 : decode cX1_leastInto 0 = .ok (.ldc 85, 2) := by decide +kernel
theorem dX1_leastInto_2 : decode cX1_leastInto 2 = .ok (.istore_n 3, 1) := by decide +kernel
theorem dX1_leastInto_3 : decode cX1_leastInto 3 = .ok (.iconst 0, 1) := by decide +kernel
theorem dX1_leastInto_4 : decode cX1_leastInto 4 = .ok (.istore 4, 2) := by decide +kernel
theorem dX1_leastInto_6 : decode cX1_leastInto 6 = .ok (.iload 4, 2) := by decide +kernel
theorem dX1_leastInto_8 : decode cX1_leastInto 8 = .ok (.iconst 5, 1) := by decide +kernel
theorem dX1_leastInto_9 : decode cX1_leastInto 9 = .ok (.if_icmp .ge 38, 3) := by decide +kernel
theorem dX1_leastInto_12 : decode cX1_leastInto 12 = .ok (.getstatic 44, 3) := by decide +kernel
theorem dX1_leastInto_15 : decode cX1_leastInto 15 = .ok (.iload_n 1, 1) := by decide +kernel
theorem dX1_leastInto_16 : decode cX1_leastInto 16 = .ok (.iaload, 1) := by decide +kernel
theorem dX1_leastInto_17 : decode cX1_leastInto 17 = .ok (.iconst 1, 1) := by decide +kernel
theorem dX1_leastInto_18 : decode cX1_leastInto 18 = .ok (.iload 4, 2) := by decide +kernel
theorem dX1_leastInto_20 : decode cX1_leastInto 20 = .ok (.ishl, 1) := by decide +kernel
theorem dX1_leastInto_21 : decode cX1_leastInto 21 = .ok (.iand, 1) := by decide +kernel
theorem dX1_leastInto_22 : decode cX1_leastInto 22 = .ok (.ifCond .eq 19, 3) := by decide +kernel
theorem dX1_leastInto_25 : decode cX1_leastInto 25 = .ok (.iload_n 3, 1) := by decide +kernel
theorem dX1_leastInto_26 : decode cX1_leastInto 26 = .ok (.aload_n 0, 1) := by decide +kernel
theorem dX1_leastInto_27 : decode cX1_leastInto 27 = .ok (.getfield 15, 3) := by decide +kernel
theorem dX1_leastInto_30 : decode cX1_leastInto 30 = .ok (.iload_n 2, 1) := by decide +kernel
theorem dX1_leastInto_31 : decode cX1_leastInto 31 = .ok (.iconst 5, 1) := by decide +kernel
theorem dX1_leastInto_32 : decode cX1_leastInto 32 = .ok (.imul, 1) := by decide +kernel
theorem dX1_leastInto_33 : decode cX1_leastInto 33 = .ok (.iload 4, 2) := by decide +kernel
theorem dX1_leastInto_35 : decode cX1_leastInto 35 = .ok (.iadd, 1) := by decide +kernel
theorem dX1_leastInto_36 : decode cX1_leastInto 36 = .ok (.iaload, 1) := by decide +kernel
theorem dX1_leastInto_37 : decode cX1_leastInto 37 = .ok (.invokestatic 71, 3) := by decide +kernel
theorem dX1_leastInto_40 : decode cX1_leastInto 40 = .ok (.istore_n 3, 1) := by decide +kernel
theorem dX1_leastInto_41 : decode cX1_leastInto 41 = .ok (.iinc 4 1, 3) := by decide +kernel
theorem dX1_leastInto_44 : decode cX1_leastInto 44 = .ok (.goto (-38), 3) := by decide +kernel
theorem dX1_leastInto_47 : decode cX1_leastInto 47 = .ok (.iload_n 3, 1) := by decide +kernel
theorem dX1_leastInto_48 : decode cX1_leastInto 48 = .ok (.ireturn, 1) := by decide +kernel
theorem dX1_fewestUnlike_0 : decode cX1_fewestUnlike 0 = .ok (.aload_n 0, 1) := by decide +kernel
theorem dX1_fewestUnlike_1 : decode cX1_fewestUnlike 1 = .ok (.getfield 15, 3) := by decide +kernel
theorem dX1_fewestUnlike_4 : decode cX1_fewestUnlike 4 = .ok (.ldc 85, 2) := by decide +kernel
theorem dX1_fewestUnlike_6 : decode cX1_fewestUnlike 6 = .ok (.invokestatic 21, 3) := by decide +kernel
theorem dX1_fewestUnlike_9 : decode cX1_fewestUnlike 9 = .ok (.aload_n 0, 1) := by decide +kernel
theorem dX1_fewestUnlike_10 : decode cX1_fewestUnlike 10 = .ok (.getfield 15, 3) := by decide +kernel
theorem dX1_fewestUnlike_13 : decode cX1_fewestUnlike 13 = .ok (.iconst 0, 1) := by decide +kernel
theorem dX1_fewestUnlike_14 : decode cX1_fewestUnlike 14 = .ok (.iconst 0, 1) := by decide +kernel
theorem dX1_fewestUnlike_15 : decode cX1_fewestUnlike 15 = .ok (.iastore, 1) := by decide +kernel
theorem dX1_fewestUnlike_16 : decode cX1_fewestUnlike 16 = .ok (.iconst 0, 1) := by decide +kernel
theorem dX1_fewestUnlike_17 : decode cX1_fewestUnlike 17 = .ok (.istore_n 3, 1) := by decide +kernel
theorem dX1_fewestUnlike_18 : decode cX1_fewestUnlike 18 = .ok (.iload_n 3, 1) := by decide +kernel
theorem dX1_fewestUnlike_19 : decode cX1_fewestUnlike 19 = .ok (.aload_n 2, 1) := by decide +kernel
theorem dX1_fewestUnlike_20 : decode cX1_fewestUnlike 20 = .ok (.getfield 27, 3) := by decide +kernel
theorem dX1_fewestUnlike_23 : decode cX1_fewestUnlike 23 = .ok (.if_icmp .ge 110, 3) := by decide +kernel
theorem dX1_fewestUnlike_26 : decode cX1_fewestUnlike 26 = .ok (.iconst 0, 1) := by decide +kernel
theorem dX1_fewestUnlike_27 : decode cX1_fewestUnlike 27 = .ok (.istore 4, 2) := by decide +kernel
theorem dX1_fewestUnlike_29 : decode cX1_fewestUnlike 29 = .ok (.iload 4, 2) := by decide +kernel
theorem dX1_fewestUnlike_31 : decode cX1_fewestUnlike 31 = .ok (.aload_n 1, 1) := by decide +kernel
theorem dX1_fewestUnlike_32 : decode cX1_fewestUnlike 32 = .ok (.getfield 33, 3) := by decide +kernel
theorem dX1_fewestUnlike_35 : decode cX1_fewestUnlike 35 = .ok (.if_icmp .ge 92, 3) := by decide +kernel
theorem dX1_fewestUnlike_38 : decode cX1_fewestUnlike 38 = .ok (.aload_n 1, 1) := by decide +kernel
theorem dX1_fewestUnlike_39 : decode cX1_fewestUnlike 39 = .ok (.getfield 36, 3) := by decide +kernel
theorem dX1_fewestUnlike_42 : decode cX1_fewestUnlike 42 = .ok (.iload 4, 2) := by decide +kernel
theorem dX1_fewestUnlike_44 : decode cX1_fewestUnlike 44 = .ok (.aaload, 1) := by decide +kernel
theorem dX1_fewestUnlike_45 : decode cX1_fewestUnlike 45 = .ok (.astore 5, 2) := by decide +kernel
theorem dX1_fewestUnlike_47 : decode cX1_fewestUnlike 47 = .ok (.aload 5, 2) := by decide +kernel
theorem dX1_fewestUnlike_49 : decode cX1_fewestUnlike 49 = .ok (.getfield 56, 3) := by decide +kernel
theorem dX1_fewestUnlike_52 : decode cX1_fewestUnlike 52 = .ok (.aload_n 2, 1) := by decide +kernel
theorem dX1_fewestUnlike_53 : decode cX1_fewestUnlike 53 = .ok (.getfield 27, 3) := by decide +kernel
theorem dX1_fewestUnlike_56 : decode cX1_fewestUnlike 56 = .ok (.iload_n 3, 1) := by decide +kernel
theorem dX1_fewestUnlike_57 : decode cX1_fewestUnlike 57 = .ok (.isub, 1) := by decide +kernel
theorem dX1_fewestUnlike_58 : decode cX1_fewestUnlike 58 = .ok (.if_icmp .gt 63, 3) := by decide +kernel
theorem dX1_fewestUnlike_61 : decode cX1_fewestUnlike 61 = .ok (.iload_n 3, 1) := by decide +kernel
theorem dX1_fewestUnlike_62 : decode cX1_fewestUnlike 62 = .ok (.aload 5, 2) := by decide +kernel
theorem dX1_fewestUnlike_64 : decode cX1_fewestUnlike 64 = .ok (.getfield 56, 3) := by decide +kernel
theorem dX1_fewestUnlike_67 : decode cX1_fewestUnlike 67 = .ok (.iadd, 1) := by decide +kernel
theorem dX1_fewestUnlike_68 : decode cX1_fewestUnlike 68 = .ok (.iconst 5, 1) := by decide +kernel
theorem dX1_fewestUnlike_69 : decode cX1_fewestUnlike 69 = .ok (.imul, 1) := by decide +kernel
theorem dX1_fewestUnlike_70 : decode cX1_fewestUnlike 70 = .ok (.getstatic 57, 3) := by decide +kernel
theorem dX1_fewestUnlike_73 : decode cX1_fewestUnlike 73 = .ok (.aload 5, 2) := by decide +kernel
theorem dX1_fewestUnlike_75 : decode cX1_fewestUnlike 75 = .ok (.getfield 47, 3) := by decide +kernel
theorem dX1_fewestUnlike_78 : decode cX1_fewestUnlike 78 = .ok (.iaload, 1) := by decide +kernel
theorem dX1_fewestUnlike_79 : decode cX1_fewestUnlike 79 = .ok (.iadd, 1) := by decide +kernel
theorem dX1_fewestUnlike_80 : decode cX1_fewestUnlike 80 = .ok (.istore 6, 2) := by decide +kernel
theorem dX1_fewestUnlike_82 : decode cX1_fewestUnlike 82 = .ok (.aload_n 0, 1) := by decide +kernel
theorem dX1_fewestUnlike_83 : decode cX1_fewestUnlike 83 = .ok (.aload 5, 2) := by decide +kernel
theorem dX1_fewestUnlike_85 : decode cX1_fewestUnlike 85 = .ok (.getfield 47, 3) := by decide +kernel
theorem dX1_fewestUnlike_88 : decode cX1_fewestUnlike 88 = .ok (.iload_n 3, 1) := by decide +kernel
theorem dX1_fewestUnlike_89 : decode cX1_fewestUnlike 89 = .ok (.invokevirtual 86, 3) := by decide +kernel
theorem dX1_fewestUnlike_92 : decode cX1_fewestUnlike 92 = .ok (.aload 5, 2) := by decide +kernel
theorem dX1_fewestUnlike_94 : decode cX1_fewestUnlike 94 = .ok (.aload_n 2, 1) := by decide +kernel
theorem dX1_fewestUnlike_95 : decode cX1_fewestUnlike 95 = .ok (.iload_n 3, 1) := by decide +kernel
theorem dX1_fewestUnlike_96 : decode cX1_fewestUnlike 96 = .ok (.invokevirtual 89, 3) := by decide +kernel
theorem dX1_fewestUnlike_99 : decode cX1_fewestUnlike 99 = .ok (.iadd, 1) := by decide +kernel
theorem dX1_fewestUnlike_100 : decode cX1_fewestUnlike 100 = .ok (.istore 7, 2) := by decide +kernel
theorem dX1_fewestUnlike_102 : decode cX1_fewestUnlike 102 = .ok (.aload_n 0, 1) := by decide +kernel
theorem dX1_fewestUnlike_103 : decode cX1_fewestUnlike 103 = .ok (.getfield 15, 3) := by decide +kernel
theorem dX1_fewestUnlike_106 : decode cX1_fewestUnlike 106 = .ok (.iload 6, 2) := by decide +kernel
theorem dX1_fewestUnlike_108 : decode cX1_fewestUnlike 108 = .ok (.aload_n 0, 1) := by decide +kernel
theorem dX1_fewestUnlike_109 : decode cX1_fewestUnlike 109 = .ok (.getfield 15, 3) := by decide +kernel
theorem dX1_fewestUnlike_112 : decode cX1_fewestUnlike 112 = .ok (.iload 6, 2) := by decide +kernel
theorem dX1_fewestUnlike_114 : decode cX1_fewestUnlike 114 = .ok (.iaload, 1) := by decide +kernel
theorem dX1_fewestUnlike_115 : decode cX1_fewestUnlike 115 = .ok (.iload 7, 2) := by decide +kernel
theorem dX1_fewestUnlike_117 : decode cX1_fewestUnlike 117 = .ok (.invokestatic 71, 3) := by decide +kernel
theorem dX1_fewestUnlike_120 : decode cX1_fewestUnlike 120 = .ok (.iastore, 1) := by decide +kernel
theorem dX1_fewestUnlike_121 : decode cX1_fewestUnlike 121 = .ok (.iinc 4 1, 3) := by decide +kernel
theorem dX1_fewestUnlike_124 : decode cX1_fewestUnlike 124 = .ok (.goto (-95), 3) := by decide +kernel
theorem dX1_fewestUnlike_127 : decode cX1_fewestUnlike 127 = .ok (.iinc 3 1, 3) := by decide +kernel
theorem dX1_fewestUnlike_130 : decode cX1_fewestUnlike 130 = .ok (.goto (-112), 3) := by decide +kernel
theorem dX1_fewestUnlike_133 : decode cX1_fewestUnlike 133 = .ok (.aload_n 0, 1) := by decide +kernel
theorem dX1_fewestUnlike_134 : decode cX1_fewestUnlike 134 = .ok (.getfield 15, 3) := by decide +kernel
theorem dX1_fewestUnlike_137 : decode cX1_fewestUnlike 137 = .ok (.aload_n 2, 1) := by decide +kernel
theorem dX1_fewestUnlike_138 : decode cX1_fewestUnlike 138 = .ok (.getfield 27, 3) := by decide +kernel
theorem dX1_fewestUnlike_141 : decode cX1_fewestUnlike 141 = .ok (.iconst 5, 1) := by decide +kernel
theorem dX1_fewestUnlike_142 : decode cX1_fewestUnlike 142 = .ok (.imul, 1) := by decide +kernel
theorem dX1_fewestUnlike_143 : decode cX1_fewestUnlike 143 = .ok (.iconst 4, 1) := by decide +kernel
theorem dX1_fewestUnlike_144 : decode cX1_fewestUnlike 144 = .ok (.iadd, 1) := by decide +kernel
theorem dX1_fewestUnlike_145 : decode cX1_fewestUnlike 145 = .ok (.iaload, 1) := by decide +kernel
theorem dX1_fewestUnlike_146 : decode cX1_fewestUnlike 146 = .ok (.ireturn, 1) := by decide +kernel
theorem dX2_failHere_0 : decode cX2_failHere 0 = .ok (.aload_n 0, 1) := by decide +kernel
theorem dX2_failHere_1 : decode cX2_failHere 1 = .ok (.getfield 40, 3) := by decide +kernel
theorem dX2_failHere_4 : decode cX2_failHere 4 = .ok (.ifCond .ge 11, 3) := by decide +kernel
theorem dX2_failHere_7 : decode cX2_failHere 7 = .ok (.aload_n 0, 1) := by decide +kernel
theorem dX2_failHere_8 : decode cX2_failHere 8 = .ok (.aload_n 0, 1) := by decide +kernel
theorem dX2_failHere_9 : decode cX2_failHere 9 = .ok (.getfield 34, 3) := by decide +kernel
theorem dX2_failHere_12 : decode cX2_failHere 12 = .ok (.putfield 40, 3) := by decide +kernel
theorem dX2_failHere_15 : decode cX2_failHere 15 = .ok (.return_, 1) := by decide +kernel
theorem dX2_emit_0 : decode cX2_emit 0 = .ok (.aload_n 0, 1) := by decide +kernel
theorem dX2_emit_1 : decode cX2_emit 1 = .ok (.getfield 37, 3) := by decide +kernel
theorem dX2_emit_4 : decode cX2_emit 4 = .ok (.bipush 60, 2) := by decide +kernel
theorem dX2_emit_6 : decode cX2_emit 6 = .ok (.if_icmp .ge 23, 3) := by decide +kernel
theorem dX2_emit_9 : decode cX2_emit 9 = .ok (.aload_n 0, 1) := by decide +kernel
theorem dX2_emit_10 : decode cX2_emit 10 = .ok (.getfield 15, 3) := by decide +kernel
theorem dX2_emit_13 : decode cX2_emit 13 = .ok (.aload_n 0, 1) := by decide +kernel
theorem dX2_emit_14 : decode cX2_emit 14 = .ok (.getfield 37, 3) := by decide +kernel
theorem dX2_emit_17 : decode cX2_emit 17 = .ok (.iload_n 1, 1) := by decide +kernel
theorem dX2_emit_18 : decode cX2_emit 18 = .ok (.iastore, 1) := by decide +kernel
theorem dX2_emit_19 : decode cX2_emit 19 = .ok (.aload_n 0, 1) := by decide +kernel
theorem dX2_emit_20 : decode cX2_emit 20 = .ok (.dup, 1) := by decide +kernel
theorem dX2_emit_21 : decode cX2_emit 21 = .ok (.getfield 37, 3) := by decide +kernel
theorem dX2_emit_24 : decode cX2_emit 24 = .ok (.iconst 1, 1) := by decide +kernel
theorem dX2_emit_25 : decode cX2_emit 25 = .ok (.iadd, 1) := by decide +kernel
theorem dX2_emit_26 : decode cX2_emit 26 = .ok (.putfield 37, 3) := by decide +kernel
theorem dX2_emit_29 : decode cX2_emit 29 = .ok (.return_, 1) := by decide +kernel
theorem dX2_next_0 : decode cX2_next 0 = .ok (.aload_n 0, 1) := by decide +kernel
theorem dX2_next_1 : decode cX2_next 1 = .ok (.getfield 40, 3) := by decide +kernel
theorem dX2_next_4 : decode cX2_next 4 = .ok (.ifCond .ge 26, 3) := by decide +kernel
theorem dX2_next_7 : decode cX2_next 7 = .ok (.aload_n 0, 1) := by decide +kernel
theorem dX2_next_8 : decode cX2_next 8 = .ok (.getfield 34, 3) := by decide +kernel
theorem dX2_next_11 : decode cX2_next 11 = .ok (.aload_n 0, 1) := by decide +kernel
theorem dX2_next_12 : decode cX2_next 12 = .ok (.getfield 30, 3) := by decide +kernel
theorem dX2_next_15 : decode cX2_next 15 = .ok (.if_icmp .ge 15, 3) := by decide +kernel
theorem dX2_next_18 : decode cX2_next 18 = .ok (.aload_n 0, 1) := by decide +kernel
theorem dX2_next_19 : decode cX2_next 19 = .ok (.getfield 9, 3) := by decide +kernel
theorem dX2_next_22 : decode cX2_next 22 = .ok (.aload_n 0, 1) := by decide +kernel
theorem dX2_next_23 : decode cX2_next 23 = .ok (.getfield 34, 3) := by decide +kernel
theorem dX2_next_26 : decode cX2_next 26 = .ok (.iaload, 1) := by decide +kernel
theorem dX2_next_27 : decode cX2_next 27 = .ok (.goto 4, 3) := by decide +kernel
theorem dX2_next_30 : decode cX2_next 30 = .ok (.iconst (-1), 1) := by decide +kernel
theorem dX2_next_31 : decode cX2_next 31 = .ok (.ireturn, 1) := by decide +kernel
theorem dX2_close_0 : decode cX2_close 0 = .ok (.aload_n 0, 1) := by decide +kernel
theorem dX2_close_1 : decode cX2_close 1 = .ok (.invokevirtual 58, 3) := by decide +kernel
theorem dX2_close_4 : decode cX2_close 4 = .ok (.bipush 41, 2) := by decide +kernel
theorem dX2_close_6 : decode cX2_close 6 = .ok (.if_icmp .ne 16, 3) := by decide +kernel
theorem dX2_close_9 : decode cX2_close 9 = .ok (.aload_n 0, 1) := by decide +kernel
theorem dX2_close_10 : decode cX2_close 10 = .ok (.dup, 1) := by decide +kernel
theorem dX2_close_11 : decode cX2_close 11 = .ok (.getfield 34, 3) := by decide +kernel
theorem dX2_close_14 : decode cX2_close 14 = .ok (.iconst 1, 1) := by decide +kernel
theorem dX2_close_15 : decode cX2_close 15 = .ok (.iadd, 1) := by decide +kernel
theorem dX2_close_16 : decode cX2_close 16 = .ok (.putfield 34, 3) := by decide +kernel
theorem dX2_close_19 : decode cX2_close 19 = .ok (.goto 7, 3) := by decide +kernel
theorem dX2_close_22 : decode cX2_close 22 = .ok (.aload_n 0, 1) := by decide +kernel
theorem dX2_close_23 : decode cX2_close 23 = .ok (.invokevirtual 47, 3) := by decide +kernel
theorem dX2_close_26 : decode cX2_close 26 = .ok (.return_, 1) := by decide +kernel
theorem dX2_isDigit_0 : decode cX2_isDigit 0 = .ok (.iload_n 0, 1) := by decide +kernel
theorem dX2_isDigit_1 : decode cX2_isDigit 1 = .ok (.bipush 48, 2) := by decide +kernel
theorem dX2_isDigit_3 : decode cX2_isDigit 3 = .ok (.if_icmp .lt 13, 3) := by decide +kernel
theorem dX2_isDigit_6 : decode cX2_isDigit 6 = .ok (.iload_n 0, 1) := by decide +kernel
theorem dX2_isDigit_7 : decode cX2_isDigit 7 = .ok (.bipush 57, 2) := by decide +kernel
theorem dX2_isDigit_9 : decode cX2_isDigit 9 = .ok (.if_icmp .gt 7, 3) := by decide +kernel
theorem dX2_isDigit_12 : decode cX2_isDigit 12 = .ok (.iconst 1, 1) := by decide +kernel
theorem dX2_isDigit_13 : decode cX2_isDigit 13 = .ok (.goto 4, 3) := by decide +kernel
theorem dX2_isDigit_16 : decode cX2_isDigit 16 = .ok (.iconst 0, 1) := by decide +kernel
theorem dX2_isDigit_17 : decode cX2_isDigit 17 = .ok (.ireturn, 1) := by decide +kernel
theorem dX2_number_0 : decode cX2_number 0 = .ok (.iconst 0, 1) := by decide +kernel
theorem dX2_number_1 : decode cX2_number 1 = .ok (.istore_n 1, 1) := by decide +kernel
theorem dX2_number_2 : decode cX2_number 2 = .ok (.iconst 0, 1) := by decide +kernel
theorem dX2_number_3 : decode cX2_number 3 = .ok (.istore_n 2, 1) := by decide +kernel
theorem dX2_number_4 : decode cX2_number 4 = .ok (.iload_n 2, 1) := by decide +kernel
theorem dX2_number_5 : decode cX2_number 5 = .ok (.iconst 4, 1) := by decide +kernel
theorem dX2_number_6 : decode cX2_number 6 = .ok (.if_icmp .ge 42, 3) := by decide +kernel
theorem dX2_number_9 : decode cX2_number 9 = .ok (.aload_n 0, 1) := by decide +kernel
theorem dX2_number_10 : decode cX2_number 10 = .ok (.invokevirtual 58, 3) := by decide +kernel
theorem dX2_number_13 : decode cX2_number 13 = .ok (.invokestatic 69, 3) := by decide +kernel
theorem dX2_number_16 : decode cX2_number 16 = .ok (.ifCond .eq 32, 3) := by decide +kernel
theorem dX2_number_19 : decode cX2_number 19 = .ok (.iload_n 1, 1) := by decide +kernel
theorem dX2_number_20 : decode cX2_number 20 = .ok (.bipush 10, 2) := by decide +kernel
theorem dX2_number_22 : decode cX2_number 22 = .ok (.imul, 1) := by decide +kernel
theorem dX2_number_23 : decode cX2_number 23 = .ok (.aload_n 0, 1) := by decide +kernel
theorem dX2_number_24 : decode cX2_number 24 = .ok (.invokevirtual 58, 3) := by decide +kernel
theorem dX2_number_27 : decode cX2_number 27 = .ok (.iadd, 1) := by decide +kernel
theorem dX2_number_28 : decode cX2_number 28 = .ok (.bipush 48, 2) := by decide +kernel
theorem dX2_number_30 : decode cX2_number 30 = .ok (.isub, 1) := by decide +kernel
theorem dX2_number_31 : decode cX2_number 31 = .ok (.istore_n 1, 1) := by decide +kernel
theorem dX2_number_32 : decode cX2_number 32 = .ok (.aload_n 0, 1) := by decide +kernel
theorem dX2_number_33 : decode cX2_number 33 = .ok (.dup, 1) := by decide +kernel
theorem dX2_number_34 : decode cX2_number 34 = .ok (.getfield 34, 3) := by decide +kernel
theorem dX2_number_37 : decode cX2_number 37 = .ok (.iconst 1, 1) := by decide +kernel
theorem dX2_number_38 : decode cX2_number 38 = .ok (.iadd, 1) := by decide +kernel
theorem dX2_number_39 : decode cX2_number 39 = .ok (.putfield 34, 3) := by decide +kernel
theorem dX2_number_42 : decode cX2_number 42 = .ok (.iinc 2 1, 3) := by decide +kernel
theorem dX2_number_45 : decode cX2_number 45 = .ok (.goto (-41), 3) := by decide +kernel
theorem dX2_number_48 : decode cX2_number 48 = .ok (.aload_n 0, 1) := by decide +kernel
theorem dX2_number_49 : decode cX2_number 49 = .ok (.iload_n 1, 1) := by decide +kernel
theorem dX2_number_50 : decode cX2_number 50 = .ok (.invokevirtual 66, 3) := by decide +kernel
theorem dX2_number_53 : decode cX2_number 53 = .ok (.return_, 1) := by decide +kernel
theorem dX2_rankOf_0 : decode cX2_rankOf 0 = .ok (.iload_n 0, 1) := by decide +kernel
theorem dX2_rankOf_1 : decode cX2_rankOf 1 = .ok (.lookupswitch 101 #[(37, 99), (38, 93), (42, 99), (43, 97), (45, 97), (47, 99), (60, 95), (61, 95), (62, 95), (124, 91)], 91) := by decide +kernel
theorem dX2_rankOf_92 : decode cX2_rankOf 92 = .ok (.iconst 0, 1) := by decide +kernel
theorem dX2_rankOf_93 : decode cX2_rankOf 93 = .ok (.ireturn, 1) := by decide +kernel
theorem dX2_rankOf_94 : decode cX2_rankOf 94 = .ok (.iconst 1, 1) := by decide +kernel
theorem dX2_rankOf_95 : decode cX2_rankOf 95 = .ok (.ireturn, 1) := by decide +kernel
theorem dX2_rankOf_96 : decode cX2_rankOf 96 = .ok (.iconst 2, 1) := by decide +kernel
theorem dX2_rankOf_97 : decode cX2_rankOf 97 = .ok (.ireturn, 1) := by decide +kernel
theorem dX2_rankOf_98 : decode cX2_rankOf 98 = .ok (.iconst 3, 1) := by decide +kernel
theorem dX2_rankOf_99 : decode cX2_rankOf 99 = .ok (.ireturn, 1) := by decide +kernel
theorem dX2_rankOf_100 : decode cX2_rankOf 100 = .ok (.iconst 4, 1) := by decide +kernel
theorem dX2_rankOf_101 : decode cX2_rankOf 101 = .ok (.ireturn, 1) := by decide +kernel
theorem dX2_rankOf_102 : decode cX2_rankOf 102 = .ok (.iconst (-1), 1) := by decide +kernel
theorem dX2_rankOf_103 : decode cX2_rankOf 103 = .ok (.ireturn, 1) := by decide +kernel
theorem dX2_level_0 : decode cX2_level 0 = .ok (.iload_n 1, 1) := by decide +kernel
theorem dX2_level_1 : decode cX2_level 1 = .ok (.iconst 5, 1) := by decide +kernel
theorem dX2_level_2 : decode cX2_level 2 = .ok (.if_icmp .lt 9, 3) := by decide +kernel
theorem dX2_level_5 : decode cX2_level 5 = .ok (.aload_n 0, 1) := by decide +kernel
theorem dX2_level_6 : decode cX2_level 6 = .ok (.iload_n 2, 1) := by decide +kernel
theorem dX2_level_7 : decode cX2_level 7 = .ok (.invokevirtual 54, 3) := by decide +kernel
theorem dX2_level_10 : decode cX2_level 10 = .ok (.return_, 1) := by decide +kernel
theorem dX2_level_11 : decode cX2_level 11 = .ok (.aload_n 0, 1) := by decide +kernel
theorem dX2_level_12 : decode cX2_level 12 = .ok (.iload_n 1, 1) := by decide +kernel
theorem dX2_level_13 : decode cX2_level 13 = .ok (.iconst 1, 1) := by decide +kernel
theorem dX2_level_14 : decode cX2_level 14 = .ok (.iadd, 1) := by decide +kernel
theorem dX2_level_15 : decode cX2_level 15 = .ok (.iload_n 2, 1) := by decide +kernel
theorem dX2_level_16 : decode cX2_level 16 = .ok (.invokevirtual 43, 3) := by decide +kernel
theorem dX2_level_19 : decode cX2_level 19 = .ok (.iload_n 1, 1) := by decide +kernel
theorem dX2_level_20 : decode cX2_level 20 = .ok (.iconst 2, 1) := by decide +kernel
theorem dX2_level_21 : decode cX2_level 21 = .ok (.if_icmp .ne 7, 3) := by decide +kernel
theorem dX2_level_24 : decode cX2_level 24 = .ok (.iconst 1, 1) := by decide +kernel
theorem dX2_level_25 : decode cX2_level 25 = .ok (.goto 5, 3) := by decide +kernel
theorem dX2_level_28 : decode cX2_level 28 = .ok (.bipush 60, 2) := by decide +kernel
theorem dX2_level_30 : decode cX2_level 30 = .ok (.istore_n 3, 1) := by decide +kernel
theorem dX2_level_31 : decode cX2_level 31 = .ok (.iconst 0, 1) := by decide +kernel
theorem dX2_level_32 : decode cX2_level 32 = .ok (.istore 4, 2) := by decide +kernel
theorem dX2_level_34 : decode cX2_level 34 = .ok (.iload 4, 2) := by decide +kernel
theorem dX2_level_36 : decode cX2_level 36 = .ok (.iload_n 3, 1) := by decide +kernel
theorem dX2_level_37 : decode cX2_level 37 = .ok (.if_icmp .ge 51, 3) := by decide +kernel
theorem dX2_level_40 : decode cX2_level 40 = .ok (.aload_n 0, 1) := by decide +kernel
theorem dX2_level_41 : decode cX2_level 41 = .ok (.invokevirtual 58, 3) := by decide +kernel
theorem dX2_level_44 : decode cX2_level 44 = .ok (.invokestatic 62, 3) := by decide +kernel
theorem dX2_level_47 : decode cX2_level 47 = .ok (.iload_n 1, 1) := by decide +kernel
theorem dX2_level_48 : decode cX2_level 48 = .ok (.if_icmp .ne 40, 3) := by decide +kernel
theorem dX2_level_51 : decode cX2_level 51 = .ok (.aload_n 0, 1) := by decide +kernel
theorem dX2_level_52 : decode cX2_level 52 = .ok (.invokevirtual 58, 3) := by decide +kernel
theorem dX2_level_55 : decode cX2_level 55 = .ok (.istore 5, 2) := by decide +kernel
theorem dX2_level_57 : decode cX2_level 57 = .ok (.aload_n 0, 1) := by decide +kernel
theorem dX2_level_58 : decode cX2_level 58 = .ok (.dup, 1) := by decide +kernel
theorem dX2_level_59 : decode cX2_level 59 = .ok (.getfield 34, 3) := by decide +kernel
theorem dX2_level_62 : decode cX2_level 62 = .ok (.iconst 1, 1) := by decide +kernel
theorem dX2_level_63 : decode cX2_level 63 = .ok (.iadd, 1) := by decide +kernel
theorem dX2_level_64 : decode cX2_level 64 = .ok (.putfield 34, 3) := by decide +kernel
theorem dX2_level_67 : decode cX2_level 67 = .ok (.aload_n 0, 1) := by decide +kernel
theorem dX2_level_68 : decode cX2_level 68 = .ok (.iload_n 1, 1) := by decide +kernel
theorem dX2_level_69 : decode cX2_level 69 = .ok (.iconst 1, 1) := by decide +kernel
theorem dX2_level_70 : decode cX2_level 70 = .ok (.iadd, 1) := by decide +kernel
theorem dX2_level_71 : decode cX2_level 71 = .ok (.iload_n 2, 1) := by decide +kernel
theorem dX2_level_72 : decode cX2_level 72 = .ok (.invokevirtual 43, 3) := by decide +kernel
theorem dX2_level_75 : decode cX2_level 75 = .ok (.aload_n 0, 1) := by decide +kernel
theorem dX2_level_76 : decode cX2_level 76 = .ok (.iload 5, 2) := by decide +kernel
theorem dX2_level_78 : decode cX2_level 78 = .ok (.ineg, 1) := by decide +kernel
theorem dX2_level_79 : decode cX2_level 79 = .ok (.invokevirtual 66, 3) := by decide +kernel
theorem dX2_level_82 : decode cX2_level 82 = .ok (.iinc 4 1, 3) := by decide +kernel
theorem dX2_level_85 : decode cX2_level 85 = .ok (.goto (-51), 3) := by decide +kernel
theorem dX2_level_88 : decode cX2_level 88 = .ok (.return_, 1) := by decide +kernel
theorem dX2_operand_0 : decode cX2_operand 0 = .ok (.aload_n 0, 1) := by decide +kernel
theorem dX2_operand_1 : decode cX2_operand 1 = .ok (.invokevirtual 58, 3) := by decide +kernel
theorem dX2_operand_4 : decode cX2_operand 4 = .ok (.istore_n 2, 1) := by decide +kernel
theorem dX2_operand_5 : decode cX2_operand 5 = .ok (.iload_n 2, 1) := by decide +kernel
theorem dX2_operand_6 : decode cX2_operand 6 = .ok (.invokestatic 69, 3) := by decide +kernel
theorem dX2_operand_9 : decode cX2_operand 9 = .ok (.ifCond .eq 10, 3) := by decide +kernel
theorem dX2_operand_12 : decode cX2_operand 12 = .ok (.aload_n 0, 1) := by decide +kernel
theorem dX2_operand_13 : decode cX2_operand 13 = .ok (.invokevirtual 73, 3) := by decide +kernel
theorem dX2_operand_16 : decode cX2_operand 16 = .ok (.goto 124, 3) := by decide +kernel
theorem dX2_operand_19 : decode cX2_operand 19 = .ok (.iload_n 2, 1) := by decide +kernel
theorem dX2_operand_20 : decode cX2_operand 20 = .ok (.ifCond .lt 43, 3) := by decide +kernel
theorem dX2_operand_23 : decode cX2_operand 23 = .ok (.aload_n 0, 1) := by decide +kernel
theorem dX2_operand_24 : decode cX2_operand 24 = .ok (.getfield 20, 3) := by decide +kernel
theorem dX2_operand_27 : decode cX2_operand 27 = .ok (.iload_n 2, 1) := by decide +kernel
theorem dX2_operand_28 : decode cX2_operand 28 = .ok (.i2c, 1) := by decide +kernel
theorem dX2_operand_29 : decode cX2_operand 29 = .ok (.invokevirtual 76, 3) := by decide +kernel
theorem dX2_operand_32 : decode cX2_operand 32 = .ok (.ifCond .lt 31, 3) := by decide +kernel
theorem dX2_operand_35 : decode cX2_operand 35 = .ok (.aload_n 0, 1) := by decide +kernel
theorem dX2_operand_36 : decode cX2_operand 36 = .ok (.dup, 1) := by decide +kernel
theorem dX2_operand_37 : decode cX2_operand 37 = .ok (.getfield 34, 3) := by decide +kernel
theorem dX2_operand_40 : decode cX2_operand 40 = .ok (.iconst 1, 1) := by decide +kernel
theorem dX2_operand_41 : decode cX2_operand 41 = .ok (.iadd, 1) := by decide +kernel
theorem dX2_operand_42 : decode cX2_operand 42 = .ok (.putfield 34, 3) := by decide +kernel
theorem dX2_operand_45 : decode cX2_operand 45 = .ok (.aload_n 0, 1) := by decide +kernel
theorem dX2_operand_46 : decode cX2_operand 46 = .ok (.iconst (-1), 1) := by decide +kernel
theorem dX2_operand_47 : decode cX2_operand 47 = .ok (.aload_n 0, 1) := by decide +kernel
theorem dX2_operand_48 : decode cX2_operand 48 = .ok (.getfield 20, 3) := by decide +kernel
theorem dX2_operand_51 : decode cX2_operand 51 = .ok (.iload_n 2, 1) := by decide +kernel
theorem dX2_operand_52 : decode cX2_operand 52 = .ok (.i2c, 1) := by decide +kernel
theorem dX2_operand_53 : decode cX2_operand 53 = .ok (.invokevirtual 76, 3) := by decide +kernel
theorem dX2_operand_56 : decode cX2_operand 56 = .ok (.isub, 1) := by decide +kernel
theorem dX2_operand_57 : decode cX2_operand 57 = .ok (.invokevirtual 66, 3) := by decide +kernel
theorem dX2_operand_60 : decode cX2_operand 60 = .ok (.goto 80, 3) := by decide +kernel
theorem dX2_operand_63 : decode cX2_operand 63 = .ok (.iload_n 2, 1) := by decide +kernel
theorem dX2_operand_64 : decode cX2_operand 64 = .ok (.bipush 33, 2) := by decide +kernel
theorem dX2_operand_66 : decode cX2_operand 66 = .ok (.if_icmp .ne 34, 3) := by decide +kernel
theorem dX2_operand_69 : decode cX2_operand 69 = .ok (.iload_n 1, 1) := by decide +kernel
theorem dX2_operand_70 : decode cX2_operand 70 = .ok (.iconst 5, 1) := by decide +kernel
theorem dX2_operand_71 : decode cX2_operand 71 = .ok (.if_icmp .ge 29, 3) := by decide +kernel
theorem dX2_operand_74 : decode cX2_operand 74 = .ok (.aload_n 0, 1) := by decide +kernel
theorem dX2_operand_75 : decode cX2_operand 75 = .ok (.dup, 1) := by decide +kernel
theorem dX2_operand_76 : decode cX2_operand 76 = .ok (.getfield 34, 3) := by decide +kernel
theorem dX2_operand_79 : decode cX2_operand 79 = .ok (.iconst 1, 1) := by decide +kernel
theorem dX2_operand_80 : decode cX2_operand 80 = .ok (.iadd, 1) := by decide +kernel
theorem dX2_operand_81 : decode cX2_operand 81 = .ok (.putfield 34, 3) := by decide +kernel
theorem dX2_operand_84 : decode cX2_operand 84 = .ok (.aload_n 0, 1) := by decide +kernel
theorem dX2_operand_85 : decode cX2_operand 85 = .ok (.iload_n 1, 1) := by decide +kernel
theorem dX2_operand_86 : decode cX2_operand 86 = .ok (.iconst 1, 1) := by decide +kernel
theorem dX2_operand_87 : decode cX2_operand 87 = .ok (.iadd, 1) := by decide +kernel
theorem dX2_operand_88 : decode cX2_operand 88 = .ok (.invokevirtual 54, 3) := by decide +kernel
theorem dX2_operand_91 : decode cX2_operand 91 = .ok (.aload_n 0, 1) := by decide +kernel
theorem dX2_operand_92 : decode cX2_operand 92 = .ok (.bipush (-33), 2) := by decide +kernel
theorem dX2_operand_94 : decode cX2_operand 94 = .ok (.invokevirtual 66, 3) := by decide +kernel
theorem dX2_operand_97 : decode cX2_operand 97 = .ok (.goto 43, 3) := by decide +kernel
theorem dX2_operand_100 : decode cX2_operand 100 = .ok (.iload_n 2, 1) := by decide +kernel
theorem dX2_operand_101 : decode cX2_operand 101 = .ok (.bipush 40, 2) := by decide +kernel
theorem dX2_operand_103 : decode cX2_operand 103 = .ok (.if_icmp .ne 33, 3) := by decide +kernel
theorem dX2_operand_106 : decode cX2_operand 106 = .ok (.iload_n 1, 1) := by decide +kernel
theorem dX2_operand_107 : decode cX2_operand 107 = .ok (.iconst 5, 1) := by decide +kernel
theorem dX2_operand_108 : decode cX2_operand 108 = .ok (.if_icmp .ge 28, 3) := by decide +kernel
theorem dX2_operand_111 : decode cX2_operand 111 = .ok (.aload_n 0, 1) := by decide +kernel
theorem dX2_operand_112 : decode cX2_operand 112 = .ok (.dup, 1) := by decide +kernel
theorem dX2_operand_113 : decode cX2_operand 113 = .ok (.getfield 34, 3) := by decide +kernel
theorem dX2_operand_116 : decode cX2_operand 116 = .ok (.iconst 1, 1) := by decide +kernel
theorem dX2_operand_117 : decode cX2_operand 117 = .ok (.iadd, 1) := by decide +kernel
theorem dX2_operand_118 : decode cX2_operand 118 = .ok (.putfield 34, 3) := by decide +kernel
theorem dX2_operand_121 : decode cX2_operand 121 = .ok (.aload_n 0, 1) := by decide +kernel
theorem dX2_operand_122 : decode cX2_operand 122 = .ok (.iconst 0, 1) := by decide +kernel
theorem dX2_operand_123 : decode cX2_operand 123 = .ok (.iload_n 1, 1) := by decide +kernel
theorem dX2_operand_124 : decode cX2_operand 124 = .ok (.iconst 1, 1) := by decide +kernel
theorem dX2_operand_125 : decode cX2_operand 125 = .ok (.iadd, 1) := by decide +kernel
theorem dX2_operand_126 : decode cX2_operand 126 = .ok (.invokevirtual 43, 3) := by decide +kernel
theorem dX2_operand_129 : decode cX2_operand 129 = .ok (.aload_n 0, 1) := by decide +kernel
theorem dX2_operand_130 : decode cX2_operand 130 = .ok (.invokevirtual 81, 3) := by decide +kernel
theorem dX2_operand_133 : decode cX2_operand 133 = .ok (.goto 7, 3) := by decide +kernel
theorem dX2_operand_136 : decode cX2_operand 136 = .ok (.aload_n 0, 1) := by decide +kernel
theorem dX2_operand_137 : decode cX2_operand 137 = .ok (.invokevirtual 47, 3) := by decide +kernel
theorem dX2_operand_140 : decode cX2_operand 140 = .ok (.return_, 1) := by decide +kernel
theorem dX2_faultOf_0 : decode cX2_faultOf 0 = .ok (.aload_n 1, 1) := by decide +kernel
theorem dX2_faultOf_1 : decode cX2_faultOf 1 = .ok (.iconst 0, 1) := by decide +kernel
theorem dX2_faultOf_2 : decode cX2_faultOf 2 = .ok (.aload_n 0, 1) := by decide +kernel
theorem dX2_faultOf_3 : decode cX2_faultOf 3 = .ok (.getfield 9, 3) := by decide +kernel
theorem dX2_faultOf_6 : decode cX2_faultOf 6 = .ok (.iconst 0, 1) := by decide +kernel
theorem dX2_faultOf_7 : decode cX2_faultOf 7 = .ok (.bipush 60, 2) := by decide +kernel
theorem dX2_faultOf_9 : decode cX2_faultOf 9 = .ok (.invokestatic 24, 3) := by decide +kernel
theorem dX2_faultOf_12 : decode cX2_faultOf 12 = .ok (.aload_n 0, 1) := by decide +kernel
theorem dX2_faultOf_13 : decode cX2_faultOf 13 = .ok (.iload_n 2, 1) := by decide +kernel
theorem dX2_faultOf_14 : decode cX2_faultOf 14 = .ok (.putfield 30, 3) := by decide +kernel
theorem dX2_faultOf_17 : decode cX2_faultOf 17 = .ok (.aload_n 0, 1) := by decide +kernel
theorem dX2_faultOf_18 : decode cX2_faultOf 18 = .ok (.aload_n 3, 1) := by decide +kernel
theorem dX2_faultOf_19 : decode cX2_faultOf 19 = .ok (.putfield 20, 3) := by decide +kernel
theorem dX2_faultOf_22 : decode cX2_faultOf 22 = .ok (.aload_n 0, 1) := by decide +kernel
theorem dX2_faultOf_23 : decode cX2_faultOf 23 = .ok (.iconst 0, 1) := by decide +kernel
theorem dX2_faultOf_24 : decode cX2_faultOf 24 = .ok (.putfield 34, 3) := by decide +kernel
theorem dX2_faultOf_27 : decode cX2_faultOf 27 = .ok (.aload_n 0, 1) := by decide +kernel
theorem dX2_faultOf_28 : decode cX2_faultOf 28 = .ok (.iconst 0, 1) := by decide +kernel
theorem dX2_faultOf_29 : decode cX2_faultOf 29 = .ok (.putfield 37, 3) := by decide +kernel
theorem dX2_faultOf_32 : decode cX2_faultOf 32 = .ok (.aload_n 0, 1) := by decide +kernel
theorem dX2_faultOf_33 : decode cX2_faultOf 33 = .ok (.iconst (-1), 1) := by decide +kernel
theorem dX2_faultOf_34 : decode cX2_faultOf 34 = .ok (.putfield 40, 3) := by decide +kernel
theorem dX2_faultOf_37 : decode cX2_faultOf 37 = .ok (.aload_n 0, 1) := by decide +kernel
theorem dX2_faultOf_38 : decode cX2_faultOf 38 = .ok (.iconst 0, 1) := by decide +kernel
theorem dX2_faultOf_39 : decode cX2_faultOf 39 = .ok (.iconst 0, 1) := by decide +kernel
theorem dX2_faultOf_40 : decode cX2_faultOf 40 = .ok (.invokevirtual 43, 3) := by decide +kernel
theorem dX2_faultOf_43 : decode cX2_faultOf 43 = .ok (.aload_n 0, 1) := by decide +kernel
theorem dX2_faultOf_44 : decode cX2_faultOf 44 = .ok (.getfield 34, 3) := by decide +kernel
theorem dX2_faultOf_47 : decode cX2_faultOf 47 = .ok (.aload_n 0, 1) := by decide +kernel
theorem dX2_faultOf_48 : decode cX2_faultOf 48 = .ok (.getfield 30, 3) := by decide +kernel
theorem dX2_faultOf_51 : decode cX2_faultOf 51 = .ok (.if_icmp .ge 7, 3) := by decide +kernel
theorem dX2_faultOf_54 : decode cX2_faultOf 54 = .ok (.aload_n 0, 1) := by decide +kernel
theorem dX2_faultOf_55 : decode cX2_faultOf 55 = .ok (.invokevirtual 47, 3) := by decide +kernel
theorem dX2_faultOf_58 : decode cX2_faultOf 58 = .ok (.aload_n 0, 1) := by decide +kernel
theorem dX2_faultOf_59 : decode cX2_faultOf 59 = .ok (.getfield 40, 3) := by decide +kernel
theorem dX2_faultOf_62 : decode cX2_faultOf 62 = .ok (.ireturn, 1) := by decide +kernel
theorem dX2_handTo_0 : decode cX2_handTo 0 = .ok (.aload_n 0, 1) := by decide +kernel
theorem dX2_handTo_1 : decode cX2_handTo 1 = .ok (.getfield 15, 3) := by decide +kernel
theorem dX2_handTo_4 : decode cX2_handTo 4 = .ok (.iconst 0, 1) := by decide +kernel
theorem dX2_handTo_5 : decode cX2_handTo 5 = .ok (.aload_n 1, 1) := by decide +kernel
theorem dX2_handTo_6 : decode cX2_handTo 6 = .ok (.getfield 50, 3) := by decide +kernel
theorem dX2_handTo_9 : decode cX2_handTo 9 = .ok (.iconst 0, 1) := by decide +kernel
theorem dX2_handTo_10 : decode cX2_handTo 10 = .ok (.bipush 60, 2) := by decide +kernel
theorem dX2_handTo_12 : decode cX2_handTo 12 = .ok (.invokestatic 24, 3) := by decide +kernel
theorem dX2_handTo_15 : decode cX2_handTo 15 = .ok (.aload_n 1, 1) := by decide +kernel
theorem dX2_handTo_16 : decode cX2_handTo 16 = .ok (.aload_n 0, 1) := by decide +kernel
theorem dX2_handTo_17 : decode cX2_handTo 17 = .ok (.getfield 37, 3) := by decide +kernel
theorem dX2_handTo_20 : decode cX2_handTo 20 = .ok (.putfield 53, 3) := by decide +kernel
theorem dX2_handTo_23 : decode cX2_handTo 23 = .ok (.return_, 1) := by decide +kernel
theorem dX3_append_0 : decode cX3_append 0 = .ok (.iconst 0, 1) := by decide +kernel
theorem dX3_append_1 : decode cX3_append 1 = .ok (.istore_n 2, 1) := by decide +kernel
theorem dX3_append_2 : decode cX3_append 2 = .ok (.iload_n 2, 1) := by decide +kernel
theorem dX3_append_3 : decode cX3_append 3 = .ok (.aload_n 1, 1) := by decide +kernel
theorem dX3_append_4 : decode cX3_append 4 = .ok (.getfield 15, 3) := by decide +kernel
theorem dX3_append_7 : decode cX3_append 7 = .ok (.if_icmp .ge 52, 3) := by decide +kernel
theorem dX3_append_10 : decode cX3_append 10 = .ok (.aload_n 1, 1) := by decide +kernel
theorem dX3_append_11 : decode cX3_append 11 = .ok (.getfield 21, 3) := by decide +kernel
theorem dX3_append_14 : decode cX3_append 14 = .ok (.iload_n 2, 1) := by decide +kernel
theorem dX3_append_15 : decode cX3_append 15 = .ok (.iaload, 1) := by decide +kernel
theorem dX3_append_16 : decode cX3_append 16 = .ok (.ifCond .eq 37, 3) := by decide +kernel
theorem dX3_append_19 : decode cX3_append 19 = .ok (.aload_n 0, 1) := by decide +kernel
theorem dX3_append_20 : decode cX3_append 20 = .ok (.getfield 24, 3) := by decide +kernel
theorem dX3_append_23 : decode cX3_append 23 = .ok (.bipush 48, 2) := by decide +kernel
theorem dX3_append_25 : decode cX3_append 25 = .ok (.if_icmp .ge 28, 3) := by decide +kernel
theorem dX3_append_28 : decode cX3_append 28 = .ok (.aload_n 0, 1) := by decide +kernel
theorem dX3_append_29 : decode cX3_append 29 = .ok (.getfield 9, 3) := by decide +kernel
theorem dX3_append_32 : decode cX3_append 32 = .ok (.aload_n 0, 1) := by decide +kernel
theorem dX3_append_33 : decode cX3_append 33 = .ok (.getfield 24, 3) := by decide +kernel
theorem dX3_append_36 : decode cX3_append 36 = .ok (.aload_n 1, 1) := by decide +kernel
theorem dX3_append_37 : decode cX3_append 37 = .ok (.getfield 21, 3) := by decide +kernel
theorem dX3_append_40 : decode cX3_append 40 = .ok (.iload_n 2, 1) := by decide +kernel
theorem dX3_append_41 : decode cX3_append 41 = .ok (.iaload, 1) := by decide +kernel
theorem dX3_append_42 : decode cX3_append 42 = .ok (.iastore, 1) := by decide +kernel
theorem dX3_append_43 : decode cX3_append 43 = .ok (.aload_n 0, 1) := by decide +kernel
theorem dX3_append_44 : decode cX3_append 44 = .ok (.dup, 1) := by decide +kernel
theorem dX3_append_45 : decode cX3_append 45 = .ok (.getfield 24, 3) := by decide +kernel
theorem dX3_append_48 : decode cX3_append 48 = .ok (.iconst 1, 1) := by decide +kernel
theorem dX3_append_49 : decode cX3_append 49 = .ok (.iadd, 1) := by decide +kernel
theorem dX3_append_50 : decode cX3_append 50 = .ok (.putfield 24, 3) := by decide +kernel
theorem dX3_append_53 : decode cX3_append 53 = .ok (.iinc 2 1, 3) := by decide +kernel
theorem dX3_append_56 : decode cX3_append 56 = .ok (.goto (-54), 3) := by decide +kernel
theorem dX3_append_59 : decode cX3_append 59 = .ok (.return_, 1) := by decide +kernel
theorem dX3_reverse_0 : decode cX3_reverse 0 = .ok (.iconst 0, 1) := by decide +kernel
theorem dX3_reverse_1 : decode cX3_reverse 1 = .ok (.istore_n 1, 1) := by decide +kernel
theorem dX3_reverse_2 : decode cX3_reverse 2 = .ok (.iload_n 1, 1) := by decide +kernel
theorem dX3_reverse_3 : decode cX3_reverse 3 = .ok (.aload_n 0, 1) := by decide +kernel
theorem dX3_reverse_4 : decode cX3_reverse 4 = .ok (.getfield 24, 3) := by decide +kernel
theorem dX3_reverse_7 : decode cX3_reverse 7 = .ok (.iconst 2, 1) := by decide +kernel
theorem dX3_reverse_8 : decode cX3_reverse 8 = .ok (.idiv, 1) := by decide +kernel
theorem dX3_reverse_9 : decode cX3_reverse 9 = .ok (.if_icmp .ge 44, 3) := by decide +kernel
theorem dX3_reverse_12 : decode cX3_reverse 12 = .ok (.aload_n 0, 1) := by decide +kernel
theorem dX3_reverse_13 : decode cX3_reverse 13 = .ok (.getfield 24, 3) := by decide +kernel
theorem dX3_reverse_16 : decode cX3_reverse 16 = .ok (.iconst 1, 1) := by decide +kernel
theorem dX3_reverse_17 : decode cX3_reverse 17 = .ok (.isub, 1) := by decide +kernel
theorem dX3_reverse_18 : decode cX3_reverse 18 = .ok (.iload_n 1, 1) := by decide +kernel
theorem dX3_reverse_19 : decode cX3_reverse 19 = .ok (.isub, 1) := by decide +kernel
theorem dX3_reverse_20 : decode cX3_reverse 20 = .ok (.istore_n 2, 1) := by decide +kernel
theorem dX3_reverse_21 : decode cX3_reverse 21 = .ok (.aload_n 0, 1) := by decide +kernel
theorem dX3_reverse_22 : decode cX3_reverse 22 = .ok (.getfield 9, 3) := by decide +kernel
theorem dX3_reverse_25 : decode cX3_reverse 25 = .ok (.iload_n 1, 1) := by decide +kernel
theorem dX3_reverse_26 : decode cX3_reverse 26 = .ok (.iaload, 1) := by decide +kernel
theorem dX3_reverse_27 : decode cX3_reverse 27 = .ok (.istore_n 3, 1) := by decide +kernel
theorem dX3_reverse_28 : decode cX3_reverse 28 = .ok (.aload_n 0, 1) := by decide +kernel
theorem dX3_reverse_29 : decode cX3_reverse 29 = .ok (.getfield 9, 3) := by decide +kernel
theorem dX3_reverse_32 : decode cX3_reverse 32 = .ok (.iload_n 1, 1) := by decide +kernel
theorem dX3_reverse_33 : decode cX3_reverse 33 = .ok (.aload_n 0, 1) := by decide +kernel
theorem dX3_reverse_34 : decode cX3_reverse 34 = .ok (.getfield 9, 3) := by decide +kernel
theorem dX3_reverse_37 : decode cX3_reverse 37 = .ok (.iload_n 2, 1) := by decide +kernel
theorem dX3_reverse_38 : decode cX3_reverse 38 = .ok (.iaload, 1) := by decide +kernel
theorem dX3_reverse_39 : decode cX3_reverse 39 = .ok (.iastore, 1) := by decide +kernel
theorem dX3_reverse_40 : decode cX3_reverse 40 = .ok (.aload_n 0, 1) := by decide +kernel
theorem dX3_reverse_41 : decode cX3_reverse 41 = .ok (.getfield 9, 3) := by decide +kernel
theorem dX3_reverse_44 : decode cX3_reverse 44 = .ok (.iload_n 2, 1) := by decide +kernel
theorem dX3_reverse_45 : decode cX3_reverse 45 = .ok (.iload_n 3, 1) := by decide +kernel
theorem dX3_reverse_46 : decode cX3_reverse 46 = .ok (.iastore, 1) := by decide +kernel
theorem dX3_reverse_47 : decode cX3_reverse 47 = .ok (.iinc 1 1, 3) := by decide +kernel
theorem dX3_reverse_50 : decode cX3_reverse 50 = .ok (.goto (-48), 3) := by decide +kernel
theorem dX3_reverse_53 : decode cX3_reverse 53 = .ok (.return_, 1) := by decide +kernel
theorem dX3_leaveOutSeconds_0 : decode cX3_leaveOutSeconds 0 = .ok (.aload_n 0, 1) := by decide +kernel
theorem dX3_leaveOutSeconds_1 : decode cX3_leaveOutSeconds 1 = .ok (.getfield 24, 3) := by decide +kernel
theorem dX3_leaveOutSeconds_4 : decode cX3_leaveOutSeconds 4 = .ok (.iconst 1, 1) := by decide +kernel
theorem dX3_leaveOutSeconds_5 : decode cX3_leaveOutSeconds 5 = .ok (.iadd, 1) := by decide +kernel
theorem dX3_leaveOutSeconds_6 : decode cX3_leaveOutSeconds 6 = .ok (.iconst 2, 1) := by decide +kernel
theorem dX3_leaveOutSeconds_7 : decode cX3_leaveOutSeconds 7 = .ok (.idiv, 1) := by decide +kernel
theorem dX3_leaveOutSeconds_8 : decode cX3_leaveOutSeconds 8 = .ok (.istore_n 1, 1) := by decide +kernel
theorem dX3_leaveOutSeconds_9 : decode cX3_leaveOutSeconds 9 = .ok (.iconst 0, 1) := by decide +kernel
theorem dX3_leaveOutSeconds_10 : decode cX3_leaveOutSeconds 10 = .ok (.istore_n 2, 1) := by decide +kernel
theorem dX3_leaveOutSeconds_11 : decode cX3_leaveOutSeconds 11 = .ok (.iload_n 2, 1) := by decide +kernel
theorem dX3_leaveOutSeconds_12 : decode cX3_leaveOutSeconds 12 = .ok (.iload_n 1, 1) := by decide +kernel
theorem dX3_leaveOutSeconds_13 : decode cX3_leaveOutSeconds 13 = .ok (.if_icmp .ge 23, 3) := by decide +kernel
theorem dX3_leaveOutSeconds_16 : decode cX3_leaveOutSeconds 16 = .ok (.aload_n 0, 1) := by decide +kernel
theorem dX3_leaveOutSeconds_17 : decode cX3_leaveOutSeconds 17 = .ok (.getfield 9, 3) := by decide +kernel
theorem dX3_leaveOutSeconds_20 : decode cX3_leaveOutSeconds 20 = .ok (.iload_n 2, 1) := by decide +kernel
theorem dX3_leaveOutSeconds_21 : decode cX3_leaveOutSeconds 21 = .ok (.aload_n 0, 1) := by decide +kernel
theorem dX3_leaveOutSeconds_22 : decode cX3_leaveOutSeconds 22 = .ok (.getfield 9, 3) := by decide +kernel
theorem dX3_leaveOutSeconds_25 : decode cX3_leaveOutSeconds 25 = .ok (.iconst 2, 1) := by decide +kernel
theorem dX3_leaveOutSeconds_26 : decode cX3_leaveOutSeconds 26 = .ok (.iload_n 2, 1) := by decide +kernel
theorem dX3_leaveOutSeconds_27 : decode cX3_leaveOutSeconds 27 = .ok (.imul, 1) := by decide +kernel
theorem dX3_leaveOutSeconds_28 : decode cX3_leaveOutSeconds 28 = .ok (.iaload, 1) := by decide +kernel
theorem dX3_leaveOutSeconds_29 : decode cX3_leaveOutSeconds 29 = .ok (.iastore, 1) := by decide +kernel
theorem dX3_leaveOutSeconds_30 : decode cX3_leaveOutSeconds 30 = .ok (.iinc 2 1, 3) := by decide +kernel
theorem dX3_leaveOutSeconds_33 : decode cX3_leaveOutSeconds 33 = .ok (.goto (-22), 3) := by decide +kernel
theorem dX3_leaveOutSeconds_36 : decode cX3_leaveOutSeconds 36 = .ok (.aload_n 0, 1) := by decide +kernel
theorem dX3_leaveOutSeconds_37 : decode cX3_leaveOutSeconds 37 = .ok (.iload_n 1, 1) := by decide +kernel
theorem dX3_leaveOutSeconds_38 : decode cX3_leaveOutSeconds 38 = .ok (.putfield 24, 3) := by decide +kernel
theorem dX3_leaveOutSeconds_41 : decode cX3_leaveOutSeconds 41 = .ok (.return_, 1) := by decide +kernel
theorem dX3_mirrorLetters_0 : decode cX3_mirrorLetters 0 = .ok (.iconst 0, 1) := by decide +kernel
theorem dX3_mirrorLetters_1 : decode cX3_mirrorLetters 1 = .ok (.istore_n 1, 1) := by decide +kernel
theorem dX3_mirrorLetters_2 : decode cX3_mirrorLetters 2 = .ok (.iload_n 1, 1) := by decide +kernel
theorem dX3_mirrorLetters_3 : decode cX3_mirrorLetters 3 = .ok (.aload_n 0, 1) := by decide +kernel
theorem dX3_mirrorLetters_4 : decode cX3_mirrorLetters 4 = .ok (.getfield 24, 3) := by decide +kernel
theorem dX3_mirrorLetters_7 : decode cX3_mirrorLetters 7 = .ok (.if_icmp .ge 24, 3) := by decide +kernel
theorem dX3_mirrorLetters_10 : decode cX3_mirrorLetters 10 = .ok (.aload_n 0, 1) := by decide +kernel
theorem dX3_mirrorLetters_11 : decode cX3_mirrorLetters 11 = .ok (.getfield 9, 3) := by decide +kernel
theorem dX3_mirrorLetters_14 : decode cX3_mirrorLetters 14 = .ok (.iload_n 1, 1) := by decide +kernel
theorem dX3_mirrorLetters_15 : decode cX3_mirrorLetters 15 = .ok (.bipush 27, 2) := by decide +kernel
theorem dX3_mirrorLetters_17 : decode cX3_mirrorLetters 17 = .ok (.aload_n 0, 1) := by decide +kernel
theorem dX3_mirrorLetters_18 : decode cX3_mirrorLetters 18 = .ok (.getfield 9, 3) := by decide +kernel
theorem dX3_mirrorLetters_21 : decode cX3_mirrorLetters 21 = .ok (.iload_n 1, 1) := by decide +kernel
theorem dX3_mirrorLetters_22 : decode cX3_mirrorLetters 22 = .ok (.iaload, 1) := by decide +kernel
theorem dX3_mirrorLetters_23 : decode cX3_mirrorLetters 23 = .ok (.isub, 1) := by decide +kernel
theorem dX3_mirrorLetters_24 : decode cX3_mirrorLetters 24 = .ok (.iastore, 1) := by decide +kernel
theorem dX3_mirrorLetters_25 : decode cX3_mirrorLetters 25 = .ok (.iinc 1 1, 3) := by decide +kernel
theorem dX3_mirrorLetters_28 : decode cX3_mirrorLetters 28 = .ok (.goto (-26), 3) := by decide +kernel
theorem dX3_mirrorLetters_31 : decode cX3_mirrorLetters 31 = .ok (.return_, 1) := by decide +kernel
theorem dX11_isLetter_0 : decode cX11_isLetter 0 = .ok (.iload_n 0, 1) := by decide +kernel
theorem dX11_isLetter_1 : decode cX11_isLetter 1 = .ok (.iconst 1, 1) := by decide +kernel
theorem dX11_isLetter_2 : decode cX11_isLetter 2 = .ok (.if_icmp .lt 13, 3) := by decide +kernel
theorem dX11_isLetter_5 : decode cX11_isLetter 5 = .ok (.iload_n 0, 1) := by decide +kernel
theorem dX11_isLetter_6 : decode cX11_isLetter 6 = .ok (.bipush 26, 2) := by decide +kernel
theorem dX11_isLetter_8 : decode cX11_isLetter 8 = .ok (.if_icmp .gt 7, 3) := by decide +kernel
theorem dX11_isLetter_11 : decode cX11_isLetter 11 = .ok (.iconst 1, 1) := by decide +kernel
theorem dX11_isLetter_12 : decode cX11_isLetter 12 = .ok (.goto 4, 3) := by decide +kernel
theorem dX11_isLetter_15 : decode cX11_isLetter 15 = .ok (.iconst 0, 1) := by decide +kernel
theorem dX11_isLetter_16 : decode cX11_isLetter 16 = .ok (.ireturn, 1) := by decide +kernel
theorem dX6_joined_0 : decode cX6_joined 0 = .ok (.iload_n 0, 1) := by decide +kernel
theorem dX6_joined_1 : decode cX6_joined 1 = .ok (.tableswitch 202 37 62 #[143, 188, 202, 202, 202, 127, 119, 202, 123, 202, 131, 202, 202, 202, 202, 202, 202, 202, 202, 202, 202, 202, 202, 155, 166, 177], 119) := by decide +kernel
theorem dX6_joined_120 : decode cX6_joined 120 = .ok (.iload_n 1, 1) := by decide +kernel
theorem dX6_joined_121 : decode cX6_joined 121 = .ok (.iload_n 2, 1) := by decide +kernel
theorem dX6_joined_122 : decode cX6_joined 122 = .ok (.iadd, 1) := by decide +kernel
theorem dX6_joined_123 : decode cX6_joined 123 = .ok (.ireturn, 1) := by decide +kernel
theorem dX6_joined_124 : decode cX6_joined 124 = .ok (.iload_n 1, 1) := by decide +kernel
theorem dX6_joined_125 : decode cX6_joined 125 = .ok (.iload_n 2, 1) := by decide +kernel
theorem dX6_joined_126 : decode cX6_joined 126 = .ok (.isub, 1) := by decide +kernel
theorem dX6_joined_127 : decode cX6_joined 127 = .ok (.ireturn, 1) := by decide +kernel
theorem dX6_joined_128 : decode cX6_joined 128 = .ok (.iload_n 1, 1) := by decide +kernel
theorem dX6_joined_129 : decode cX6_joined 129 = .ok (.iload_n 2, 1) := by decide +kernel
theorem dX6_joined_130 : decode cX6_joined 130 = .ok (.imul, 1) := by decide +kernel
theorem dX6_joined_131 : decode cX6_joined 131 = .ok (.ireturn, 1) := by decide +kernel
theorem dX6_joined_132 : decode cX6_joined 132 = .ok (.iload_n 2, 1) := by decide +kernel
theorem dX6_joined_133 : decode cX6_joined 133 = .ok (.ifCond .ne 7, 3) := by decide +kernel
theorem dX6_joined_136 : decode cX6_joined 136 = .ok (.iconst 0, 1) := by decide +kernel
theorem dX6_joined_137 : decode cX6_joined 137 = .ok (.goto 6, 3) := by decide +kernel
theorem dX6_joined_140 : decode cX6_joined 140 = .ok (.iload_n 1, 1) := by decide +kernel
theorem dX6_joined_141 : decode cX6_joined 141 = .ok (.iload_n 2, 1) := by decide +kernel
theorem dX6_joined_142 : decode cX6_joined 142 = .ok (.idiv, 1) := by decide +kernel
theorem dX6_joined_143 : decode cX6_joined 143 = .ok (.ireturn, 1) := by decide +kernel
theorem dX6_joined_144 : decode cX6_joined 144 = .ok (.iload_n 2, 1) := by decide +kernel
theorem dX6_joined_145 : decode cX6_joined 145 = .ok (.ifCond .ne 7, 3) := by decide +kernel
theorem dX6_joined_148 : decode cX6_joined 148 = .ok (.iconst 0, 1) := by decide +kernel
theorem dX6_joined_149 : decode cX6_joined 149 = .ok (.goto 6, 3) := by decide +kernel
theorem dX6_joined_152 : decode cX6_joined 152 = .ok (.iload_n 1, 1) := by decide +kernel
theorem dX6_joined_153 : decode cX6_joined 153 = .ok (.iload_n 2, 1) := by decide +kernel
theorem dX6_joined_154 : decode cX6_joined 154 = .ok (.irem, 1) := by decide +kernel
theorem dX6_joined_155 : decode cX6_joined 155 = .ok (.ireturn, 1) := by decide +kernel
theorem dX6_joined_156 : decode cX6_joined 156 = .ok (.iload_n 1, 1) := by decide +kernel
theorem dX6_joined_157 : decode cX6_joined 157 = .ok (.iload_n 2, 1) := by decide +kernel
theorem dX6_joined_158 : decode cX6_joined 158 = .ok (.if_icmp .ge 7, 3) := by decide +kernel
theorem dX6_joined_161 : decode cX6_joined 161 = .ok (.iconst 1, 1) := by decide +kernel
theorem dX6_joined_162 : decode cX6_joined 162 = .ok (.goto 4, 3) := by decide +kernel
theorem dX6_joined_165 : decode cX6_joined 165 = .ok (.iconst 0, 1) := by decide +kernel
theorem dX6_joined_166 : decode cX6_joined 166 = .ok (.ireturn, 1) := by decide +kernel
theorem dX6_joined_167 : decode cX6_joined 167 = .ok (.iload_n 1, 1) := by decide +kernel
theorem dX6_joined_168 : decode cX6_joined 168 = .ok (.iload_n 2, 1) := by decide +kernel
theorem dX6_joined_169 : decode cX6_joined 169 = .ok (.if_icmp .ne 7, 3) := by decide +kernel
theorem dX6_joined_172 : decode cX6_joined 172 = .ok (.iconst 1, 1) := by decide +kernel
theorem dX6_joined_173 : decode cX6_joined 173 = .ok (.goto 4, 3) := by decide +kernel
theorem dX6_joined_176 : decode cX6_joined 176 = .ok (.iconst 0, 1) := by decide +kernel
theorem dX6_joined_177 : decode cX6_joined 177 = .ok (.ireturn, 1) := by decide +kernel
theorem dX6_joined_178 : decode cX6_joined 178 = .ok (.iload_n 1, 1) := by decide +kernel
theorem dX6_joined_179 : decode cX6_joined 179 = .ok (.iload_n 2, 1) := by decide +kernel
theorem dX6_joined_180 : decode cX6_joined 180 = .ok (.if_icmp .le 7, 3) := by decide +kernel
theorem dX6_joined_183 : decode cX6_joined 183 = .ok (.iconst 1, 1) := by decide +kernel
theorem dX6_joined_184 : decode cX6_joined 184 = .ok (.goto 4, 3) := by decide +kernel
theorem dX6_joined_187 : decode cX6_joined 187 = .ok (.iconst 0, 1) := by decide +kernel
theorem dX6_joined_188 : decode cX6_joined 188 = .ok (.ireturn, 1) := by decide +kernel
theorem dX6_joined_189 : decode cX6_joined 189 = .ok (.iload_n 1, 1) := by decide +kernel
theorem dX6_joined_190 : decode cX6_joined 190 = .ok (.ifCond .eq 11, 3) := by decide +kernel
theorem dX6_joined_193 : decode cX6_joined 193 = .ok (.iload_n 2, 1) := by decide +kernel
theorem dX6_joined_194 : decode cX6_joined 194 = .ok (.ifCond .eq 7, 3) := by decide +kernel
theorem dX6_joined_197 : decode cX6_joined 197 = .ok (.iconst 1, 1) := by decide +kernel
theorem dX6_joined_198 : decode cX6_joined 198 = .ok (.goto 4, 3) := by decide +kernel
theorem dX6_joined_201 : decode cX6_joined 201 = .ok (.iconst 0, 1) := by decide +kernel
theorem dX6_joined_202 : decode cX6_joined 202 = .ok (.ireturn, 1) := by decide +kernel
theorem dX6_joined_203 : decode cX6_joined 203 = .ok (.iload_n 1, 1) := by decide +kernel
theorem dX6_joined_204 : decode cX6_joined 204 = .ok (.ifCond .ne 7, 3) := by decide +kernel
theorem dX6_joined_207 : decode cX6_joined 207 = .ok (.iload_n 2, 1) := by decide +kernel
theorem dX6_joined_208 : decode cX6_joined 208 = .ok (.ifCond .eq 7, 3) := by decide +kernel
theorem dX6_joined_211 : decode cX6_joined 211 = .ok (.iconst 1, 1) := by decide +kernel
theorem dX6_joined_212 : decode cX6_joined 212 = .ok (.goto 4, 3) := by decide +kernel
theorem dX6_joined_215 : decode cX6_joined 215 = .ok (.iconst 0, 1) := by decide +kernel
theorem dX6_joined_216 : decode cX6_joined 216 = .ok (.ireturn, 1) := by decide +kernel
theorem dX6_worth_0 : decode cX6_worth 0 = .ok (.aload_n 0, 1) := by decide +kernel
theorem dX6_worth_1 : decode cX6_worth 1 = .ok (.getfield 18, 3) := by decide +kernel
theorem dX6_worth_4 : decode cX6_worth 4 = .ok (.iconst 0, 1) := by decide +kernel
theorem dX6_worth_5 : decode cX6_worth 5 = .ok (.iload_n 1, 1) := by decide +kernel
theorem dX6_worth_6 : decode cX6_worth 6 = .ok (.iastore, 1) := by decide +kernel
theorem dX6_worth_7 : decode cX6_worth 7 = .ok (.aload_n 0, 1) := by decide +kernel
theorem dX6_worth_8 : decode cX6_worth 8 = .ok (.getfield 18, 3) := by decide +kernel
theorem dX6_worth_11 : decode cX6_worth 11 = .ok (.iconst 1, 1) := by decide +kernel
theorem dX6_worth_12 : decode cX6_worth 12 = .ok (.iload_n 2, 1) := by decide +kernel
theorem dX6_worth_13 : decode cX6_worth 13 = .ok (.iastore, 1) := by decide +kernel
theorem dX6_worth_14 : decode cX6_worth 14 = .ok (.aload_n 0, 1) := by decide +kernel
theorem dX6_worth_15 : decode cX6_worth 15 = .ok (.getfield 18, 3) := by decide +kernel
theorem dX6_worth_18 : decode cX6_worth 18 = .ok (.iconst 2, 1) := by decide +kernel
theorem dX6_worth_19 : decode cX6_worth 19 = .ok (.iload_n 3, 1) := by decide +kernel
theorem dX6_worth_20 : decode cX6_worth 20 = .ok (.iastore, 1) := by decide +kernel
theorem dX6_worth_21 : decode cX6_worth 21 = .ok (.aload_n 0, 1) := by decide +kernel
theorem dX6_worth_22 : decode cX6_worth 22 = .ok (.getfield 18, 3) := by decide +kernel
theorem dX6_worth_25 : decode cX6_worth 25 = .ok (.iconst 3, 1) := by decide +kernel
theorem dX6_worth_26 : decode cX6_worth 26 = .ok (.iload 4, 2) := by decide +kernel
theorem dX6_worth_28 : decode cX6_worth 28 = .ok (.iastore, 1) := by decide +kernel
theorem dX6_worth_29 : decode cX6_worth 29 = .ok (.iconst 0, 1) := by decide +kernel
theorem dX6_worth_30 : decode cX6_worth 30 = .ok (.istore 5, 2) := by decide +kernel
theorem dX6_worth_32 : decode cX6_worth 32 = .ok (.iconst 0, 1) := by decide +kernel
theorem dX6_worth_33 : decode cX6_worth 33 = .ok (.istore 6, 2) := by decide +kernel
theorem dX6_worth_35 : decode cX6_worth 35 = .ok (.iload 6, 2) := by decide +kernel
theorem dX6_worth_37 : decode cX6_worth 37 = .ok (.aload_n 0, 1) := by decide +kernel
theorem dX6_worth_38 : decode cX6_worth 38 = .ok (.getfield 21, 3) := by decide +kernel
theorem dX6_worth_41 : decode cX6_worth 41 = .ok (.if_icmp .ge 155, 3) := by decide +kernel
theorem dX6_worth_44 : decode cX6_worth 44 = .ok (.aload_n 0, 1) := by decide +kernel
theorem dX6_worth_45 : decode cX6_worth 45 = .ok (.getfield 9, 3) := by decide +kernel
theorem dX6_worth_48 : decode cX6_worth 48 = .ok (.iload 6, 2) := by decide +kernel
theorem dX6_worth_50 : decode cX6_worth 50 = .ok (.iaload, 1) := by decide +kernel
theorem dX6_worth_51 : decode cX6_worth 51 = .ok (.istore 7, 2) := by decide +kernel
theorem dX6_worth_53 : decode cX6_worth 53 = .ok (.iload 7, 2) := by decide +kernel
theorem dX6_worth_55 : decode cX6_worth 55 = .ok (.bipush (-4), 2) := by decide +kernel
theorem dX6_worth_57 : decode cX6_worth 57 = .ok (.if_icmp .lt 42, 3) := by decide +kernel
theorem dX6_worth_60 : decode cX6_worth 60 = .ok (.iload 5, 2) := by decide +kernel
theorem dX6_worth_62 : decode cX6_worth 62 = .ok (.bipush 60, 2) := by decide +kernel
theorem dX6_worth_64 : decode cX6_worth 64 = .ok (.if_icmp .ge 35, 3) := by decide +kernel
theorem dX6_worth_67 : decode cX6_worth 67 = .ok (.aload_n 0, 1) := by decide +kernel
theorem dX6_worth_68 : decode cX6_worth 68 = .ok (.getfield 15, 3) := by decide +kernel
theorem dX6_worth_71 : decode cX6_worth 71 = .ok (.iload 5, 2) := by decide +kernel
theorem dX6_worth_73 : decode cX6_worth 73 = .ok (.iload 7, 2) := by decide +kernel
theorem dX6_worth_75 : decode cX6_worth 75 = .ok (.ifCond .lt 8, 3) := by decide +kernel
theorem dX6_worth_78 : decode cX6_worth 78 = .ok (.iload 7, 2) := by decide +kernel
theorem dX6_worth_80 : decode cX6_worth 80 = .ok (.goto 12, 3) := by decide +kernel
theorem dX6_worth_83 : decode cX6_worth 83 = .ok (.aload_n 0, 1) := by decide +kernel
theorem dX6_worth_84 : decode cX6_worth 84 = .ok (.getfield 18, 3) := by decide +kernel
theorem dX6_worth_87 : decode cX6_worth 87 = .ok (.iconst (-1), 1) := by decide +kernel
theorem dX6_worth_88 : decode cX6_worth 88 = .ok (.iload 7, 2) := by decide +kernel
theorem dX6_worth_90 : decode cX6_worth 90 = .ok (.isub, 1) := by decide +kernel
theorem dX6_worth_91 : decode cX6_worth 91 = .ok (.iaload, 1) := by decide +kernel
theorem dX6_worth_92 : decode cX6_worth 92 = .ok (.iastore, 1) := by decide +kernel
theorem dX6_worth_93 : decode cX6_worth 93 = .ok (.iinc 5 1, 3) := by decide +kernel
theorem dX6_worth_96 : decode cX6_worth 96 = .ok (.goto 94, 3) := by decide +kernel
theorem dX6_worth_99 : decode cX6_worth 99 = .ok (.iload 7, 2) := by decide +kernel
theorem dX6_worth_101 : decode cX6_worth 101 = .ok (.bipush (-33), 2) := by decide +kernel
theorem dX6_worth_103 : decode cX6_worth 103 = .ok (.if_icmp .ne 38, 3) := by decide +kernel
theorem dX6_worth_106 : decode cX6_worth 106 = .ok (.iload 5, 2) := by decide +kernel
theorem dX6_worth_108 : decode cX6_worth 108 = .ok (.iconst 1, 1) := by decide +kernel
theorem dX6_worth_109 : decode cX6_worth 109 = .ok (.if_icmp .lt 32, 3) := by decide +kernel
theorem dX6_worth_112 : decode cX6_worth 112 = .ok (.aload_n 0, 1) := by decide +kernel
theorem dX6_worth_113 : decode cX6_worth 113 = .ok (.getfield 15, 3) := by decide +kernel
theorem dX6_worth_116 : decode cX6_worth 116 = .ok (.iload 5, 2) := by decide +kernel
theorem dX6_worth_118 : decode cX6_worth 118 = .ok (.iconst 1, 1) := by decide +kernel
theorem dX6_worth_119 : decode cX6_worth 119 = .ok (.isub, 1) := by decide +kernel
theorem dX6_worth_120 : decode cX6_worth 120 = .ok (.aload_n 0, 1) := by decide +kernel
theorem dX6_worth_121 : decode cX6_worth 121 = .ok (.getfield 15, 3) := by decide +kernel
theorem dX6_worth_124 : decode cX6_worth 124 = .ok (.iload 5, 2) := by decide +kernel
theorem dX6_worth_126 : decode cX6_worth 126 = .ok (.iconst 1, 1) := by decide +kernel
theorem dX6_worth_127 : decode cX6_worth 127 = .ok (.isub, 1) := by decide +kernel
theorem dX6_worth_128 : decode cX6_worth 128 = .ok (.iaload, 1) := by decide +kernel
theorem dX6_worth_129 : decode cX6_worth 129 = .ok (.ifCond .ne 7, 3) := by decide +kernel
theorem dX6_worth_132 : decode cX6_worth 132 = .ok (.iconst 1, 1) := by decide +kernel
theorem dX6_worth_133 : decode cX6_worth 133 = .ok (.goto 4, 3) := by decide +kernel
theorem dX6_worth_136 : decode cX6_worth 136 = .ok (.iconst 0, 1) := by decide +kernel
theorem dX6_worth_137 : decode cX6_worth 137 = .ok (.iastore, 1) := by decide +kernel
theorem dX6_worth_138 : decode cX6_worth 138 = .ok (.goto 52, 3) := by decide +kernel
theorem dX6_worth_141 : decode cX6_worth 141 = .ok (.iload 7, 2) := by decide +kernel
theorem dX6_worth_143 : decode cX6_worth 143 = .ok (.bipush (-4), 2) := by decide +kernel
theorem dX6_worth_145 : decode cX6_worth 145 = .ok (.if_icmp .ge 45, 3) := by decide +kernel
theorem dX6_worth_148 : decode cX6_worth 148 = .ok (.iload 5, 2) := by decide +kernel
theorem dX6_worth_150 : decode cX6_worth 150 = .ok (.iconst 2, 1) := by decide +kernel
theorem dX6_worth_151 : decode cX6_worth 151 = .ok (.if_icmp .lt 39, 3) := by decide +kernel
theorem dX6_worth_154 : decode cX6_worth 154 = .ok (.aload_n 0, 1) := by decide +kernel
theorem dX6_worth_155 : decode cX6_worth 155 = .ok (.getfield 15, 3) := by decide +kernel
theorem dX6_worth_158 : decode cX6_worth 158 = .ok (.iload 5, 2) := by decide +kernel
theorem dX6_worth_160 : decode cX6_worth 160 = .ok (.iconst 2, 1) := by decide +kernel
theorem dX6_worth_161 : decode cX6_worth 161 = .ok (.isub, 1) := by decide +kernel
theorem dX6_worth_162 : decode cX6_worth 162 = .ok (.iload 7, 2) := by decide +kernel
theorem dX6_worth_164 : decode cX6_worth 164 = .ok (.ineg, 1) := by decide +kernel
theorem dX6_worth_165 : decode cX6_worth 165 = .ok (.aload_n 0, 1) := by decide +kernel
theorem dX6_worth_166 : decode cX6_worth 166 = .ok (.getfield 15, 3) := by decide +kernel
theorem dX6_worth_169 : decode cX6_worth 169 = .ok (.iload 5, 2) := by decide +kernel
theorem dX6_worth_171 : decode cX6_worth 171 = .ok (.iconst 2, 1) := by decide +kernel
theorem dX6_worth_172 : decode cX6_worth 172 = .ok (.isub, 1) := by decide +kernel
theorem dX6_worth_173 : decode cX6_worth 173 = .ok (.iaload, 1) := by decide +kernel
theorem dX6_worth_174 : decode cX6_worth 174 = .ok (.aload_n 0, 1) := by decide +kernel
theorem dX6_worth_175 : decode cX6_worth 175 = .ok (.getfield 15, 3) := by decide +kernel
theorem dX6_worth_178 : decode cX6_worth 178 = .ok (.iload 5, 2) := by decide +kernel
theorem dX6_worth_180 : decode cX6_worth 180 = .ok (.iconst 1, 1) := by decide +kernel
theorem dX6_worth_181 : decode cX6_worth 181 = .ok (.isub, 1) := by decide +kernel
theorem dX6_worth_182 : decode cX6_worth 182 = .ok (.iaload, 1) := by decide +kernel
theorem dX6_worth_183 : decode cX6_worth 183 = .ok (.invokestatic 31, 3) := by decide +kernel
theorem dX6_worth_186 : decode cX6_worth 186 = .ok (.iastore, 1) := by decide +kernel
theorem dX6_worth_187 : decode cX6_worth 187 = .ok (.iinc 5 (-1), 3) := by decide +kernel
theorem dX6_worth_190 : decode cX6_worth 190 = .ok (.iinc 6 1, 3) := by decide +kernel
theorem dX6_worth_193 : decode cX6_worth 193 = .ok (.goto (-158), 3) := by decide +kernel
theorem dX6_worth_196 : decode cX6_worth 196 = .ok (.iload 5, 2) := by decide +kernel
theorem dX6_worth_198 : decode cX6_worth 198 = .ok (.ifCond .le 15, 3) := by decide +kernel
theorem dX6_worth_201 : decode cX6_worth 201 = .ok (.aload_n 0, 1) := by decide +kernel
theorem dX6_worth_202 : decode cX6_worth 202 = .ok (.getfield 15, 3) := by decide +kernel
theorem dX6_worth_205 : decode cX6_worth 205 = .ok (.iload 5, 2) := by decide +kernel
theorem dX6_worth_207 : decode cX6_worth 207 = .ok (.iconst 1, 1) := by decide +kernel
theorem dX6_worth_208 : decode cX6_worth 208 = .ok (.isub, 1) := by decide +kernel
theorem dX6_worth_209 : decode cX6_worth 209 = .ok (.iaload, 1) := by decide +kernel
theorem dX6_worth_210 : decode cX6_worth 210 = .ok (.goto 4, 3) := by decide +kernel
theorem dX6_worth_213 : decode cX6_worth 213 = .ok (.iconst 0, 1) := by decide +kernel
theorem dX6_worth_214 : decode cX6_worth 214 = .ok (.ireturn, 1) := by decide +kernel
theorem dX3_turnBy_0 : decode cX3_turnBy 0 = .ok (.iconst 0, 1) := by decide +kernel
theorem dX3_turnBy_1 : decode cX3_turnBy 1 = .ok (.istore_n 3, 1) := by decide +kernel
theorem dX3_turnBy_2 : decode cX3_turnBy 2 = .ok (.iload_n 3, 1) := by decide +kernel
theorem dX3_turnBy_3 : decode cX3_turnBy 3 = .ok (.aload_n 0, 1) := by decide +kernel
theorem dX3_turnBy_4 : decode cX3_turnBy 4 = .ok (.getfield 24, 3) := by decide +kernel
theorem dX3_turnBy_7 : decode cX3_turnBy 7 = .ok (.if_icmp .ge 47, 3) := by decide +kernel
theorem dX3_turnBy_10 : decode cX3_turnBy 10 = .ok (.aload_n 1, 1) := by decide +kernel
theorem dX3_turnBy_11 : decode cX3_turnBy 11 = .ok (.aload_n 0, 1) := by decide +kernel
theorem dX3_turnBy_12 : decode cX3_turnBy 12 = .ok (.getfield 9, 3) := by decide +kernel
theorem dX3_turnBy_15 : decode cX3_turnBy 15 = .ok (.iload_n 3, 1) := by decide +kernel
theorem dX3_turnBy_16 : decode cX3_turnBy 16 = .ok (.iaload, 1) := by decide +kernel
theorem dX3_turnBy_17 : decode cX3_turnBy 17 = .ok (.iload_n 3, 1) := by decide +kernel
theorem dX3_turnBy_18 : decode cX3_turnBy 18 = .ok (.aload_n 0, 1) := by decide +kernel
theorem dX3_turnBy_19 : decode cX3_turnBy 19 = .ok (.getfield 24, 3) := by decide +kernel
theorem dX3_turnBy_22 : decode cX3_turnBy 22 = .ok (.iload_n 2, 1) := by decide +kernel
theorem dX3_turnBy_23 : decode cX3_turnBy 23 = .ok (.invokevirtual 25, 3) := by decide +kernel
theorem dX3_turnBy_26 : decode cX3_turnBy 26 = .ok (.istore 4, 2) := by decide +kernel
theorem dX3_turnBy_28 : decode cX3_turnBy 28 = .ok (.aload_n 0, 1) := by decide +kernel
theorem dX3_turnBy_29 : decode cX3_turnBy 29 = .ok (.getfield 9, 3) := by decide +kernel
theorem dX3_turnBy_32 : decode cX3_turnBy 32 = .ok (.iload_n 3, 1) := by decide +kernel
theorem dX3_turnBy_33 : decode cX3_turnBy 33 = .ok (.iload 4, 2) := by decide +kernel
theorem dX3_turnBy_35 : decode cX3_turnBy 35 = .ok (.invokestatic 31, 3) := by decide +kernel
theorem dX3_turnBy_38 : decode cX3_turnBy 38 = .ok (.ifCond .eq 8, 3) := by decide +kernel
theorem dX3_turnBy_41 : decode cX3_turnBy 41 = .ok (.iload 4, 2) := by decide +kernel
theorem dX3_turnBy_43 : decode cX3_turnBy 43 = .ok (.goto 4, 3) := by decide +kernel
theorem dX3_turnBy_46 : decode cX3_turnBy 46 = .ok (.iconst 1, 1) := by decide +kernel
theorem dX3_turnBy_47 : decode cX3_turnBy 47 = .ok (.iastore, 1) := by decide +kernel
theorem dX3_turnBy_48 : decode cX3_turnBy 48 = .ok (.iinc 3 1, 3) := by decide +kernel
theorem dX3_turnBy_51 : decode cX3_turnBy 51 = .ok (.goto (-49), 3) := by decide +kernel
theorem dX3_turnBy_54 : decode cX3_turnBy 54 = .ok (.return_, 1) := by decide +kernel
theorem dX4_isMissing_0 : decode cX4_isMissing 0 = .ok (.aload_n 0, 1) := by decide +kernel
theorem dX4_isMissing_1 : decode cX4_isMissing 1 = .ok (.getfield 15, 3) := by decide +kernel
theorem dX4_isMissing_4 : decode cX4_isMissing 4 = .ok (.ifCond .ne 7, 3) := by decide +kernel
theorem dX4_isMissing_7 : decode cX4_isMissing 7 = .ok (.iconst 1, 1) := by decide +kernel
theorem dX4_isMissing_8 : decode cX4_isMissing 8 = .ok (.goto 4, 3) := by decide +kernel
theorem dX4_isMissing_11 : decode cX4_isMissing 11 = .ok (.iconst 0, 1) := by decide +kernel
theorem dX4_isMissing_12 : decode cX4_isMissing 12 = .ok (.ireturn, 1) := by decide +kernel
theorem dX4_begin_0 : decode cX4_begin 0 = .ok (.aload_n 0, 1) := by decide +kernel
theorem dX4_begin_1 : decode cX4_begin 1 = .ok (.iload_n 1, 1) := by decide +kernel
theorem dX4_begin_2 : decode cX4_begin 2 = .ok (.putfield 15, 3) := by decide +kernel
theorem dX4_begin_5 : decode cX4_begin 5 = .ok (.aload_n 0, 1) := by decide +kernel
theorem dX4_begin_6 : decode cX4_begin 6 = .ok (.iload_n 2, 1) := by decide +kernel
theorem dX4_begin_7 : decode cX4_begin 7 = .ok (.putfield 19, 3) := by decide +kernel
theorem dX4_begin_10 : decode cX4_begin 10 = .ok (.aload_n 0, 1) := by decide +kernel
theorem dX4_begin_11 : decode cX4_begin 11 = .ok (.getfield 9, 3) := by decide +kernel
theorem dX4_begin_14 : decode cX4_begin 14 = .ok (.iconst 0, 1) := by decide +kernel
theorem dX4_begin_15 : decode cX4_begin 15 = .ok (.invokestatic 22, 3) := by decide +kernel
theorem dX4_begin_18 : decode cX4_begin 18 = .ok (.return_, 1) := by decide +kernel
theorem dX4_write_0 : decode cX4_write 0 = .ok (.aload_n 0, 1) := by decide +kernel
theorem dX4_write_1 : decode cX4_write 1 = .ok (.getfield 9, 3) := by decide +kernel
theorem dX4_write_4 : decode cX4_write 4 = .ok (.iload_n 1, 1) := by decide +kernel
theorem dX4_write_5 : decode cX4_write 5 = .ok (.aload_n 0, 1) := by decide +kernel
theorem dX4_write_6 : decode cX4_write 6 = .ok (.getfield 15, 3) := by decide +kernel
theorem dX4_write_9 : decode cX4_write 9 = .ok (.bipush 8, 2) := by decide +kernel
theorem dX4_write_11 : decode cX4_write 11 = .ok (.if_icmp .ne 8, 3) := by decide +kernel
theorem dX4_write_14 : decode cX4_write 14 = .ok (.iload_n 2, 1) := by decide +kernel
theorem dX4_write_15 : decode cX4_write 15 = .ok (.i2b, 1) := by decide +kernel
theorem dX4_write_16 : decode cX4_write 16 = .ok (.goto 18, 3) := by decide +kernel
theorem dX4_write_19 : decode cX4_write 19 = .ok (.aload_n 0, 1) := by decide +kernel
theorem dX4_write_20 : decode cX4_write 20 = .ok (.getfield 15, 3) := by decide +kernel
theorem dX4_write_23 : decode cX4_write 23 = .ok (.bipush 16, 2) := by decide +kernel
theorem dX4_write_25 : decode cX4_write 25 = .ok (.if_icmp .ne 8, 3) := by decide +kernel
theorem dX4_write_28 : decode cX4_write 28 = .ok (.iload_n 2, 1) := by decide +kernel
theorem dX4_write_29 : decode cX4_write 29 = .ok (.i2s, 1) := by decide +kernel
theorem dX4_write_30 : decode cX4_write 30 = .ok (.goto 4, 3) := by decide +kernel
theorem dX4_write_33 : decode cX4_write 33 = .ok (.iload_n 2, 1) := by decide +kernel
theorem dX4_write_34 : decode cX4_write 34 = .ok (.iastore, 1) := by decide +kernel
theorem dX4_write_35 : decode cX4_write 35 = .ok (.return_, 1) := by decide +kernel
theorem dX4_holds_0 : decode cX4_holds 0 = .ok (.iload_n 2, 1) := by decide +kernel
theorem dX4_holds_1 : decode cX4_holds 1 = .ok (.ifCond .lt 29, 3) := by decide +kernel
theorem dX4_holds_4 : decode cX4_holds 4 = .ok (.iload_n 1, 1) := by decide +kernel
theorem dX4_holds_5 : decode cX4_holds 5 = .ok (.ifCond .lt 25, 3) := by decide +kernel
theorem dX4_holds_8 : decode cX4_holds 8 = .ok (.iload_n 2, 1) := by decide +kernel
theorem dX4_holds_9 : decode cX4_holds 9 = .ok (.aload_n 0, 1) := by decide +kernel
theorem dX4_holds_10 : decode cX4_holds 10 = .ok (.getfield 19, 3) := by decide +kernel
theorem dX4_holds_13 : decode cX4_holds 13 = .ok (.if_icmp .gt 17, 3) := by decide +kernel
theorem dX4_holds_16 : decode cX4_holds 16 = .ok (.iload_n 1, 1) := by decide +kernel
theorem dX4_holds_17 : decode cX4_holds 17 = .ok (.aload_n 0, 1) := by decide +kernel
theorem dX4_holds_18 : decode cX4_holds 18 = .ok (.getfield 19, 3) := by decide +kernel
theorem dX4_holds_21 : decode cX4_holds 21 = .ok (.iload_n 2, 1) := by decide +kernel
theorem dX4_holds_22 : decode cX4_holds 22 = .ok (.isub, 1) := by decide +kernel
theorem dX4_holds_23 : decode cX4_holds 23 = .ok (.if_icmp .gt 7, 3) := by decide +kernel
theorem dX4_holds_26 : decode cX4_holds 26 = .ok (.iconst 1, 1) := by decide +kernel
theorem dX4_holds_27 : decode cX4_holds 27 = .ok (.goto 4, 3) := by decide +kernel
theorem dX4_holds_30 : decode cX4_holds 30 = .ok (.iconst 0, 1) := by decide +kernel
theorem dX4_holds_31 : decode cX4_holds 31 = .ok (.ireturn, 1) := by decide +kernel
theorem dX5_note_0 : decode cX5_note 0 = .ok (.aload_n 0, 1) := by decide +kernel
theorem dX5_note_1 : decode cX5_note 1 = .ok (.getfield 29, 3) := by decide +kernel
theorem dX5_note_4 : decode cX5_note 4 = .ok (.bipush 30, 2) := by decide +kernel
theorem dX5_note_6 : decode cX5_note 6 = .ok (.if_icmp .ge 23, 3) := by decide +kernel
theorem dX5_note_9 : decode cX5_note 9 = .ok (.aload_n 0, 1) := by decide +kernel
theorem dX5_note_10 : decode cX5_note 10 = .ok (.getfield 9, 3) := by decide +kernel
theorem dX5_note_13 : decode cX5_note 13 = .ok (.aload_n 0, 1) := by decide +kernel
theorem dX5_note_14 : decode cX5_note 14 = .ok (.getfield 29, 3) := by decide +kernel
theorem dX5_note_17 : decode cX5_note 17 = .ok (.iload_n 1, 1) := by decide +kernel
theorem dX5_note_18 : decode cX5_note 18 = .ok (.iastore, 1) := by decide +kernel
theorem dX5_note_19 : decode cX5_note 19 = .ok (.aload_n 0, 1) := by decide +kernel
theorem dX5_note_20 : decode cX5_note 20 = .ok (.dup, 1) := by decide +kernel
theorem dX5_note_21 : decode cX5_note 21 = .ok (.getfield 29, 3) := by decide +kernel
theorem dX5_note_24 : decode cX5_note 24 = .ok (.iconst 1, 1) := by decide +kernel
theorem dX5_note_25 : decode cX5_note 25 = .ok (.iadd, 1) := by decide +kernel
theorem dX5_note_26 : decode cX5_note 26 = .ok (.putfield 29, 3) := by decide +kernel
theorem dX5_note_29 : decode cX5_note 29 = .ok (.return_, 1) := by decide +kernel
theorem dX5_quotient_0 : decode cX5_quotient 0 = .ok (.iload_n 2, 1) := by decide +kernel
theorem dX5_quotient_1 : decode cX5_quotient 1 = .ok (.ifCond .ne 10, 3) := by decide +kernel
theorem dX5_quotient_4 : decode cX5_quotient 4 = .ok (.aload_n 0, 1) := by decide +kernel
theorem dX5_quotient_5 : decode cX5_quotient 5 = .ok (.iconst 1, 1) := by decide +kernel
theorem dX5_quotient_6 : decode cX5_quotient 6 = .ok (.putfield 32, 3) := by decide +kernel
theorem dX5_quotient_9 : decode cX5_quotient 9 = .ok (.iconst 0, 1) := by decide +kernel
theorem dX5_quotient_10 : decode cX5_quotient 10 = .ok (.ireturn, 1) := by decide +kernel
theorem dX5_quotient_11 : decode cX5_quotient 11 = .ok (.iload_n 1, 1) := by decide +kernel
theorem dX5_quotient_12 : decode cX5_quotient 12 = .ok (.iload_n 2, 1) := by decide +kernel
theorem dX5_quotient_13 : decode cX5_quotient 13 = .ok (.idiv, 1) := by decide +kernel
theorem dX5_quotient_14 : decode cX5_quotient 14 = .ok (.ireturn, 1) := by decide +kernel
theorem dX5_speak_0 : decode cX5_speak 0 = .ok (.aload_n 0, 1) := by decide +kernel
theorem dX5_speak_1 : decode cX5_speak 1 = .ok (.getfield 32, 3) := by decide +kernel
theorem dX5_speak_4 : decode cX5_speak 4 = .ok (.ifCond .ne 10, 3) := by decide +kernel
theorem dX5_speak_7 : decode cX5_speak 7 = .ok (.iload 4, 2) := by decide +kernel
theorem dX5_speak_9 : decode cX5_speak 9 = .ok (.bipush 30, 2) := by decide +kernel
theorem dX5_speak_11 : decode cX5_speak 11 = .ok (.if_icmp .le 5, 3) := by decide +kernel
theorem dX5_speak_14 : decode cX5_speak 14 = .ok (.iconst 0, 1) := by decide +kernel
theorem dX5_speak_15 : decode cX5_speak 15 = .ok (.ireturn, 1) := by decide +kernel
theorem dX5_speak_16 : decode cX5_speak 16 = .ok (.iload_n 2, 1) := by decide +kernel
theorem dX5_speak_17 : decode cX5_speak 17 = .ok (.istore 5, 2) := by decide +kernel
theorem dX5_speak_19 : decode cX5_speak 19 = .ok (.iconst 0, 1) := by decide +kernel
theorem dX5_speak_20 : decode cX5_speak 20 = .ok (.istore 6, 2) := by decide +kernel
theorem dX5_speak_22 : decode cX5_speak 22 = .ok (.iload 6, 2) := by decide +kernel
theorem dX5_speak_24 : decode cX5_speak 24 = .ok (.bipush 7, 2) := by decide +kernel
theorem dX5_speak_26 : decode cX5_speak 26 = .ok (.if_icmp .ge 64, 3) := by decide +kernel
theorem dX5_speak_29 : decode cX5_speak 29 = .ok (.iload 5, 2) := by decide +kernel
theorem dX5_speak_31 : decode cX5_speak 31 = .ok (.ifCond .lt 59, 3) := by decide +kernel
theorem dX5_speak_34 : decode cX5_speak 34 = .ok (.getstatic 40, 3) := by decide +kernel
theorem dX5_speak_37 : decode cX5_speak 37 = .ok (.iload_n 1, 1) := by decide +kernel
theorem dX5_speak_38 : decode cX5_speak 38 = .ok (.bipush 7, 2) := by decide +kernel
theorem dX5_speak_40 : decode cX5_speak 40 = .ok (.imul, 1) := by decide +kernel
theorem dX5_speak_41 : decode cX5_speak 41 = .ok (.iload 5, 2) := by decide +kernel
theorem dX5_speak_43 : decode cX5_speak 43 = .ok (.iadd, 1) := by decide +kernel
theorem dX5_speak_44 : decode cX5_speak 44 = .ok (.iaload, 1) := by decide +kernel
theorem dX5_speak_45 : decode cX5_speak 45 = .ok (.istore 7, 2) := by decide +kernel
theorem dX5_speak_47 : decode cX5_speak 47 = .ok (.iload 7, 2) := by decide +kernel
theorem dX5_speak_49 : decode cX5_speak 49 = .ok (.ifCond .eq 27, 3) := by decide +kernel
theorem dX5_speak_52 : decode cX5_speak 52 = .ok (.aload_n 0, 1) := by decide +kernel
theorem dX5_speak_53 : decode cX5_speak 53 = .ok (.iload 7, 2) := by decide +kernel
theorem dX5_speak_55 : decode cX5_speak 55 = .ok (.invokevirtual 43, 3) := by decide +kernel
theorem dX5_speak_58 : decode cX5_speak 58 = .ok (.aload_n 0, 1) := by decide +kernel
theorem dX5_speak_59 : decode cX5_speak 59 = .ok (.iload 7, 2) := by decide +kernel
theorem dX5_speak_61 : decode cX5_speak 61 = .ok (.getstatic 47, 3) := by decide +kernel
theorem dX5_speak_64 : decode cX5_speak 64 = .ok (.iload 5, 2) := by decide +kernel
theorem dX5_speak_66 : decode cX5_speak 66 = .ok (.iaload, 1) := by decide +kernel
theorem dX5_speak_67 : decode cX5_speak 67 = .ok (.iload_n 3, 1) := by decide +kernel
theorem dX5_speak_68 : decode cX5_speak 68 = .ok (.iload 4, 2) := by decide +kernel
theorem dX5_speak_70 : decode cX5_speak 70 = .ok (.iconst 1, 1) := by decide +kernel
theorem dX5_speak_71 : decode cX5_speak 71 = .ok (.iadd, 1) := by decide +kernel
theorem dX5_speak_72 : decode cX5_speak 72 = .ok (.invokevirtual 50, 3) := by decide +kernel
theorem dX5_speak_75 : decode cX5_speak 75 = .ok (.ireturn, 1) := by decide +kernel
theorem dX5_speak_76 : decode cX5_speak 76 = .ok (.getstatic 47, 3) := by decide +kernel
theorem dX5_speak_79 : decode cX5_speak 79 = .ok (.iload 5, 2) := by decide +kernel
theorem dX5_speak_81 : decode cX5_speak 81 = .ok (.iaload, 1) := by decide +kernel
theorem dX5_speak_82 : decode cX5_speak 82 = .ok (.istore 5, 2) := by decide +kernel
theorem dX5_speak_84 : decode cX5_speak 84 = .ok (.iinc 6 1, 3) := by decide +kernel
theorem dX5_speak_87 : decode cX5_speak 87 = .ok (.goto (-65), 3) := by decide +kernel
theorem dX5_speak_90 : decode cX5_speak 90 = .ok (.iconst 0, 1) := by decide +kernel
theorem dX5_speak_91 : decode cX5_speak 91 = .ok (.ireturn, 1) := by decide +kernel
theorem dX5_sound_0 : decode cX5_sound 0 = .ok (.iload_n 1, 1) := by decide +kernel
theorem dX5_sound_1 : decode cX5_sound 1 = .ok (.lookupswitch 286 #[(10, 115), (11, 122), (12, 137), (13, 155), (20, 170), (21, 183), (30, 206), (40, 217), (50, 229), (51, 241), (60, 256), (70, 268), (71, 271)], 115) := by decide +kernel
theorem dX5_sound_116 : decode cX5_sound 116 = .ok (.iload_n 3, 1) := by decide +kernel
theorem dX5_sound_117 : decode cX5_sound 117 = .ok (.aload_n 0, 1) := by decide +kernel
theorem dX5_sound_118 : decode cX5_sound 118 = .ok (.getfield 26, 3) := by decide +kernel
theorem dX5_sound_121 : decode cX5_sound 121 = .ok (.iadd, 1) := by decide +kernel
theorem dX5_sound_122 : decode cX5_sound 122 = .ok (.ireturn, 1) := by decide +kernel
theorem dX5_sound_123 : decode cX5_sound 123 = .ok (.aload_n 0, 1) := by decide +kernel
theorem dX5_sound_124 : decode cX5_sound 124 = .ok (.iconst 0, 1) := by decide +kernel
theorem dX5_sound_125 : decode cX5_sound 125 = .ok (.aload_n 0, 1) := by decide +kernel
theorem dX5_sound_126 : decode cX5_sound 126 = .ok (.getfield 21, 3) := by decide +kernel
theorem dX5_sound_129 : decode cX5_sound 129 = .ok (.iload_n 3, 1) := by decide +kernel
theorem dX5_sound_130 : decode cX5_sound 130 = .ok (.iload 4, 2) := by decide +kernel
theorem dX5_sound_132 : decode cX5_sound 132 = .ok (.invokevirtual 36, 3) := by decide +kernel
theorem dX5_sound_135 : decode cX5_sound 135 = .ok (.iconst 2, 1) := by decide +kernel
theorem dX5_sound_136 : decode cX5_sound 136 = .ok (.imul, 1) := by decide +kernel
theorem dX5_sound_137 : decode cX5_sound 137 = .ok (.ireturn, 1) := by decide +kernel
theorem dX5_sound_138 : decode cX5_sound 138 = .ok (.aload_n 0, 1) := by decide +kernel
theorem dX5_sound_139 : decode cX5_sound 139 = .ok (.iconst 1, 1) := by decide +kernel
theorem dX5_sound_140 : decode cX5_sound 140 = .ok (.aload_n 0, 1) := by decide +kernel
theorem dX5_sound_141 : decode cX5_sound 141 = .ok (.getfield 21, 3) := by decide +kernel
theorem dX5_sound_144 : decode cX5_sound 144 = .ok (.iload_n 3, 1) := by decide +kernel
theorem dX5_sound_145 : decode cX5_sound 145 = .ok (.iload 4, 2) := by decide +kernel
theorem dX5_sound_147 : decode cX5_sound 147 = .ok (.invokevirtual 36, 3) := by decide +kernel
theorem dX5_sound_150 : decode cX5_sound 150 = .ok (.aload_n 0, 1) := by decide +kernel
theorem dX5_sound_151 : decode cX5_sound 151 = .ok (.getfield 25, 3) := by decide +kernel
theorem dX5_sound_154 : decode cX5_sound 154 = .ok (.isub, 1) := by decide +kernel
theorem dX5_sound_155 : decode cX5_sound 155 = .ok (.ireturn, 1) := by decide +kernel
theorem dX5_sound_156 : decode cX5_sound 156 = .ok (.aload_n 0, 1) := by decide +kernel
theorem dX5_sound_157 : decode cX5_sound 157 = .ok (.iload_n 3, 1) := by decide +kernel
theorem dX5_sound_158 : decode cX5_sound 158 = .ok (.aload_n 0, 1) := by decide +kernel
theorem dX5_sound_159 : decode cX5_sound 159 = .ok (.getfield 25, 3) := by decide +kernel
theorem dX5_sound_162 : decode cX5_sound 162 = .ok (.aload_n 0, 1) := by decide +kernel
theorem dX5_sound_163 : decode cX5_sound 163 = .ok (.getfield 26, 3) := by decide +kernel
theorem dX5_sound_166 : decode cX5_sound 166 = .ok (.isub, 1) := by decide +kernel
theorem dX5_sound_167 : decode cX5_sound 167 = .ok (.invokevirtual 53, 3) := by decide +kernel
theorem dX5_sound_170 : decode cX5_sound 170 = .ok (.ireturn, 1) := by decide +kernel
theorem dX5_sound_171 : decode cX5_sound 171 = .ok (.aload_n 0, 1) := by decide +kernel
theorem dX5_sound_172 : decode cX5_sound 172 = .ok (.iconst 0, 1) := by decide +kernel
theorem dX5_sound_173 : decode cX5_sound 173 = .ok (.iload_n 2, 1) := by decide +kernel
theorem dX5_sound_174 : decode cX5_sound 174 = .ok (.iload_n 3, 1) := by decide +kernel
theorem dX5_sound_175 : decode cX5_sound 175 = .ok (.iload 4, 2) := by decide +kernel
theorem dX5_sound_177 : decode cX5_sound 177 = .ok (.invokevirtual 36, 3) := by decide +kernel
theorem dX5_sound_180 : decode cX5_sound 180 = .ok (.bipush 6, 2) := by decide +kernel
theorem dX5_sound_182 : decode cX5_sound 182 = .ok (.isub, 1) := by decide +kernel
theorem dX5_sound_183 : decode cX5_sound 183 = .ok (.ireturn, 1) := by decide +kernel
theorem dX5_sound_184 : decode cX5_sound 184 = .ok (.aload_n 0, 1) := by decide +kernel
theorem dX5_sound_185 : decode cX5_sound 185 = .ok (.iconst 3, 1) := by decide +kernel
theorem dX5_sound_186 : decode cX5_sound 186 = .ok (.iload_n 2, 1) := by decide +kernel
theorem dX5_sound_187 : decode cX5_sound 187 = .ok (.iload_n 3, 1) := by decide +kernel
theorem dX5_sound_188 : decode cX5_sound 188 = .ok (.iload 4, 2) := by decide +kernel
theorem dX5_sound_190 : decode cX5_sound 190 = .ok (.invokevirtual 36, 3) := by decide +kernel
theorem dX5_sound_193 : decode cX5_sound 193 = .ok (.aload_n 0, 1) := by decide +kernel
theorem dX5_sound_194 : decode cX5_sound 194 = .ok (.iconst 1, 1) := by decide +kernel
theorem dX5_sound_195 : decode cX5_sound 195 = .ok (.aload_n 0, 1) := by decide +kernel
theorem dX5_sound_196 : decode cX5_sound 196 = .ok (.getfield 21, 3) := by decide +kernel
theorem dX5_sound_199 : decode cX5_sound 199 = .ok (.iconst 1, 1) := by decide +kernel
theorem dX5_sound_200 : decode cX5_sound 200 = .ok (.iload 4, 2) := by decide +kernel
theorem dX5_sound_202 : decode cX5_sound 202 = .ok (.invokevirtual 36, 3) := by decide +kernel
theorem dX5_sound_205 : decode cX5_sound 205 = .ok (.iadd, 1) := by decide +kernel
theorem dX5_sound_206 : decode cX5_sound 206 = .ok (.ireturn, 1) := by decide +kernel
theorem dX5_sound_207 : decode cX5_sound 207 = .ok (.aload_n 0, 1) := by decide +kernel
theorem dX5_sound_208 : decode cX5_sound 208 = .ok (.iconst 1, 1) := by decide +kernel
theorem dX5_sound_209 : decode cX5_sound 209 = .ok (.iload_n 2, 1) := by decide +kernel
theorem dX5_sound_210 : decode cX5_sound 210 = .ok (.iload_n 3, 1) := by decide +kernel
theorem dX5_sound_211 : decode cX5_sound 211 = .ok (.iload 4, 2) := by decide +kernel
theorem dX5_sound_213 : decode cX5_sound 213 = .ok (.invokevirtual 36, 3) := by decide +kernel
theorem dX5_sound_216 : decode cX5_sound 216 = .ok (.ineg, 1) := by decide +kernel
theorem dX5_sound_217 : decode cX5_sound 217 = .ok (.ireturn, 1) := by decide +kernel
theorem dX5_sound_218 : decode cX5_sound 218 = .ok (.aload_n 0, 1) := by decide +kernel
theorem dX5_sound_219 : decode cX5_sound 219 = .ok (.iconst 2, 1) := by decide +kernel
theorem dX5_sound_220 : decode cX5_sound 220 = .ok (.iload_n 2, 1) := by decide +kernel
theorem dX5_sound_221 : decode cX5_sound 221 = .ok (.iload_n 3, 1) := by decide +kernel
theorem dX5_sound_222 : decode cX5_sound 222 = .ok (.iconst 2, 1) := by decide +kernel
theorem dX5_sound_223 : decode cX5_sound 223 = .ok (.idiv, 1) := by decide +kernel
theorem dX5_sound_224 : decode cX5_sound 224 = .ok (.iload 4, 2) := by decide +kernel
theorem dX5_sound_226 : decode cX5_sound 226 = .ok (.invokevirtual 36, 3) := by decide +kernel
theorem dX5_sound_229 : decode cX5_sound 229 = .ok (.ireturn, 1) := by decide +kernel
theorem dX5_sound_230 : decode cX5_sound 230 = .ok (.aload_n 0, 1) := by decide +kernel
theorem dX5_sound_231 : decode cX5_sound 231 = .ok (.iconst 0, 1) := by decide +kernel
theorem dX5_sound_232 : decode cX5_sound 232 = .ok (.iload_n 2, 1) := by decide +kernel
theorem dX5_sound_233 : decode cX5_sound 233 = .ok (.iload_n 3, 1) := by decide +kernel
theorem dX5_sound_234 : decode cX5_sound 234 = .ok (.iload 4, 2) := by decide +kernel
theorem dX5_sound_236 : decode cX5_sound 236 = .ok (.invokevirtual 36, 3) := by decide +kernel
theorem dX5_sound_239 : decode cX5_sound 239 = .ok (.iconst 3, 1) := by decide +kernel
theorem dX5_sound_240 : decode cX5_sound 240 = .ok (.imul, 1) := by decide +kernel
theorem dX5_sound_241 : decode cX5_sound 241 = .ok (.ireturn, 1) := by decide +kernel
theorem dX5_sound_242 : decode cX5_sound 242 = .ok (.aload_n 0, 1) := by decide +kernel
theorem dX5_sound_243 : decode cX5_sound 243 = .ok (.iconst 2, 1) := by decide +kernel
theorem dX5_sound_244 : decode cX5_sound 244 = .ok (.iload_n 2, 1) := by decide +kernel
theorem dX5_sound_245 : decode cX5_sound 245 = .ok (.iload_n 3, 1) := by decide +kernel
theorem dX5_sound_246 : decode cX5_sound 246 = .ok (.iload 4, 2) := by decide +kernel
theorem dX5_sound_248 : decode cX5_sound 248 = .ok (.invokevirtual 36, 3) := by decide +kernel
theorem dX5_sound_251 : decode cX5_sound 251 = .ok (.aload_n 0, 1) := by decide +kernel
theorem dX5_sound_252 : decode cX5_sound 252 = .ok (.getfield 26, 3) := by decide +kernel
theorem dX5_sound_255 : decode cX5_sound 255 = .ok (.ixor, 1) := by decide +kernel
theorem dX5_sound_256 : decode cX5_sound 256 = .ok (.ireturn, 1) := by decide +kernel
theorem dX5_sound_257 : decode cX5_sound 257 = .ok (.aload_n 0, 1) := by decide +kernel
theorem dX5_sound_258 : decode cX5_sound 258 = .ok (.iconst 1, 1) := by decide +kernel
theorem dX5_sound_259 : decode cX5_sound 259 = .ok (.iload_n 2, 1) := by decide +kernel
theorem dX5_sound_260 : decode cX5_sound 260 = .ok (.iload_n 3, 1) := by decide +kernel
theorem dX5_sound_261 : decode cX5_sound 261 = .ok (.iconst 1, 1) := by decide +kernel
theorem dX5_sound_262 : decode cX5_sound 262 = .ok (.iadd, 1) := by decide +kernel
theorem dX5_sound_263 : decode cX5_sound 263 = .ok (.iload 4, 2) := by decide +kernel
theorem dX5_sound_265 : decode cX5_sound 265 = .ok (.invokevirtual 36, 3) := by decide +kernel
theorem dX5_sound_268 : decode cX5_sound 268 = .ok (.ireturn, 1) := by decide +kernel
theorem dX5_sound_269 : decode cX5_sound 269 = .ok (.bipush 8, 2) := by decide +kernel
theorem dX5_sound_271 : decode cX5_sound 271 = .ok (.ireturn, 1) := by decide +kernel
theorem dX5_sound_272 : decode cX5_sound 272 = .ok (.aload_n 0, 1) := by decide +kernel
theorem dX5_sound_273 : decode cX5_sound 273 = .ok (.iconst 1, 1) := by decide +kernel
theorem dX5_sound_274 : decode cX5_sound 274 = .ok (.iload_n 2, 1) := by decide +kernel
theorem dX5_sound_275 : decode cX5_sound 275 = .ok (.iload_n 3, 1) := by decide +kernel
theorem dX5_sound_276 : decode cX5_sound 276 = .ok (.iload 4, 2) := by decide +kernel
theorem dX5_sound_278 : decode cX5_sound 278 = .ok (.invokevirtual 36, 3) := by decide +kernel
theorem dX5_sound_281 : decode cX5_sound 281 = .ok (.aload_n 0, 1) := by decide +kernel
theorem dX5_sound_282 : decode cX5_sound 282 = .ok (.getfield 25, 3) := by decide +kernel
theorem dX5_sound_285 : decode cX5_sound 285 = .ok (.iadd, 1) := by decide +kernel
theorem dX5_sound_286 : decode cX5_sound 286 = .ok (.ireturn, 1) := by decide +kernel
theorem dX5_sound_287 : decode cX5_sound 287 = .ok (.iconst 0, 1) := by decide +kernel
theorem dX5_sound_288 : decode cX5_sound 288 = .ok (.ireturn, 1) := by decide +kernel
theorem dX5_answer_0 : decode cX5_answer 0 = .ok (.aload_n 0, 1) := by decide +kernel
theorem dX5_answer_1 : decode cX5_answer 1 = .ok (.aload_n 1, 1) := by decide +kernel
theorem dX5_answer_2 : decode cX5_answer 2 = .ok (.getfield 15, 3) := by decide +kernel
theorem dX5_answer_5 : decode cX5_answer 5 = .ok (.putfield 21, 3) := by decide +kernel
theorem dX5_answer_8 : decode cX5_answer 8 = .ok (.aload_n 0, 1) := by decide +kernel
theorem dX5_answer_9 : decode cX5_answer 9 = .ok (.aload_n 1, 1) := by decide +kernel
theorem dX5_answer_10 : decode cX5_answer 10 = .ok (.getfield 22, 3) := by decide +kernel
theorem dX5_answer_13 : decode cX5_answer 13 = .ok (.putfield 25, 3) := by decide +kernel
theorem dX5_answer_16 : decode cX5_answer 16 = .ok (.aload_n 0, 1) := by decide +kernel
theorem dX5_answer_17 : decode cX5_answer 17 = .ok (.iload_n 2, 1) := by decide +kernel
theorem dX5_answer_18 : decode cX5_answer 18 = .ok (.putfield 26, 3) := by decide +kernel
theorem dX5_answer_21 : decode cX5_answer 21 = .ok (.aload_n 0, 1) := by decide +kernel
theorem dX5_answer_22 : decode cX5_answer 22 = .ok (.iconst 0, 1) := by decide +kernel
theorem dX5_answer_23 : decode cX5_answer 23 = .ok (.putfield 29, 3) := by decide +kernel
theorem dX5_answer_26 : decode cX5_answer 26 = .ok (.aload_n 0, 1) := by decide +kernel
theorem dX5_answer_27 : decode cX5_answer 27 = .ok (.iconst 0, 1) := by decide +kernel
theorem dX5_answer_28 : decode cX5_answer 28 = .ok (.putfield 32, 3) := by decide +kernel
theorem dX5_answer_31 : decode cX5_answer 31 = .ok (.aload_n 0, 1) := by decide +kernel
theorem dX5_answer_32 : decode cX5_answer 32 = .ok (.iload_n 3, 1) := by decide +kernel
theorem dX5_answer_33 : decode cX5_answer 33 = .ok (.aload_n 0, 1) := by decide +kernel
theorem dX5_answer_34 : decode cX5_answer 34 = .ok (.getfield 21, 3) := by decide +kernel
theorem dX5_answer_37 : decode cX5_answer 37 = .ok (.iload 4, 2) := by decide +kernel
theorem dX5_answer_39 : decode cX5_answer 39 = .ok (.iconst 0, 1) := by decide +kernel
theorem dX5_answer_40 : decode cX5_answer 40 = .ok (.invokevirtual 36, 3) := by decide +kernel
theorem dX5_answer_43 : decode cX5_answer 43 = .ok (.ireturn, 1) := by decide +kernel
theorem dX6_isTold_0 : decode cX6_isTold 0 = .ok (.aload_n 0, 1) := by decide +kernel
theorem dX6_isTold_1 : decode cX6_isTold 1 = .ok (.getfield 21, 3) := by decide +kernel
theorem dX6_isTold_4 : decode cX6_isTold 4 = .ok (.ifCond .le 7, 3) := by decide +kernel
theorem dX6_isTold_7 : decode cX6_isTold 7 = .ok (.iconst 1, 1) := by decide +kernel
theorem dX6_isTold_8 : decode cX6_isTold 8 = .ok (.goto 4, 3) := by decide +kernel
theorem dX6_isTold_11 : decode cX6_isTold 11 = .ok (.iconst 0, 1) := by decide +kernel
theorem dX6_isTold_12 : decode cX6_isTold 12 = .ok (.ireturn, 1) := by decide +kernel
theorem dX6_copyFrom_0 : decode cX6_copyFrom 0 = .ok (.aload_n 0, 1) := by decide +kernel
theorem dX6_copyFrom_1 : decode cX6_copyFrom 1 = .ok (.aload_n 1, 1) := by decide +kernel
theorem dX6_copyFrom_2 : decode cX6_copyFrom 2 = .ok (.getfield 21, 3) := by decide +kernel
theorem dX6_copyFrom_5 : decode cX6_copyFrom 5 = .ok (.putfield 21, 3) := by decide +kernel
theorem dX6_copyFrom_8 : decode cX6_copyFrom 8 = .ok (.aload_n 1, 1) := by decide +kernel
theorem dX6_copyFrom_9 : decode cX6_copyFrom 9 = .ok (.getfield 9, 3) := by decide +kernel
theorem dX6_copyFrom_12 : decode cX6_copyFrom 12 = .ok (.iconst 0, 1) := by decide +kernel
theorem dX6_copyFrom_13 : decode cX6_copyFrom 13 = .ok (.aload_n 0, 1) := by decide +kernel
theorem dX6_copyFrom_14 : decode cX6_copyFrom 14 = .ok (.getfield 9, 3) := by decide +kernel
theorem dX6_copyFrom_17 : decode cX6_copyFrom 17 = .ok (.iconst 0, 1) := by decide +kernel
theorem dX6_copyFrom_18 : decode cX6_copyFrom 18 = .ok (.bipush 60, 2) := by decide +kernel
theorem dX6_copyFrom_20 : decode cX6_copyFrom 20 = .ok (.invokestatic 25, 3) := by decide +kernel
theorem dX6_copyFrom_23 : decode cX6_copyFrom 23 = .ok (.return_, 1) := by decide +kernel
theorem dX7_has_0 : decode cX7_has 0 = .ok (.iload_n 1, 1) := by decide +kernel
theorem dX7_has_1 : decode cX7_has 1 = .ok (.ifCond .lt 15, 3) := by decide +kernel
theorem dX7_has_4 : decode cX7_has 4 = .ok (.iload_n 1, 1) := by decide +kernel
theorem dX7_has_5 : decode cX7_has 5 = .ok (.aload_n 0, 1) := by decide +kernel
theorem dX7_has_6 : decode cX7_has 6 = .ok (.getfield 18, 3) := by decide +kernel
theorem dX7_has_9 : decode cX7_has 9 = .ok (.if_icmp .ge 7, 3) := by decide +kernel
theorem dX7_has_12 : decode cX7_has 12 = .ok (.iconst 1, 1) := by decide +kernel
theorem dX7_has_13 : decode cX7_has 13 = .ok (.goto 4, 3) := by decide +kernel
theorem dX7_has_16 : decode cX7_has 16 = .ok (.iconst 0, 1) := by decide +kernel
theorem dX7_has_17 : decode cX7_has 17 = .ok (.ireturn, 1) := by decide +kernel
theorem dX10_copyFrom_0 : decode cX10_copyFrom 0 = .ok (.aload_n 0, 1) := by decide +kernel
theorem dX10_copyFrom_1 : decode cX10_copyFrom 1 = .ok (.aload_n 1, 1) := by decide +kernel
theorem dX10_copyFrom_2 : decode cX10_copyFrom 2 = .ok (.getfield 15, 3) := by decide +kernel
theorem dX10_copyFrom_5 : decode cX10_copyFrom 5 = .ok (.putfield 15, 3) := by decide +kernel
theorem dX10_copyFrom_8 : decode cX10_copyFrom 8 = .ok (.aload_n 0, 1) := by decide +kernel
theorem dX10_copyFrom_9 : decode cX10_copyFrom 9 = .ok (.aload_n 1, 1) := by decide +kernel
theorem dX10_copyFrom_10 : decode cX10_copyFrom 10 = .ok (.getfield 19, 3) := by decide +kernel
theorem dX10_copyFrom_13 : decode cX10_copyFrom 13 = .ok (.putfield 19, 3) := by decide +kernel
theorem dX10_copyFrom_16 : decode cX10_copyFrom 16 = .ok (.aload_n 1, 1) := by decide +kernel
theorem dX10_copyFrom_17 : decode cX10_copyFrom 17 = .ok (.getfield 9, 3) := by decide +kernel
theorem dX10_copyFrom_20 : decode cX10_copyFrom 20 = .ok (.iconst 0, 1) := by decide +kernel
theorem dX10_copyFrom_21 : decode cX10_copyFrom 21 = .ok (.aload_n 0, 1) := by decide +kernel
theorem dX10_copyFrom_22 : decode cX10_copyFrom 22 = .ok (.getfield 9, 3) := by decide +kernel
theorem dX10_copyFrom_25 : decode cX10_copyFrom 25 = .ok (.iconst 0, 1) := by decide +kernel
theorem dX10_copyFrom_26 : decode cX10_copyFrom 26 = .ok (.bipush 6, 2) := by decide +kernel
theorem dX10_copyFrom_28 : decode cX10_copyFrom 28 = .ok (.invokestatic 22, 3) := by decide +kernel
theorem dX10_copyFrom_31 : decode cX10_copyFrom 31 = .ok (.return_, 1) := by decide +kernel
theorem dX7_copyFrom_0 : decode cX7_copyFrom 0 = .ok (.aload_n 0, 1) := by decide +kernel
theorem dX7_copyFrom_1 : decode cX7_copyFrom 1 = .ok (.aload_n 1, 1) := by decide +kernel
theorem dX7_copyFrom_2 : decode cX7_copyFrom 2 = .ok (.getfield 18, 3) := by decide +kernel
theorem dX7_copyFrom_5 : decode cX7_copyFrom 5 = .ok (.putfield 18, 3) := by decide +kernel
theorem dX7_copyFrom_8 : decode cX7_copyFrom 8 = .ok (.iconst 0, 1) := by decide +kernel
theorem dX7_copyFrom_9 : decode cX7_copyFrom 9 = .ok (.istore_n 2, 1) := by decide +kernel
theorem dX7_copyFrom_10 : decode cX7_copyFrom 10 = .ok (.iload_n 2, 1) := by decide +kernel
theorem dX7_copyFrom_11 : decode cX7_copyFrom 11 = .ok (.bipush 12, 2) := by decide +kernel
theorem dX7_copyFrom_13 : decode cX7_copyFrom 13 = .ok (.if_icmp .ge 24, 3) := by decide +kernel
theorem dX7_copyFrom_16 : decode cX7_copyFrom 16 = .ok (.aload_n 0, 1) := by decide +kernel
theorem dX7_copyFrom_17 : decode cX7_copyFrom 17 = .ok (.getfield 11, 3) := by decide +kernel
theorem dX7_copyFrom_20 : decode cX7_copyFrom 20 = .ok (.iload_n 2, 1) := by decide +kernel
theorem dX7_copyFrom_21 : decode cX7_copyFrom 21 = .ok (.aaload, 1) := by decide +kernel
theorem dX7_copyFrom_22 : decode cX7_copyFrom 22 = .ok (.aload_n 1, 1) := by decide +kernel
theorem dX7_copyFrom_23 : decode cX7_copyFrom 23 = .ok (.getfield 11, 3) := by decide +kernel
theorem dX7_copyFrom_26 : decode cX7_copyFrom 26 = .ok (.iload_n 2, 1) := by decide +kernel
theorem dX7_copyFrom_27 : decode cX7_copyFrom 27 = .ok (.aaload, 1) := by decide +kernel
theorem dX7_copyFrom_28 : decode cX7_copyFrom 28 = .ok (.invokevirtual 22, 3) := by decide +kernel
theorem dX7_copyFrom_31 : decode cX7_copyFrom 31 = .ok (.iinc 2 1, 3) := by decide +kernel
theorem dX7_copyFrom_34 : decode cX7_copyFrom 34 = .ok (.goto (-24), 3) := by decide +kernel
theorem dX7_copyFrom_37 : decode cX7_copyFrom 37 = .ok (.return_, 1) := by decide +kernel
theorem dX9_copyFrom_0 : decode cX9_copyFrom 0 = .ok (.aload_n 0, 1) := by decide +kernel
theorem dX9_copyFrom_1 : decode cX9_copyFrom 1 = .ok (.aload_n 1, 1) := by decide +kernel
theorem dX9_copyFrom_2 : decode cX9_copyFrom 2 = .ok (.getfield 15, 3) := by decide +kernel
theorem dX9_copyFrom_5 : decode cX9_copyFrom 5 = .ok (.putfield 15, 3) := by decide +kernel
theorem dX9_copyFrom_8 : decode cX9_copyFrom 8 = .ok (.aload_n 0, 1) := by decide +kernel
theorem dX9_copyFrom_9 : decode cX9_copyFrom 9 = .ok (.aload_n 1, 1) := by decide +kernel
theorem dX9_copyFrom_10 : decode cX9_copyFrom 10 = .ok (.getfield 19, 3) := by decide +kernel
theorem dX9_copyFrom_13 : decode cX9_copyFrom 13 = .ok (.putfield 19, 3) := by decide +kernel
theorem dX9_copyFrom_16 : decode cX9_copyFrom 16 = .ok (.aload_n 0, 1) := by decide +kernel
theorem dX9_copyFrom_17 : decode cX9_copyFrom 17 = .ok (.aload_n 1, 1) := by decide +kernel
theorem dX9_copyFrom_18 : decode cX9_copyFrom 18 = .ok (.getfield 22, 3) := by decide +kernel
theorem dX9_copyFrom_21 : decode cX9_copyFrom 21 = .ok (.putfield 22, 3) := by decide +kernel
theorem dX9_copyFrom_24 : decode cX9_copyFrom 24 = .ok (.aload_n 1, 1) := by decide +kernel
theorem dX9_copyFrom_25 : decode cX9_copyFrom 25 = .ok (.getfield 9, 3) := by decide +kernel
theorem dX9_copyFrom_28 : decode cX9_copyFrom 28 = .ok (.iconst 0, 1) := by decide +kernel
theorem dX9_copyFrom_29 : decode cX9_copyFrom 29 = .ok (.aload_n 0, 1) := by decide +kernel
theorem dX9_copyFrom_30 : decode cX9_copyFrom 30 = .ok (.getfield 9, 3) := by decide +kernel
theorem dX9_copyFrom_33 : decode cX9_copyFrom 33 = .ok (.iconst 0, 1) := by decide +kernel
theorem dX9_copyFrom_34 : decode cX9_copyFrom 34 = .ok (.bipush 24, 2) := by decide +kernel
theorem dX9_copyFrom_36 : decode cX9_copyFrom 36 = .ok (.invokestatic 31, 3) := by decide +kernel
theorem dX9_copyFrom_39 : decode cX9_copyFrom 39 = .ok (.return_, 1) := by decide +kernel
theorem dX8_copyFrom_0 : decode cX8_copyFrom 0 = .ok (.iconst 0, 1) := by decide +kernel
theorem dX8_copyFrom_1 : decode cX8_copyFrom 1 = .ok (.istore_n 2, 1) := by decide +kernel
theorem dX8_copyFrom_2 : decode cX8_copyFrom 2 = .ok (.iload_n 2, 1) := by decide +kernel
theorem dX8_copyFrom_3 : decode cX8_copyFrom 3 = .ok (.bipush 6, 2) := by decide +kernel
theorem dX8_copyFrom_5 : decode cX8_copyFrom 5 = .ok (.if_icmp .ge 24, 3) := by decide +kernel
theorem dX8_copyFrom_8 : decode cX8_copyFrom 8 = .ok (.aload_n 0, 1) := by decide +kernel
theorem dX8_copyFrom_9 : decode cX8_copyFrom 9 = .ok (.getfield 11, 3) := by decide +kernel
theorem dX8_copyFrom_12 : decode cX8_copyFrom 12 = .ok (.iload_n 2, 1) := by decide +kernel
theorem dX8_copyFrom_13 : decode cX8_copyFrom 13 = .ok (.aaload, 1) := by decide +kernel
theorem dX8_copyFrom_14 : decode cX8_copyFrom 14 = .ok (.aload_n 1, 1) := by decide +kernel
theorem dX8_copyFrom_15 : decode cX8_copyFrom 15 = .ok (.getfield 11, 3) := by decide +kernel
theorem dX8_copyFrom_18 : decode cX8_copyFrom 18 = .ok (.iload_n 2, 1) := by decide +kernel
theorem dX8_copyFrom_19 : decode cX8_copyFrom 19 = .ok (.aaload, 1) := by decide +kernel
theorem dX8_copyFrom_20 : decode cX8_copyFrom 20 = .ok (.invokevirtual 52, 3) := by decide +kernel
theorem dX8_copyFrom_23 : decode cX8_copyFrom 23 = .ok (.iinc 2 1, 3) := by decide +kernel
theorem dX8_copyFrom_26 : decode cX8_copyFrom 26 = .ok (.goto (-24), 3) := by decide +kernel
theorem dX8_copyFrom_29 : decode cX8_copyFrom 29 = .ok (.aload_n 0, 1) := by decide +kernel
theorem dX8_copyFrom_30 : decode cX8_copyFrom 30 = .ok (.getfield 20, 3) := by decide +kernel
theorem dX8_copyFrom_33 : decode cX8_copyFrom 33 = .ok (.aload_n 1, 1) := by decide +kernel
theorem dX8_copyFrom_34 : decode cX8_copyFrom 34 = .ok (.getfield 20, 3) := by decide +kernel
theorem dX8_copyFrom_37 : decode cX8_copyFrom 37 = .ok (.invokevirtual 56, 3) := by decide +kernel
theorem dX8_copyFrom_40 : decode cX8_copyFrom 40 = .ok (.aload_n 0, 1) := by decide +kernel
theorem dX8_copyFrom_41 : decode cX8_copyFrom 41 = .ok (.getfield 27, 3) := by decide +kernel
theorem dX8_copyFrom_44 : decode cX8_copyFrom 44 = .ok (.aload_n 1, 1) := by decide +kernel
theorem dX8_copyFrom_45 : decode cX8_copyFrom 45 = .ok (.getfield 27, 3) := by decide +kernel
theorem dX8_copyFrom_48 : decode cX8_copyFrom 48 = .ok (.invokevirtual 59, 3) := by decide +kernel
theorem dX8_copyFrom_51 : decode cX8_copyFrom 51 = .ok (.aload_n 0, 1) := by decide +kernel
theorem dX8_copyFrom_52 : decode cX8_copyFrom 52 = .ok (.getfield 31, 3) := by decide +kernel
theorem dX8_copyFrom_55 : decode cX8_copyFrom 55 = .ok (.aload_n 1, 1) := by decide +kernel
theorem dX8_copyFrom_56 : decode cX8_copyFrom 56 = .ok (.getfield 31, 3) := by decide +kernel
theorem dX8_copyFrom_59 : decode cX8_copyFrom 59 = .ok (.invokevirtual 59, 3) := by decide +kernel
theorem dX8_copyFrom_62 : decode cX8_copyFrom 62 = .ok (.aload_n 1, 1) := by decide +kernel
theorem dX8_copyFrom_63 : decode cX8_copyFrom 63 = .ok (.getfield 34, 3) := by decide +kernel
theorem dX8_copyFrom_66 : decode cX8_copyFrom 66 = .ok (.iconst 0, 1) := by decide +kernel
theorem dX8_copyFrom_67 : decode cX8_copyFrom 67 = .ok (.aload_n 0, 1) := by decide +kernel
theorem dX8_copyFrom_68 : decode cX8_copyFrom 68 = .ok (.getfield 34, 3) := by decide +kernel
theorem dX8_copyFrom_71 : decode cX8_copyFrom 71 = .ok (.iconst 0, 1) := by decide +kernel
theorem dX8_copyFrom_72 : decode cX8_copyFrom 72 = .ok (.bipush 60, 2) := by decide +kernel
theorem dX8_copyFrom_74 : decode cX8_copyFrom 74 = .ok (.invokestatic 62, 3) := by decide +kernel
theorem dX8_copyFrom_77 : decode cX8_copyFrom 77 = .ok (.aload_n 1, 1) := by decide +kernel
theorem dX8_copyFrom_78 : decode cX8_copyFrom 78 = .ok (.getfield 38, 3) := by decide +kernel
theorem dX8_copyFrom_81 : decode cX8_copyFrom 81 = .ok (.iconst 0, 1) := by decide +kernel
theorem dX8_copyFrom_82 : decode cX8_copyFrom 82 = .ok (.aload_n 0, 1) := by decide +kernel
theorem dX8_copyFrom_83 : decode cX8_copyFrom 83 = .ok (.getfield 38, 3) := by decide +kernel
theorem dX8_copyFrom_86 : decode cX8_copyFrom 86 = .ok (.iconst 0, 1) := by decide +kernel
theorem dX8_copyFrom_87 : decode cX8_copyFrom 87 = .ok (.bipush 27, 2) := by decide +kernel
theorem dX8_copyFrom_89 : decode cX8_copyFrom 89 = .ok (.invokestatic 62, 3) := by decide +kernel
theorem dX8_copyFrom_92 : decode cX8_copyFrom 92 = .ok (.aload_n 1, 1) := by decide +kernel
theorem dX8_copyFrom_93 : decode cX8_copyFrom 93 = .ok (.getfield 41, 3) := by decide +kernel
theorem dX8_copyFrom_96 : decode cX8_copyFrom 96 = .ok (.iconst 0, 1) := by decide +kernel
theorem dX8_copyFrom_97 : decode cX8_copyFrom 97 = .ok (.aload_n 0, 1) := by decide +kernel
theorem dX8_copyFrom_98 : decode cX8_copyFrom 98 = .ok (.getfield 41, 3) := by decide +kernel
theorem dX8_copyFrom_101 : decode cX8_copyFrom 101 = .ok (.iconst 0, 1) := by decide +kernel
theorem dX8_copyFrom_102 : decode cX8_copyFrom 102 = .ok (.bipush 24, 2) := by decide +kernel
theorem dX8_copyFrom_104 : decode cX8_copyFrom 104 = .ok (.invokestatic 62, 3) := by decide +kernel
theorem dX8_copyFrom_107 : decode cX8_copyFrom 107 = .ok (.aload_n 0, 1) := by decide +kernel
theorem dX8_copyFrom_108 : decode cX8_copyFrom 108 = .ok (.aload_n 1, 1) := by decide +kernel
theorem dX8_copyFrom_109 : decode cX8_copyFrom 109 = .ok (.getfield 68, 3) := by decide +kernel
theorem dX8_copyFrom_112 : decode cX8_copyFrom 112 = .ok (.putfield 68, 3) := by decide +kernel
theorem dX8_copyFrom_115 : decode cX8_copyFrom 115 = .ok (.aload_n 0, 1) := by decide +kernel
theorem dX8_copyFrom_116 : decode cX8_copyFrom 116 = .ok (.aload_n 1, 1) := by decide +kernel
theorem dX8_copyFrom_117 : decode cX8_copyFrom 117 = .ok (.getfield 71, 3) := by decide +kernel
theorem dX8_copyFrom_120 : decode cX8_copyFrom 120 = .ok (.putfield 71, 3) := by decide +kernel
theorem dX8_copyFrom_123 : decode cX8_copyFrom 123 = .ok (.aload_n 0, 1) := by decide +kernel
theorem dX8_copyFrom_124 : decode cX8_copyFrom 124 = .ok (.aload_n 1, 1) := by decide +kernel
theorem dX8_copyFrom_125 : decode cX8_copyFrom 125 = .ok (.getfield 74, 3) := by decide +kernel
theorem dX8_copyFrom_128 : decode cX8_copyFrom 128 = .ok (.putfield 74, 3) := by decide +kernel
theorem dX8_copyFrom_131 : decode cX8_copyFrom 131 = .ok (.aload_n 0, 1) := by decide +kernel
theorem dX8_copyFrom_132 : decode cX8_copyFrom 132 = .ok (.aload_n 1, 1) := by decide +kernel
theorem dX8_copyFrom_133 : decode cX8_copyFrom 133 = .ok (.getfield 77, 3) := by decide +kernel
theorem dX8_copyFrom_136 : decode cX8_copyFrom 136 = .ok (.putfield 77, 3) := by decide +kernel
theorem dX8_copyFrom_139 : decode cX8_copyFrom 139 = .ok (.aload_n 0, 1) := by decide +kernel
theorem dX8_copyFrom_140 : decode cX8_copyFrom 140 = .ok (.aload_n 1, 1) := by decide +kernel
theorem dX8_copyFrom_141 : decode cX8_copyFrom 141 = .ok (.getfield 44, 3) := by decide +kernel
theorem dX8_copyFrom_144 : decode cX8_copyFrom 144 = .ok (.putfield 44, 3) := by decide +kernel
theorem dX8_copyFrom_147 : decode cX8_copyFrom 147 = .ok (.aload_n 0, 1) := by decide +kernel
theorem dX8_copyFrom_148 : decode cX8_copyFrom 148 = .ok (.aload_n 1, 1) := by decide +kernel
theorem dX8_copyFrom_149 : decode cX8_copyFrom 149 = .ok (.getfield 48, 3) := by decide +kernel
theorem dX8_copyFrom_152 : decode cX8_copyFrom 152 = .ok (.putfield 48, 3) := by decide +kernel
theorem dX8_copyFrom_155 : decode cX8_copyFrom 155 = .ok (.return_, 1) := by decide +kernel
theorem dX8_hasWall_0 : decode cX8_hasWall 0 = .ok (.iload_n 1, 1) := by decide +kernel
theorem dX8_hasWall_1 : decode cX8_hasWall 1 = .ok (.ifCond .lt 15, 3) := by decide +kernel
theorem dX8_hasWall_4 : decode cX8_hasWall 4 = .ok (.iload_n 1, 1) := by decide +kernel
theorem dX8_hasWall_5 : decode cX8_hasWall 5 = .ok (.aload_n 0, 1) := by decide +kernel
theorem dX8_hasWall_6 : decode cX8_hasWall 6 = .ok (.getfield 68, 3) := by decide +kernel
theorem dX8_hasWall_9 : decode cX8_hasWall 9 = .ok (.if_icmp .ge 7, 3) := by decide +kernel
theorem dX8_hasWall_12 : decode cX8_hasWall 12 = .ok (.iconst 1, 1) := by decide +kernel
theorem dX8_hasWall_13 : decode cX8_hasWall 13 = .ok (.goto 4, 3) := by decide +kernel
theorem dX8_hasWall_16 : decode cX8_hasWall 16 = .ok (.iconst 0, 1) := by decide +kernel
theorem dX8_hasWall_17 : decode cX8_hasWall 17 = .ok (.ireturn, 1) := by decide +kernel
theorem dX8_hasPlace_0 : decode cX8_hasPlace 0 = .ok (.aload_n 0, 1) := by decide +kernel
theorem dX8_hasPlace_1 : decode cX8_hasPlace 1 = .ok (.iload_n 1, 1) := by decide +kernel
theorem dX8_hasPlace_2 : decode cX8_hasPlace 2 = .ok (.invokevirtual 80, 3) := by decide +kernel
theorem dX8_hasPlace_5 : decode cX8_hasPlace 5 = .ok (.ifCond .eq 24, 3) := by decide +kernel
theorem dX8_hasPlace_8 : decode cX8_hasPlace 8 = .ok (.iload_n 2, 1) := by decide +kernel
theorem dX8_hasPlace_9 : decode cX8_hasPlace 9 = .ok (.ifCond .lt 20, 3) := by decide +kernel
theorem dX8_hasPlace_12 : decode cX8_hasPlace 12 = .ok (.iload_n 2, 1) := by decide +kernel
theorem dX8_hasPlace_13 : decode cX8_hasPlace 13 = .ok (.aload_n 0, 1) := by decide +kernel
theorem dX8_hasPlace_14 : decode cX8_hasPlace 14 = .ok (.getfield 11, 3) := by decide +kernel
theorem dX8_hasPlace_17 : decode cX8_hasPlace 17 = .ok (.iload_n 1, 1) := by decide +kernel
theorem dX8_hasPlace_18 : decode cX8_hasPlace 18 = .ok (.aaload, 1) := by decide +kernel
theorem dX8_hasPlace_19 : decode cX8_hasPlace 19 = .ok (.getfield 84, 3) := by decide +kernel
theorem dX8_hasPlace_22 : decode cX8_hasPlace 22 = .ok (.if_icmp .ge 7, 3) := by decide +kernel
theorem dX8_hasPlace_25 : decode cX8_hasPlace 25 = .ok (.iconst 1, 1) := by decide +kernel
theorem dX8_hasPlace_26 : decode cX8_hasPlace 26 = .ok (.goto 4, 3) := by decide +kernel
theorem dX8_hasPlace_29 : decode cX8_hasPlace 29 = .ok (.iconst 0, 1) := by decide +kernel
theorem dX8_hasPlace_30 : decode cX8_hasPlace 30 = .ok (.ireturn, 1) := by decide +kernel
theorem dX8_textOf_0 : decode cX8_textOf 0 = .ok (.iload_n 1, 1) := by decide +kernel
theorem dX8_textOf_1 : decode cX8_textOf 1 = .ok (.ifCond .ne 10, 3) := by decide +kernel
theorem dX8_textOf_4 : decode cX8_textOf 4 = .ok (.aload_n 0, 1) := by decide +kernel
theorem dX8_textOf_5 : decode cX8_textOf 5 = .ok (.getfield 27, 3) := by decide +kernel
theorem dX8_textOf_8 : decode cX8_textOf 8 = .ok (.goto 7, 3) := by decide +kernel
theorem dX8_textOf_11 : decode cX8_textOf 11 = .ok (.aload_n 0, 1) := by decide +kernel
theorem dX8_textOf_12 : decode cX8_textOf 12 = .ok (.getfield 31, 3) := by decide +kernel
theorem dX8_textOf_15 : decode cX8_textOf 15 = .ok (.areturn, 1) := by decide +kernel
theorem dX11_isUnder_0 : decode cX11_isUnder 0 = .ok (.iload_n 0, 1) := by decide +kernel
theorem dX11_isUnder_1 : decode cX11_isUnder 1 = .ok (.istore_n 2, 1) := by decide +kernel
theorem dX11_isUnder_2 : decode cX11_isUnder 2 = .ok (.iconst 0, 1) := by decide +kernel
theorem dX11_isUnder_3 : decode cX11_isUnder 3 = .ok (.istore_n 3, 1) := by decide +kernel
theorem dX11_isUnder_4 : decode cX11_isUnder 4 = .ok (.iload_n 3, 1) := by decide +kernel
theorem dX11_isUnder_5 : decode cX11_isUnder 5 = .ok (.bipush 7, 2) := by decide +kernel
theorem dX11_isUnder_7 : decode cX11_isUnder 7 = .ok (.if_icmp .ge 26, 3) := by decide +kernel
theorem dX11_isUnder_10 : decode cX11_isUnder 10 = .ok (.iload_n 2, 1) := by decide +kernel
theorem dX11_isUnder_11 : decode cX11_isUnder 11 = .ok (.ifCond .lt 22, 3) := by decide +kernel
theorem dX11_isUnder_14 : decode cX11_isUnder 14 = .ok (.iload_n 2, 1) := by decide +kernel
theorem dX11_isUnder_15 : decode cX11_isUnder 15 = .ok (.iload_n 1, 1) := by decide +kernel
theorem dX11_isUnder_16 : decode cX11_isUnder 16 = .ok (.if_icmp .ne 5, 3) := by decide +kernel
theorem dX11_isUnder_19 : decode cX11_isUnder 19 = .ok (.iconst 1, 1) := by decide +kernel
theorem dX11_isUnder_20 : decode cX11_isUnder 20 = .ok (.ireturn, 1) := by decide +kernel
theorem dX11_isUnder_21 : decode cX11_isUnder 21 = .ok (.getstatic 329, 3) := by decide +kernel
theorem dX11_isUnder_24 : decode cX11_isUnder 24 = .ok (.iload_n 2, 1) := by decide +kernel
theorem dX11_isUnder_25 : decode cX11_isUnder 25 = .ok (.iaload, 1) := by decide +kernel
theorem dX11_isUnder_26 : decode cX11_isUnder 26 = .ok (.istore_n 2, 1) := by decide +kernel
theorem dX11_isUnder_27 : decode cX11_isUnder 27 = .ok (.iinc 3 1, 3) := by decide +kernel
theorem dX11_isUnder_30 : decode cX11_isUnder 30 = .ok (.goto (-26), 3) := by decide +kernel
theorem dX11_isUnder_33 : decode cX11_isUnder 33 = .ok (.iconst 0, 1) := by decide +kernel
theorem dX11_isUnder_34 : decode cX11_isUnder 34 = .ok (.ireturn, 1) := by decide +kernel
theorem dX8_spell_0 : decode cX8_spell 0 = .ok (.aload_n 3, 1) := by decide +kernel
theorem dX8_spell_1 : decode cX8_spell 1 = .ok (.iconst 0, 1) := by decide +kernel
theorem dX8_spell_2 : decode cX8_spell 2 = .ok (.putfield 87, 3) := by decide +kernel
theorem dX8_spell_5 : decode cX8_spell 5 = .ok (.aload_n 3, 1) := by decide +kernel
theorem dX8_spell_6 : decode cX8_spell 6 = .ok (.aload_n 1, 1) := by decide +kernel
theorem dX8_spell_7 : decode cX8_spell 7 = .ok (.invokevirtual 90, 3) := by decide +kernel
theorem dX8_spell_10 : decode cX8_spell 10 = .ok (.aload_n 1, 1) := by decide +kernel
theorem dX8_spell_11 : decode cX8_spell 11 = .ok (.getfield 93, 3) := by decide +kernel
theorem dX8_spell_14 : decode cX8_spell 14 = .ok (.iconst 3, 1) := by decide +kernel
theorem dX8_spell_15 : decode cX8_spell 15 = .ok (.invokestatic 96, 3) := by decide +kernel
theorem dX8_spell_18 : decode cX8_spell 18 = .ok (.ifCond .eq 35, 3) := by decide +kernel
theorem dX8_spell_21 : decode cX8_spell 21 = .ok (.aload_n 1, 1) := by decide +kernel
theorem dX8_spell_22 : decode cX8_spell 22 = .ok (.getfield 100, 3) := by decide +kernel
theorem dX8_spell_25 : decode cX8_spell 25 = .ok (.iload_n 2, 1) := by decide +kernel
theorem dX8_spell_26 : decode cX8_spell 26 = .ok (.if_icmp .eq 27, 3) := by decide +kernel
theorem dX8_spell_29 : decode cX8_spell 29 = .ok (.aload_n 0, 1) := by decide +kernel
theorem dX8_spell_30 : decode cX8_spell 30 = .ok (.aload_n 1, 1) := by decide +kernel
theorem dX8_spell_31 : decode cX8_spell 31 = .ok (.getfield 100, 3) := by decide +kernel
theorem dX8_spell_34 : decode cX8_spell 34 = .ok (.invokevirtual 80, 3) := by decide +kernel
theorem dX8_spell_37 : decode cX8_spell 37 = .ok (.ifCond .eq 16, 3) := by decide +kernel
theorem dX8_spell_40 : decode cX8_spell 40 = .ok (.aload_n 3, 1) := by decide +kernel
theorem dX8_spell_41 : decode cX8_spell 41 = .ok (.aload_n 0, 1) := by decide +kernel
theorem dX8_spell_42 : decode cX8_spell 42 = .ok (.getfield 11, 3) := by decide +kernel
theorem dX8_spell_45 : decode cX8_spell 45 = .ok (.aload_n 1, 1) := by decide +kernel
theorem dX8_spell_46 : decode cX8_spell 46 = .ok (.getfield 100, 3) := by decide +kernel
theorem dX8_spell_49 : decode cX8_spell 49 = .ok (.aaload, 1) := by decide +kernel
theorem dX8_spell_50 : decode cX8_spell 50 = .ok (.invokevirtual 90, 3) := by decide +kernel
theorem dX8_spell_53 : decode cX8_spell 53 = .ok (.aload_n 1, 1) := by decide +kernel
theorem dX8_spell_54 : decode cX8_spell 54 = .ok (.getfield 93, 3) := by decide +kernel
theorem dX8_spell_57 : decode cX8_spell 57 = .ok (.iconst 1, 1) := by decide +kernel
theorem dX8_spell_58 : decode cX8_spell 58 = .ok (.invokestatic 96, 3) := by decide +kernel
theorem dX8_spell_61 : decode cX8_spell 61 = .ok (.ifCond .ne 11, 3) := by decide +kernel
theorem dX8_spell_64 : decode cX8_spell 64 = .ok (.aload_n 1, 1) := by decide +kernel
theorem dX8_spell_65 : decode cX8_spell 65 = .ok (.getfield 93, 3) := by decide +kernel
theorem dX8_spell_68 : decode cX8_spell 68 = .ok (.iconst 5, 1) := by decide +kernel
theorem dX8_spell_69 : decode cX8_spell 69 = .ok (.if_icmp .ne 7, 3) := by decide +kernel
theorem dX8_spell_72 : decode cX8_spell 72 = .ok (.aload_n 3, 1) := by decide +kernel
theorem dX8_spell_73 : decode cX8_spell 73 = .ok (.invokevirtual 103, 3) := by decide +kernel
theorem dX8_spell_76 : decode cX8_spell 76 = .ok (.aload_n 1, 1) := by decide +kernel
theorem dX8_spell_77 : decode cX8_spell 77 = .ok (.getfield 93, 3) := by decide +kernel
theorem dX8_spell_80 : decode cX8_spell 80 = .ok (.iconst 2, 1) := by decide +kernel
theorem dX8_spell_81 : decode cX8_spell 81 = .ok (.if_icmp .ne 10, 3) := by decide +kernel
theorem dX8_spell_84 : decode cX8_spell 84 = .ok (.aload_n 3, 1) := by decide +kernel
theorem dX8_spell_85 : decode cX8_spell 85 = .ok (.invokevirtual 106, 3) := by decide +kernel
theorem dX8_spell_88 : decode cX8_spell 88 = .ok (.goto 49, 3) := by decide +kernel
theorem dX8_spell_91 : decode cX8_spell 91 = .ok (.aload_n 1, 1) := by decide +kernel
theorem dX8_spell_92 : decode cX8_spell 92 = .ok (.getfield 93, 3) := by decide +kernel
theorem dX8_spell_95 : decode cX8_spell 95 = .ok (.iconst 4, 1) := by decide +kernel
theorem dX8_spell_96 : decode cX8_spell 96 = .ok (.if_icmp .ne 10, 3) := by decide +kernel
theorem dX8_spell_99 : decode cX8_spell 99 = .ok (.aload_n 3, 1) := by decide +kernel
theorem dX8_spell_100 : decode cX8_spell 100 = .ok (.invokevirtual 109, 3) := by decide +kernel
theorem dX8_spell_103 : decode cX8_spell 103 = .ok (.goto 34, 3) := by decide +kernel
theorem dX8_spell_106 : decode cX8_spell 106 = .ok (.aload_n 1, 1) := by decide +kernel
theorem dX8_spell_107 : decode cX8_spell 107 = .ok (.getfield 93, 3) := by decide +kernel
theorem dX8_spell_110 : decode cX8_spell 110 = .ok (.bipush 6, 2) := by decide +kernel
theorem dX8_spell_112 : decode cX8_spell 112 = .ok (.if_icmp .ne 25, 3) := by decide +kernel
theorem dX8_spell_115 : decode cX8_spell 115 = .ok (.aload_n 0, 1) := by decide +kernel
theorem dX8_spell_116 : decode cX8_spell 116 = .ok (.getfield 27, 3) := by decide +kernel
theorem dX8_spell_119 : decode cX8_spell 119 = .ok (.invokevirtual 112, 3) := by decide +kernel
theorem dX8_spell_122 : decode cX8_spell 122 = .ok (.ifCond .eq 15, 3) := by decide +kernel
theorem dX8_spell_125 : decode cX8_spell 125 = .ok (.aload_n 3, 1) := by decide +kernel
theorem dX8_spell_126 : decode cX8_spell 126 = .ok (.aload_n 0, 1) := by decide +kernel
theorem dX8_spell_127 : decode cX8_spell 127 = .ok (.getfield 27, 3) := by decide +kernel
theorem dX8_spell_130 : decode cX8_spell 130 = .ok (.aload_n 1, 1) := by decide +kernel
theorem dX8_spell_131 : decode cX8_spell 131 = .ok (.getfield 100, 3) := by decide +kernel
theorem dX8_spell_134 : decode cX8_spell 134 = .ok (.invokevirtual 116, 3) := by decide +kernel
theorem dX8_spell_137 : decode cX8_spell 137 = .ok (.return_, 1) := by decide +kernel
theorem dX8_priceOf_0 : decode cX8_priceOf 0 = .ok (.aload_n 0, 1) := by decide +kernel
theorem dX8_priceOf_1 : decode cX8_priceOf 1 = .ok (.getfield 31, 3) := by decide +kernel
theorem dX8_priceOf_4 : decode cX8_priceOf 4 = .ok (.invokevirtual 112, 3) := by decide +kernel
theorem dX8_priceOf_7 : decode cX8_priceOf 7 = .ok (.ifCond .ne 19, 3) := by decide +kernel
theorem dX8_priceOf_10 : decode cX8_priceOf 10 = .ok (.iload_n 1, 1) := by decide +kernel
theorem dX8_priceOf_11 : decode cX8_priceOf 11 = .ok (.iconst 5, 1) := by decide +kernel
theorem dX8_priceOf_12 : decode cX8_priceOf 12 = .ok (.if_icmp .ne 12, 3) := by decide +kernel
theorem dX8_priceOf_15 : decode cX8_priceOf 15 = .ok (.iconst 1, 1) := by decide +kernel
theorem dX8_priceOf_16 : decode cX8_priceOf 16 = .ok (.aload_n 0, 1) := by decide +kernel
theorem dX8_priceOf_17 : decode cX8_priceOf 17 = .ok (.getfield 77, 3) := by decide +kernel
theorem dX8_priceOf_20 : decode cX8_priceOf 20 = .ok (.iadd, 1) := by decide +kernel
theorem dX8_priceOf_21 : decode cX8_priceOf 21 = .ok (.goto 4, 3) := by decide +kernel
theorem dX8_priceOf_24 : decode cX8_priceOf 24 = .ok (.iconst 1, 1) := by decide +kernel
theorem dX8_priceOf_25 : decode cX8_priceOf 25 = .ok (.ireturn, 1) := by decide +kernel
theorem dX8_priceOf_26 : decode cX8_priceOf 26 = .ok (.aload_n 0, 1) := by decide +kernel
theorem dX8_priceOf_27 : decode cX8_priceOf 27 = .ok (.getfield 31, 3) := by decide +kernel
theorem dX8_priceOf_30 : decode cX8_priceOf 30 = .ok (.iload_n 1, 1) := by decide +kernel
theorem dX8_priceOf_31 : decode cX8_priceOf 31 = .ok (.aload_n 0, 1) := by decide +kernel
theorem dX8_priceOf_32 : decode cX8_priceOf 32 = .ok (.getfield 77, 3) := by decide +kernel
theorem dX8_priceOf_35 : decode cX8_priceOf 35 = .ok (.aload_n 0, 1) := by decide +kernel
theorem dX8_priceOf_36 : decode cX8_priceOf 36 = .ok (.getfield 38, 3) := by decide +kernel
theorem dX8_priceOf_39 : decode cX8_priceOf 39 = .ok (.iload_n 1, 1) := by decide +kernel
theorem dX8_priceOf_40 : decode cX8_priceOf 40 = .ok (.iaload, 1) := by decide +kernel
theorem dX8_priceOf_41 : decode cX8_priceOf 41 = .ok (.iconst 0, 1) := by decide +kernel
theorem dX8_priceOf_42 : decode cX8_priceOf 42 = .ok (.invokevirtual 120, 3) := by decide +kernel
theorem dX8_priceOf_45 : decode cX8_priceOf 45 = .ok (.istore_n 2, 1) := by decide +kernel
theorem dX8_priceOf_46 : decode cX8_priceOf 46 = .ok (.iconst 0, 1) := by decide +kernel
theorem dX8_priceOf_47 : decode cX8_priceOf 47 = .ok (.sipush 999, 3) := by decide +kernel
theorem dX8_priceOf_50 : decode cX8_priceOf 50 = .ok (.iload_n 2, 1) := by decide +kernel
theorem dX8_priceOf_51 : decode cX8_priceOf 51 = .ok (.invokestatic 124, 3) := by decide +kernel
theorem dX8_priceOf_54 : decode cX8_priceOf 54 = .ok (.invokestatic 130, 3) := by decide +kernel
theorem dX8_priceOf_57 : decode cX8_priceOf 57 = .ok (.ireturn, 1) := by decide +kernel
theorem dX8_costOf_0 : decode cX8_costOf 0 = .ok (.iconst 0, 1) := by decide +kernel
theorem dX8_costOf_1 : decode cX8_costOf 1 = .ok (.istore_n 2, 1) := by decide +kernel
theorem dX8_costOf_2 : decode cX8_costOf 2 = .ok (.iconst 0, 1) := by decide +kernel
theorem dX8_costOf_3 : decode cX8_costOf 3 = .ok (.istore_n 3, 1) := by decide +kernel
theorem dX8_costOf_4 : decode cX8_costOf 4 = .ok (.iload_n 3, 1) := by decide +kernel
theorem dX8_costOf_5 : decode cX8_costOf 5 = .ok (.aload_n 1, 1) := by decide +kernel
theorem dX8_costOf_6 : decode cX8_costOf 6 = .ok (.getfield 84, 3) := by decide +kernel
theorem dX8_costOf_9 : decode cX8_costOf 9 = .ok (.if_icmp .ge 35, 3) := by decide +kernel
theorem dX8_costOf_12 : decode cX8_costOf 12 = .ok (.iload_n 2, 1) := by decide +kernel
theorem dX8_costOf_13 : decode cX8_costOf 13 = .ok (.aload_n 1, 1) := by decide +kernel
theorem dX8_costOf_14 : decode cX8_costOf 14 = .ok (.getfield 133, 3) := by decide +kernel
theorem dX8_costOf_17 : decode cX8_costOf 17 = .ok (.iload_n 3, 1) := by decide +kernel
theorem dX8_costOf_18 : decode cX8_costOf 18 = .ok (.iaload, 1) := by decide +kernel
theorem dX8_costOf_19 : decode cX8_costOf 19 = .ok (.ifCond .eq 16, 3) := by decide +kernel
theorem dX8_costOf_22 : decode cX8_costOf 22 = .ok (.aload_n 0, 1) := by decide +kernel
theorem dX8_costOf_23 : decode cX8_costOf 23 = .ok (.aload_n 1, 1) := by decide +kernel
theorem dX8_costOf_24 : decode cX8_costOf 24 = .ok (.getfield 133, 3) := by decide +kernel
theorem dX8_costOf_27 : decode cX8_costOf 27 = .ok (.iload_n 3, 1) := by decide +kernel
theorem dX8_costOf_28 : decode cX8_costOf 28 = .ok (.iaload, 1) := by decide +kernel
theorem dX8_costOf_29 : decode cX8_costOf 29 = .ok (.invokevirtual 136, 3) := by decide +kernel
theorem dX8_costOf_32 : decode cX8_costOf 32 = .ok (.goto 4, 3) := by decide +kernel
theorem dX8_costOf_35 : decode cX8_costOf 35 = .ok (.iconst 0, 1) := by decide +kernel
theorem dX8_costOf_36 : decode cX8_costOf 36 = .ok (.iadd, 1) := by decide +kernel
theorem dX8_costOf_37 : decode cX8_costOf 37 = .ok (.istore_n 2, 1) := by decide +kernel
theorem dX8_costOf_38 : decode cX8_costOf 38 = .ok (.iinc 3 1, 3) := by decide +kernel
theorem dX8_costOf_41 : decode cX8_costOf 41 = .ok (.goto (-37), 3) := by decide +kernel
theorem dX8_costOf_44 : decode cX8_costOf 44 = .ok (.iload_n 2, 1) := by decide +kernel
theorem dX8_costOf_45 : decode cX8_costOf 45 = .ok (.ireturn, 1) := by decide +kernel
theorem dX8_countHeap_0 : decode cX8_countHeap 0 = .ok (.iconst 0, 1) := by decide +kernel
theorem dX8_countHeap_1 : decode cX8_countHeap 1 = .ok (.istore_n 1, 1) := by decide +kernel
theorem dX8_countHeap_2 : decode cX8_countHeap 2 = .ok (.iconst 1, 1) := by decide +kernel
theorem dX8_countHeap_3 : decode cX8_countHeap 3 = .ok (.istore_n 2, 1) := by decide +kernel
theorem dX8_countHeap_4 : decode cX8_countHeap 4 = .ok (.iload_n 2, 1) := by decide +kernel
theorem dX8_countHeap_5 : decode cX8_countHeap 5 = .ok (.bipush 26, 2) := by decide +kernel
theorem dX8_countHeap_7 : decode cX8_countHeap 7 = .ok (.if_icmp .gt 18, 3) := by decide +kernel
theorem dX8_countHeap_10 : decode cX8_countHeap 10 = .ok (.iload_n 1, 1) := by decide +kernel
theorem dX8_countHeap_11 : decode cX8_countHeap 11 = .ok (.aload_n 0, 1) := by decide +kernel
theorem dX8_countHeap_12 : decode cX8_countHeap 12 = .ok (.getfield 38, 3) := by decide +kernel
theorem dX8_countHeap_15 : decode cX8_countHeap 15 = .ok (.iload_n 2, 1) := by decide +kernel
theorem dX8_countHeap_16 : decode cX8_countHeap 16 = .ok (.iaload, 1) := by decide +kernel
theorem dX8_countHeap_17 : decode cX8_countHeap 17 = .ok (.iadd, 1) := by decide +kernel
theorem dX8_countHeap_18 : decode cX8_countHeap 18 = .ok (.istore_n 1, 1) := by decide +kernel
theorem dX8_countHeap_19 : decode cX8_countHeap 19 = .ok (.iinc 2 1, 3) := by decide +kernel
theorem dX8_countHeap_22 : decode cX8_countHeap 22 = .ok (.goto (-18), 3) := by decide +kernel
theorem dX8_countHeap_25 : decode cX8_countHeap 25 = .ok (.iload_n 1, 1) := by decide +kernel
theorem dX8_countHeap_26 : decode cX8_countHeap 26 = .ok (.ireturn, 1) := by decide +kernel
theorem dX8_dropBrick_0 : decode cX8_dropBrick 0 = .ok (.aload_n 1, 1) := by decide +kernel
theorem dX8_dropBrick_1 : decode cX8_dropBrick 1 = .ok (.getfield 133, 3) := by decide +kernel
theorem dX8_dropBrick_4 : decode cX8_dropBrick 4 = .ok (.iload_n 2, 1) := by decide +kernel
theorem dX8_dropBrick_5 : decode cX8_dropBrick 5 = .ok (.iaload, 1) := by decide +kernel
theorem dX8_dropBrick_6 : decode cX8_dropBrick 6 = .ok (.istore_n 3, 1) := by decide +kernel
theorem dX8_dropBrick_7 : decode cX8_dropBrick 7 = .ok (.iload_n 3, 1) := by decide +kernel
theorem dX8_dropBrick_8 : decode cX8_dropBrick 8 = .ok (.ifCond .eq 29, 3) := by decide +kernel
theorem dX8_dropBrick_11 : decode cX8_dropBrick 11 = .ok (.aload_n 0, 1) := by decide +kernel
theorem dX8_dropBrick_12 : decode cX8_dropBrick 12 = .ok (.getfield 38, 3) := by decide +kernel
theorem dX8_dropBrick_15 : decode cX8_dropBrick 15 = .ok (.iload_n 3, 1) := by decide +kernel
theorem dX8_dropBrick_16 : decode cX8_dropBrick 16 = .ok (.bipush 99, 2) := by decide +kernel
theorem dX8_dropBrick_18 : decode cX8_dropBrick 18 = .ok (.aload_n 0, 1) := by decide +kernel
theorem dX8_dropBrick_19 : decode cX8_dropBrick 19 = .ok (.getfield 38, 3) := by decide +kernel
theorem dX8_dropBrick_22 : decode cX8_dropBrick 22 = .ok (.iload_n 3, 1) := by decide +kernel
theorem dX8_dropBrick_23 : decode cX8_dropBrick 23 = .ok (.iaload, 1) := by decide +kernel
theorem dX8_dropBrick_24 : decode cX8_dropBrick 24 = .ok (.iconst 1, 1) := by decide +kernel
theorem dX8_dropBrick_25 : decode cX8_dropBrick 25 = .ok (.iadd, 1) := by decide +kernel
theorem dX8_dropBrick_26 : decode cX8_dropBrick 26 = .ok (.invokestatic 124, 3) := by decide +kernel
theorem dX8_dropBrick_29 : decode cX8_dropBrick 29 = .ok (.iastore, 1) := by decide +kernel
theorem dX8_dropBrick_30 : decode cX8_dropBrick 30 = .ok (.aload_n 1, 1) := by decide +kernel
theorem dX8_dropBrick_31 : decode cX8_dropBrick 31 = .ok (.getfield 133, 3) := by decide +kernel
theorem dX8_dropBrick_34 : decode cX8_dropBrick 34 = .ok (.iload_n 2, 1) := by decide +kernel
theorem dX8_dropBrick_35 : decode cX8_dropBrick 35 = .ok (.iconst 0, 1) := by decide +kernel
theorem dX8_dropBrick_36 : decode cX8_dropBrick 36 = .ok (.iastore, 1) := by decide +kernel
theorem dX8_dropBrick_37 : decode cX8_dropBrick 37 = .ok (.return_, 1) := by decide +kernel
theorem dX8_draw_0 : decode cX8_draw 0 = .ok (.aload_n 0, 1) := by decide +kernel
theorem dX8_draw_1 : decode cX8_draw 1 = .ok (.aload_n 0, 1) := by decide +kernel
theorem dX8_draw_2 : decode cX8_draw 2 = .ok (.getfield 48, 3) := by decide +kernel
theorem dX8_draw_5 : decode cX8_draw 5 = .ok (.ldc 140, 2) := by decide +kernel
theorem dX8_draw_7 : decode cX8_draw 7 = .ok (.imul, 1) := by decide +kernel
theorem dX8_draw_8 : decode cX8_draw 8 = .ok (.sipush 12345, 3) := by decide +kernel
theorem dX8_draw_11 : decode cX8_draw 11 = .ok (.iadd, 1) := by decide +kernel
theorem dX8_draw_12 : decode cX8_draw 12 = .ok (.putfield 48, 3) := by decide +kernel
theorem dX8_draw_15 : decode cX8_draw 15 = .ok (.aload_n 0, 1) := by decide +kernel
theorem dX8_draw_16 : decode cX8_draw 16 = .ok (.getfield 48, 3) := by decide +kernel
theorem dX8_draw_19 : decode cX8_draw 19 = .ok (.bipush 8, 2) := by decide +kernel
theorem dX8_draw_21 : decode cX8_draw 21 = .ok (.iushr, 1) := by decide +kernel
theorem dX8_draw_22 : decode cX8_draw 22 = .ok (.ireturn, 1) := by decide +kernel
theorem dX9_begin_0 : decode cX9_begin 0 = .ok (.aload_n 0, 1) := by decide +kernel
theorem dX9_begin_1 : decode cX9_begin 1 = .ok (.iload_n 1, 1) := by decide +kernel
theorem dX9_begin_2 : decode cX9_begin 2 = .ok (.putfield 15, 3) := by decide +kernel
theorem dX9_begin_5 : decode cX9_begin 5 = .ok (.aload_n 0, 1) := by decide +kernel
theorem dX9_begin_6 : decode cX9_begin 6 = .ok (.iload_n 2, 1) := by decide +kernel
theorem dX9_begin_7 : decode cX9_begin 7 = .ok (.putfield 19, 3) := by decide +kernel
theorem dX9_begin_10 : decode cX9_begin 10 = .ok (.aload_n 0, 1) := by decide +kernel
theorem dX9_begin_11 : decode cX9_begin 11 = .ok (.iload_n 3, 1) := by decide +kernel
theorem dX9_begin_12 : decode cX9_begin 12 = .ok (.putfield 22, 3) := by decide +kernel
theorem dX9_begin_15 : decode cX9_begin 15 = .ok (.aload_n 0, 1) := by decide +kernel
theorem dX9_begin_16 : decode cX9_begin 16 = .ok (.getfield 9, 3) := by decide +kernel
theorem dX9_begin_19 : decode cX9_begin 19 = .ok (.iconst 0, 1) := by decide +kernel
theorem dX9_begin_20 : decode cX9_begin 20 = .ok (.invokestatic 25, 3) := by decide +kernel
theorem dX9_begin_23 : decode cX9_begin 23 = .ok (.return_, 1) := by decide +kernel
theorem dX9_openFrom_0 : decode cX9_openFrom 0 = .ok (.aload_n 0, 1) := by decide +kernel
theorem dX9_openFrom_1 : decode cX9_openFrom 1 = .ok (.getfield 22, 3) := by decide +kernel
theorem dX9_openFrom_4 : decode cX9_openFrom 4 = .ok (.iload_n 1, 1) := by decide +kernel
theorem dX9_openFrom_5 : decode cX9_openFrom 5 = .ok (.iload_n 2, 1) := by decide +kernel
theorem dX9_openFrom_6 : decode cX9_openFrom 6 = .ok (.iadd, 1) := by decide +kernel
theorem dX9_openFrom_7 : decode cX9_openFrom 7 = .ok (.invokestatic 37, 3) := by decide +kernel
theorem dX9_openFrom_10 : decode cX9_openFrom 10 = .ok (.istore_n 3, 1) := by decide +kernel
theorem dX9_openFrom_11 : decode cX9_openFrom 11 = .ok (.iload_n 1, 1) := by decide +kernel
theorem dX9_openFrom_12 : decode cX9_openFrom 12 = .ok (.iconst 0, 1) := by decide +kernel
theorem dX9_openFrom_13 : decode cX9_openFrom 13 = .ok (.invokestatic 43, 3) := by decide +kernel
theorem dX9_openFrom_16 : decode cX9_openFrom 16 = .ok (.istore 4, 2) := by decide +kernel
theorem dX9_openFrom_18 : decode cX9_openFrom 18 = .ok (.iload 4, 2) := by decide +kernel
theorem dX9_openFrom_20 : decode cX9_openFrom 20 = .ok (.iload_n 3, 1) := by decide +kernel
theorem dX9_openFrom_21 : decode cX9_openFrom 21 = .ok (.if_icmp .ge 17, 3) := by decide +kernel
theorem dX9_openFrom_24 : decode cX9_openFrom 24 = .ok (.aload_n 0, 1) := by decide +kernel
theorem dX9_openFrom_25 : decode cX9_openFrom 25 = .ok (.getfield 9, 3) := by decide +kernel
theorem dX9_openFrom_28 : decode cX9_openFrom 28 = .ok (.iload 4, 2) := by decide +kernel
theorem dX9_openFrom_30 : decode cX9_openFrom 30 = .ok (.iconst 0, 1) := by decide +kernel
theorem dX9_openFrom_31 : decode cX9_openFrom 31 = .ok (.iastore, 1) := by decide +kernel
theorem dX9_openFrom_32 : decode cX9_openFrom 32 = .ok (.iinc 4 1, 3) := by decide +kernel
theorem dX9_openFrom_35 : decode cX9_openFrom 35 = .ok (.goto (-17), 3) := by decide +kernel
theorem dX9_openFrom_38 : decode cX9_openFrom 38 = .ok (.return_, 1) := by decide +kernel
theorem dX9_countLetters_0 : decode cX9_countLetters 0 = .ok (.iconst 0, 1) := by decide +kernel
theorem dX9_countLetters_1 : decode cX9_countLetters 1 = .ok (.istore_n 1, 1) := by decide +kernel
theorem dX9_countLetters_2 : decode cX9_countLetters 2 = .ok (.iconst 0, 1) := by decide +kernel
theorem dX9_countLetters_3 : decode cX9_countLetters 3 = .ok (.istore_n 2, 1) := by decide +kernel
theorem dX9_countLetters_4 : decode cX9_countLetters 4 = .ok (.iload_n 2, 1) := by decide +kernel
theorem dX9_countLetters_5 : decode cX9_countLetters 5 = .ok (.aload_n 0, 1) := by decide +kernel
theorem dX9_countLetters_6 : decode cX9_countLetters 6 = .ok (.getfield 22, 3) := by decide +kernel
theorem dX9_countLetters_9 : decode cX9_countLetters 9 = .ok (.if_icmp .ge 26, 3) := by decide +kernel
theorem dX9_countLetters_12 : decode cX9_countLetters 12 = .ok (.iload_n 1, 1) := by decide +kernel
theorem dX9_countLetters_13 : decode cX9_countLetters 13 = .ok (.aload_n 0, 1) := by decide +kernel
theorem dX9_countLetters_14 : decode cX9_countLetters 14 = .ok (.getfield 9, 3) := by decide +kernel
theorem dX9_countLetters_17 : decode cX9_countLetters 17 = .ok (.iload_n 2, 1) := by decide +kernel
theorem dX9_countLetters_18 : decode cX9_countLetters 18 = .ok (.iaload, 1) := by decide +kernel
theorem dX9_countLetters_19 : decode cX9_countLetters 19 = .ok (.ifCond .eq 7, 3) := by decide +kernel
theorem dX9_countLetters_22 : decode cX9_countLetters 22 = .ok (.iconst 1, 1) := by decide +kernel
theorem dX9_countLetters_23 : decode cX9_countLetters 23 = .ok (.goto 4, 3) := by decide +kernel
theorem dX9_countLetters_26 : decode cX9_countLetters 26 = .ok (.iconst 0, 1) := by decide +kernel
theorem dX9_countLetters_27 : decode cX9_countLetters 27 = .ok (.iadd, 1) := by decide +kernel
theorem dX9_countLetters_28 : decode cX9_countLetters 28 = .ok (.istore_n 1, 1) := by decide +kernel
theorem dX9_countLetters_29 : decode cX9_countLetters 29 = .ok (.iinc 2 1, 3) := by decide +kernel
theorem dX9_countLetters_32 : decode cX9_countLetters 32 = .ok (.goto (-28), 3) := by decide +kernel
theorem dX9_countLetters_35 : decode cX9_countLetters 35 = .ok (.iload_n 1, 1) := by decide +kernel
theorem dX9_countLetters_36 : decode cX9_countLetters 36 = .ok (.ireturn, 1) := by decide +kernel
theorem dX10_begin_0 : decode cX10_begin 0 = .ok (.aload_n 0, 1) := by decide +kernel
theorem dX10_begin_1 : decode cX10_begin 1 = .ok (.iload_n 1, 1) := by decide +kernel
theorem dX10_begin_2 : decode cX10_begin 2 = .ok (.putfield 15, 3) := by decide +kernel
theorem dX10_begin_5 : decode cX10_begin 5 = .ok (.aload_n 0, 1) := by decide +kernel
theorem dX10_begin_6 : decode cX10_begin 6 = .ok (.getfield 9, 3) := by decide +kernel
theorem dX10_begin_9 : decode cX10_begin 9 = .ok (.iconst 0, 1) := by decide +kernel
theorem dX10_begin_10 : decode cX10_begin 10 = .ok (.iload_n 2, 1) := by decide +kernel
theorem dX10_begin_11 : decode cX10_begin 11 = .ok (.iastore, 1) := by decide +kernel
theorem dX10_begin_12 : decode cX10_begin 12 = .ok (.aload_n 0, 1) := by decide +kernel
theorem dX10_begin_13 : decode cX10_begin 13 = .ok (.iconst 1, 1) := by decide +kernel
theorem dX10_begin_14 : decode cX10_begin 14 = .ok (.putfield 19, 3) := by decide +kernel
theorem dX10_begin_17 : decode cX10_begin 17 = .ok (.return_, 1) := by decide +kernel
theorem dX11_error_0 : decode cX11_error 0 = .ok (.aload_n 0, 1) := by decide +kernel
theorem dX11_error_1 : decode cX11_error 1 = .ok (.getfield 68, 3) := by decide +kernel
theorem dX11_error_4 : decode cX11_error 4 = .ok (.iload_n 1, 1) := by decide +kernel
theorem dX11_error_5 : decode cX11_error 5 = .ok (.dup2, 1) := by decide +kernel
theorem dX11_error_6 : decode cX11_error 6 = .ok (.iaload, 1) := by decide +kernel
theorem dX11_error_7 : decode cX11_error 7 = .ok (.iconst 1, 1) := by decide +kernel
theorem dX11_error_8 : decode cX11_error 8 = .ok (.iadd, 1) := by decide +kernel
theorem dX11_error_9 : decode cX11_error 9 = .ok (.iastore, 1) := by decide +kernel
theorem dX11_error_10 : decode cX11_error 10 = .ok (.ldc_w 328, 3) := by decide +kernel
theorem dX11_error_13 : decode cX11_error 13 = .ok (.iload_n 1, 1) := by decide +kernel
theorem dX11_error_14 : decode cX11_error 14 = .ok (.isub, 1) := by decide +kernel
theorem dX11_error_15 : decode cX11_error 15 = .ok (.ireturn, 1) := by decide +kernel
theorem dX11_wall_0 : decode cX11_wall 0 = .ok (.iload_n 1, 1) := by decide +kernel
theorem dX11_wall_1 : decode cX11_wall 1 = .ok (.ifCond .lt 19, 3) := by decide +kernel
theorem dX11_wall_4 : decode cX11_wall 4 = .ok (.iload_n 1, 1) := by decide +kernel
theorem dX11_wall_5 : decode cX11_wall 5 = .ok (.bipush 70, 2) := by decide +kernel
theorem dX11_wall_7 : decode cX11_wall 7 = .ok (.if_icmp .ge 13, 3) := by decide +kernel
theorem dX11_wall_10 : decode cX11_wall 10 = .ok (.iload_n 2, 1) := by decide +kernel
theorem dX11_wall_11 : decode cX11_wall 11 = .ok (.ifCond .lt 9, 3) := by decide +kernel
theorem dX11_wall_14 : decode cX11_wall 14 = .ok (.iload_n 2, 1) := by decide +kernel
theorem dX11_wall_15 : decode cX11_wall 15 = .ok (.bipush 24, 2) := by decide +kernel
theorem dX11_wall_17 : decode cX11_wall 17 = .ok (.if_icmp .le 9, 3) := by decide +kernel
theorem dX11_wall_20 : decode cX11_wall 20 = .ok (.aload_n 0, 1) := by decide +kernel
theorem dX11_wall_21 : decode cX11_wall 21 = .ok (.iconst 1, 1) := by decide +kernel
theorem dX11_wall_22 : decode cX11_wall 22 = .ok (.invokevirtual 72, 3) := by decide +kernel
theorem dX11_wall_25 : decode cX11_wall 25 = .ok (.ireturn, 1) := by decide +kernel
theorem dX11_wall_26 : decode cX11_wall 26 = .ok (.aload_n 0, 1) := by decide +kernel
theorem dX11_wall_27 : decode cX11_wall 27 = .ok (.getfield 12, 3) := by decide +kernel
theorem dX11_wall_30 : decode cX11_wall 30 = .ok (.getfield 76, 3) := by decide +kernel
theorem dX11_wall_33 : decode cX11_wall 33 = .ok (.bipush 6, 2) := by decide +kernel
theorem dX11_wall_35 : decode cX11_wall 35 = .ok (.if_icmp .lt 9, 3) := by decide +kernel
theorem dX11_wall_38 : decode cX11_wall 38 = .ok (.aload_n 0, 1) := by decide +kernel
theorem dX11_wall_39 : decode cX11_wall 39 = .ok (.iconst 4, 1) := by decide +kernel
theorem dX11_wall_40 : decode cX11_wall 40 = .ok (.invokevirtual 72, 3) := by decide +kernel
theorem dX11_wall_43 : decode cX11_wall 43 = .ok (.ireturn, 1) := by decide +kernel
theorem dX11_wall_44 : decode cX11_wall 44 = .ok (.aload_n 0, 1) := by decide +kernel
theorem dX11_wall_45 : decode cX11_wall 45 = .ok (.getfield 12, 3) := by decide +kernel
theorem dX11_wall_48 : decode cX11_wall 48 = .ok (.getfield 80, 3) := by decide +kernel
theorem dX11_wall_51 : decode cX11_wall 51 = .ok (.aload_n 0, 1) := by decide +kernel
theorem dX11_wall_52 : decode cX11_wall 52 = .ok (.getfield 12, 3) := by decide +kernel
theorem dX11_wall_55 : decode cX11_wall 55 = .ok (.getfield 76, 3) := by decide +kernel
theorem dX11_wall_58 : decode cX11_wall 58 = .ok (.aaload, 1) := by decide +kernel
theorem dX11_wall_59 : decode cX11_wall 59 = .ok (.iload_n 1, 1) := by decide +kernel
theorem dX11_wall_60 : decode cX11_wall 60 = .ok (.bipush 10, 2) := by decide +kernel
theorem dX11_wall_62 : decode cX11_wall 62 = .ok (.idiv, 1) := by decide +kernel
theorem dX11_wall_63 : decode cX11_wall 63 = .ok (.iload_n 1, 1) := by decide +kernel
theorem dX11_wall_64 : decode cX11_wall 64 = .ok (.bipush 10, 2) := by decide +kernel
theorem dX11_wall_66 : decode cX11_wall 66 = .ok (.irem, 1) := by decide +kernel
theorem dX11_wall_67 : decode cX11_wall 67 = .ok (.iload_n 2, 1) := by decide +kernel
theorem dX11_wall_68 : decode cX11_wall 68 = .ok (.invokevirtual 84, 3) := by decide +kernel
theorem dX11_wall_71 : decode cX11_wall 71 = .ok (.aload_n 0, 1) := by decide +kernel
theorem dX11_wall_72 : decode cX11_wall 72 = .ok (.getfield 12, 3) := by decide +kernel
theorem dX11_wall_75 : decode cX11_wall 75 = .ok (.dup, 1) := by decide +kernel
theorem dX11_wall_76 : decode cX11_wall 76 = .ok (.getfield 76, 3) := by decide +kernel
theorem dX11_wall_79 : decode cX11_wall 79 = .ok (.iconst 1, 1) := by decide +kernel
theorem dX11_wall_80 : decode cX11_wall 80 = .ok (.iadd, 1) := by decide +kernel
theorem dX11_wall_81 : decode cX11_wall 81 = .ok (.putfield 76, 3) := by decide +kernel
theorem dX11_wall_84 : decode cX11_wall 84 = .ok (.aload_n 0, 1) := by decide +kernel
theorem dX11_wall_85 : decode cX11_wall 85 = .ok (.getfield 12, 3) := by decide +kernel
theorem dX11_wall_88 : decode cX11_wall 88 = .ok (.getfield 76, 3) := by decide +kernel
theorem dX11_wall_91 : decode cX11_wall 91 = .ok (.iconst 1, 1) := by decide +kernel
theorem dX11_wall_92 : decode cX11_wall 92 = .ok (.isub, 1) := by decide +kernel
theorem dX11_wall_93 : decode cX11_wall 93 = .ok (.ireturn, 1) := by decide +kernel
theorem dX11_wallIs_0 : decode cX11_wallIs 0 = .ok (.aload_n 0, 1) := by decide +kernel
theorem dX11_wallIs_1 : decode cX11_wallIs 1 = .ok (.getfield 12, 3) := by decide +kernel
theorem dX11_wallIs_4 : decode cX11_wallIs 4 = .ok (.iload_n 1, 1) := by decide +kernel
theorem dX11_wallIs_5 : decode cX11_wallIs 5 = .ok (.invokevirtual 88, 3) := by decide +kernel
theorem dX11_wallIs_8 : decode cX11_wallIs 8 = .ok (.ifCond .eq 13, 3) := by decide +kernel
theorem dX11_wallIs_11 : decode cX11_wallIs 11 = .ok (.iload_n 2, 1) := by decide +kernel
theorem dX11_wallIs_12 : decode cX11_wallIs 12 = .ok (.ifCond .lt 9, 3) := by decide +kernel
theorem dX11_wallIs_15 : decode cX11_wallIs 15 = .ok (.iload_n 2, 1) := by decide +kernel
theorem dX11_wallIs_16 : decode cX11_wallIs 16 = .ok (.bipush 7, 2) := by decide +kernel
theorem dX11_wallIs_18 : decode cX11_wallIs 18 = .ok (.if_icmp .le 9, 3) := by decide +kernel
theorem dX11_wallIs_21 : decode cX11_wallIs 21 = .ok (.aload_n 0, 1) := by decide +kernel
theorem dX11_wallIs_22 : decode cX11_wallIs 22 = .ok (.iconst 1, 1) := by decide +kernel
theorem dX11_wallIs_23 : decode cX11_wallIs 23 = .ok (.invokevirtual 72, 3) := by decide +kernel
theorem dX11_wallIs_26 : decode cX11_wallIs 26 = .ok (.ireturn, 1) := by decide +kernel
theorem dX11_wallIs_27 : decode cX11_wallIs 27 = .ok (.aload_n 0, 1) := by decide +kernel
theorem dX11_wallIs_28 : decode cX11_wallIs 28 = .ok (.getfield 12, 3) := by decide +kernel
theorem dX11_wallIs_31 : decode cX11_wallIs 31 = .ok (.getfield 80, 3) := by decide +kernel
theorem dX11_wallIs_34 : decode cX11_wallIs 34 = .ok (.iload_n 1, 1) := by decide +kernel
theorem dX11_wallIs_35 : decode cX11_wallIs 35 = .ok (.aaload, 1) := by decide +kernel
theorem dX11_wallIs_36 : decode cX11_wallIs 36 = .ok (.astore_n 3, 1) := by decide +kernel
theorem dX11_wallIs_37 : decode cX11_wallIs 37 = .ok (.aload_n 0, 1) := by decide +kernel
theorem dX11_wallIs_38 : decode cX11_wallIs 38 = .ok (.getfield 12, 3) := by decide +kernel
theorem dX11_wallIs_41 : decode cX11_wallIs 41 = .ok (.aload_n 3, 1) := by decide +kernel
theorem dX11_wallIs_42 : decode cX11_wallIs 42 = .ok (.iload_n 1, 1) := by decide +kernel
theorem dX11_wallIs_43 : decode cX11_wallIs 43 = .ok (.aload_n 0, 1) := by decide +kernel
theorem dX11_wallIs_44 : decode cX11_wallIs 44 = .ok (.getfield 36, 3) := by decide +kernel
theorem dX11_wallIs_47 : decode cX11_wallIs 47 = .ok (.invokevirtual 92, 3) := by decide +kernel
theorem dX11_wallIs_50 : decode cX11_wallIs 50 = .ok (.iload_n 2, 1) := by decide +kernel
theorem dX11_wallIs_51 : decode cX11_wallIs 51 = .ok (.tableswitch 129 0 6 #[41, 46, 51, 56, 64, 91, 110], 41) := by decide +kernel
theorem dX11_wallIs_92 : decode cX11_wallIs 92 = .ok (.aload_n 3, 1) := by decide +kernel
theorem dX11_wallIs_93 : decode cX11_wallIs 93 = .ok (.getfield 96, 3) := by decide +kernel
theorem dX11_wallIs_96 : decode cX11_wallIs 96 = .ok (.ireturn, 1) := by decide +kernel
