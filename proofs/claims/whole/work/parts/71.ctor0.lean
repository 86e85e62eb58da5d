theorem zw122 : Cond.methodLink RX10 3 objectInit ∈ WS := zw_mem 122 (by decide +kernel) (by decide +kernel)
theorem zw100 : Cond.instanceMethod objectInit ∈ WS := zw_mem 100 (by decide +kernel) (by decide +kernel)
theorem zw101 : Cond.code objectInit ⟨#[0xb1]⟩ 1 none ∈ WS := zw_mem 101 (by decide +kernel) (by decide +kernel)
theorem zw141 : Cond.arrayClass .int ∈ WS := zw_mem 141 (by decide +kernel) (by decide +kernel)
theorem zw181 : Cond.methodLink RX9 3 objectInit ∈ WS := zw_mem 181 (by decide +kernel) (by decide +kernel)
theorem zw264 : Cond.methodLink RX4 3 objectInit ∈ WS := zw_mem 264 (by decide +kernel) (by decide +kernel)
theorem zw304 : Cond.methodLink RX3 3 objectInit ∈ WS := zw_mem 304 (by decide +kernel) (by decide +kernel)
theorem zw355 : Cond.methodLink RX0 3 objectInit ∈ WS := zw_mem 355 (by decide +kernel) (by decide +kernel)
theorem zw382 : Cond.methodLink RX5 3 objectInit ∈ WS := zw_mem 382 (by decide +kernel) (by decide +kernel)
theorem zw283 : Cond.methodLink RX1 3 objectInit ∈ WS := zw_mem 283 (by decide +kernel) (by decide +kernel)
theorem zw160 : Cond.methodLink RX6 3 objectInit ∈ WS := zw_mem 160 (by decide +kernel) (by decide +kernel)
theorem zw325 : Cond.methodLink RX2 3 objectInit ∈ WS := zw_mem 325 (by decide +kernel) (by decide +kernel)
theorem zw1032 : Cond.methodLink RX12 1 objectInit ∈ WS := zw_mem 1032 (by decide +kernel) (by decide +kernel)
theorem zw115 : Cond.methodLink RX7 3 objectInit ∈ WS := zw_mem 115 (by decide +kernel) (by decide +kernel)
theorem zw116 : Cond.classLink RX7 9 RX10 ∈ WS := zw_mem 116 (by decide +kernel) (by decide +kernel)
theorem zw118 : Cond.instantiable RX10 3 ∈ WS := zw_mem 118 (by decide +kernel) (by decide +kernel)
theorem zw120 : Cond.instanceMethod yX10_init ∈ WS := zw_mem 120 (by decide +kernel) (by decide +kernel)
theorem zw121 : Cond.code yX10_init cX10_init 1 none ∈ WS := zw_mem 121 (by decide +kernel) (by decide +kernel)
theorem zw107 : Cond.methodLink RX8 3 objectInit ∈ WS := zw_mem 107 (by decide +kernel) (by decide +kernel)
theorem zw108 : Cond.classLink RX8 9 RX9 ∈ WS := zw_mem 108 (by decide +kernel) (by decide +kernel)
theorem zw110 : Cond.classLink RX8 17 RX7 ∈ WS := zw_mem 110 (by decide +kernel) (by decide +kernel)
theorem zw111 : Cond.instantiable RX7 2 ∈ WS := zw_mem 111 (by decide +kernel) (by decide +kernel)
theorem zw113 : Cond.instanceMethod yX7_init ∈ WS := zw_mem 113 (by decide +kernel) (by decide +kernel)
theorem zw114 : Cond.code yX7_init cX7_init 2 none ∈ WS := zw_mem 114 (by decide +kernel) (by decide +kernel)
theorem zw112 : Cond.methodLink RX8 19 yX7_init ∈ WS := zw_mem 112 (by decide +kernel) (by decide +kernel)
theorem zw155 : Cond.classLink RX8 24 RX6 ∈ WS := zw_mem 155 (by decide +kernel) (by decide +kernel)
theorem zw156 : Cond.instantiable RX6 4 ∈ WS := zw_mem 156 (by decide +kernel) (by decide +kernel)
theorem zw158 : Cond.instanceMethod yX6_init ∈ WS := zw_mem 158 (by decide +kernel) (by decide +kernel)
theorem zw159 : Cond.code yX6_init cX6_init 1 none ∈ WS := zw_mem 159 (by decide +kernel) (by decide +kernel)
theorem zw177 : Cond.instantiable RX9 4 ∈ WS := zw_mem 177 (by decide +kernel) (by decide +kernel)
theorem zw179 : Cond.instanceMethod yX9_init ∈ WS := zw_mem 179 (by decide +kernel) (by decide +kernel)
theorem zw180 : Cond.code yX9_init cX9_init 1 none ∈ WS := zw_mem 180 (by decide +kernel) (by decide +kernel)
theorem zw99 : Cond.methodLink RX11 3 objectInit ∈ WS := zw_mem 99 (by decide +kernel) (by decide +kernel)
theorem zw102 : Cond.classLink RX11 9 RX8 ∈ WS := zw_mem 102 (by decide +kernel) (by decide +kernel)
theorem zw103 : Cond.instantiable RX8 13 ∈ WS := zw_mem 103 (by decide +kernel) (by decide +kernel)
theorem zw105 : Cond.instanceMethod yX8_init ∈ WS := zw_mem 105 (by decide +kernel) (by decide +kernel)
theorem zw106 : Cond.code yX8_init cX8_init 2 none ∈ WS := zw_mem 106 (by decide +kernel) (by decide +kernel)
theorem zw104 : Cond.methodLink RX11 11 yX8_init ∈ WS := zw_mem 104 (by decide +kernel) (by decide +kernel)
theorem zw258 : Cond.classLink RX11 19 RX4 ∈ WS := zw_mem 258 (by decide +kernel) (by decide +kernel)
theorem zw260 : Cond.instantiable RX4 3 ∈ WS := zw_mem 260 (by decide +kernel) (by decide +kernel)
theorem zw262 : Cond.instanceMethod yX4_init ∈ WS := zw_mem 262 (by decide +kernel) (by decide +kernel)
theorem zw263 : Cond.code yX4_init cX4_init 1 none ∈ WS := zw_mem 263 (by decide +kernel) (by decide +kernel)
theorem zw278 : Cond.classLink RX11 26 RX1 ∈ WS := zw_mem 278 (by decide +kernel) (by decide +kernel)
theorem zw279 : Cond.instantiable RX1 4 ∈ WS := zw_mem 279 (by decide +kernel) (by decide +kernel)
theorem zw281 : Cond.instanceMethod yX1_init ∈ WS := zw_mem 281 (by decide +kernel) (by decide +kernel)
theorem zw282 : Cond.code yX1_init cX1_init 1 none ∈ WS := zw_mem 282 (by decide +kernel) (by decide +kernel)
theorem zw299 : Cond.classLink RX11 33 RX3 ∈ WS := zw_mem 299 (by decide +kernel) (by decide +kernel)
theorem zw300 : Cond.instantiable RX3 2 ∈ WS := zw_mem 300 (by decide +kernel) (by decide +kernel)
theorem zw302 : Cond.instanceMethod yX3_init ∈ WS := zw_mem 302 (by decide +kernel) (by decide +kernel)
theorem zw303 : Cond.code yX3_init cX3_init 1 none ∈ WS := zw_mem 303 (by decide +kernel) (by decide +kernel)
theorem zw318 : Cond.classLink RX11 40 RX9 ∈ WS := zw_mem 318 (by decide +kernel) (by decide +kernel)
theorem zw320 : Cond.classLink RX11 47 RX2 ∈ WS := zw_mem 320 (by decide +kernel) (by decide +kernel)
theorem zw321 : Cond.instantiable RX2 7 ∈ WS := zw_mem 321 (by decide +kernel) (by decide +kernel)
theorem zw323 : Cond.instanceMethod yX2_init ∈ WS := zw_mem 323 (by decide +kernel) (by decide +kernel)
theorem zw324 : Cond.code yX2_init cX2_init 1 none ∈ WS := zw_mem 324 (by decide +kernel) (by decide +kernel)
theorem zw350 : Cond.classLink RX11 54 RX0 ∈ WS := zw_mem 350 (by decide +kernel) (by decide +kernel)
theorem zw351 : Cond.instantiable RX0 6 ∈ WS := zw_mem 351 (by decide +kernel) (by decide +kernel)
theorem zw353 : Cond.instanceMethod yX0_init ∈ WS := zw_mem 353 (by decide +kernel) (by decide +kernel)
theorem zw354 : Cond.code yX0_init cX0_init 1 none ∈ WS := zw_mem 354 (by decide +kernel) (by decide +kernel)
theorem zw377 : Cond.classLink RX11 61 RX5 ∈ WS := zw_mem 377 (by decide +kernel) (by decide +kernel)
theorem zw378 : Cond.instantiable RX5 6 ∈ WS := zw_mem 378 (by decide +kernel) (by decide +kernel)
theorem zw380 : Cond.instanceMethod yX5_init ∈ WS := zw_mem 380 (by decide +kernel) (by decide +kernel)
theorem zw381 : Cond.code yX5_init cX5_init 1 none ∈ WS := zw_mem 381 (by decide +kernel) (by decide +kernel)
theorem dX10_init_0 : decode cX10_init 0 = .ok (.aload_n 0, 1) := by decide +kernel
theorem dX10_init_1 : decode cX10_init 1 = .ok (.invokespecial 3, 3) := by decide +kernel
theorem dX10_init_4 : decode cX10_init 4 = .ok (.aload_n 0, 1) := by decide +kernel
theorem dX10_init_5 : decode cX10_init 5 = .ok (.bipush 6, 2) := by decide +kernel
theorem dX10_init_7 : decode cX10_init 7 = .ok (.newarray .int, 2) := by decide +kernel
theorem dX10_init_9 : decode cX10_init 9 = .ok (.putfield 9, 3) := by decide +kernel
theorem dX10_init_12 : decode cX10_init 12 = .ok (.return_, 1) := by decide +kernel
theorem dX9_init_0 : decode cX9_init 0 = .ok (.aload_n 0, 1) := by decide +kernel
theorem dX9_init_1 : decode cX9_init 1 = .ok (.invokespecial 3, 3) := by decide +kernel
theorem dX9_init_4 : decode cX9_init 4 = .ok (.aload_n 0, 1) := by decide +kernel
theorem dX9_init_5 : decode cX9_init 5 = .ok (.bipush 24, 2) := by decide +kernel
theorem dX9_init_7 : decode cX9_init 7 = .ok (.newarray .int, 2) := by decide +kernel
theorem dX9_init_9 : decode cX9_init 9 = .ok (.putfield 9, 3) := by decide +kernel
theorem dX9_init_12 : decode cX9_init 12 = .ok (.return_, 1) := by decide +kernel
theorem dX4_init_0 : decode cX4_init 0 = .ok (.aload_n 0, 1) := by decide +kernel
theorem dX4_init_1 : decode cX4_init 1 = .ok (.invokespecial 3, 3) := by decide +kernel
theorem dX4_init_4 : decode cX4_init 4 = .ok (.aload_n 0, 1) := by decide +kernel
theorem dX4_init_5 : decode cX4_init 5 = .ok (.bipush 24, 2) := by decide +kernel
theorem dX4_init_7 : decode cX4_init 7 = .ok (.newarray .int, 2) := by decide +kernel
theorem dX4_init_9 : decode cX4_init 9 = .ok (.putfield 9, 3) := by decide +kernel
theorem dX4_init_12 : decode cX4_init 12 = .ok (.return_, 1) := by decide +kernel
theorem dX3_init_0 : decode cX3_init 0 = .ok (.aload_n 0, 1) := by decide +kernel
theorem dX3_init_1 : decode cX3_init 1 = .ok (.invokespecial 3, 3) := by decide +kernel
theorem dX3_init_4 : decode cX3_init 4 = .ok (.aload_n 0, 1) := by decide +kernel
theorem dX3_init_5 : decode cX3_init 5 = .ok (.bipush 48, 2) := by decide +kernel
theorem dX3_init_7 : decode cX3_init 7 = .ok (.newarray .int, 2) := by decide +kernel
theorem dX3_init_9 : decode cX3_init 9 = .ok (.putfield 9, 3) := by decide +kernel
theorem dX3_init_12 : decode cX3_init 12 = .ok (.return_, 1) := by decide +kernel
theorem dX0_init_0 : decode cX0_init 0 = .ok (.aload_n 0, 1) := by decide +kernel
theorem dX0_init_1 : decode cX0_init 1 = .ok (.invokespecial 3, 3) := by decide +kernel
theorem dX0_init_4 : decode cX0_init 4 = .ok (.aload_n 0, 1) := by decide +kernel
theorem dX0_init_5 : decode cX0_init 5 = .ok (.bipush 27, 2) := by decide +kernel
theorem dX0_init_7 : decode cX0_init 7 = .ok (.newarray .int, 2) := by decide +kernel
theorem dX0_init_9 : decode cX0_init 9 = .ok (.putfield 9, 3) := by decide +kernel
theorem dX0_init_12 : decode cX0_init 12 = .ok (.return_, 1) := by decide +kernel
theorem dX5_init_0 : decode cX5_init 0 = .ok (.aload_n 0, 1) := by decide +kernel
theorem dX5_init_1 : decode cX5_init 1 = .ok (.invokespecial 3, 3) := by decide +kernel
theorem dX5_init_4 : decode cX5_init 4 = .ok (.aload_n 0, 1) := by decide +kernel
theorem dX5_init_5 : decode cX5_init 5 = .ok (.bipush 30, 2) := by decide +kernel
theorem dX5_init_7 : decode cX5_init 7 = .ok (.newarray .int, 2) := by decide +kernel
theorem dX5_init_9 : decode cX5_init 9 = .ok (.putfield 9, 3) := by decide +kernel
theorem dX5_init_12 : decode cX5_init 12 = .ok (.return_, 1) := by decide +kernel
theorem dX1_init_0 : decode cX1_init 0 = .ok (.aload_n 0, 1) := by decide +kernel
theorem dX1_init_1 : decode cX1_init 1 = .ok (.invokespecial 3, 3) := by decide +kernel
theorem dX1_init_4 : decode cX1_init 4 = .ok (.aload_n 0, 1) := by decide +kernel
theorem dX1_init_5 : decode cX1_init 5 = .ok (.bipush 49, 2) := by decide +kernel
theorem dX1_init_7 : decode cX1_init 7 = .ok (.newarray .int, 2) := by decide +kernel
theorem dX1_init_9 : decode cX1_init 9 = .ok (.putfield 9, 3) := by decide +kernel
theorem dX1_init_12 : decode cX1_init 12 = .ok (.aload_n 0, 1) := by decide +kernel
theorem dX1_init_13 : decode cX1_init 13 = .ok (.sipush 245, 3) := by decide +kernel
theorem dX1_init_16 : decode cX1_init 16 = .ok (.newarray .int, 2) := by decide +kernel
theorem dX1_init_18 : decode cX1_init 18 = .ok (.putfield 15, 3) := by decide +kernel
theorem dX1_init_21 : decode cX1_init 21 = .ok (.aload_n 0, 1) := by decide +kernel
theorem dX1_init_22 : decode cX1_init 22 = .ok (.bipush 48, 2) := by decide +kernel
theorem dX1_init_24 : decode cX1_init 24 = .ok (.newarray .int, 2) := by decide +kernel
theorem dX1_init_26 : decode cX1_init 26 = .ok (.putfield 18, 3) := by decide +kernel
theorem dX1_init_29 : decode cX1_init 29 = .ok (.return_, 1) := by decide +kernel
theorem dX6_init_0 : decode cX6_init 0 = .ok (.aload_n 0, 1) := by decide +kernel
theorem dX6_init_1 : decode cX6_init 1 = .ok (.invokespecial 3, 3) := by decide +kernel
theorem dX6_init_4 : decode cX6_init 4 = .ok (.aload_n 0, 1) := by decide +kernel
theorem dX6_init_5 : decode cX6_init 5 = .ok (.bipush 60, 2) := by decide +kernel
theorem dX6_init_7 : decode cX6_init 7 = .ok (.newarray .int, 2) := by decide +kernel
theorem dX6_init_9 : decode cX6_init 9 = .ok (.putfield 9, 3) := by decide +kernel
theorem dX6_init_12 : decode cX6_init 12 = .ok (.aload_n 0, 1) := by decide +kernel
theorem dX6_init_13 : decode cX6_init 13 = .ok (.bipush 60, 2) := by decide +kernel
theorem dX6_init_15 : decode cX6_init 15 = .ok (.newarray .int, 2) := by decide +kernel
theorem dX6_init_17 : decode cX6_init 17 = .ok (.putfield 15, 3) := by decide +kernel
theorem dX6_init_20 : decode cX6_init 20 = .ok (.aload_n 0, 1) := by decide +kernel
theorem dX6_init_21 : decode cX6_init 21 = .ok (.iconst 4, 1) := by decide +kernel
theorem dX6_init_22 : decode cX6_init 22 = .ok (.newarray .int, 2) := by decide +kernel
theorem dX6_init_24 : decode cX6_init 24 = .ok (.putfield 18, 3) := by decide +kernel
theorem dX6_init_27 : decode cX6_init 27 = .ok (.return_, 1) := by decide +kernel
theorem dX2_init_0 : decode cX2_init 0 = .ok (.aload_n 0, 1) := by decide +kernel
theorem dX2_init_1 : decode cX2_init 1 = .ok (.invokespecial 3, 3) := by decide +kernel
theorem dX2_init_4 : decode cX2_init 4 = .ok (.aload_n 0, 1) := by decide +kernel
theorem dX2_init_5 : decode cX2_init 5 = .ok (.bipush 60, 2) := by decide +kernel
theorem dX2_init_7 : decode cX2_init 7 = .ok (.newarray .int, 2) := by decide +kernel
theorem dX2_init_9 : decode cX2_init 9 = .ok (.putfield 9, 3) := by decide +kernel
theorem dX2_init_12 : decode cX2_init 12 = .ok (.aload_n 0, 1) := by decide +kernel
theorem dX2_init_13 : decode cX2_init 13 = .ok (.bipush 60, 2) := by decide +kernel
theorem dX2_init_15 : decode cX2_init 15 = .ok (.newarray .int, 2) := by decide +kernel
theorem dX2_init_17 : decode cX2_init 17 = .ok (.putfield 15, 3) := by decide +kernel
theorem dX2_init_20 : decode cX2_init 20 = .ok (.aload_n 0, 1) := by decide +kernel
theorem dX2_init_21 : decode cX2_init 21 = .ok (.ldc 18, 2) := by decide +kernel
theorem dX2_init_23 : decode cX2_init 23 = .ok (.putfield 20, 3) := by decide +kernel
theorem dX2_init_26 : decode cX2_init 26 = .ok (.return_, 1) := by decide +kernel
theorem dX12_init_0 : decode cX12_init 0 = .ok (.aload_n 0, 1) := by decide +kernel
theorem dX12_init_1 : decode cX12_init 1 = .ok (.invokespecial 1, 3) := by decide +kernel
theorem dX12_init_4 : decode cX12_init 4 = .ok (.aload_n 0, 1) := by decide +kernel
theorem dX12_init_5 : decode cX12_init 5 = .ok (.sipush 628, 3) := by decide +kernel
theorem dX12_init_8 : decode cX12_init 8 = .ok (.newarray .int, 2) := by decide +kernel
theorem dX12_init_10 : decode cX12_init 10 = .ok (.putfield 7, 3) := by decide +kernel
theorem dX12_init_13 : decode cX12_init 13 = .ok (.aload_n 0, 1) := by decide +kernel
theorem dX12_init_14 : decode cX12_init 14 = .ok (.sipush 628, 3) := by decide +kernel
theorem dX12_init_17 : decode cX12_init 17 = .ok (.newarray .int, 2) := by decide +kernel
theorem dX12_init_19 : decode cX12_init 19 = .ok (.putfield 13, 3) := by decide +kernel
theorem dX12_init_22 : decode cX12_init 22 = .ok (.aload_n 0, 1) := by decide +kernel
theorem dX12_init_23 : decode cX12_init 23 = .ok (.bipush 7, 2) := by decide +kernel
theorem dX12_init_25 : decode cX12_init 25 = .ok (.newarray .int, 2) := by decide +kernel
theorem dX12_init_27 : decode cX12_init 27 = .ok (.putfield 16, 3) := by decide +kernel
theorem dX12_init_30 : decode cX12_init 30 = .ok (.aload_n 0, 1) := by decide +kernel
theorem dX12_init_31 : decode cX12_init 31 = .ok (.bipush 124, 2) := by decide +kernel
theorem dX12_init_33 : decode cX12_init 33 = .ok (.newarray .int, 2) := by decide +kernel
theorem dX12_init_35 : decode cX12_init 35 = .ok (.putfield 19, 3) := by decide +kernel
theorem dX12_init_38 : decode cX12_init 38 = .ok (.aload_n 0, 1) := by decide +kernel
theorem dX12_init_39 : decode cX12_init 39 = .ok (.sipush 128, 3) := by decide +kernel
theorem dX12_init_42 : decode cX12_init 42 = .ok (.newarray .int, 2) := by decide +kernel
theorem dX12_init_44 : decode cX12_init 44 = .ok (.putfield 22, 3) := by decide +kernel
theorem dX12_init_47 : decode cX12_init 47 = .ok (.aload_n 0, 1) := by decide +kernel
theorem dX12_init_48 : decode cX12_init 48 = .ok (.bipush 64, 2) := by decide +kernel
theorem dX12_init_50 : decode cX12_init 50 = .ok (.newarray .int, 2) := by decide +kernel
theorem dX12_init_52 : decode cX12_init 52 = .ok (.putfield 25, 3) := by decide +kernel
theorem dX12_init_55 : decode cX12_init 55 = .ok (.aload_n 0, 1) := by decide +kernel
theorem dX12_init_56 : decode cX12_init 56 = .ok (.bipush 48, 2) := by decide +kernel
theorem dX12_init_58 : decode cX12_init 58 = .ok (.newarray .int, 2) := by decide +kernel
theorem dX12_init_60 : decode cX12_init 60 = .ok (.putfield 28, 3) := by decide +kernel
theorem dX12_init_63 : decode cX12_init 63 = .ok (.aload_n 0, 1) := by decide +kernel
theorem dX12_init_64 : decode cX12_init 64 = .ok (.sipush 245, 3) := by decide +kernel
theorem dX12_init_67 : decode cX12_init 67 = .ok (.newarray .int, 2) := by decide +kernel
theorem dX12_init_69 : decode cX12_init 69 = .ok (.putfield 31, 3) := by decide +kernel
theorem dX12_init_72 : decode cX12_init 72 = .ok (.aload_n 0, 1) := by decide +kernel
theorem dX12_init_73 : decode cX12_init 73 = .ok (.bipush 48, 2) := by decide +kernel
theorem dX12_init_75 : decode cX12_init 75 = .ok (.newarray .int, 2) := by decide +kernel
theorem dX12_init_77 : decode cX12_init 77 = .ok (.putfield 34, 3) := by decide +kernel
theorem dX12_init_80 : decode cX12_init 80 = .ok (.aload_n 0, 1) := by decide +kernel
theorem dX12_init_81 : decode cX12_init 81 = .ok (.bipush 24, 2) := by decide +kernel
theorem dX12_init_83 : decode cX12_init 83 = .ok (.newarray .int, 2) := by decide +kernel
theorem dX12_init_85 : decode cX12_init 85 = .ok (.putfield 37, 3) := by decide +kernel
theorem dX12_init_88 : decode cX12_init 88 = .ok (.aload_n 0, 1) := by decide +kernel
theorem dX12_init_89 : decode cX12_init 89 = .ok (.bipush 30, 2) := by decide +kernel
theorem dX12_init_91 : decode cX12_init 91 = .ok (.newarray .int, 2) := by decide +kernel
theorem dX12_init_93 : decode cX12_init 93 = .ok (.putfield 40, 3) := by decide +kernel
theorem dX12_init_96 : decode cX12_init 96 = .ok (.aload_n 0, 1) := by decide +kernel
theorem dX12_init_97 : decode cX12_init 97 = .ok (.iconst 4, 1) := by decide +kernel
theorem dX12_init_98 : decode cX12_init 98 = .ok (.newarray .int, 2) := by decide +kernel
theorem dX12_init_100 : decode cX12_init 100 = .ok (.putfield 43, 3) := by decide +kernel
theorem dX12_init_103 : decode cX12_init 103 = .ok (.aload_n 0, 1) := by decide +kernel
theorem dX12_init_104 : decode cX12_init 104 = .ok (.iconst 4, 1) := by decide +kernel
theorem dX12_init_105 : decode cX12_init 105 = .ok (.newarray .int, 2) := by decide +kernel
theorem dX12_init_107 : decode cX12_init 107 = .ok (.putfield 46, 3) := by decide +kernel
theorem dX12_init_110 : decode cX12_init 110 = .ok (.aload_n 0, 1) := by decide +kernel
theorem dX12_init_111 : decode cX12_init 111 = .ok (.bipush 96, 2) := by decide +kernel
theorem dX12_init_113 : decode cX12_init 113 = .ok (.newarray .int, 2) := by decide +kernel
theorem dX12_init_115 : decode cX12_init 115 = .ok (.putfield 49, 3) := by decide +kernel
theorem dX12_init_118 : decode cX12_init 118 = .ok (.aload_n 0, 1) := by decide +kernel
theorem dX12_init_119 : decode cX12_init 119 = .ok (.bipush 24, 2) := by decide +kernel
theorem dX12_init_121 : decode cX12_init 121 = .ok (.newarray .int, 2) := by decide +kernel
theorem dX12_init_123 : decode cX12_init 123 = .ok (.putfield 52, 3) := by decide +kernel
theorem dX12_init_126 : decode cX12_init 126 = .ok (.aload_n 0, 1) := by decide +kernel
theorem dX12_init_127 : decode cX12_init 127 = .ok (.getfield 7, 3) := by decide +kernel
theorem dX12_init_130 : decode cX12_init 130 = .ok (.bipush 6, 2) := by decide +kernel
theorem dX12_init_132 : decode cX12_init 132 = .ok (.iconst 1, 1) := by decide +kernel
theorem dX12_init_133 : decode cX12_init 133 = .ok (.iastore, 1) := by decide +kernel
theorem dX12_init_134 : decode cX12_init 134 = .ok (.aload_n 0, 1) := by decide +kernel
theorem dX12_init_135 : decode cX12_init 135 = .ok (.getfield 7, 3) := by decide +kernel
theorem dX12_init_138 : decode cX12_init 138 = .ok (.iconst 3, 1) := by decide +kernel
theorem dX12_init_139 : decode cX12_init 139 = .ok (.bipush 100, 2) := by decide +kernel
theorem dX12_init_141 : decode cX12_init 141 = .ok (.iastore, 1) := by decide +kernel
theorem dX12_init_142 : decode cX12_init 142 = .ok (.return_, 1) := by decide +kernel
theorem dX7_init_0 : decode cX7_init 0 = .ok (.aload_n 0, 1) := by decide +kernel
theorem dX7_init_1 : decode cX7_init 1 = .ok (.invokespecial 3, 3) := by decide +kernel
theorem dX7_init_4 : decode cX7_init 4 = .ok (.aload_n 0, 1) := by decide +kernel
theorem dX7_init_5 : decode cX7_init 5 = .ok (.bipush 12, 2) := by decide +kernel
theorem dX7_init_7 : decode cX7_init 7 = .ok (.anewarray 9, 3) := by decide +kernel
theorem dX7_init_10 : decode cX7_init 10 = .ok (.putfield 11, 3) := by decide +kernel
theorem dX7_init_13 : decode cX7_init 13 = .ok (.iconst 0, 1) := by decide +kernel
theorem dX7_init_14 : decode cX7_init 14 = .ok (.istore_n 1, 1) := by decide +kernel
theorem dX7_init_15 : decode cX7_init 15 = .ok (.iload_n 1, 1) := by decide +kernel
theorem dX7_init_16 : decode cX7_init 16 = .ok (.bipush 12, 2) := by decide +kernel
theorem dX7_init_18 : decode cX7_init 18 = .ok (.if_icmp .ge 22, 3) := by decide +kernel
theorem dX7_init_21 : decode cX7_init 21 = .ok (.aload_n 0, 1) := by decide +kernel
theorem dX7_init_22 : decode cX7_init 22 = .ok (.getfield 11, 3) := by decide +kernel
theorem dX7_init_25 : decode cX7_init 25 = .ok (.iload_n 1, 1) := by decide +kernel
theorem dX7_init_26 : decode cX7_init 26 = .ok (.new 9, 3) := by decide +kernel
theorem dX7_init_29 : decode cX7_init 29 = .ok (.dup, 1) := by decide +kernel
theorem dX7_init_30 : decode cX7_init 30 = .ok (.invokespecial 17, 3) := by decide +kernel
theorem dX7_init_33 : decode cX7_init 33 = .ok (.aastore, 1) := by decide +kernel
theorem dX7_init_34 : decode cX7_init 34 = .ok (.iinc 1 1, 3) := by decide +kernel
theorem dX7_init_37 : decode cX7_init 37 = .ok (.goto (-22), 3) := by decide +kernel
theorem dX7_init_40 : decode cX7_init 40 = .ok (.return_, 1) := by decide +kernel
theorem dX8_init_0 : decode cX8_init 0 = .ok (.aload_n 0, 1) := by decide +kernel
theorem dX8_init_1 : decode cX8_init 1 = .ok (.invokespecial 3, 3) := by decide +kernel
theorem dX8_init_4 : decode cX8_init 4 = .ok (.aload_n 0, 1) := by decide +kernel
theorem dX8_init_5 : decode cX8_init 5 = .ok (.bipush 6, 2) := by decide +kernel
theorem dX8_init_7 : decode cX8_init 7 = .ok (.anewarray 9, 3) := by decide +kernel
theorem dX8_init_10 : decode cX8_init 10 = .ok (.putfield 11, 3) := by decide +kernel
theorem dX8_init_13 : decode cX8_init 13 = .ok (.aload_n 0, 1) := by decide +kernel
theorem dX8_init_14 : decode cX8_init 14 = .ok (.new 17, 3) := by decide +kernel
theorem dX8_init_17 : decode cX8_init 17 = .ok (.dup, 1) := by decide +kernel
theorem dX8_init_18 : decode cX8_init 18 = .ok (.invokespecial 19, 3) := by decide +kernel
theorem dX8_init_21 : decode cX8_init 21 = .ok (.putfield 20, 3) := by decide +kernel
theorem dX8_init_24 : decode cX8_init 24 = .ok (.aload_n 0, 1) := by decide +kernel
theorem dX8_init_25 : decode cX8_init 25 = .ok (.new 24, 3) := by decide +kernel
theorem dX8_init_28 : decode cX8_init 28 = .ok (.dup, 1) := by decide +kernel
theorem dX8_init_29 : decode cX8_init 29 = .ok (.invokespecial 26, 3) := by decide +kernel
theorem dX8_init_32 : decode cX8_init 32 = .ok (.putfield 27, 3) := by decide +kernel
theorem dX8_init_35 : decode cX8_init 35 = .ok (.aload_n 0, 1) := by decide +kernel
theorem dX8_init_36 : decode cX8_init 36 = .ok (.new 24, 3) := by decide +kernel
theorem dX8_init_39 : decode cX8_init 39 = .ok (.dup, 1) := by decide +kernel
theorem dX8_init_40 : decode cX8_init 40 = .ok (.invokespecial 26, 3) := by decide +kernel
theorem dX8_init_43 : decode cX8_init 43 = .ok (.putfield 31, 3) := by decide +kernel
theorem dX8_init_46 : decode cX8_init 46 = .ok (.aload_n 0, 1) := by decide +kernel
theorem dX8_init_47 : decode cX8_init 47 = .ok (.bipush 60, 2) := by decide +kernel
theorem dX8_init_49 : decode cX8_init 49 = .ok (.newarray .int, 2) := by decide +kernel
theorem dX8_init_51 : decode cX8_init 51 = .ok (.putfield 34, 3) := by decide +kernel
theorem dX8_init_54 : decode cX8_init 54 = .ok (.aload_n 0, 1) := by decide +kernel
theorem dX8_init_55 : decode cX8_init 55 = .ok (.bipush 27, 2) := by decide +kernel
theorem dX8_init_57 : decode cX8_init 57 = .ok (.newarray .int, 2) := by decide +kernel
theorem dX8_init_59 : decode cX8_init 59 = .ok (.putfield 38, 3) := by decide +kernel
theorem dX8_init_62 : decode cX8_init 62 = .ok (.aload_n 0, 1) := by decide +kernel
theorem dX8_init_63 : decode cX8_init 63 = .ok (.bipush 24, 2) := by decide +kernel
theorem dX8_init_65 : decode cX8_init 65 = .ok (.newarray .int, 2) := by decide +kernel
theorem dX8_init_67 : decode cX8_init 67 = .ok (.putfield 41, 3) := by decide +kernel
theorem dX8_init_70 : decode cX8_init 70 = .ok (.aload_n 0, 1) := by decide +kernel
theorem dX8_init_71 : decode cX8_init 71 = .ok (.bipush 100, 2) := by decide +kernel
theorem dX8_init_73 : decode cX8_init 73 = .ok (.putfield 44, 3) := by decide +kernel
theorem dX8_init_76 : decode cX8_init 76 = .ok (.aload_n 0, 1) := by decide +kernel
theorem dX8_init_77 : decode cX8_init 77 = .ok (.iconst 1, 1) := by decide +kernel
theorem dX8_init_78 : decode cX8_init 78 = .ok (.putfield 48, 3) := by decide +kernel
theorem dX8_init_81 : decode cX8_init 81 = .ok (.iconst 0, 1) := by decide +kernel
theorem dX8_init_82 : decode cX8_init 82 = .ok (.istore_n 1, 1) := by decide +kernel
theorem dX8_init_83 : decode cX8_init 83 = .ok (.iload_n 1, 1) := by decide +kernel
theorem dX8_init_84 : decode cX8_init 84 = .ok (.bipush 6, 2) := by decide +kernel
theorem dX8_init_86 : decode cX8_init 86 = .ok (.if_icmp .ge 22, 3) := by decide +kernel
theorem dX8_init_89 : decode cX8_init 89 = .ok (.aload_n 0, 1) := by decide +kernel
theorem dX8_init_90 : decode cX8_init 90 = .ok (.getfield 11, 3) := by decide +kernel
theorem dX8_init_93 : decode cX8_init 93 = .ok (.iload_n 1, 1) := by decide +kernel
theorem dX8_init_94 : decode cX8_init 94 = .ok (.new 9, 3) := by decide +kernel
theorem dX8_init_97 : decode cX8_init 97 = .ok (.dup, 1) := by decide +kernel
theorem dX8_init_98 : decode cX8_init 98 = .ok (.invokespecial 51, 3) := by decide +kernel
theorem dX8_init_101 : decode cX8_init 101 = .ok (.aastore, 1) := by decide +kernel
theorem dX8_init_102 : decode cX8_init 102 = .ok (.iinc 1 1, 3) := by decide +kernel
theorem dX8_init_105 : decode cX8_init 105 = .ok (.goto (-22), 3) := by decide +kernel
theorem dX8_init_108 : decode cX8_init 108 = .ok (.return_, 1) := by decide +kernel
theorem dX11_init_0 : decode cX11_init 0 = .ok (.aload_n 0, 1) := by decide +kernel
theorem dX11_init_1 : decode cX11_init 1 = .ok (.invokespecial 3, 3) := by decide +kernel
theorem dX11_init_4 : decode cX11_init 4 = .ok (.aload_n 0, 1) := by decide +kernel
theorem dX11_init_5 : decode cX11_init 5 = .ok (.new 9, 3) := by decide +kernel
theorem dX11_init_8 : decode cX11_init 8 = .ok (.dup, 1) := by decide +kernel
theorem dX11_init_9 : decode cX11_init 9 = .ok (.invokespecial 11, 3) := by decide +kernel
theorem dX11_init_12 : decode cX11_init 12 = .ok (.putfield 12, 3) := by decide +kernel
theorem dX11_init_15 : decode cX11_init 15 = .ok (.aload_n 0, 1) := by decide +kernel
theorem dX11_init_16 : decode cX11_init 16 = .ok (.new 9, 3) := by decide +kernel
theorem dX11_init_19 : decode cX11_init 19 = .ok (.dup, 1) := by decide +kernel
theorem dX11_init_20 : decode cX11_init 20 = .ok (.invokespecial 11, 3) := by decide +kernel
theorem dX11_init_23 : decode cX11_init 23 = .ok (.putfield 16, 3) := by decide +kernel
theorem dX11_init_26 : decode cX11_init 26 = .ok (.aload_n 0, 1) := by decide +kernel
theorem dX11_init_27 : decode cX11_init 27 = .ok (.iconst 4, 1) := by decide +kernel
theorem dX11_init_28 : decode cX11_init 28 = .ok (.anewarray 19, 3) := by decide +kernel
theorem dX11_init_31 : decode cX11_init 31 = .ok (.putfield 21, 3) := by decide +kernel
theorem dX11_init_34 : decode cX11_init 34 = .ok (.iconst 0, 1) := by decide +kernel
theorem dX11_init_35 : decode cX11_init 35 = .ok (.istore_n 1, 1) := by decide +kernel
theorem dX11_init_36 : decode cX11_init 36 = .ok (.iload_n 1, 1) := by decide +kernel
theorem dX11_init_37 : decode cX11_init 37 = .ok (.iconst 4, 1) := by decide +kernel
theorem dX11_init_38 : decode cX11_init 38 = .ok (.if_icmp .ge 22, 3) := by decide +kernel
theorem dX11_init_41 : decode cX11_init 41 = .ok (.aload_n 0, 1) := by decide +kernel
theorem dX11_init_42 : decode cX11_init 42 = .ok (.getfield 21, 3) := by decide +kernel
theorem dX11_init_45 : decode cX11_init 45 = .ok (.iload_n 1, 1) := by decide +kernel
theorem dX11_init_46 : decode cX11_init 46 = .ok (.new 19, 3) := by decide +kernel
theorem dX11_init_49 : decode cX11_init 49 = .ok (.dup, 1) := by decide +kernel
theorem dX11_init_50 : decode cX11_init 50 = .ok (.invokespecial 25, 3) := by decide +kernel
theorem dX11_init_53 : decode cX11_init 53 = .ok (.aastore, 1) := by decide +kernel
theorem dX11_init_54 : decode cX11_init 54 = .ok (.iinc 1 1, 3) := by decide +kernel
theorem dX11_init_57 : decode cX11_init 57 = .ok (.goto (-21), 3) := by decide +kernel
theorem dX11_init_60 : decode cX11_init 60 = .ok (.aload_n 0, 1) := by decide +kernel
theorem dX11_init_61 : decode cX11_init 61 = .ok (.new 26, 3) := by decide +kernel
theorem dX11_init_64 : decode cX11_init 64 = .ok (.dup, 1) := by decide +kernel
theorem dX11_init_65 : decode cX11_init 65 = .ok (.invokespecial 28, 3) := by decide +kernel
theorem dX11_init_68 : decode cX11_init 68 = .ok (.putfield 29, 3) := by decide +kernel
theorem dX11_init_71 : decode cX11_init 71 = .ok (.aload_n 0, 1) := by decide +kernel
theorem dX11_init_72 : decode cX11_init 72 = .ok (.new 33, 3) := by decide +kernel
theorem dX11_init_75 : decode cX11_init 75 = .ok (.dup, 1) := by decide +kernel
theorem dX11_init_76 : decode cX11_init 76 = .ok (.invokespecial 35, 3) := by decide +kernel
theorem dX11_init_79 : decode cX11_init 79 = .ok (.putfield 36, 3) := by decide +kernel
theorem dX11_init_82 : decode cX11_init 82 = .ok (.aload_n 0, 1) := by decide +kernel
theorem dX11_init_83 : decode cX11_init 83 = .ok (.new 40, 3) := by decide +kernel
theorem dX11_init_86 : decode cX11_init 86 = .ok (.dup, 1) := by decide +kernel
theorem dX11_init_87 : decode cX11_init 87 = .ok (.invokespecial 42, 3) := by decide +kernel
theorem dX11_init_90 : decode cX11_init 90 = .ok (.putfield 43, 3) := by decide +kernel
theorem dX11_init_93 : decode cX11_init 93 = .ok (.aload_n 0, 1) := by decide +kernel
theorem dX11_init_94 : decode cX11_init 94 = .ok (.new 47, 3) := by decide +kernel
theorem dX11_init_97 : decode cX11_init 97 = .ok (.dup, 1) := by decide +kernel
theorem dX11_init_98 : decode cX11_init 98 = .ok (.invokespecial 49, 3) := by decide +kernel
theorem dX11_init_101 : decode cX11_init 101 = .ok (.putfield 50, 3) := by decide +kernel
theorem dX11_init_104 : decode cX11_init 104 = .ok (.aload_n 0, 1) := by decide +kernel
theorem dX11_init_105 : decode cX11_init 105 = .ok (.new 54, 3) := by decide +kernel
theorem dX11_init_108 : decode cX11_init 108 = .ok (.dup, 1) := by decide +kernel
theorem dX11_init_109 : decode cX11_init 109 = .ok (.invokespecial 56, 3) := by decide +kernel
theorem dX11_init_112 : decode cX11_init 112 = .ok (.putfield 57, 3) := by decide +kernel
theorem dX11_init_115 : decode cX11_init 115 = .ok (.aload_n 0, 1) := by decide +kernel
theorem dX11_init_116 : decode cX11_init 116 = .ok (.new 61, 3) := by decide +kernel
theorem dX11_init_119 : decode cX11_init 119 = .ok (.dup, 1) := by decide +kernel
theorem dX11_init_120 : decode cX11_init 120 = .ok (.invokespecial 63, 3) := by decide +kernel
theorem dX11_init_123 : decode cX11_init 123 = .ok (.putfield 64, 3) := by decide +kernel
theorem dX11_init_126 : decode cX11_init 126 = .ok (.aload_n 0, 1) := by decide +kernel
theorem dX11_init_127 : decode cX11_init 127 = .ok (.bipush 7, 2) := by decide +kernel
theorem dX11_init_129 : decode cX11_init 129 = .ok (.newarray .int, 2) := by decide +kernel
theorem dX11_init_131 : decode cX11_init 131 = .ok (.putfield 68, 3) := by decide +kernel
theorem dX11_init_134 : decode cX11_init 134 = .ok (.return_, 1) := by decide +kernel
theorem zd_X10_init : (yX10_init).cls ≠ "java/lang/invoke/MethodHandle" ∧ (yX10_init).cls ≠ "java/lang/invoke/VarHandle" ∧ (parseMethodDescriptor (yX10_init).desc).map (fun d => d.parameters.length) = some 0 := by decide +kernel
theorem zd_X9_init : (yX9_init).cls ≠ "java/lang/invoke/MethodHandle" ∧ (yX9_init).cls ≠ "java/lang/invoke/VarHandle" ∧ (parseMethodDescriptor (yX9_init).desc).map (fun d => d.parameters.length) = some 0 := by decide +kernel
theorem zd_X4_init : (yX4_init).cls ≠ "java/lang/invoke/MethodHandle" ∧ (yX4_init).cls ≠ "java/lang/invoke/VarHandle" ∧ (parseMethodDescriptor (yX4_init).desc).map (fun d => d.parameters.length) = some 0 := by decide +kernel
theorem zd_X3_init : (yX3_init).cls ≠ "java/lang/invoke/MethodHandle" ∧ (yX3_init).cls ≠ "java/lang/invoke/VarHandle" ∧ (parseMethodDescriptor (yX3_init).desc).map (fun d => d.parameters.length) = some 0 := by decide +kernel
theorem zd_X0_init : (yX0_init).cls ≠ "java/lang/invoke/MethodHandle" ∧ (yX0_init).cls ≠ "java/lang/invoke/VarHandle" ∧ (parseMethodDescriptor (yX0_init).desc).map (fun d => d.parameters.length) = some 0 := by decide +kernel
theorem zd_X5_init : (yX5_init).cls ≠ "java/lang/invoke/MethodHandle" ∧ (yX5_init).cls ≠ "java/lang/invoke/VarHandle" ∧ (parseMethodDescriptor (yX5_init).desc).map (fun d => d.parameters.length) = some 0 := by decide +kernel
theorem zd_X1_init : (yX1_init).cls ≠ "java/lang/invoke/MethodHandle" ∧ (yX1_init).cls ≠ "java/lang/invoke/VarHandle" ∧ (parseMethodDescriptor (yX1_init).desc).map (fun d => d.parameters.length) = some 0 := by decide +kernel
theorem zd_X6_init : (yX6_init).cls ≠ "java/lang/invoke/MethodHandle" ∧ (yX6_init).cls ≠ "java/lang/invoke/VarHandle" ∧ (parseMethodDescriptor (yX6_init).desc).map (fun d => d.parameters.length) = some 0 := by decide +kernel
theorem zd_X2_init : (yX2_init).cls ≠ "java/lang/invoke/MethodHandle" ∧ (yX2_init).cls ≠ "java/lang/invoke/VarHandle" ∧ (parseMethodDescriptor (yX2_init).desc).map (fun d => d.parameters.length) = some 0 := by decide +kernel
theorem zd_X12_init : (yX12_init).cls ≠ "java/lang/invoke/MethodHandle" ∧ (yX12_init).cls ≠ "java/lang/invoke/VarHandle" ∧ (parseMethodDescriptor (yX12_init).desc).map (fun d => d.parameters.length) = some 0 := by decide +kernel
theorem zd_X7_init : (yX7_init).cls ≠ "java/lang/invoke/MethodHandle" ∧ (yX7_init).cls ≠ "java/lang/invoke/VarHandle" ∧ (parseMethodDescriptor (yX7_init).desc).map (fun d => d.parameters.length) = some 0 := by decide +kernel
theorem zd_X8_init : (yX8_init).cls ≠ "java/lang/invoke/MethodHandle" ∧ (yX8_init).cls ≠ "java/lang/invoke/VarHandle" ∧ (parseMethodDescriptor (yX8_init).desc).map (fun d => d.parameters.length) = some 0 := by decide +kernel
theorem zd_X11_init : (yX11_init).cls ≠ "java/lang/invoke/MethodHandle" ∧ (yX11_init).cls ≠ "java/lang/invoke/VarHandle" ∧ (parseMethodDescriptor (yX11_init).desc).map (fun d => d.parameters.length) = some 0 := by decide +kernel
def kw10 (G : zG) (α : Nat → Nat) : va_W := [(α 0, .inr (10, [.ref (α 1), .int (nI 0), .int (nI 0)])), (α 1, .inl (zcl G 0, 6, .inl (fun _ => nI 0)))]
def kw9 (G : zG) (α : Nat → Nat) : va_W := [(α 0, .inr (9, [.ref (α 1), .int (nI 0), .int (nI 0), .int (nI 0)])), (α 1, .inl (zcl G 0, 24, .inl (fun _ => nI 0)))]
def kw4 (G : zG) (α : Nat → Nat) : va_W := [(α 0, .inr (4, [.ref (α 1), .int (nI 0), .int (nI 0)])), (α 1, .inl (zcl G 0, 24, .inl (fun _ => nI 0)))]
def kw3 (G : zG) (α : Nat → Nat) : va_W := [(α 0, .inr (3, [.ref (α 1), .int (nI 0)])), (α 1, .inl (zcl G 0, 48, .inl (fun _ => nI 0)))]
def kw0 (G : zG) (α : Nat → Nat) : va_W := [(α 0, .inr (0, [.ref (α 1), .null, .int (nI 0), .int (nI 0), .int (nI 0), .int (nI 0)])), (α 1, .inl (zcl G 0, 27, .inl (fun _ => nI 0)))]
def kw5 (G : zG) (α : Nat → Nat) : va_W := [(α 0, .inr (5, [.ref (α 1), .int (nI 0), .int (nI 0), .int (nI 0), .int (nI 0), .int (nI 0)])), (α 1, .inl (zcl G 0, 30, .inl (fun _ => nI 0)))]
def kw1 (G : zG) (α : Nat → Nat) : va_W := [(α 0, .inr (1, [.ref (α 1), .ref (α 2), .ref (α 3), .int (nI 0)])), (α 1, .inl (zcl G 0, 49, .inl (fun _ => nI 0))), (α 2, .inl (zcl G 0, 245, .inl (fun _ => nI 0))), (α 3, .inl (zcl G 0, 48, .inl (fun _ => nI 0)))]
def kw6 (G : zG) (α : Nat → Nat) : va_W := [(α 0, .inr (6, [.ref (α 1), .ref (α 2), .ref (α 3), .int (nI 0)])), (α 1, .inl (zcl G 0, 60, .inl (fun _ => nI 0))), (α 2, .inl (zcl G 0, 60, .inl (fun _ => nI 0))), (α 3, .inl (zcl G 0, 4, .inl (fun _ => nI 0)))]
def kw2 (G : zG) (α : Nat → Nat) : va_W := [(α 0, .inr (2, [.ref (α 1), .ref (α 2), .int (nI 0), .int (nI 0), .int (nI 0), .int (nI 0), .ref (zaK G 0)])), (α 1, .inl (zcl G 0, 60, .inl (fun _ => nI 0))), (α 2, .inl (zcl G 0, 60, .inl (fun _ => nI 0)))]
def kw12 (G : zG) (α : Nat → Nat) : va_W := [(α 0, .inr (12, [.ref (α 1), .ref (α 2), .int (nI 0), .ref (α 3), .int (nI 0), .int (nI 0), .int (nI 0), .int (nI 0), .ref (α 4), .ref (α 5), .ref (α 6), .ref (α 7), .int (nI 0), .ref (α 8), .ref (α 9), .int (nI 0), .ref (α 10), .int (nI 0), .int (nI 0), .int (nI 0), .ref (α 11), .int (nI 0), .int (nI 0), .int (nI 0), .ref (α 12), .ref (α 13), .ref (α 14), .ref (α 15)])), (α 1, .inl (zcl G 0, 628, .inl (upd (upd (fun _ => nI 0) 6 (nI 1)) 3 (nI 100)))), (α 2, .inl (zcl G 0, 628, .inl (fun _ => nI 0))), (α 3, .inl (zcl G 0, 7, .inl (fun _ => nI 0))), (α 4, .inl (zcl G 0, 124, .inl (fun _ => nI 0))), (α 5, .inl (zcl G 0, 128, .inl (fun _ => nI 0))), (α 6, .inl (zcl G 0, 64, .inl (fun _ => nI 0))), (α 7, .inl (zcl G 0, 48, .inl (fun _ => nI 0))), (α 8, .inl (zcl G 0, 245, .inl (fun _ => nI 0))), (α 9, .inl (zcl G 0, 48, .inl (fun _ => nI 0))), (α 10, .inl (zcl G 0, 24, .inl (fun _ => nI 0))), (α 11, .inl (zcl G 0, 30, .inl (fun _ => nI 0))), (α 12, .inl (zcl G 0, 4, .inl (fun _ => nI 0))), (α 13, .inl (zcl G 0, 4, .inl (fun _ => nI 0))), (α 14, .inl (zcl G 0, 96, .inl (fun _ => nI 0))), (α 15, .inl (zcl G 0, 24, .inl (fun _ => nI 0)))]
def kw7 (G : zG) (α : Nat → Nat) : va_W := [(α 0, .inr (7, [.ref (α 1), .int (nI 0)])), (α 1, .inl (zcl G 2, 12, .inr (.inr (.inr (.inr (fun i => ([α 2, α 4, α 6, α 8, α 10, α 12, α 14, α 16, α 18, α 20, α 22, α 24] : List Nat)[i]?)))))), (α 2, .inr (10, [.ref (α 3), .int (nI 0), .int (nI 0)])), (α 3, .inl (zcl G 0, 6, .inl (fun _ => nI 0))), (α 4, .inr (10, [.ref (α 5), .int (nI 0), .int (nI 0)])), (α 5, .inl (zcl G 0, 6, .inl (fun _ => nI 0))), (α 6, .inr (10, [.ref (α 7), .int (nI 0), .int (nI 0)])), (α 7, .inl (zcl G 0, 6, .inl (fun _ => nI 0))), (α 8, .inr (10, [.ref (α 9), .int (nI 0), .int (nI 0)])), (α 9, .inl (zcl G 0, 6, .inl (fun _ => nI 0))), (α 10, .inr (10, [.ref (α 11), .int (nI 0), .int (nI 0)])), (α 11, .inl (zcl G 0, 6, .inl (fun _ => nI 0))), (α 12, .inr (10, [.ref (α 13), .int (nI 0), .int (nI 0)])), (α 13, .inl (zcl G 0, 6, .inl (fun _ => nI 0))), (α 14, .inr (10, [.ref (α 15), .int (nI 0), .int (nI 0)])), (α 15, .inl (zcl G 0, 6, .inl (fun _ => nI 0))), (α 16, .inr (10, [.ref (α 17), .int (nI 0), .int (nI 0)])), (α 17, .inl (zcl G 0, 6, .inl (fun _ => nI 0))), (α 18, .inr (10, [.ref (α 19), .int (nI 0), .int (nI 0)])), (α 19, .inl (zcl G 0, 6, .inl (fun _ => nI 0))), (α 20, .inr (10, [.ref (α 21), .int (nI 0), .int (nI 0)])), (α 21, .inl (zcl G 0, 6, .inl (fun _ => nI 0))), (α 22, .inr (10, [.ref (α 23), .int (nI 0), .int (nI 0)])), (α 23, .inl (zcl G 0, 6, .inl (fun _ => nI 0))), (α 24, .inr (10, [.ref (α 25), .int (nI 0), .int (nI 0)])), (α 25, .inl (zcl G 0, 6, .inl (fun _ => nI 0)))]
def kw8 (G : zG) (α : Nat → Nat) : va_W := [(α 0, .inr (8, [.ref (α 1), .ref (α 2), .ref (α 28), .ref (α 32), .ref (α 36), .ref (α 37), .ref (α 38), .int (nI 0), .int (nI 0), .int (nI 0), .int (nI 0), .int (nI 100), .int (nI 1)])), (α 1, .inl (zcl G 1, 6, .inr (.inr (.inr (.inr (fun i => ([α 39, α 41, α 43, α 45, α 47, α 49] : List Nat)[i]?)))))), (α 2, .inr (7, [.ref (α 3), .int (nI 0)])), (α 3, .inl (zcl G 2, 12, .inr (.inr (.inr (.inr (fun i => ([α 4, α 6, α 8, α 10, α 12, α 14, α 16, α 18, α 20, α 22, α 24, α 26] : List Nat)[i]?)))))), (α 4, .inr (10, [.ref (α 5), .int (nI 0), .int (nI 0)])), (α 5, .inl (zcl G 0, 6, .inl (fun _ => nI 0))), (α 6, .inr (10, [.ref (α 7), .int (nI 0), .int (nI 0)])), (α 7, .inl (zcl G 0, 6, .inl (fun _ => nI 0))), (α 8, .inr (10, [.ref (α 9), .int (nI 0), .int (nI 0)])), (α 9, .inl (zcl G 0, 6, .inl (fun _ => nI 0))), (α 10, .inr (10, [.ref (α 11), .int (nI 0), .int (nI 0)])), (α 11, .inl (zcl G 0, 6, .inl (fun _ => nI 0))), (α 12, .inr (10, [.ref (α 13), .int (nI 0), .int (nI 0)])), (α 13, .inl (zcl G 0, 6, .inl (fun _ => nI 0))), (α 14, .inr (10, [.ref (α 15), .int (nI 0), .int (nI 0)])), (α 15, .inl (zcl G 0, 6, .inl (fun _ => nI 0))), (α 16, .inr (10, [.ref (α 17), .int (nI 0), .int (nI 0)])), (α 17, .inl (zcl G 0, 6, .inl (fun _ => nI 0))), (α 18, .inr (10, [.ref (α 19), .int (nI 0), .int (nI 0)])), (α 19, .inl (zcl G 0, 6, .inl (fun _ => nI 0))), (α 20, .inr (10, [.ref (α 21), .int (nI 0), .int (nI 0)])), (α 21, .inl (zcl G 0, 6, .inl (fun _ => nI 0))), (α 22, .inr (10, [.ref (α 23), .int (nI 0), .int (nI 0)])), (α 23, .inl (zcl G 0, 6, .inl (fun _ => nI 0))), (α 24, .inr (10, [.ref (α 25), .int (nI 0), .int (nI 0)])), (α 25, .inl (zcl G 0, 6, .inl (fun _ => nI 0))), (α 26, .inr (10, [.ref (α 27), .int (nI 0), .int (nI 0)])), (α 27, .inl (zcl G 0, 6, .inl (fun _ => nI 0))), (α 28, .inr (6, [.ref (α 29), .ref (α 30), .ref (α 31), .int (nI 0)])), (α 29, .inl (zcl G 0, 60, .inl (fun _ => nI 0))), (α 30, .inl (zcl G 0, 60, .inl (fun _ => nI 0))), (α 31, .inl (zcl G 0, 4, .inl (fun _ => nI 0))), (α 32, .inr (6, [.ref (α 33), .ref (α 34), .ref (α 35), .int (nI 0)])), (α 33, .inl (zcl G 0, 60, .inl (fun _ => nI 0))), (α 34, .inl (zcl G 0, 60, .inl (fun _ => nI 0))), (α 35, .inl (zcl G 0, 4, .inl (fun _ => nI 0))), (α 36, .inl (zcl G 0, 60, .inl (fun _ => nI 0))), (α 37, .inl (zcl G 0, 27, .inl (fun _ => nI 0))), (α 38, .inl (zcl G 0, 24, .inl (fun _ => nI 0))), (α 39, .inr (9, [.ref (α 40), .int (nI 0), .int (nI 0), .int (nI 0)])), (α 40, .inl (zcl G 0, 24, .inl (fun _ => nI 0))), (α 41, .inr (9, [.ref (α 42), .int (nI 0), .int (nI 0), .int (nI 0)])), (α 42, .inl (zcl G 0, 24, .inl (fun _ => nI 0))), (α 43, .inr (9, [.ref (α 44), .int (nI 0), .int (nI 0), .int (nI 0)])), (α 44, .inl (zcl G 0, 24, .inl (fun _ => nI 0))), (α 45, .inr (9, [.ref (α 46), .int (nI 0), .int (nI 0), .int (nI 0)])), (α 46, .inl (zcl G 0, 24, .inl (fun _ => nI 0))), (α 47, .inr (9, [.ref (α 48), .int (nI 0), .int (nI 0), .int (nI 0)])), (α 48, .inl (zcl G 0, 24, .inl (fun _ => nI 0))), (α 49, .inr (9, [.ref (α 50), .int (nI 0), .int (nI 0), .int (nI 0)])), (α 50, .inl (zcl G 0, 24, .inl (fun _ => nI 0)))]
def kw11 (G : zG) (α : Nat → Nat) : va_W := [(α 0, .inr (11, [.ref (α 1), .ref (α 52), .ref (α 103), .ref (α 112), .ref (α 116), .ref (α 118), .ref (α 120), .ref (α 123), .ref (α 125), .ref (α 127), .int (nI 0)])), (α 1, .inr (8, [.ref (α 2), .ref (α 3), .ref (α 29), .ref (α 33), .ref (α 37), .ref (α 38), .ref (α 39), .int (nI 0), .int (nI 0), .int (nI 0), .int (nI 0), .int (nI 100), .int (nI 1)])), (α 2, .inl (zcl G 1, 6, .inr (.inr (.inr (.inr (fun i => ([α 40, α 42, α 44, α 46, α 48, α 50] : List Nat)[i]?)))))), (α 3, .inr (7, [.ref (α 4), .int (nI 0)])), (α 4, .inl (zcl G 2, 12, .inr (.inr (.inr (.inr (fun i => ([α 5, α 7, α 9, α 11, α 13, α 15, α 17, α 19, α 21, α 23, α 25, α 27] : List Nat)[i]?)))))), (α 5, .inr (10, [.ref (α 6), .int (nI 0), .int (nI 0)])), (α 6, .inl (zcl G 0, 6, .inl (fun _ => nI 0))), (α 7, .inr (10, [.ref (α 8), .int (nI 0), .int (nI 0)])), (α 8, .inl (zcl G 0, 6, .inl (fun _ => nI 0))), (α 9, .inr (10, [.ref (α 10), .int (nI 0), .int (nI 0)])), (α 10, .inl (zcl G 0, 6, .inl (fun _ => nI 0))), (α 11, .inr (10, [.ref (α 12), .int (nI 0), .int (nI 0)])), (α 12, .inl (zcl G 0, 6, .inl (fun _ => nI 0))), (α 13, .inr (10, [.ref (α 14), .int (nI 0), .int (nI 0)])), (α 14, .inl (zcl G 0, 6, .inl (fun _ => nI 0))), (α 15, .inr (10, [.ref (α 16), .int (nI 0), .int (nI 0)])), (α 16, .inl (zcl G 0, 6, .inl (fun _ => nI 0))), (α 17, .inr (10, [.ref (α 18), .int (nI 0), .int (nI 0)])), (α 18, .inl (zcl G 0, 6, .inl (fun _ => nI 0))), (α 19, .inr (10, [.ref (α 20), .int (nI 0), .int (nI 0)])), (α 20, .inl (zcl G 0, 6, .inl (fun _ => nI 0))), (α 21, .inr (10, [.ref (α 22), .int (nI 0), .int (nI 0)])), (α 22, .inl (zcl G 0, 6, .inl (fun _ => nI 0))), (α 23, .inr (10, [.ref (α 24), .int (nI 0), .int (nI 0)])), (α 24, .inl (zcl G 0, 6, .inl (fun _ => nI 0))), (α 25, .inr (10, [.ref (α 26), .int (nI 0), .int (nI 0)])), (α 26, .inl (zcl G 0, 6, .inl (fun _ => nI 0))), (α 27, .inr (10, [.ref (α 28), .int (nI 0), .int (nI 0)])), (α 28, .inl (zcl G 0, 6, .inl (fun _ => nI 0))), (α 29, .inr (6, [.ref (α 30), .ref (α 31), .ref (α 32), .int (nI 0)])), (α 30, .inl (zcl G 0, 60, .inl (fun _ => nI 0))), (α 31, .inl (zcl G 0, 60, .inl (fun _ => nI 0))), (α 32, .inl (zcl G 0, 4, .inl (fun _ => nI 0))), (α 33, .inr (6, [.ref (α 34), .ref (α 35), .ref (α 36), .int (nI 0)])), (α 34, .inl (zcl G 0, 60, .inl (fun _ => nI 0))), (α 35, .inl (zcl G 0, 60, .inl (fun _ => nI 0))), (α 36, .inl (zcl G 0, 4, .inl (fun _ => nI 0))), (α 37, .inl (zcl G 0, 60, .inl (fun _ => nI 0))), (α 38, .inl (zcl G 0, 27, .inl (fun _ => nI 0))), (α 39, .inl (zcl G 0, 24, .inl (fun _ => nI 0))), (α 40, .inr (9, [.ref (α 41), .int (nI 0), .int (nI 0), .int (nI 0)])), (α 41, .inl (zcl G 0, 24, .inl (fun _ => nI 0))), (α 42, .inr (9, [.ref (α 43), .int (nI 0), .int (nI 0), .int (nI 0)])), (α 43, .inl (zcl G 0, 24, .inl (fun _ => nI 0))), (α 44, .inr (9, [.ref (α 45), .int (nI 0), .int (nI 0), .int (nI 0)])), (α 45, .inl (zcl G 0, 24, .inl (fun _ => nI 0))), (α 46, .inr (9, [.ref (α 47), .int (nI 0), .int (nI 0), .int (nI 0)])), (α 47, .inl (zcl G 0, 24, .inl (fun _ => nI 0))), (α 48, .inr (9, [.ref (α 49), .int (nI 0), .int (nI 0), .int (nI 0)])), (α 49, .inl (zcl G 0, 24, .inl (fun _ => nI 0))), (α 50, .inr (9, [.ref (α 51), .int (nI 0), .int (nI 0), .int (nI 0)])), (α 51, .inl (zcl G 0, 24, .inl (fun _ => nI 0))), (α 52, .inr (8, [.ref (α 53), .ref (α 54), .ref (α 80), .ref (α 84), .ref (α 88), .ref (α 89), .ref (α 90), .int (nI 0), .int (nI 0), .int (nI 0), .int (nI 0), .int (nI 100), .int (nI 1)])), (α 53, .inl (zcl G 1, 6, .inr (.inr (.inr (.inr (fun i => ([α 91, α 93, α 95, α 97, α 99, α 101] : List Nat)[i]?)))))), (α 54, .inr (7, [.ref (α 55), .int (nI 0)])), (α 55, .inl (zcl G 2, 12, .inr (.inr (.inr (.inr (fun i => ([α 56, α 58, α 60, α 62, α 64, α 66, α 68, α 70, α 72, α 74, α 76, α 78] : List Nat)[i]?)))))), (α 56, .inr (10, [.ref (α 57), .int (nI 0), .int (nI 0)])), (α 57, .inl (zcl G 0, 6, .inl (fun _ => nI 0))), (α 58, .inr (10, [.ref (α 59), .int (nI 0), .int (nI 0)])), (α 59, .inl (zcl G 0, 6, .inl (fun _ => nI 0))), (α 60, .inr (10, [.ref (α 61), .int (nI 0), .int (nI 0)])), (α 61, .inl (zcl G 0, 6, .inl (fun _ => nI 0))), (α 62, .inr (10, [.ref (α 63), .int (nI 0), .int (nI 0)])), (α 63, .inl (zcl G 0, 6, .inl (fun _ => nI 0))), (α 64, .inr (10, [.ref (α 65), .int (nI 0), .int (nI 0)])), (α 65, .inl (zcl G 0, 6, .inl (fun _ => nI 0))), (α 66, .inr (10, [.ref (α 67), .int (nI 0), .int (nI 0)])), (α 67, .inl (zcl G 0, 6, .inl (fun _ => nI 0))), (α 68, .inr (10, [.ref (α 69), .int (nI 0), .int (nI 0)])), (α 69, .inl (zcl G 0, 6, .inl (fun _ => nI 0))), (α 70, .inr (10, [.ref (α 71), .int (nI 0), .int (nI 0)])), (α 71, .inl (zcl G 0, 6, .inl (fun _ => nI 0))), (α 72, .inr (10, [.ref (α 73), .int (nI 0), .int (nI 0)])), (α 73, .inl (zcl G 0, 6, .inl (fun _ => nI 0))), (α 74, .inr (10, [.ref (α 75), .int (nI 0), .int (nI 0)])), (α 75, .inl (zcl G 0, 6, .inl (fun _ => nI 0))), (α 76, .inr (10, [.ref (α 77), .int (nI 0), .int (nI 0)])), (α 77, .inl (zcl G 0, 6, .inl (fun _ => nI 0))), (α 78, .inr (10, [.ref (α 79), .int (nI 0), .int (nI 0)])), (α 79, .inl (zcl G 0, 6, .inl (fun _ => nI 0))), (α 80, .inr (6, [.ref (α 81), .ref (α 82), .ref (α 83), .int (nI 0)])), (α 81, .inl (zcl G 0, 60, .inl (fun _ => nI 0))), (α 82, .inl (zcl G 0, 60, .inl (fun _ => nI 0))), (α 83, .inl (zcl G 0, 4, .inl (fun _ => nI 0))), (α 84, .inr (6, [.ref (α 85), .ref (α 86), .ref (α 87), .int (nI 0)])), (α 85, .inl (zcl G 0, 60, .inl (fun _ => nI 0))), (α 86, .inl (zcl G 0, 60, .inl (fun _ => nI 0))), (α 87, .inl (zcl G 0, 4, .inl (fun _ => nI 0))), (α 88, .inl (zcl G 0, 60, .inl (fun _ => nI 0))), (α 89, .inl (zcl G 0, 27, .inl (fun _ => nI 0))), (α 90, .inl (zcl G 0, 24, .inl (fun _ => nI 0))), (α 91, .inr (9, [.ref (α 92), .int (nI 0), .int (nI 0), .int (nI 0)])), (α 92, .inl (zcl G 0, 24, .inl (fun _ => nI 0))), (α 93, .inr (9, [.ref (α 94), .int (nI 0), .int (nI 0), .int (nI 0)])), (α 94, .inl (zcl G 0, 24, .inl (fun _ => nI 0))), (α 95, .inr (9, [.ref (α 96), .int (nI 0), .int (nI 0), .int (nI 0)])), (α 96, .inl (zcl G 0, 24, .inl (fun _ => nI 0))), (α 97, .inr (9, [.ref (α 98), .int (nI 0), .int (nI 0), .int (nI 0)])), (α 98, .inl (zcl G 0, 24, .inl (fun _ => nI 0))), (α 99, .inr (9, [.ref (α 100), .int (nI 0), .int (nI 0), .int (nI 0)])), (α 100, .inl (zcl G 0, 24, .inl (fun _ => nI 0))), (α 101, .inr (9, [.ref (α 102), .int (nI 0), .int (nI 0), .int (nI 0)])), (α 102, .inl (zcl G 0, 24, .inl (fun _ => nI 0))), (α 103, .inl (zcl G 3, 4, .inr (.inr (.inr (.inr (fun i => ([α 104, α 106, α 108, α 110] : List Nat)[i]?)))))), (α 104, .inr (4, [.ref (α 105), .int (nI 0), .int (nI 0)])), (α 105, .inl (zcl G 0, 24, .inl (fun _ => nI 0))), (α 106, .inr (4, [.ref (α 107), .int (nI 0), .int (nI 0)])), (α 107, .inl (zcl G 0, 24, .inl (fun _ => nI 0))), (α 108, .inr (4, [.ref (α 109), .int (nI 0), .int (nI 0)])), (α 109, .inl (zcl G 0, 24, .inl (fun _ => nI 0))), (α 110, .inr (4, [.ref (α 111), .int (nI 0), .int (nI 0)])), (α 111, .inl (zcl G 0, 24, .inl (fun _ => nI 0))), (α 112, .inr (1, [.ref (α 113), .ref (α 114), .ref (α 115), .int (nI 0)])), (α 113, .inl (zcl G 0, 49, .inl (fun _ => nI 0))), (α 114, .inl (zcl G 0, 245, .inl (fun _ => nI 0))), (α 115, .inl (zcl G 0, 48, .inl (fun _ => nI 0))), (α 116, .inr (3, [.ref (α 117), .int (nI 0)])), (α 117, .inl (zcl G 0, 48, .inl (fun _ => nI 0))), (α 118, .inr (9, [.ref (α 119), .int (nI 0), .int (nI 0), .int (nI 0)])), (α 119, .inl (zcl G 0, 24, .inl (fun _ => nI 0))), (α 120, .inr (2, [.ref (α 121), .ref (α 122), .int (nI 0), .int (nI 0), .int (nI 0), .int (nI 0), .ref (zaK G 0)])), (α 121, .inl (zcl G 0, 60, .inl (fun _ => nI 0))), (α 122, .inl (zcl G 0, 60, .inl (fun _ => nI 0))), (α 123, .inr (0, [.ref (α 124), .null, .int (nI 0), .int (nI 0), .int (nI 0), .int (nI 0)])), (α 124, .inl (zcl G 0, 27, .inl (fun _ => nI 0))), (α 125, .inr (5, [.ref (α 126), .int (nI 0), .int (nI 0), .int (nI 0), .int (nI 0), .int (nI 0)])), (α 126, .inl (zcl G 0, 30, .inl (fun _ => nI 0))), (α 127, .inl (zcl G 0, 7, .inl (fun _ => nI 0)))]
