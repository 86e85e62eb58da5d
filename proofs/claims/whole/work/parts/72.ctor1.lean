set_option maxRecDepth 20000 in
set_option maxHeartbeats 4000000 in
theorem c_ini10 (G : zG) (l : Launch) : kMet G l yX10_init cX10_init 1 1 1 6 10 [.null, .int (nI 0), .int (nI 0)] (kw10 G) := by
  refine kMet_of zplX10 rfl (by decide) (fun q X hl hX hI hE => ?_)
  refine k_aload_n 0 hX dX10_init_0 rfl ?_
  refine k_objinit 1 hX dX10_init_1 zw122 zw100 zw101 rfl (by decide) ?_
  refine k_aload_n 4 hX dX10_init_4 rfl ?_
  refine k_bipush (v := nI 6) 5 hX dX10_init_5 (by decide +kernel) ?_
  refine k_newa (N := 6) 7 hX dX10_init_7 zw141 (by decide +kernel) (by decide +kernel) (Nat.le_of_ble_eq_true rfl) (Nat.le_of_ble_eq_true rfl) (Nat.le_of_ble_eq_true rfl) (fun a0 => ?_)
  refine k_putF tyX10 9 0 0 ((q, .inr (10, [.ref a0, .int (nI 0), .int (nI 0)])) :: [(a0, .inl (zcl G 0, 6, .inl (fun _ => nI 0)))]) hX hI dX10_init_9 rfl rfl zi10 tyX10_ok nmX10 (by decide) zw123 rfl rfl rfl (tyX10_ok 0 (by decide)) rfl rfl (Nat.le_of_ble_eq_true rfl) rfl ?_
  exact hE 12 _ (fun j => ([q, a0] : List Nat).getD j 0) rfl dX10_init_12
set_option maxRecDepth 20000 in
set_option maxHeartbeats 4000000 in
theorem c_ini9 (G : zG) (l : Launch) : kMet G l yX9_init cX9_init 1 1 1 24 9 [.null, .int (nI 0), .int (nI 0), .int (nI 0)] (kw9 G) := by
  refine kMet_of zplX9 rfl (by decide) (fun q X hl hX hI hE => ?_)
  refine k_aload_n 0 hX dX9_init_0 rfl ?_
  refine k_objinit 1 hX dX9_init_1 zw181 zw100 zw101 rfl (by decide) ?_
  refine k_aload_n 4 hX dX9_init_4 rfl ?_
  refine k_bipush (v := nI 24) 5 hX dX9_init_5 (by decide +kernel) ?_
  refine k_newa (N := 24) 7 hX dX9_init_7 zw141 (by decide +kernel) (by decide +kernel) (Nat.le_of_ble_eq_true rfl) (Nat.le_of_ble_eq_true rfl) (Nat.le_of_ble_eq_true rfl) (fun a0 => ?_)
  refine k_putF tyX9 9 0 0 ((q, .inr (9, [.ref a0, .int (nI 0), .int (nI 0), .int (nI 0)])) :: [(a0, .inl (zcl G 0, 24, .inl (fun _ => nI 0)))]) hX hI dX9_init_9 rfl rfl zi9 tyX9_ok nmX9 (by decide) zw182 rfl rfl rfl (tyX9_ok 0 (by decide)) rfl rfl (Nat.le_of_ble_eq_true rfl) rfl ?_
  exact hE 12 _ (fun j => ([q, a0] : List Nat).getD j 0) rfl dX9_init_12
set_option maxRecDepth 20000 in
set_option maxHeartbeats 4000000 in
theorem c_ini4 (G : zG) (l : Launch) : kMet G l yX4_init cX4_init 1 1 1 24 4 [.null, .int (nI 0), .int (nI 0)] (kw4 G) := by
  refine kMet_of zplX4 rfl (by decide) (fun q X hl hX hI hE => ?_)
  refine k_aload_n 0 hX dX4_init_0 rfl ?_
  refine k_objinit 1 hX dX4_init_1 zw264 zw100 zw101 rfl (by decide) ?_
  refine k_aload_n 4 hX dX4_init_4 rfl ?_
  refine k_bipush (v := nI 24) 5 hX dX4_init_5 (by decide +kernel) ?_
  refine k_newa (N := 24) 7 hX dX4_init_7 zw141 (by decide +kernel) (by decide +kernel) (Nat.le_of_ble_eq_true rfl) (Nat.le_of_ble_eq_true rfl) (Nat.le_of_ble_eq_true rfl) (fun a0 => ?_)
  refine k_putF tyX4 9 0 0 ((q, .inr (4, [.ref a0, .int (nI 0), .int (nI 0)])) :: [(a0, .inl (zcl G 0, 24, .inl (fun _ => nI 0)))]) hX hI dX4_init_9 rfl rfl zi4 tyX4_ok nmX4 (by decide) zw265 rfl rfl rfl (tyX4_ok 0 (by decide)) rfl rfl (Nat.le_of_ble_eq_true rfl) rfl ?_
  exact hE 12 _ (fun j => ([q, a0] : List Nat).getD j 0) rfl dX4_init_12
set_option maxRecDepth 20000 in
set_option maxHeartbeats 4000000 in
theorem c_ini3 (G : zG) (l : Launch) : kMet G l yX3_init cX3_init 1 1 1 48 3 [.null, .int (nI 0)] (kw3 G) := by
  refine kMet_of zplX3 rfl (by decide) (fun q X hl hX hI hE => ?_)
  refine k_aload_n 0 hX dX3_init_0 rfl ?_
  refine k_objinit 1 hX dX3_init_1 zw304 zw100 zw101 rfl (by decide) ?_
  refine k_aload_n 4 hX dX3_init_4 rfl ?_
  refine k_bipush (v := nI 48) 5 hX dX3_init_5 (by decide +kernel) ?_
  refine k_newa (N := 48) 7 hX dX3_init_7 zw141 (by decide +kernel) (by decide +kernel) (Nat.le_of_ble_eq_true rfl) (Nat.le_of_ble_eq_true rfl) (Nat.le_of_ble_eq_true rfl) (fun a0 => ?_)
  refine k_putF tyX3 9 0 0 ((q, .inr (3, [.ref a0, .int (nI 0)])) :: [(a0, .inl (zcl G 0, 48, .inl (fun _ => nI 0)))]) hX hI dX3_init_9 rfl rfl zi3 tyX3_ok nmX3 (by decide) zw305 rfl rfl rfl (tyX3_ok 0 (by decide)) rfl rfl (Nat.le_of_ble_eq_true rfl) rfl ?_
  exact hE 12 _ (fun j => ([q, a0] : List Nat).getD j 0) rfl dX3_init_12
set_option maxRecDepth 20000 in
set_option maxHeartbeats 4000000 in
theorem c_ini0 (G : zG) (l : Launch) : kMet G l yX0_init cX0_init 1 1 1 27 0 [.null, .null, .int (nI 0), .int (nI 0), .int (nI 0), .int (nI 0)] (kw0 G) := by
  refine kMet_of zplX0 rfl (by decide) (fun q X hl hX hI hE => ?_)
  refine k_aload_n 0 hX dX0_init_0 rfl ?_
  refine k_objinit 1 hX dX0_init_1 zw355 zw100 zw101 rfl (by decide) ?_
  refine k_aload_n 4 hX dX0_init_4 rfl ?_
  refine k_bipush (v := nI 27) 5 hX dX0_init_5 (by decide +kernel) ?_
  refine k_newa (N := 27) 7 hX dX0_init_7 zw141 (by decide +kernel) (by decide +kernel) (Nat.le_of_ble_eq_true rfl) (Nat.le_of_ble_eq_true rfl) (Nat.le_of_ble_eq_true rfl) (fun a0 => ?_)
  refine k_putF tyX0 9 0 0 ((q, .inr (0, [.ref a0, .null, .int (nI 0), .int (nI 0), .int (nI 0), .int (nI 0)])) :: [(a0, .inl (zcl G 0, 27, .inl (fun _ => nI 0)))]) hX hI dX0_init_9 rfl rfl zi0 tyX0_ok nmX0 (by decide) zw356 rfl rfl rfl (tyX0_ok 0 (by decide)) rfl rfl (Nat.le_of_ble_eq_true rfl) rfl ?_
  exact hE 12 _ (fun j => ([q, a0] : List Nat).getD j 0) rfl dX0_init_12
set_option maxRecDepth 20000 in
set_option maxHeartbeats 4000000 in
theorem c_ini5 (G : zG) (l : Launch) : kMet G l yX5_init cX5_init 1 1 1 30 5 [.null, .int (nI 0), .int (nI 0), .int (nI 0), .int (nI 0), .int (nI 0)] (kw5 G) := by
  refine kMet_of zplX5 rfl (by decide) (fun q X hl hX hI hE => ?_)
  refine k_aload_n 0 hX dX5_init_0 rfl ?_
  refine k_objinit 1 hX dX5_init_1 zw382 zw100 zw101 rfl (by decide) ?_
  refine k_aload_n 4 hX dX5_init_4 rfl ?_
  refine k_bipush (v := nI 30) 5 hX dX5_init_5 (by decide +kernel) ?_
  refine k_newa (N := 30) 7 hX dX5_init_7 zw141 (by decide +kernel) (by decide +kernel) (Nat.le_of_ble_eq_true rfl) (Nat.le_of_ble_eq_true rfl) (Nat.le_of_ble_eq_true rfl) (fun a0 => ?_)
  refine k_putF tyX5 9 0 0 ((q, .inr (5, [.ref a0, .int (nI 0), .int (nI 0), .int (nI 0), .int (nI 0), .int (nI 0)])) :: [(a0, .inl (zcl G 0, 30, .inl (fun _ => nI 0)))]) hX hI dX5_init_9 rfl rfl zi5 tyX5_ok nmX5 (by decide) zw383 rfl rfl rfl (tyX5_ok 0 (by decide)) rfl rfl (Nat.le_of_ble_eq_true rfl) rfl ?_
  exact hE 12 _ (fun j => ([q, a0] : List Nat).getD j 0) rfl dX5_init_12
set_option maxRecDepth 20000 in
set_option maxHeartbeats 4000000 in
theorem c_ini1 (G : zG) (l : Launch) : kMet G l yX1_init cX1_init 1 1 3 342 1 [.null, .null, .null, .int (nI 0)] (kw1 G) := by
  refine kMet_of zplX1 rfl (by decide) (fun q X hl hX hI hE => ?_)
  refine k_aload_n 0 hX dX1_init_0 rfl ?_
  refine k_objinit 1 hX dX1_init_1 zw283 zw100 zw101 rfl (by decide) ?_
  refine k_aload_n 4 hX dX1_init_4 rfl ?_
  refine k_bipush (v := nI 49) 5 hX dX1_init_5 (by decide +kernel) ?_
  refine k_newa (N := 49) 7 hX dX1_init_7 zw141 (by decide +kernel) (by decide +kernel) (Nat.le_of_ble_eq_true rfl) (Nat.le_of_ble_eq_true rfl) (Nat.le_of_ble_eq_true rfl) (fun a0 => ?_)
  refine k_putF tyX1 9 0 0 ((q, .inr (1, [.ref a0, .null, .null, .int (nI 0)])) :: [(a0, .inl (zcl G 0, 49, .inl (fun _ => nI 0)))]) hX hI dX1_init_9 rfl rfl zi1 tyX1_ok nmX1 (by decide) zw284 rfl rfl rfl (tyX1_ok 0 (by decide)) rfl rfl (Nat.le_of_ble_eq_true rfl) rfl ?_
  refine k_aload_n 12 hX dX1_init_12 rfl ?_
  refine k_sipush (v := nI 245) 13 hX dX1_init_13 (by decide +kernel) ?_
  refine k_newa (N := 245) 16 hX dX1_init_16 zw141 (by decide +kernel) (by decide +kernel) (Nat.le_of_ble_eq_true rfl) (Nat.le_of_ble_eq_true rfl) (Nat.le_of_ble_eq_true rfl) (fun a1 => ?_)
  refine k_putF tyX1 18 1 0 ((q, .inr (1, [.ref a0, .ref a1, .null, .int (nI 0)])) :: ([(a0, .inl (zcl G 0, 49, .inl (fun _ => nI 0)))] ++ [(a1, .inl (zcl G 0, 245, .inl (fun _ => nI 0)))])) hX hI dX1_init_18 rfl rfl zi1 tyX1_ok nmX1 (by decide) zw285 rfl rfl rfl (tyX1_ok 1 (by decide)) rfl rfl (Nat.le_of_ble_eq_true rfl) rfl ?_
  refine k_aload_n 21 hX dX1_init_21 rfl ?_
  refine k_bipush (v := nI 48) 22 hX dX1_init_22 (by decide +kernel) ?_
  refine k_newa (N := 48) 24 hX dX1_init_24 zw141 (by decide +kernel) (by decide +kernel) (Nat.le_of_ble_eq_true rfl) (Nat.le_of_ble_eq_true rfl) (Nat.le_of_ble_eq_true rfl) (fun a2 => ?_)
  refine k_putF tyX1 26 2 0 ((q, .inr (1, [.ref a0, .ref a1, .ref a2, .int (nI 0)])) :: (([(a0, .inl (zcl G 0, 49, .inl (fun _ => nI 0)))] ++ [(a1, .inl (zcl G 0, 245, .inl (fun _ => nI 0)))]) ++ [(a2, .inl (zcl G 0, 48, .inl (fun _ => nI 0)))])) hX hI dX1_init_26 rfl rfl zi1 tyX1_ok nmX1 (by decide) zw286 rfl rfl rfl (tyX1_ok 2 (by decide)) rfl rfl (Nat.le_of_ble_eq_true rfl) rfl ?_
  exact hE 29 _ (fun j => ([q, a0, a1, a2] : List Nat).getD j 0) rfl dX1_init_29
set_option maxRecDepth 20000 in
set_option maxHeartbeats 4000000 in
theorem c_ini6 (G : zG) (l : Launch) : kMet G l yX6_init cX6_init 1 1 3 124 6 [.null, .null, .null, .int (nI 0)] (kw6 G) := by
  refine kMet_of zplX6 rfl (by decide) (fun q X hl hX hI hE => ?_)
  refine k_aload_n 0 hX dX6_init_0 rfl ?_
  refine k_objinit 1 hX dX6_init_1 zw160 zw100 zw101 rfl (by decide) ?_
  refine k_aload_n 4 hX dX6_init_4 rfl ?_
  refine k_bipush (v := nI 60) 5 hX dX6_init_5 (by decide +kernel) ?_
  refine k_newa (N := 60) 7 hX dX6_init_7 zw141 (by decide +kernel) (by decide +kernel) (Nat.le_of_ble_eq_true rfl) (Nat.le_of_ble_eq_true rfl) (Nat.le_of_ble_eq_true rfl) (fun a0 => ?_)
  refine k_putF tyX6 9 0 0 ((q, .inr (6, [.ref a0, .null, .null, .int (nI 0)])) :: [(a0, .inl (zcl G 0, 60, .inl (fun _ => nI 0)))]) hX hI dX6_init_9 rfl rfl zi6 tyX6_ok nmX6 (by decide) zw161 rfl rfl rfl (tyX6_ok 0 (by decide)) rfl rfl (Nat.le_of_ble_eq_true rfl) rfl ?_
  refine k_aload_n 12 hX dX6_init_12 rfl ?_
  refine k_bipush (v := nI 60) 13 hX dX6_init_13 (by decide +kernel) ?_
  refine k_newa (N := 60) 15 hX dX6_init_15 zw141 (by decide +kernel) (by decide +kernel) (Nat.le_of_ble_eq_true rfl) (Nat.le_of_ble_eq_true rfl) (Nat.le_of_ble_eq_true rfl) (fun a1 => ?_)
  refine k_putF tyX6 17 1 0 ((q, .inr (6, [.ref a0, .ref a1, .null, .int (nI 0)])) :: ([(a0, .inl (zcl G 0, 60, .inl (fun _ => nI 0)))] ++ [(a1, .inl (zcl G 0, 60, .inl (fun _ => nI 0)))])) hX hI dX6_init_17 rfl rfl zi6 tyX6_ok nmX6 (by decide) zw163 rfl rfl rfl (tyX6_ok 1 (by decide)) rfl rfl (Nat.le_of_ble_eq_true rfl) rfl ?_
  refine k_aload_n 20 hX dX6_init_20 rfl ?_
  refine k_iconst (v := nI 4) 21 hX dX6_init_21 (by decide +kernel) ?_
  refine k_newa (N := 4) 22 hX dX6_init_22 zw141 (by decide +kernel) (by decide +kernel) (Nat.le_of_ble_eq_true rfl) (Nat.le_of_ble_eq_true rfl) (Nat.le_of_ble_eq_true rfl) (fun a2 => ?_)
  refine k_putF tyX6 24 2 0 ((q, .inr (6, [.ref a0, .ref a1, .ref a2, .int (nI 0)])) :: (([(a0, .inl (zcl G 0, 60, .inl (fun _ => nI 0)))] ++ [(a1, .inl (zcl G 0, 60, .inl (fun _ => nI 0)))]) ++ [(a2, .inl (zcl G 0, 4, .inl (fun _ => nI 0)))])) hX hI dX6_init_24 rfl rfl zi6 tyX6_ok nmX6 (by decide) zw164 rfl rfl rfl (tyX6_ok 2 (by decide)) rfl rfl (Nat.le_of_ble_eq_true rfl) rfl ?_
  exact hE 27 _ (fun j => ([q, a0, a1, a2] : List Nat).getD j 0) rfl dX6_init_27
set_option maxRecDepth 20000 in
set_option maxHeartbeats 4000000 in
theorem c_ini2 (G : zG) (l : Launch) : kMet G l yX2_init cX2_init 1 1 2 120 2 [.null, .null, .int (nI 0), .int (nI 0), .int (nI 0), .int (nI 0), .null] (kw2 G) := by
  refine kMet_of zplX2 rfl (by decide) (fun q X hl hX hI hE => ?_)
  refine k_aload_n 0 hX dX2_init_0 rfl ?_
  refine k_objinit 1 hX dX2_init_1 zw325 zw100 zw101 rfl (by decide) ?_
  refine k_aload_n 4 hX dX2_init_4 rfl ?_
  refine k_bipush (v := nI 60) 5 hX dX2_init_5 (by decide +kernel) ?_
  refine k_newa (N := 60) 7 hX dX2_init_7 zw141 (by decide +kernel) (by decide +kernel) (Nat.le_of_ble_eq_true rfl) (Nat.le_of_ble_eq_true rfl) (Nat.le_of_ble_eq_true rfl) (fun a0 => ?_)
  refine k_putF tyX2 9 0 0 ((q, .inr (2, [.ref a0, .null, .int (nI 0), .int (nI 0), .int (nI 0), .int (nI 0), .null])) :: [(a0, .inl (zcl G 0, 60, .inl (fun _ => nI 0)))]) hX hI dX2_init_9 rfl rfl zi2 tyX2_ok nmX2 (by decide) zw327 rfl rfl rfl (tyX2_ok 0 (by decide)) rfl rfl (Nat.le_of_ble_eq_true rfl) rfl ?_
  refine k_aload_n 12 hX dX2_init_12 rfl ?_
  refine k_bipush (v := nI 60) 13 hX dX2_init_13 (by decide +kernel) ?_
  refine k_newa (N := 60) 15 hX dX2_init_15 zw141 (by decide +kernel) (by decide +kernel) (Nat.le_of_ble_eq_true rfl) (Nat.le_of_ble_eq_true rfl) (Nat.le_of_ble_eq_true rfl) (fun a1 => ?_)
  refine k_putF tyX2 17 1 0 ((q, .inr (2, [.ref a0, .ref a1, .int (nI 0), .int (nI 0), .int (nI 0), .int (nI 0), .null])) :: ([(a0, .inl (zcl G 0, 60, .inl (fun _ => nI 0)))] ++ [(a1, .inl (zcl G 0, 60, .inl (fun _ => nI 0)))])) hX hI dX2_init_17 rfl rfl zi2 tyX2_ok nmX2 (by decide) zw328 rfl rfl rfl (tyX2_ok 1 (by decide)) rfl rfl (Nat.le_of_ble_eq_true rfl) rfl ?_
  refine k_aload_n 20 hX dX2_init_20 rfl ?_
  refine k_ldcS (tx := "") (q := zaK G 0) 21 hX dX2_init_21 (fun U h => h.1) ?_
  refine k_put (C := RX2) (T := TX2) (N := 7) tyX2 23 6 0 ((q, .inr (2, [.ref a0, .ref a1, .int (nI 0), .int (nI 0), .int (nI 0), .int (nI 0), .ref (zaK G 0)])) :: ([(a0, .inl (zcl G 0, 60, .inl (fun _ => nI 0)))] ++ [(a1, .inl (zcl G 0, 60, .inl (fun _ => nI 0)))])) hX dX2_init_23 rfl rfl zi2 tyX2_ok nmX2 (by decide) zw333 rfl rfl (tyX2_ok 6 (by decide)) rfl rfl (Nat.le_of_ble_eq_true rfl) rfl ?_
  exact hE 26 _ (fun j => ([q, a0, a1] : List Nat).getD j 0) rfl dX2_init_26
