set_option maxRecDepth 20000 in
set_option maxHeartbeats 4000000 in
theorem c_ini11 (G : zG) (l : Launch) : kMet G l yX11_init cX11_init 2 4 127 2091 11 [.null, .null, .null, .null, .null, .null, .null, .null, .null, .null, .int (nI 0)] (kw11 G) := by
  refine kMet_of zplX11 rfl (by decide) (fun q X hl hX hI hE => ?_)
  refine k_aload_n 0 hX dX11_init_0 rfl ?_
  refine k_objinit 1 hX dX11_init_1 zw99 zw100 zw101 rfl (by decide) ?_
  refine k_aload_n 4 hX dX11_init_4 rfl ?_
  refine k_new (C := RX8) (T := TX8) (N := 13) (ci := 8) tyX8 [.null, .null, .null, .null, .null, .null, .null, .int (nI 0), .int (nI 0), .int (nI 0), .int (nI 0), .int (nI 0), .int (nI 0)] 5 hX dX11_init_5 zi8 tyX8_ok zw102 zw103 zw73 rfl (fun j hj => by rcases (show j = 0 ∨ j = 1 ∨ j = 2 ∨ j = 3 ∨ j = 4 ∨ j = 5 ∨ j = 6 ∨ j = 7 ∨ j = 8 ∨ j = 9 ∨ j = 10 ∨ j = 11 ∨ j = 12 by omega) with rfl | rfl | rfl | rfl | rfl | rfl | rfl | rfl | rfl | rfl | rfl | rfl | rfl <;> rfl) (Nat.le_of_ble_eq_true rfl) (Nat.le_of_ble_eq_true rfl) (fun v0 => ?_)
  refine k_dup 8 hX dX11_init_8 rfl ?_
  refine k_callI (wf := kw8 G) 9 hX dX11_init_9 (c_ini8 G _) zw104 zw105 zw73 zw106 zd_X8_init rfl rfl (Nat.le_of_ble_eq_true rfl) (Nat.le_of_ble_eq_true rfl) (Nat.le_of_ble_eq_true rfl) (Nat.le_of_ble_eq_true rfl) (Nat.le_of_ble_eq_true rfl) (fun β1 hβ1 => ?_)
  subst hβ1
  refine k_putF tyX11 12 0 0 ((q, .inr (11, [.ref (β1 0), .null, .null, .null, .null, .null, .null, .null, .null, .null, .int (nI 0)])) :: kw8 G β1) hX hI dX11_init_12 rfl rfl zi11 tyX11_ok nmX11 (by decide) zw405 rfl rfl rfl (tyX11_ok 0 (by decide)) rfl rfl (Nat.le_of_ble_eq_true rfl) (by simp only [List.append_assoc, List.cons_append, List.nil_append, List.set_cons_zero, List.set]) ?_
  refine k_aload_n 15 hX dX11_init_15 rfl ?_
  refine k_new (C := RX8) (T := TX8) (N := 13) (ci := 8) tyX8 [.null, .null, .null, .null, .null, .null, .null, .int (nI 0), .int (nI 0), .int (nI 0), .int (nI 0), .int (nI 0), .int (nI 0)] 16 hX dX11_init_16 zi8 tyX8_ok zw102 zw103 zw73 rfl (fun j hj => by rcases (show j = 0 ∨ j = 1 ∨ j = 2 ∨ j = 3 ∨ j = 4 ∨ j = 5 ∨ j = 6 ∨ j = 7 ∨ j = 8 ∨ j = 9 ∨ j = 10 ∨ j = 11 ∨ j = 12 by omega) with rfl | rfl | rfl | rfl | rfl | rfl | rfl | rfl | rfl | rfl | rfl | rfl | rfl <;> rfl) (Nat.le_of_ble_eq_true rfl) (Nat.le_of_ble_eq_true rfl) (fun v2 => ?_)
  refine k_dup 19 hX dX11_init_19 rfl ?_
  refine k_callI (wf := kw8 G) 20 hX dX11_init_20 (c_ini8 G _) zw104 zw105 zw73 zw106 zd_X8_init rfl rfl (Nat.le_of_ble_eq_true rfl) (Nat.le_of_ble_eq_true rfl) (Nat.le_of_ble_eq_true rfl) (Nat.le_of_ble_eq_true rfl) (Nat.le_of_ble_eq_true rfl) (fun β3 hβ3 => ?_)
  subst hβ3
  refine k_putF tyX11 23 1 0 ((q, .inr (11, [.ref (β1 0), .ref (β3 0), .null, .null, .null, .null, .null, .null, .null, .null, .int (nI 0)])) :: (kw8 G β1 ++ kw8 G β3)) hX hI dX11_init_23 rfl rfl zi11 tyX11_ok nmX11 (by decide) zw406 rfl rfl rfl (tyX11_ok 1 (by decide)) rfl rfl (Nat.le_of_ble_eq_true rfl) (by simp only [List.append_assoc, List.cons_append, List.nil_append, List.set_cons_zero, List.set]) ?_
  refine k_aload_n 26 hX dX11_init_26 rfl ?_
  refine k_iconst (v := nI 4) 27 hX dX11_init_27 (by decide +kernel) ?_
  refine k_newq (N := 4) (t := 3) (C := RX4) 28 hX dX11_init_28 zw258 (by decide +kernel) rfl (by decide +kernel) (by decide +kernel) (Nat.le_of_ble_eq_true rfl) (Nat.le_of_ble_eq_true rfl) (Nat.le_of_ble_eq_true rfl) (fun a4 => ?_)
  refine k_putF tyX11 31 2 0 ((q, .inr (11, [.ref (β1 0), .ref (β3 0), .ref a4, .null, .null, .null, .null, .null, .null, .null, .int (nI 0)])) :: ((kw8 G β1 ++ kw8 G β3) ++ [(a4, .inl (zcl G 3, 4, .inr (.inr (.inr (.inr (fun _ => none))))))])) hX hI dX11_init_31 rfl rfl zi11 tyX11_ok nmX11 (by decide) zw407 rfl rfl rfl (tyX11_ok 2 (by decide)) rfl rfl (Nat.le_of_ble_eq_true rfl) (by simp only [List.append_assoc, List.cons_append, List.nil_append, List.set_cons_zero, List.set]) ?_
  refine k_iconst (v := nI 0) 34 hX dX11_init_34 (by decide +kernel) ?_
  refine k_istore_n 35 [some (.ref q), some (.int (nI 0))] hX dX11_init_35 (Nat.le_of_ble_eq_true rfl) rfl rfl ?_
  refine k_iload_n 36 hX dX11_init_36 rfl ?_
  refine k_iconst (v := nI 4) 37 hX dX11_init_37 (by decide +kernel) ?_
  refine k_ge_f 38 60 hX dX11_init_38 (by decide) (by decide) ?_
  refine k_aload_n 41 hX dX11_init_41 rfl ?_
  refine k_get (C := RX11) (T := TX11) (N := 11) (q0 := 0) 42 2 hX dX11_init_42 rfl rfl zi11 (by decide) zw407 rfl rfl ?_
  refine k_iload_n 45 hX dX11_init_45 rfl ?_
  refine k_new (C := RX4) (T := TX4) (N := 3) (ci := 4) tyX4 [.null, .int (nI 0), .int (nI 0)] 46 hX dX11_init_46 zi4 tyX4_ok zw258 zw260 zw78 rfl (fun j hj => by rcases (show j = 0 ∨ j = 1 ∨ j = 2 by omega) with rfl | rfl | rfl <;> rfl) (Nat.le_of_ble_eq_true rfl) (Nat.le_of_ble_eq_true rfl) (fun v5 => ?_)
  refine k_dup 49 hX dX11_init_49 rfl ?_
  refine k_callIN (wf := kw4 G) 50 hX dX11_init_50 (c_ini4 G _) (by decide +kernel) zw262 zw78 zw263 zd_X4_init rfl rfl (Nat.le_of_ble_eq_true rfl) (Nat.le_of_ble_eq_true rfl) (Nat.le_of_ble_eq_true rfl) (Nat.le_of_ble_eq_true rfl) (Nat.le_of_ble_eq_true rfl) (fun β6 hβ6 => ?_)
  subst hβ6
  refine k_astq (r := (RX4, TX4, 3)) (t := 3) (ci := 4) (N := 4) (i := 0) (f := (fun _ => none)) 53 ((q, .inr (11, [.ref (β1 0), .ref (β3 0), .ref a4, .null, .null, .null, .null, .null, .null, .null, .int (nI 0)])) :: (kw8 G β1 ++ kw8 G β3)) (kw4 G β6) hX dX11_init_53 (by simp only [List.append_assoc, List.cons_append, List.nil_append]) rfl (List.mem_cons_self) rfl (by decide) (by decide) ?_
  refine k_iinc (v := nI 1) 54 [some (.ref q), some (.int (nI 1))] hX dX11_init_54 rfl (by decide) rfl rfl ?_
  refine k_goto 57 36 hX dX11_init_57 (by decide) ?_
  refine k_iload_n 36 hX dX11_init_36 rfl ?_
  refine k_iconst (v := nI 4) 37 hX dX11_init_37 (by decide +kernel) ?_
  refine k_ge_f 38 60 hX dX11_init_38 (by decide) (by decide) ?_
  refine k_aload_n 41 hX dX11_init_41 rfl ?_
  refine k_get (C := RX11) (T := TX11) (N := 11) (q0 := 0) 42 2 hX dX11_init_42 rfl rfl zi11 (by decide) zw407 rfl rfl ?_
  refine k_iload_n 45 hX dX11_init_45 rfl ?_
  refine k_new (C := RX4) (T := TX4) (N := 3) (ci := 4) tyX4 [.null, .int (nI 0), .int (nI 0)] 46 hX dX11_init_46 zi4 tyX4_ok zw258 zw260 zw78 rfl (fun j hj => by rcases (show j = 0 ∨ j = 1 ∨ j = 2 by omega) with rfl | rfl | rfl <;> rfl) (Nat.le_of_ble_eq_true rfl) (Nat.le_of_ble_eq_true rfl) (fun v7 => ?_)
  refine k_dup 49 hX dX11_init_49 rfl ?_
  refine k_callIN (wf := kw4 G) 50 hX dX11_init_50 (c_ini4 G _) (by decide +kernel) zw262 zw78 zw263 zd_X4_init rfl rfl (Nat.le_of_ble_eq_true rfl) (Nat.le_of_ble_eq_true rfl) (Nat.le_of_ble_eq_true rfl) (Nat.le_of_ble_eq_true rfl) (Nat.le_of_ble_eq_true rfl) (fun β8 hβ8 => ?_)
  subst hβ8
  refine k_astq (r := (RX4, TX4, 3)) (t := 3) (ci := 4) (N := 4) (i := 1) (f := (va_up (fun _ => none) 0 (some (β6 0)))) 53 ((q, .inr (11, [.ref (β1 0), .ref (β3 0), .ref a4, .null, .null, .null, .null, .null, .null, .null, .int (nI 0)])) :: (kw8 G β1 ++ kw8 G β3)) ((kw4 G β6 ++ kw4 G β8)) hX dX11_init_53 (by simp only [List.append_assoc, List.cons_append, List.nil_append]) rfl (List.mem_append_right _ List.mem_cons_self) rfl (by decide) (by decide) ?_
  refine k_iinc (v := nI 2) 54 [some (.ref q), some (.int (nI 2))] hX dX11_init_54 rfl (by decide) rfl rfl ?_
  refine k_goto 57 36 hX dX11_init_57 (by decide) ?_
  refine k_iload_n 36 hX dX11_init_36 rfl ?_
  refine k_iconst (v := nI 4) 37 hX dX11_init_37 (by decide +kernel) ?_
  refine k_ge_f 38 60 hX dX11_init_38 (by decide) (by decide) ?_
  refine k_aload_n 41 hX dX11_init_41 rfl ?_
  refine k_get (C := RX11) (T := TX11) (N := 11) (q0 := 0) 42 2 hX dX11_init_42 rfl rfl zi11 (by decide) zw407 rfl rfl ?_
  refine k_iload_n 45 hX dX11_init_45 rfl ?_
  refine k_new (C := RX4) (T := TX4) (N := 3) (ci := 4) tyX4 [.null, .int (nI 0), .int (nI 0)] 46 hX dX11_init_46 zi4 tyX4_ok zw258 zw260 zw78 rfl (fun j hj => by rcases (show j = 0 ∨ j = 1 ∨ j = 2 by omega) with rfl | rfl | rfl <;> rfl) (Nat.le_of_ble_eq_true rfl) (Nat.le_of_ble_eq_true rfl) (fun v9 => ?_)
  refine k_dup 49 hX dX11_init_49 rfl ?_
  refine k_callIN (wf := kw4 G) 50 hX dX11_init_50 (c_ini4 G _) (by decide +kernel) zw262 zw78 zw263 zd_X4_init rfl rfl (Nat.le_of_ble_eq_true rfl) (Nat.le_of_ble_eq_true rfl) (Nat.le_of_ble_eq_true rfl) (Nat.le_of_ble_eq_true rfl) (Nat.le_of_ble_eq_true rfl) (fun β10 hβ10 => ?_)
  subst hβ10
  refine k_astq (r := (RX4, TX4, 3)) (t := 3) (ci := 4) (N := 4) (i := 2) (f := (va_up (va_up (fun _ => none) 0 (some (β6 0))) 1 (some (β8 0)))) 53 ((q, .inr (11, [.ref (β1 0), .ref (β3 0), .ref a4, .null, .null, .null, .null, .null, .null, .null, .int (nI 0)])) :: (kw8 G β1 ++ kw8 G β3)) (((kw4 G β6 ++ kw4 G β8) ++ kw4 G β10)) hX dX11_init_53 (by simp only [List.append_assoc, List.cons_append, List.nil_append]) rfl (List.mem_append_right _ List.mem_cons_self) rfl (by decide) (by decide) ?_
  refine k_iinc (v := nI 3) 54 [some (.ref q), some (.int (nI 3))] hX dX11_init_54 rfl (by decide) rfl rfl ?_
  refine k_goto 57 36 hX dX11_init_57 (by decide) ?_
  refine k_iload_n 36 hX dX11_init_36 rfl ?_
  refine k_iconst (v := nI 4) 37 hX dX11_init_37 (by decide +kernel) ?_
  refine k_ge_f 38 60 hX dX11_init_38 (by decide) (by decide) ?_
  refine k_aload_n 41 hX dX11_init_41 rfl ?_
  refine k_get (C := RX11) (T := TX11) (N := 11) (q0 := 0) 42 2 hX dX11_init_42 rfl rfl zi11 (by decide) zw407 rfl rfl ?_
  refine k_iload_n 45 hX dX11_init_45 rfl ?_
  refine k_new (C := RX4) (T := TX4) (N := 3) (ci := 4) tyX4 [.null, .int (nI 0), .int (nI 0)] 46 hX dX11_init_46 zi4 tyX4_ok zw258 zw260 zw78 rfl (fun j hj => by rcases (show j = 0 ∨ j = 1 ∨ j = 2 by omega) with rfl | rfl | rfl <;> rfl) (Nat.le_of_ble_eq_true rfl) (Nat.le_of_ble_eq_true rfl) (fun v11 => ?_)
  refine k_dup 49 hX dX11_init_49 rfl ?_
  refine k_callIN (wf := kw4 G) 50 hX dX11_init_50 (c_ini4 G _) (by decide +kernel) zw262 zw78 zw263 zd_X4_init rfl rfl (Nat.le_of_ble_eq_true rfl) (Nat.le_of_ble_eq_true rfl) (Nat.le_of_ble_eq_true rfl) (Nat.le_of_ble_eq_true rfl) (Nat.le_of_ble_eq_true rfl) (fun β12 hβ12 => ?_)
  subst hβ12
  refine k_astq (r := (RX4, TX4, 3)) (t := 3) (ci := 4) (N := 4) (i := 3) (f := (va_up (va_up (va_up (fun _ => none) 0 (some (β6 0))) 1 (some (β8 0))) 2 (some (β10 0)))) 53 ((q, .inr (11, [.ref (β1 0), .ref (β3 0), .ref a4, .null, .null, .null, .null, .null, .null, .null, .int (nI 0)])) :: (kw8 G β1 ++ kw8 G β3)) ((((kw4 G β6 ++ kw4 G β8) ++ kw4 G β10) ++ kw4 G β12)) hX dX11_init_53 (by simp only [List.append_assoc, List.cons_append, List.nil_append]) rfl (List.mem_append_right _ List.mem_cons_self) rfl (by decide) (by decide) ?_
  refine k_iinc (v := nI 4) 54 [some (.ref q), some (.int (nI 4))] hX dX11_init_54 rfl (by decide) rfl rfl ?_
  refine k_goto 57 36 hX dX11_init_57 (by decide) ?_
  refine k_iload_n 36 hX dX11_init_36 rfl ?_
  refine k_iconst (v := nI 4) 37 hX dX11_init_37 (by decide +kernel) ?_
  refine k_ge_t 38 60 hX dX11_init_38 (by decide) (by decide) ?_
  refine k_aload_n 60 hX dX11_init_60 rfl ?_
  refine k_new (C := RX1) (T := TX1) (N := 4) (ci := 1) tyX1 [.null, .null, .null, .int (nI 0)] 61 hX dX11_init_61 zi1 tyX1_ok zw278 zw279 zw79 rfl (fun j hj => by rcases (show j = 0 ∨ j = 1 ∨ j = 2 ∨ j = 3 by omega) with rfl | rfl | rfl | rfl <;> rfl) (Nat.le_of_ble_eq_true rfl) (Nat.le_of_ble_eq_true rfl) (fun v13 => ?_)
  refine k_dup 64 hX dX11_init_64 rfl ?_
  refine k_callIN (wf := kw1 G) 65 hX dX11_init_65 (c_ini1 G _) (by decide +kernel) zw281 zw79 zw282 zd_X1_init rfl rfl (Nat.le_of_ble_eq_true rfl) (Nat.le_of_ble_eq_true rfl) (Nat.le_of_ble_eq_true rfl) (Nat.le_of_ble_eq_true rfl) (Nat.le_of_ble_eq_true rfl) (fun β14 hβ14 => ?_)
  subst hβ14
  refine k_putF tyX11 68 3 0 ((q, .inr (11, [.ref (β1 0), .ref (β3 0), .ref a4, .ref (β14 0), .null, .null, .null, .null, .null, .null, .int (nI 0)])) :: (((((((kw8 G β1 ++ kw8 G β3) ++ [(a4, .inl (zcl G 3, 4, .inr (.inr (.inr (.inr (va_up (va_up (va_up (va_up (fun _ => none) 0 (some (β6 0))) 1 (some (β8 0))) 2 (some (β10 0))) 3 (some (β12 0))))))))]) ++ kw4 G β6) ++ kw4 G β8) ++ kw4 G β10) ++ kw4 G β12) ++ kw1 G β14)) hX hI dX11_init_68 rfl rfl zi11 tyX11_ok nmX11 (by decide) zw408 rfl rfl rfl (tyX11_ok 3 (by decide)) rfl rfl (Nat.le_of_ble_eq_true rfl) (by simp only [List.append_assoc, List.cons_append, List.nil_append, List.set_cons_zero, List.set]) ?_
  refine k_aload_n 71 hX dX11_init_71 rfl ?_
  refine k_new (C := RX3) (T := TX3) (N := 2) (ci := 3) tyX3 [.null, .int (nI 0)] 72 hX dX11_init_72 zi3 tyX3_ok zw299 zw300 zw80 rfl (fun j hj => by rcases (show j = 0 ∨ j = 1 by omega) with rfl | rfl <;> rfl) (Nat.le_of_ble_eq_true rfl) (Nat.le_of_ble_eq_true rfl) (fun v15 => ?_)
  refine k_dup 75 hX dX11_init_75 rfl ?_
  refine k_callIN (wf := kw3 G) 76 hX dX11_init_76 (c_ini3 G _) (by decide +kernel) zw302 zw80 zw303 zd_X3_init rfl rfl (Nat.le_of_ble_eq_true rfl) (Nat.le_of_ble_eq_true rfl) (Nat.le_of_ble_eq_true rfl) (Nat.le_of_ble_eq_true rfl) (Nat.le_of_ble_eq_true rfl) (fun β16 hβ16 => ?_)
  subst hβ16
  refine k_putF tyX11 79 4 0 ((q, .inr (11, [.ref (β1 0), .ref (β3 0), .ref a4, .ref (β14 0), .ref (β16 0), .null, .null, .null, .null, .null, .int (nI 0)])) :: ((((((((kw8 G β1 ++ kw8 G β3) ++ [(a4, .inl (zcl G 3, 4, .inr (.inr (.inr (.inr (va_up (va_up (va_up (va_up (fun _ => none) 0 (some (β6 0))) 1 (some (β8 0))) 2 (some (β10 0))) 3 (some (β12 0))))))))]) ++ kw4 G β6) ++ kw4 G β8) ++ kw4 G β10) ++ kw4 G β12) ++ kw1 G β14) ++ kw3 G β16)) hX hI dX11_init_79 rfl rfl zi11 tyX11_ok nmX11 (by decide) zw409 rfl rfl rfl (tyX11_ok 4 (by decide)) rfl rfl (Nat.le_of_ble_eq_true rfl) (by simp only [List.append_assoc, List.cons_append, List.nil_append, List.set_cons_zero, List.set]) ?_
  refine k_aload_n 82 hX dX11_init_82 rfl ?_
  refine k_new (C := RX9) (T := TX9) (N := 4) (ci := 9) tyX9 [.null, .int (nI 0), .int (nI 0), .int (nI 0)] 83 hX dX11_init_83 zi9 tyX9_ok zw318 zw177 zw77 rfl (fun j hj => by rcases (show j = 0 ∨ j = 1 ∨ j = 2 ∨ j = 3 by omega) with rfl | rfl | rfl | rfl <;> rfl) (Nat.le_of_ble_eq_true rfl) (Nat.le_of_ble_eq_true rfl) (fun v17 => ?_)
  refine k_dup 86 hX dX11_init_86 rfl ?_
  refine k_callIN (wf := kw9 G) 87 hX dX11_init_87 (c_ini9 G _) (by decide +kernel) zw179 zw77 zw180 zd_X9_init rfl rfl (Nat.le_of_ble_eq_true rfl) (Nat.le_of_ble_eq_true rfl) (Nat.le_of_ble_eq_true rfl) (Nat.le_of_ble_eq_true rfl) (Nat.le_of_ble_eq_true rfl) (fun β18 hβ18 => ?_)
  subst hβ18
  refine k_putF tyX11 90 5 0 ((q, .inr (11, [.ref (β1 0), .ref (β3 0), .ref a4, .ref (β14 0), .ref (β16 0), .ref (β18 0), .null, .null, .null, .null, .int (nI 0)])) :: (((((((((kw8 G β1 ++ kw8 G β3) ++ [(a4, .inl (zcl G 3, 4, .inr (.inr (.inr (.inr (va_up (va_up (va_up (va_up (fun _ => none) 0 (some (β6 0))) 1 (some (β8 0))) 2 (some (β10 0))) 3 (some (β12 0))))))))]) ++ kw4 G β6) ++ kw4 G β8) ++ kw4 G β10) ++ kw4 G β12) ++ kw1 G β14) ++ kw3 G β16) ++ kw9 G β18)) hX hI dX11_init_90 rfl rfl zi11 tyX11_ok nmX11 (by decide) zw410 rfl rfl rfl (tyX11_ok 5 (by decide)) rfl rfl (Nat.le_of_ble_eq_true rfl) (by simp only [List.append_assoc, List.cons_append, List.nil_append, List.set_cons_zero, List.set]) ?_
  refine k_aload_n 93 hX dX11_init_93 rfl ?_
  refine k_new (C := RX2) (T := TX2) (N := 7) (ci := 2) tyX2 [.null, .null, .int (nI 0), .int (nI 0), .int (nI 0), .int (nI 0), .null] 94 hX dX11_init_94 zi2 tyX2_ok zw320 zw321 zw81 rfl (fun j hj => by rcases (show j = 0 ∨ j = 1 ∨ j = 2 ∨ j = 3 ∨ j = 4 ∨ j = 5 ∨ j = 6 by omega) with rfl | rfl | rfl | rfl | rfl | rfl | rfl <;> rfl) (Nat.le_of_ble_eq_true rfl) (Nat.le_of_ble_eq_true rfl) (fun v19 => ?_)
  refine k_dup 97 hX dX11_init_97 rfl ?_
  refine k_callIN (wf := kw2 G) 98 hX dX11_init_98 (c_ini2 G _) (by decide +kernel) zw323 zw81 zw324 zd_X2_init rfl rfl (Nat.le_of_ble_eq_true rfl) (Nat.le_of_ble_eq_true rfl) (Nat.le_of_ble_eq_true rfl) (Nat.le_of_ble_eq_true rfl) (Nat.le_of_ble_eq_true rfl) (fun β20 hβ20 => ?_)
  subst hβ20
  refine k_putF tyX11 101 6 0 ((q, .inr (11, [.ref (β1 0), .ref (β3 0), .ref a4, .ref (β14 0), .ref (β16 0), .ref (β18 0), .ref (β20 0), .null, .null, .null, .int (nI 0)])) :: ((((((((((kw8 G β1 ++ kw8 G β3) ++ [(a4, .inl (zcl G 3, 4, .inr (.inr (.inr (.inr (va_up (va_up (va_up (va_up (fun _ => none) 0 (some (β6 0))) 1 (some (β8 0))) 2 (some (β10 0))) 3 (some (β12 0))))))))]) ++ kw4 G β6) ++ kw4 G β8) ++ kw4 G β10) ++ kw4 G β12) ++ kw1 G β14) ++ kw3 G β16) ++ kw9 G β18) ++ kw2 G β20)) hX hI dX11_init_101 rfl rfl zi11 tyX11_ok nmX11 (by decide) zw411 rfl rfl rfl (tyX11_ok 6 (by decide)) rfl rfl (Nat.le_of_ble_eq_true rfl) (by simp only [List.append_assoc, List.cons_append, List.nil_append, List.set_cons_zero, List.set]) ?_
  refine k_aload_n 104 hX dX11_init_104 rfl ?_
  refine k_new (C := RX0) (T := TX0) (N := 6) (ci := 0) tyX0 [.null, .null, .int (nI 0), .int (nI 0), .int (nI 0), .int (nI 0)] 105 hX dX11_init_105 zi0 tyX0_ok zw350 zw351 zw82 rfl (fun j hj => by rcases (show j = 0 ∨ j = 1 ∨ j = 2 ∨ j = 3 ∨ j = 4 ∨ j = 5 by omega) with rfl | rfl | rfl | rfl | rfl | rfl <;> rfl) (Nat.le_of_ble_eq_true rfl) (Nat.le_of_ble_eq_true rfl) (fun v21 => ?_)
  refine k_dup 108 hX dX11_init_108 rfl ?_
  refine k_callIN (wf := kw0 G) 109 hX dX11_init_109 (c_ini0 G _) (by decide +kernel) zw353 zw82 zw354 zd_X0_init rfl rfl (Nat.le_of_ble_eq_true rfl) (Nat.le_of_ble_eq_true rfl) (Nat.le_of_ble_eq_true rfl) (Nat.le_of_ble_eq_true rfl) (Nat.le_of_ble_eq_true rfl) (fun β22 hβ22 => ?_)
  subst hβ22
  refine k_putF tyX11 112 7 0 ((q, .inr (11, [.ref (β1 0), .ref (β3 0), .ref a4, .ref (β14 0), .ref (β16 0), .ref (β18 0), .ref (β20 0), .ref (β22 0), .null, .null, .int (nI 0)])) :: (((((((((((kw8 G β1 ++ kw8 G β3) ++ [(a4, .inl (zcl G 3, 4, .inr (.inr (.inr (.inr (va_up (va_up (va_up (va_up (fun _ => none) 0 (some (β6 0))) 1 (some (β8 0))) 2 (some (β10 0))) 3 (some (β12 0))))))))]) ++ kw4 G β6) ++ kw4 G β8) ++ kw4 G β10) ++ kw4 G β12) ++ kw1 G β14) ++ kw3 G β16) ++ kw9 G β18) ++ kw2 G β20) ++ kw0 G β22)) hX hI dX11_init_112 rfl rfl zi11 tyX11_ok nmX11 (by decide) zw412 rfl rfl rfl (tyX11_ok 7 (by decide)) rfl rfl (Nat.le_of_ble_eq_true rfl) (by simp only [List.append_assoc, List.cons_append, List.nil_append, List.set_cons_zero, List.set]) ?_
  refine k_aload_n 115 hX dX11_init_115 rfl ?_
  refine k_new (C := RX5) (T := TX5) (N := 6) (ci := 5) tyX5 [.null, .int (nI 0), .int (nI 0), .int (nI 0), .int (nI 0), .int (nI 0)] 116 hX dX11_init_116 zi5 tyX5_ok zw377 zw378 zw83 rfl (fun j hj => by rcases (show j = 0 ∨ j = 1 ∨ j = 2 ∨ j = 3 ∨ j = 4 ∨ j = 5 by omega) with rfl | rfl | rfl | rfl | rfl | rfl <;> rfl) (Nat.le_of_ble_eq_true rfl) (Nat.le_of_ble_eq_true rfl) (fun v23 => ?_)
  refine k_dup 119 hX dX11_init_119 rfl ?_
  refine k_callIN (wf := kw5 G) 120 hX dX11_init_120 (c_ini5 G _) (by decide +kernel) zw380 zw83 zw381 zd_X5_init rfl rfl (Nat.le_of_ble_eq_true rfl) (Nat.le_of_ble_eq_true rfl) (Nat.le_of_ble_eq_true rfl) (Nat.le_of_ble_eq_true rfl) (Nat.le_of_ble_eq_true rfl) (fun β24 hβ24 => ?_)
  subst hβ24
  refine k_putF tyX11 123 8 0 ((q, .inr (11, [.ref (β1 0), .ref (β3 0), .ref a4, .ref (β14 0), .ref (β16 0), .ref (β18 0), .ref (β20 0), .ref (β22 0), .ref (β24 0), .null, .int (nI 0)])) :: ((((((((((((kw8 G β1 ++ kw8 G β3) ++ [(a4, .inl (zcl G 3, 4, .inr (.inr (.inr (.inr (va_up (va_up (va_up (va_up (fun _ => none) 0 (some (β6 0))) 1 (some (β8 0))) 2 (some (β10 0))) 3 (some (β12 0))))))))]) ++ kw4 G β6) ++ kw4 G β8) ++ kw4 G β10) ++ kw4 G β12) ++ kw1 G β14) ++ kw3 G β16) ++ kw9 G β18) ++ kw2 G β20) ++ kw0 G β22) ++ kw5 G β24)) hX hI dX11_init_123 rfl rfl zi11 tyX11_ok nmX11 (by decide) zw413 rfl rfl rfl (tyX11_ok 8 (by decide)) rfl rfl (Nat.le_of_ble_eq_true rfl) (by simp only [List.append_assoc, List.cons_append, List.nil_append, List.set_cons_zero, List.set]) ?_
  refine k_aload_n 126 hX dX11_init_126 rfl ?_
  refine k_bipush (v := nI 7) 127 hX dX11_init_127 (by decide +kernel) ?_
  refine k_newa (N := 7) 129 hX dX11_init_129 zw141 (by decide +kernel) (by decide +kernel) (Nat.le_of_ble_eq_true rfl) (Nat.le_of_ble_eq_true rfl) (Nat.le_of_ble_eq_true rfl) (fun a25 => ?_)
  refine k_putF tyX11 131 9 0 ((q, .inr (11, [.ref (β1 0), .ref (β3 0), .ref a4, .ref (β14 0), .ref (β16 0), .ref (β18 0), .ref (β20 0), .ref (β22 0), .ref (β24 0), .ref a25, .int (nI 0)])) :: (((((((((((((kw8 G β1 ++ kw8 G β3) ++ [(a4, .inl (zcl G 3, 4, .inr (.inr (.inr (.inr (va_up (va_up (va_up (va_up (fun _ => none) 0 (some (β6 0))) 1 (some (β8 0))) 2 (some (β10 0))) 3 (some (β12 0))))))))]) ++ kw4 G β6) ++ kw4 G β8) ++ kw4 G β10) ++ kw4 G β12) ++ kw1 G β14) ++ kw3 G β16) ++ kw9 G β18) ++ kw2 G β20) ++ kw0 G β22) ++ kw5 G β24) ++ [(a25, .inl (zcl G 0, 7, .inl (fun _ => nI 0)))])) hX hI dX11_init_131 rfl rfl zi11 tyX11_ok nmX11 (by decide) zw414 rfl rfl rfl (tyX11_ok 9 (by decide)) rfl rfl (Nat.le_of_ble_eq_true rfl) (by simp only [List.append_assoc, List.cons_append, List.nil_append, List.set_cons_zero, List.set]) ?_
  refine k_arr (a := a4) (N := 4) (f := (va_up (va_up (va_up (va_up (fun _ => none) 0 (some (β6 0))) 1 (some (β8 0))) 2 (some (β10 0))) 3 (some (β12 0)))) (t := 3) (g := fun i => ([β6 0, β8 0, β10 0, β12 0] : List Nat)[i]?) ((q, .inr (11, [.ref (β1 0), .ref (β3 0), .ref a4, .ref (β14 0), .ref (β16 0), .ref (β18 0), .ref (β20 0), .ref (β22 0), .ref (β24 0), .ref a25, .int (nI 0)])) :: (kw8 G β1 ++ kw8 G β3)) (((((((((((kw4 G β6 ++ kw4 G β8) ++ kw4 G β10) ++ kw4 G β12) ++ kw1 G β14) ++ kw3 G β16) ++ kw9 G β18) ++ kw2 G β20) ++ kw0 G β22) ++ kw5 G β24) ++ [(a25, .inl (zcl G 0, 7, .inl (fun _ => nI 0)))])) (by simp only [List.append_assoc, List.cons_append, List.nil_append]) (fun i hi => by rcases (show i = 0 ∨ i = 1 ∨ i = 2 ∨ i = 3 by omega) with rfl | rfl | rfl | rfl <;> rfl) ?_
  exact hE 134 _ (fun j => ([q, β1 0, β1 1, β1 2, β1 3, β1 4, β1 5, β1 6, β1 7, β1 8, β1 9, β1 10, β1 11, β1 12, β1 13, β1 14, β1 15, β1 16, β1 17, β1 18, β1 19, β1 20, β1 21, β1 22, β1 23, β1 24, β1 25, β1 26, β1 27, β1 28, β1 29, β1 30, β1 31, β1 32, β1 33, β1 34, β1 35, β1 36, β1 37, β1 38, β1 39, β1 40, β1 41, β1 42, β1 43, β1 44, β1 45, β1 46, β1 47, β1 48, β1 49, β1 50, β3 0, β3 1, β3 2, β3 3, β3 4, β3 5, β3 6, β3 7, β3 8, β3 9, β3 10, β3 11, β3 12, β3 13, β3 14, β3 15, β3 16, β3 17, β3 18, β3 19, β3 20, β3 21, β3 22, β3 23, β3 24, β3 25, β3 26, β3 27, β3 28, β3 29, β3 30, β3 31, β3 32, β3 33, β3 34, β3 35, β3 36, β3 37, β3 38, β3 39, β3 40, β3 41, β3 42, β3 43, β3 44, β3 45, β3 46, β3 47, β3 48, β3 49, β3 50, a4, β6 0, β6 1, β8 0, β8 1, β10 0, β10 1, β12 0, β12 1, β14 0, β14 1, β14 2, β14 3, β16 0, β16 1, β18 0, β18 1, β20 0, β20 1, β20 2, β22 0, β22 1, β24 0, β24 1, a25] : List Nat).getD j 0) rfl dX11_init_134
