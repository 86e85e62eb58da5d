set_option maxRecDepth 20000 in
set_option maxHeartbeats 4000000 in
theorem c_ini7 (G : zG) (l : Launch) : kMet G l yX7_init cX7_init 2 2 25 120 7 [.null, .int (nI 0)] (kw7 G) := by
  refine kMet_of zplX7 rfl (by decide) (fun q X hl hX hI hE => ?_)
  refine k_aload_n 0 hX dX7_init_0 rfl ?_
  refine k_objinit 1 hX dX7_init_1 zw115 zw100 zw101 rfl (by decide) ?_
  refine k_aload_n 4 hX dX7_init_4 rfl ?_
  refine k_bipush (v := nI 12) 5 hX dX7_init_5 (by decide +kernel) ?_
  refine k_newq (N := 12) (t := 2) (C := RX10) 7 hX dX7_init_7 zw116 (by decide +kernel) rfl (by decide +kernel) (by decide +kernel) (Nat.le_of_ble_eq_true rfl) (Nat.le_of_ble_eq_true rfl) (Nat.le_of_ble_eq_true rfl) (fun a0 => ?_)
  refine k_putF tyX7 10 0 0 ((q, .inr (7, [.ref a0, .int (nI 0)])) :: [(a0, .inl (zcl G 2, 12, .inr (.inr (.inr (.inr (fun _ => none))))))]) hX hI dX7_init_10 rfl rfl zi7 tyX7_ok nmX7 (by decide) zw142 rfl rfl rfl (tyX7_ok 0 (by decide)) rfl rfl (Nat.le_of_ble_eq_true rfl) rfl ?_
  refine k_iconst (v := nI 0) 13 hX dX7_init_13 (by decide +kernel) ?_
  refine k_istore_n 14 [some (.ref q), some (.int (nI 0))] hX dX7_init_14 (Nat.le_of_ble_eq_true rfl) rfl rfl ?_
  refine k_iload_n 15 hX dX7_init_15 rfl ?_
  refine k_bipush (v := nI 12) 16 hX dX7_init_16 (by decide +kernel) ?_
  refine k_ge_f 18 40 hX dX7_init_18 (by decide) (by decide) ?_
  refine k_aload_n 21 hX dX7_init_21 rfl ?_
  refine k_get (C := RX7) (T := TX7) (N := 2) (q0 := 0) 22 0 hX dX7_init_22 rfl rfl zi7 (by decide) zw142 rfl rfl ?_
  refine k_iload_n 25 hX dX7_init_25 rfl ?_
  refine k_new (C := RX10) (T := TX10) (N := 3) (ci := 10) tyX10 [.null, .int (nI 0), .int (nI 0)] 26 hX dX7_init_26 zi10 tyX10_ok zw116 zw118 zw75 rfl (fun j hj => by rcases (show j = 0 ∨ j = 1 ∨ j = 2 by omega) with rfl | rfl | rfl <;> rfl) (Nat.le_of_ble_eq_true rfl) (Nat.le_of_ble_eq_true rfl) (fun v1 => ?_)
  refine k_dup 29 hX dX7_init_29 rfl ?_
  refine k_callIN (wf := kw10 G) 30 hX dX7_init_30 (c_ini10 G _) (by decide +kernel) zw120 zw75 zw121 zd_X10_init rfl rfl (Nat.le_of_ble_eq_true rfl) (Nat.le_of_ble_eq_true rfl) (Nat.le_of_ble_eq_true rfl) (Nat.le_of_ble_eq_true rfl) (Nat.le_of_ble_eq_true rfl) (fun β2 hβ2 => ?_)
  subst hβ2
  refine k_astq (r := (RX10, TX10, 3)) (t := 2) (ci := 10) (N := 12) (i := 0) (f := (fun _ => none)) 33 ((q, .inr (7, [.ref a0, .int (nI 0)])) :: []) (kw10 G β2) hX dX7_init_33 rfl rfl (List.mem_cons_self) rfl (by decide) (by decide) ?_
  refine k_iinc (v := nI 1) 34 [some (.ref q), some (.int (nI 1))] hX dX7_init_34 rfl (by decide) rfl rfl ?_
  refine k_goto 37 15 hX dX7_init_37 (by decide) ?_
  refine k_iload_n 15 hX dX7_init_15 rfl ?_
  refine k_bipush (v := nI 12) 16 hX dX7_init_16 (by decide +kernel) ?_
  refine k_ge_f 18 40 hX dX7_init_18 (by decide) (by decide) ?_
  refine k_aload_n 21 hX dX7_init_21 rfl ?_
  refine k_get (C := RX7) (T := TX7) (N := 2) (q0 := 0) 22 0 hX dX7_init_22 rfl rfl zi7 (by decide) zw142 rfl rfl ?_
  refine k_iload_n 25 hX dX7_init_25 rfl ?_
  refine k_new (C := RX10) (T := TX10) (N := 3) (ci := 10) tyX10 [.null, .int (nI 0), .int (nI 0)] 26 hX dX7_init_26 zi10 tyX10_ok zw116 zw118 zw75 rfl (fun j hj => by rcases (show j = 0 ∨ j = 1 ∨ j = 2 by omega) with rfl | rfl | rfl <;> rfl) (Nat.le_of_ble_eq_true rfl) (Nat.le_of_ble_eq_true rfl) (fun v3 => ?_)
  refine k_dup 29 hX dX7_init_29 rfl ?_
  refine k_callIN (wf := kw10 G) 30 hX dX7_init_30 (c_ini10 G _) (by decide +kernel) zw120 zw75 zw121 zd_X10_init rfl rfl (Nat.le_of_ble_eq_true rfl) (Nat.le_of_ble_eq_true rfl) (Nat.le_of_ble_eq_true rfl) (Nat.le_of_ble_eq_true rfl) (Nat.le_of_ble_eq_true rfl) (fun β4 hβ4 => ?_)
  subst hβ4
  refine k_astq (r := (RX10, TX10, 3)) (t := 2) (ci := 10) (N := 12) (i := 1) (f := (va_up (fun _ => none) 0 (some (β2 0)))) 33 ((q, .inr (7, [.ref a0, .int (nI 0)])) :: []) ((kw10 G β2 ++ kw10 G β4)) hX dX7_init_33 rfl rfl (List.mem_append_right _ List.mem_cons_self) rfl (by decide) (by decide) ?_
  refine k_iinc (v := nI 2) 34 [some (.ref q), some (.int (nI 2))] hX dX7_init_34 rfl (by decide) rfl rfl ?_
  refine k_goto 37 15 hX dX7_init_37 (by decide) ?_
  refine k_iload_n 15 hX dX7_init_15 rfl ?_
  refine k_bipush (v := nI 12) 16 hX dX7_init_16 (by decide +kernel) ?_
  refine k_ge_f 18 40 hX dX7_init_18 (by decide) (by decide) ?_
  refine k_aload_n 21 hX dX7_init_21 rfl ?_
  refine k_get (C := RX7) (T := TX7) (N := 2) (q0 := 0) 22 0 hX dX7_init_22 rfl rfl zi7 (by decide) zw142 rfl rfl ?_
  refine k_iload_n 25 hX dX7_init_25 rfl ?_
  refine k_new (C := RX10) (T := TX10) (N := 3) (ci := 10) tyX10 [.null, .int (nI 0), .int (nI 0)] 26 hX dX7_init_26 zi10 tyX10_ok zw116 zw118 zw75 rfl (fun j hj => by rcases (show j = 0 ∨ j = 1 ∨ j = 2 by omega) with rfl | rfl | rfl <;> rfl) (Nat.le_of_ble_eq_true rfl) (Nat.le_of_ble_eq_true rfl) (fun v5 => ?_)
  refine k_dup 29 hX dX7_init_29 rfl ?_
  refine k_callIN (wf := kw10 G) 30 hX dX7_init_30 (c_ini10 G _) (by decide +kernel) zw120 zw75 zw121 zd_X10_init rfl rfl (Nat.le_of_ble_eq_true rfl) (Nat.le_of_ble_eq_true rfl) (Nat.le_of_ble_eq_true rfl) (Nat.le_of_ble_eq_true rfl) (Nat.le_of_ble_eq_true rfl) (fun β6 hβ6 => ?_)
  subst hβ6
  refine k_astq (r := (RX10, TX10, 3)) (t := 2) (ci := 10) (N := 12) (i := 2) (f := (va_up (va_up (fun _ => none) 0 (some (β2 0))) 1 (some (β4 0)))) 33 ((q, .inr (7, [.ref a0, .int (nI 0)])) :: []) (((kw10 G β2 ++ kw10 G β4) ++ kw10 G β6)) hX dX7_init_33 rfl rfl (List.mem_append_right _ List.mem_cons_self) rfl (by decide) (by decide) ?_
  refine k_iinc (v := nI 3) 34 [some (.ref q), some (.int (nI 3))] hX dX7_init_34 rfl (by decide) rfl rfl ?_
  refine k_goto 37 15 hX dX7_init_37 (by decide) ?_
  refine k_iload_n 15 hX dX7_init_15 rfl ?_
  refine k_bipush (v := nI 12) 16 hX dX7_init_16 (by decide +kernel) ?_
  refine k_ge_f 18 40 hX dX7_init_18 (by decide) (by decide) ?_
  refine k_aload_n 21 hX dX7_init_21 rfl ?_
  refine k_get (C := RX7) (T := TX7) (N := 2) (q0 := 0) 22 0 hX dX7_init_22 rfl rfl zi7 (by decide) zw142 rfl rfl ?_
  refine k_iload_n 25 hX dX7_init_25 rfl ?_
  refine k_new (C := RX10) (T := TX10) (N := 3) (ci := 10) tyX10 [.null, .int (nI 0), .int (nI 0)] 26 hX dX7_init_26 zi10 tyX10_ok zw116 zw118 zw75 rfl (fun j hj => by rcases (show j = 0 ∨ j = 1 ∨ j = 2 by omega) with rfl | rfl | rfl <;> rfl) (Nat.le_of_ble_eq_true rfl) (Nat.le_of_ble_eq_true rfl) (fun v7 => ?_)
  refine k_dup 29 hX dX7_init_29 rfl ?_
  refine k_callIN (wf := kw10 G) 30 hX dX7_init_30 (c_ini10 G _) (by decide +kernel) zw120 zw75 zw121 zd_X10_init rfl rfl (Nat.le_of_ble_eq_true rfl) (Nat.le_of_ble_eq_true rfl) (Nat.le_of_ble_eq_true rfl) (Nat.le_of_ble_eq_true rfl) (Nat.le_of_ble_eq_true rfl) (fun β8 hβ8 => ?_)
  subst hβ8
  refine k_astq (r := (RX10, TX10, 3)) (t := 2) (ci := 10) (N := 12) (i := 3) (f := (va_up (va_up (va_up (fun _ => none) 0 (some (β2 0))) 1 (some (β4 0))) 2 (some (β6 0)))) 33 ((q, .inr (7, [.ref a0, .int (nI 0)])) :: []) ((((kw10 G β2 ++ kw10 G β4) ++ kw10 G β6) ++ kw10 G β8)) hX dX7_init_33 rfl rfl (List.mem_append_right _ List.mem_cons_self) rfl (by decide) (by decide) ?_
  refine k_iinc (v := nI 4) 34 [some (.ref q), some (.int (nI 4))] hX dX7_init_34 rfl (by decide) rfl rfl ?_
  refine k_goto 37 15 hX dX7_init_37 (by decide) ?_
  refine k_iload_n 15 hX dX7_init_15 rfl ?_
  refine k_bipush (v := nI 12) 16 hX dX7_init_16 (by decide +kernel) ?_
  refine k_ge_f 18 40 hX dX7_init_18 (by decide) (by decide) ?_
  refine k_aload_n 21 hX dX7_init_21 rfl ?_
  refine k_get (C := RX7) (T := TX7) (N := 2) (q0 := 0) 22 0 hX dX7_init_22 rfl rfl zi7 (by decide) zw142 rfl rfl ?_
  refine k_iload_n 25 hX dX7_init_25 rfl ?_
  refine k_new (C := RX10) (T := TX10) (N := 3) (ci := 10) tyX10 [.null, .int (nI 0), .int (nI 0)] 26 hX dX7_init_26 zi10 tyX10_ok zw116 zw118 zw75 rfl (fun j hj => by rcases (show j = 0 ∨ j = 1 ∨ j = 2 by omega) with rfl | rfl | rfl <;> rfl) (Nat.le_of_ble_eq_true rfl) (Nat.le_of_ble_eq_true rfl) (fun v9 => ?_)
  refine k_dup 29 hX dX7_init_29 rfl ?_
  refine k_callIN (wf := kw10 G) 30 hX dX7_init_30 (c_ini10 G _) (by decide +kernel) zw120 zw75 zw121 zd_X10_init rfl rfl (Nat.le_of_ble_eq_true rfl) (Nat.le_of_ble_eq_true rfl) (Nat.le_of_ble_eq_true rfl) (Nat.le_of_ble_eq_true rfl) (Nat.le_of_ble_eq_true rfl) (fun β10 hβ10 => ?_)
  subst hβ10
  refine k_astq (r := (RX10, TX10, 3)) (t := 2) (ci := 10) (N := 12) (i := 4) (f := (va_up (va_up (va_up (va_up (fun _ => none) 0 (some (β2 0))) 1 (some (β4 0))) 2 (some (β6 0))) 3 (some (β8 0)))) 33 ((q, .inr (7, [.ref a0, .int (nI 0)])) :: []) (((((kw10 G β2 ++ kw10 G β4) ++ kw10 G β6) ++ kw10 G β8) ++ kw10 G β10)) hX dX7_init_33 rfl rfl (List.mem_append_right _ List.mem_cons_self) rfl (by decide) (by decide) ?_
  refine k_iinc (v := nI 5) 34 [some (.ref q), some (.int (nI 5))] hX dX7_init_34 rfl (by decide) rfl rfl ?_
  refine k_goto 37 15 hX dX7_init_37 (by decide) ?_
  refine k_iload_n 15 hX dX7_init_15 rfl ?_
  refine k_bipush (v := nI 12) 16 hX dX7_init_16 (by decide +kernel) ?_
  refine k_ge_f 18 40 hX dX7_init_18 (by decide) (by decide) ?_
  refine k_aload_n 21 hX dX7_init_21 rfl ?_
  refine k_get (C := RX7) (T := TX7) (N := 2) (q0 := 0) 22 0 hX dX7_init_22 rfl rfl zi7 (by decide) zw142 rfl rfl ?_
  refine k_iload_n 25 hX dX7_init_25 rfl ?_
  refine k_new (C := RX10) (T := TX10) (N := 3) (ci := 10) tyX10 [.null, .int (nI 0), .int (nI 0)] 26 hX dX7_init_26 zi10 tyX10_ok zw116 zw118 zw75 rfl (fun j hj => by rcases (show j = 0 ∨ j = 1 ∨ j = 2 by omega) with rfl | rfl | rfl <;> rfl) (Nat.le_of_ble_eq_true rfl) (Nat.le_of_ble_eq_true rfl) (fun v11 => ?_)
  refine k_dup 29 hX dX7_init_29 rfl ?_
  refine k_callIN (wf := kw10 G) 30 hX dX7_init_30 (c_ini10 G _) (by decide +kernel) zw120 zw75 zw121 zd_X10_init rfl rfl (Nat.le_of_ble_eq_true rfl) (Nat.le_of_ble_eq_true rfl) (Nat.le_of_ble_eq_true rfl) (Nat.le_of_ble_eq_true rfl) (Nat.le_of_ble_eq_true rfl) (fun β12 hβ12 => ?_)
  subst hβ12
  refine k_astq (r := (RX10, TX10, 3)) (t := 2) (ci := 10) (N := 12) (i := 5) (f := (va_up (va_up (va_up (va_up (va_up (fun _ => none) 0 (some (β2 0))) 1 (some (β4 0))) 2 (some (β6 0))) 3 (some (β8 0))) 4 (some (β10 0)))) 33 ((q, .inr (7, [.ref a0, .int (nI 0)])) :: []) ((((((kw10 G β2 ++ kw10 G β4) ++ kw10 G β6) ++ kw10 G β8) ++ kw10 G β10) ++ kw10 G β12)) hX dX7_init_33 rfl rfl (List.mem_append_right _ List.mem_cons_self) rfl (by decide) (by decide) ?_
  refine k_iinc (v := nI 6) 34 [some (.ref q), some (.int (nI 6))] hX dX7_init_34 rfl (by decide) rfl rfl ?_
  refine k_goto 37 15 hX dX7_init_37 (by decide) ?_
  refine k_iload_n 15 hX dX7_init_15 rfl ?_
  refine k_bipush (v := nI 12) 16 hX dX7_init_16 (by decide +kernel) ?_
  refine k_ge_f 18 40 hX dX7_init_18 (by decide) (by decide) ?_
  refine k_aload_n 21 hX dX7_init_21 rfl ?_
  refine k_get (C := RX7) (T := TX7) (N := 2) (q0 := 0) 22 0 hX dX7_init_22 rfl rfl zi7 (by decide) zw142 rfl rfl ?_
  refine k_iload_n 25 hX dX7_init_25 rfl ?_
  refine k_new (C := RX10) (T := TX10) (N := 3) (ci := 10) tyX10 [.null, .int (nI 0), .int (nI 0)] 26 hX dX7_init_26 zi10 tyX10_ok zw116 zw118 zw75 rfl (fun j hj => by rcases (show j = 0 ∨ j = 1 ∨ j = 2 by omega) with rfl | rfl | rfl <;> rfl) (Nat.le_of_ble_eq_true rfl) (Nat.le_of_ble_eq_true rfl) (fun v13 => ?_)
  refine k_dup 29 hX dX7_init_29 rfl ?_
  refine k_callIN (wf := kw10 G) 30 hX dX7_init_30 (c_ini10 G _) (by decide +kernel) zw120 zw75 zw121 zd_X10_init rfl rfl (Nat.le_of_ble_eq_true rfl) (Nat.le_of_ble_eq_true rfl) (Nat.le_of_ble_eq_true rfl) (Nat.le_of_ble_eq_true rfl) (Nat.le_of_ble_eq_true rfl) (fun β14 hβ14 => ?_)
  subst hβ14
  refine k_astq (r := (RX10, TX10, 3)) (t := 2) (ci := 10) (N := 12) (i := 6) (f := (va_up (va_up (va_up (va_up (va_up (va_up (fun _ => none) 0 (some (β2 0))) 1 (some (β4 0))) 2 (some (β6 0))) 3 (some (β8 0))) 4 (some (β10 0))) 5 (some (β12 0)))) 33 ((q, .inr (7, [.ref a0, .int (nI 0)])) :: []) (((((((kw10 G β2 ++ kw10 G β4) ++ kw10 G β6) ++ kw10 G β8) ++ kw10 G β10) ++ kw10 G β12) ++ kw10 G β14)) hX dX7_init_33 rfl rfl (List.mem_append_right _ List.mem_cons_self) rfl (by decide) (by decide) ?_
  refine k_iinc (v := nI 7) 34 [some (.ref q), some (.int (nI 7))] hX dX7_init_34 rfl (by decide) rfl rfl ?_
  refine k_goto 37 15 hX dX7_init_37 (by decide) ?_
  refine k_iload_n 15 hX dX7_init_15 rfl ?_
  refine k_bipush (v := nI 12) 16 hX dX7_init_16 (by decide +kernel) ?_
  refine k_ge_f 18 40 hX dX7_init_18 (by decide) (by decide) ?_
  refine k_aload_n 21 hX dX7_init_21 rfl ?_
  refine k_get (C := RX7) (T := TX7) (N := 2) (q0 := 0) 22 0 hX dX7_init_22 rfl rfl zi7 (by decide) zw142 rfl rfl ?_
  refine k_iload_n 25 hX dX7_init_25 rfl ?_
  refine k_new (C := RX10) (T := TX10) (N := 3) (ci := 10) tyX10 [.null, .int (nI 0), .int (nI 0)] 26 hX dX7_init_26 zi10 tyX10_ok zw116 zw118 zw75 rfl (fun j hj => by rcases (show j = 0 ∨ j = 1 ∨ j = 2 by omega) with rfl | rfl | rfl <;> rfl) (Nat.le_of_ble_eq_true rfl) (Nat.le_of_ble_eq_true rfl) (fun v15 => ?_)
  refine k_dup 29 hX dX7_init_29 rfl ?_
  refine k_callIN (wf := kw10 G) 30 hX dX7_init_30 (c_ini10 G _) (by decide +kernel) zw120 zw75 zw121 zd_X10_init rfl rfl (Nat.le_of_ble_eq_true rfl) (Nat.le_of_ble_eq_true rfl) (Nat.le_of_ble_eq_true rfl) (Nat.le_of_ble_eq_true rfl) (Nat.le_of_ble_eq_true rfl) (fun β16 hβ16 => ?_)
  subst hβ16
  refine k_astq (r := (RX10, TX10, 3)) (t := 2) (ci := 10) (N := 12) (i := 7) (f := (va_up (va_up (va_up (va_up (va_up (va_up (va_up (fun _ => none) 0 (some (β2 0))) 1 (some (β4 0))) 2 (some (β6 0))) 3 (some (β8 0))) 4 (some (β10 0))) 5 (some (β12 0))) 6 (some (β14 0)))) 33 ((q, .inr (7, [.ref a0, .int (nI 0)])) :: []) ((((((((kw10 G β2 ++ kw10 G β4) ++ kw10 G β6) ++ kw10 G β8) ++ kw10 G β10) ++ kw10 G β12) ++ kw10 G β14) ++ kw10 G β16)) hX dX7_init_33 rfl rfl (List.mem_append_right _ List.mem_cons_self) rfl (by decide) (by decide) ?_
  refine k_iinc (v := nI 8) 34 [some (.ref q), some (.int (nI 8))] hX dX7_init_34 rfl (by decide) rfl rfl ?_
  refine k_goto 37 15 hX dX7_init_37 (by decide) ?_
  refine k_iload_n 15 hX dX7_init_15 rfl ?_
  refine k_bipush (v := nI 12) 16 hX dX7_init_16 (by decide +kernel) ?_
  refine k_ge_f 18 40 hX dX7_init_18 (by decide) (by decide) ?_
  refine k_aload_n 21 hX dX7_init_21 rfl ?_
  refine k_get (C := RX7) (T := TX7) (N := 2) (q0 := 0) 22 0 hX dX7_init_22 rfl rfl zi7 (by decide) zw142 rfl rfl ?_
  refine k_iload_n 25 hX dX7_init_25 rfl ?_
  refine k_new (C := RX10) (T := TX10) (N := 3) (ci := 10) tyX10 [.null, .int (nI 0), .int (nI 0)] 26 hX dX7_init_26 zi10 tyX10_ok zw116 zw118 zw75 rfl (fun j hj => by rcases (show j = 0 ∨ j = 1 ∨ j = 2 by omega) with rfl | rfl | rfl <;> rfl) (Nat.le_of_ble_eq_true rfl) (Nat.le_of_ble_eq_true rfl) (fun v17 => ?_)
  refine k_dup 29 hX dX7_init_29 rfl ?_
  refine k_callIN (wf := kw10 G) 30 hX dX7_init_30 (c_ini10 G _) (by decide +kernel) zw120 zw75 zw121 zd_X10_init rfl rfl (Nat.le_of_ble_eq_true rfl) (Nat.le_of_ble_eq_true rfl) (Nat.le_of_ble_eq_true rfl) (Nat.le_of_ble_eq_true rfl) (Nat.le_of_ble_eq_true rfl) (fun β18 hβ18 => ?_)
  subst hβ18
  refine k_astq (r := (RX10, TX10, 3)) (t := 2) (ci := 10) (N := 12) (i := 8) (f := (va_up (va_up (va_up (va_up (va_up (va_up (va_up (va_up (fun _ => none) 0 (some (β2 0))) 1 (some (β4 0))) 2 (some (β6 0))) 3 (some (β8 0))) 4 (some (β10 0))) 5 (some (β12 0))) 6 (some (β14 0))) 7 (some (β16 0)))) 33 ((q, .inr (7, [.ref a0, .int (nI 0)])) :: []) (((((((((kw10 G β2 ++ kw10 G β4) ++ kw10 G β6) ++ kw10 G β8) ++ kw10 G β10) ++ kw10 G β12) ++ kw10 G β14) ++ kw10 G β16) ++ kw10 G β18)) hX dX7_init_33 rfl rfl (List.mem_append_right _ List.mem_cons_self) rfl (by decide) (by decide) ?_
  refine k_iinc (v := nI 9) 34 [some (.ref q), some (.int (nI 9))] hX dX7_init_34 rfl (by decide) rfl rfl ?_
  refine k_goto 37 15 hX dX7_init_37 (by decide) ?_
  refine k_iload_n 15 hX dX7_init_15 rfl ?_
  refine k_bipush (v := nI 12) 16 hX dX7_init_16 (by decide +kernel) ?_
  refine k_ge_f 18 40 hX dX7_init_18 (by decide) (by decide) ?_
  refine k_aload_n 21 hX dX7_init_21 rfl ?_
  refine k_get (C := RX7) (T := TX7) (N := 2) (q0 := 0) 22 0 hX dX7_init_22 rfl rfl zi7 (by decide) zw142 rfl rfl ?_
  refine k_iload_n 25 hX dX7_init_25 rfl ?_
  refine k_new (C := RX10) (T := TX10) (N := 3) (ci := 10) tyX10 [.null, .int (nI 0), .int (nI 0)] 26 hX dX7_init_26 zi10 tyX10_ok zw116 zw118 zw75 rfl (fun j hj => by rcases (show j = 0 ∨ j = 1 ∨ j = 2 by omega) with rfl | rfl | rfl <;> rfl) (Nat.le_of_ble_eq_true rfl) (Nat.le_of_ble_eq_true rfl) (fun v19 => ?_)
  refine k_dup 29 hX dX7_init_29 rfl ?_
  refine k_callIN (wf := kw10 G) 30 hX dX7_init_30 (c_ini10 G _) (by decide +kernel) zw120 zw75 zw121 zd_X10_init rfl rfl (Nat.le_of_ble_eq_true rfl) (Nat.le_of_ble_eq_true rfl) (Nat.le_of_ble_eq_true rfl) (Nat.le_of_ble_eq_true rfl) (Nat.le_of_ble_eq_true rfl) (fun β20 hβ20 => ?_)
  subst hβ20
  refine k_astq (r := (RX10, TX10, 3)) (t := 2) (ci := 10) (N := 12) (i := 9) (f := (va_up (va_up (va_up (va_up (va_up (va_up (va_up (va_up (va_up (fun _ => none) 0 (some (β2 0))) 1 (some (β4 0))) 2 (some (β6 0))) 3 (some (β8 0))) 4 (some (β10 0))) 5 (some (β12 0))) 6 (some (β14 0))) 7 (some (β16 0))) 8 (some (β18 0)))) 33 ((q, .inr (7, [.ref a0, .int (nI 0)])) :: []) ((((((((((kw10 G β2 ++ kw10 G β4) ++ kw10 G β6) ++ kw10 G β8) ++ kw10 G β10) ++ kw10 G β12) ++ kw10 G β14) ++ kw10 G β16) ++ kw10 G β18) ++ kw10 G β20)) hX dX7_init_33 rfl rfl (List.mem_append_right _ List.mem_cons_self) rfl (by decide) (by decide) ?_
  refine k_iinc (v := nI 10) 34 [some (.ref q), some (.int (nI 10))] hX dX7_init_34 rfl (by decide) rfl rfl ?_
  refine k_goto 37 15 hX dX7_init_37 (by decide) ?_
  refine k_iload_n 15 hX dX7_init_15 rfl ?_
  refine k_bipush (v := nI 12) 16 hX dX7_init_16 (by decide +kernel) ?_
  refine k_ge_f 18 40 hX dX7_init_18 (by decide) (by decide) ?_
  refine k_aload_n 21 hX dX7_init_21 rfl ?_
  refine k_get (C := RX7) (T := TX7) (N := 2) (q0 := 0) 22 0 hX dX7_init_22 rfl rfl zi7 (by decide) zw142 rfl rfl ?_
  refine k_iload_n 25 hX dX7_init_25 rfl ?_
  refine k_new (C := RX10) (T := TX10) (N := 3) (ci := 10) tyX10 [.null, .int (nI 0), .int (nI 0)] 26 hX dX7_init_26 zi10 tyX10_ok zw116 zw118 zw75 rfl (fun j hj => by rcases (show j = 0 ∨ j = 1 ∨ j = 2 by omega) with rfl | rfl | rfl <;> rfl) (Nat.le_of_ble_eq_true rfl) (Nat.le_of_ble_eq_true rfl) (fun v21 => ?_)
  refine k_dup 29 hX dX7_init_29 rfl ?_
  refine k_callIN (wf := kw10 G) 30 hX dX7_init_30 (c_ini10 G _) (by decide +kernel) zw120 zw75 zw121 zd_X10_init rfl rfl (Nat.le_of_ble_eq_true rfl) (Nat.le_of_ble_eq_true rfl) (Nat.le_of_ble_eq_true rfl) (Nat.le_of_ble_eq_true rfl) (Nat.le_of_ble_eq_true rfl) (fun β22 hβ22 => ?_)
  subst hβ22
  refine k_astq (r := (RX10, TX10, 3)) (t := 2) (ci := 10) (N := 12) (i := 10) (f := (va_up (va_up (va_up (va_up (va_up (va_up (va_up (va_up (va_up (va_up (fun _ => none) 0 (some (β2 0))) 1 (some (β4 0))) 2 (some (β6 0))) 3 (some (β8 0))) 4 (some (β10 0))) 5 (some (β12 0))) 6 (some (β14 0))) 7 (some (β16 0))) 8 (some (β18 0))) 9 (some (β20 0)))) 33 ((q, .inr (7, [.ref a0, .int (nI 0)])) :: []) (((((((((((kw10 G β2 ++ kw10 G β4) ++ kw10 G β6) ++ kw10 G β8) ++ kw10 G β10) ++ kw10 G β12) ++ kw10 G β14) ++ kw10 G β16) ++ kw10 G β18) ++ kw10 G β20) ++ kw10 G β22)) hX dX7_init_33 rfl rfl (List.mem_append_right _ List.mem_cons_self) rfl (by decide) (by decide) ?_
  refine k_iinc (v := nI 11) 34 [some (.ref q), some (.int (nI 11))] hX dX7_init_34 rfl (by decide) rfl rfl ?_
  refine k_goto 37 15 hX dX7_init_37 (by decide) ?_
  refine k_iload_n 15 hX dX7_init_15 rfl ?_
  refine k_bipush (v := nI 12) 16 hX dX7_init_16 (by decide +kernel) ?_
  refine k_ge_f 18 40 hX dX7_init_18 (by decide) (by decide) ?_
  refine k_aload_n 21 hX dX7_init_21 rfl ?_
  refine k_get (C := RX7) (T := TX7) (N := 2) (q0 := 0) 22 0 hX dX7_init_22 rfl rfl zi7 (by decide) zw142 rfl rfl ?_
  refine k_iload_n 25 hX dX7_init_25 rfl ?_
  refine k_new (C := RX10) (T := TX10) (N := 3) (ci := 10) tyX10 [.null, .int (nI 0), .int (nI 0)] 26 hX dX7_init_26 zi10 tyX10_ok zw116 zw118 zw75 rfl (fun j hj => by rcases (show j = 0 ∨ j = 1 ∨ j = 2 by omega) with rfl | rfl | rfl <;> rfl) (Nat.le_of_ble_eq_true rfl) (Nat.le_of_ble_eq_true rfl) (fun v23 => ?_)
  refine k_dup 29 hX dX7_init_29 rfl ?_
  refine k_callIN (wf := kw10 G) 30 hX dX7_init_30 (c_ini10 G _) (by decide +kernel) zw120 zw75 zw121 zd_X10_init rfl rfl (Nat.le_of_ble_eq_true rfl) (Nat.le_of_ble_eq_true rfl) (Nat.le_of_ble_eq_true rfl) (Nat.le_of_ble_eq_true rfl) (Nat.le_of_ble_eq_true rfl) (fun β24 hβ24 => ?_)
  subst hβ24
  refine k_astq (r := (RX10, TX10, 3)) (t := 2) (ci := 10) (N := 12) (i := 11) (f := (va_up (va_up (va_up (va_up (va_up (va_up (va_up (va_up (va_up (va_up (va_up (fun _ => none) 0 (some (β2 0))) 1 (some (β4 0))) 2 (some (β6 0))) 3 (some (β8 0))) 4 (some (β10 0))) 5 (some (β12 0))) 6 (some (β14 0))) 7 (some (β16 0))) 8 (some (β18 0))) 9 (some (β20 0))) 10 (some (β22 0)))) 33 ((q, .inr (7, [.ref a0, .int (nI 0)])) :: []) ((((((((((((kw10 G β2 ++ kw10 G β4) ++ kw10 G β6) ++ kw10 G β8) ++ kw10 G β10) ++ kw10 G β12) ++ kw10 G β14) ++ kw10 G β16) ++ kw10 G β18) ++ kw10 G β20) ++ kw10 G β22) ++ kw10 G β24)) hX dX7_init_33 rfl rfl (List.mem_append_right _ List.mem_cons_self) rfl (by decide) (by decide) ?_
  refine k_iinc (v := nI 12) 34 [some (.ref q), some (.int (nI 12))] hX dX7_init_34 rfl (by decide) rfl rfl ?_
  refine k_goto 37 15 hX dX7_init_37 (by decide) ?_
  refine k_iload_n 15 hX dX7_init_15 rfl ?_
  refine k_bipush (v := nI 12) 16 hX dX7_init_16 (by decide +kernel) ?_
  refine k_ge_t 18 40 hX dX7_init_18 (by decide) (by decide) ?_
  refine k_arr (t := 2) (g := fun i => ([β2 0, β4 0, β6 0, β8 0, β10 0, β12 0, β14 0, β16 0, β18 0, β20 0, β22 0, β24 0] : List Nat)[i]?) ((q, .inr (7, [.ref a0, .int (nI 0)])) :: []) ((((((((((((kw10 G β2 ++ kw10 G β4) ++ kw10 G β6) ++ kw10 G β8) ++ kw10 G β10) ++ kw10 G β12) ++ kw10 G β14) ++ kw10 G β16) ++ kw10 G β18) ++ kw10 G β20) ++ kw10 G β22) ++ kw10 G β24)) rfl (fun i hi => by rcases (show i = 0 ∨ i = 1 ∨ i = 2 ∨ i = 3 ∨ i = 4 ∨ i = 5 ∨ i = 6 ∨ i = 7 ∨ i = 8 ∨ i = 9 ∨ i = 10 ∨ i = 11 by omega) with rfl | rfl | rfl | rfl | rfl | rfl | rfl | rfl | rfl | rfl | rfl | rfl <;> rfl) ?_
  exact hE 40 _ (fun j => ([q, a0, β2 0, β2 1, β4 0, β4 1, β6 0, β6 1, β8 0, β8 1, β10 0, β10 1, β12 0, β12 1, β14 0, β14 1, β16 0, β16 1, β18 0, β18 1, β20 0, β20 1, β22 0, β22 1, β24 0, β24 1] : List Nat).getD j 0) rfl dX7_init_40
