set_option maxRecDepth 20000 in
set_option maxHeartbeats 4000000 in
theorem c_ini8 (G : zG) (l : Launch) : kMet G l yX8_init cX8_init 2 3 50 663 8 [.null, .null, .null, .null, .null, .null, .null, .int (nI 0), .int (nI 0), .int (nI 0), .int (nI 0), .int (nI 0), .int (nI 0)] (kw8 G) := by
  refine kMet_of zplX8 rfl (by decide) (fun q X hl hX hI hE => ?_)
  refine k_aload_n 0 hX dX8_init_0 rfl ?_
  refine k_objinit 1 hX dX8_init_1 zw107 zw100 zw101 rfl (by decide) ?_
  refine k_aload_n 4 hX dX8_init_4 rfl ?_
  refine k_bipush (v := nI 6) 5 hX dX8_init_5 (by decide +kernel) ?_
  refine k_newq (N := 6) (t := 1) (C := RX9) 7 hX dX8_init_7 zw108 (by decide +kernel) rfl (by decide +kernel) (by decide +kernel) (Nat.le_of_ble_eq_true rfl) (Nat.le_of_ble_eq_true rfl) (Nat.le_of_ble_eq_true rfl) (fun a0 => ?_)
  refine k_putF tyX8 10 0 0 ((q, .inr (8, [.ref a0, .null, .null, .null, .null, .null, .null, .int (nI 0), .int (nI 0), .int (nI 0), .int (nI 0), .int (nI 0), .int (nI 0)])) :: [(a0, .inl (zcl G 1, 6, .inr (.inr (.inr (.inr (fun _ => none))))))]) hX hI dX8_init_10 rfl rfl zi8 tyX8_ok nmX8 (by decide) zw207 rfl rfl rfl (tyX8_ok 0 (by decide)) rfl rfl (Nat.le_of_ble_eq_true rfl) rfl ?_
  refine k_aload_n 13 hX dX8_init_13 rfl ?_
  refine k_new (C := RX7) (T := TX7) (N := 2) (ci := 7) tyX7 [.null, .int (nI 0)] 14 hX dX8_init_14 zi7 tyX7_ok zw110 zw111 zw74 rfl (fun j hj => by rcases (show j = 0 ∨ j = 1 by omega) with rfl | rfl <;> rfl) (Nat.le_of_ble_eq_true rfl) (Nat.le_of_ble_eq_true rfl) (fun v1 => ?_)
  refine k_dup 17 hX dX8_init_17 rfl ?_
  refine k_callI (wf := kw7 G) 18 hX dX8_init_18 (c_ini7 G _) zw112 zw113 zw74 zw114 zd_X7_init rfl rfl (Nat.le_of_ble_eq_true rfl) (Nat.le_of_ble_eq_true rfl) (Nat.le_of_ble_eq_true rfl) (Nat.le_of_ble_eq_true rfl) (Nat.le_of_ble_eq_true rfl) (fun β2 hβ2 => ?_)
  subst hβ2
  refine k_putF tyX8 21 1 0 ((q, .inr (8, [.ref a0, .ref (β2 0), .null, .null, .null, .null, .null, .int (nI 0), .int (nI 0), .int (nI 0), .int (nI 0), .int (nI 0), .int (nI 0)])) :: ([(a0, .inl (zcl G 1, 6, .inr (.inr (.inr (.inr (fun _ => none))))))] ++ kw7 G β2)) hX hI dX8_init_21 rfl rfl zi8 tyX8_ok nmX8 (by decide) zw209 rfl rfl rfl (tyX8_ok 1 (by decide)) rfl rfl (Nat.le_of_ble_eq_true rfl) rfl ?_
  refine k_aload_n 24 hX dX8_init_24 rfl ?_
  refine k_new (C := RX6) (T := TX6) (N := 4) (ci := 6) tyX6 [.null, .null, .null, .int (nI 0)] 25 hX dX8_init_25 zi6 tyX6_ok zw155 zw156 zw76 rfl (fun j hj => by rcases (show j = 0 ∨ j = 1 ∨ j = 2 ∨ j = 3 by omega) with rfl | rfl | rfl | rfl <;> rfl) (Nat.le_of_ble_eq_true rfl) (Nat.le_of_ble_eq_true rfl) (fun v3 => ?_)
  refine k_dup 28 hX dX8_init_28 rfl ?_
  refine k_callIN (wf := kw6 G) 29 hX dX8_init_29 (c_ini6 G _) (by decide +kernel) zw158 zw76 zw159 zd_X6_init rfl rfl (Nat.le_of_ble_eq_true rfl) (Nat.le_of_ble_eq_true rfl) (Nat.le_of_ble_eq_true rfl) (Nat.le_of_ble_eq_true rfl) (Nat.le_of_ble_eq_true rfl) (fun β4 hβ4 => ?_)
  subst hβ4
  refine k_putF tyX8 32 2 0 ((q, .inr (8, [.ref a0, .ref (β2 0), .ref (β4 0), .null, .null, .null, .null, .int (nI 0), .int (nI 0), .int (nI 0), .int (nI 0), .int (nI 0), .int (nI 0)])) :: (([(a0, .inl (zcl G 1, 6, .inr (.inr (.inr (.inr (fun _ => none))))))] ++ kw7 G β2) ++ kw6 G β4)) hX hI dX8_init_32 rfl rfl zi8 tyX8_ok nmX8 (by decide) zw211 rfl rfl rfl (tyX8_ok 2 (by decide)) rfl rfl (Nat.le_of_ble_eq_true rfl) rfl ?_
  refine k_aload_n 35 hX dX8_init_35 rfl ?_
  refine k_new (C := RX6) (T := TX6) (N := 4) (ci := 6) tyX6 [.null, .null, .null, .int (nI 0)] 36 hX dX8_init_36 zi6 tyX6_ok zw155 zw156 zw76 rfl (fun j hj => by rcases (show j = 0 ∨ j = 1 ∨ j = 2 ∨ j = 3 by omega) with rfl | rfl | rfl | rfl <;> rfl) (Nat.le_of_ble_eq_true rfl) (Nat.le_of_ble_eq_true rfl) (fun v5 => ?_)
  refine k_dup 39 hX dX8_init_39 rfl ?_
  refine k_callIN (wf := kw6 G) 40 hX dX8_init_40 (c_ini6 G _) (by decide +kernel) zw158 zw76 zw159 zd_X6_init rfl rfl (Nat.le_of_ble_eq_true rfl) (Nat.le_of_ble_eq_true rfl) (Nat.le_of_ble_eq_true rfl) (Nat.le_of_ble_eq_true rfl) (Nat.le_of_ble_eq_true rfl) (fun β6 hβ6 => ?_)
  subst hβ6
  refine k_putF tyX8 43 3 0 ((q, .inr (8, [.ref a0, .ref (β2 0), .ref (β4 0), .ref (β6 0), .null, .null, .null, .int (nI 0), .int (nI 0), .int (nI 0), .int (nI 0), .int (nI 0), .int (nI 0)])) :: ((([(a0, .inl (zcl G 1, 6, .inr (.inr (.inr (.inr (fun _ => none))))))] ++ kw7 G β2) ++ kw6 G β4) ++ kw6 G β6)) hX hI dX8_init_43 rfl rfl zi8 tyX8_ok nmX8 (by decide) zw212 rfl rfl rfl (tyX8_ok 3 (by decide)) rfl rfl (Nat.le_of_ble_eq_true rfl) rfl ?_
  refine k_aload_n 46 hX dX8_init_46 rfl ?_
  refine k_bipush (v := nI 60) 47 hX dX8_init_47 (by decide +kernel) ?_
  refine k_newa (N := 60) 49 hX dX8_init_49 zw141 (by decide +kernel) (by decide +kernel) (Nat.le_of_ble_eq_true rfl) (Nat.le_of_ble_eq_true rfl) (Nat.le_of_ble_eq_true rfl) (fun a7 => ?_)
  refine k_putF tyX8 51 4 0 ((q, .inr (8, [.ref a0, .ref (β2 0), .ref (β4 0), .ref (β6 0), .ref a7, .null, .null, .int (nI 0), .int (nI 0), .int (nI 0), .int (nI 0), .int (nI 0), .int (nI 0)])) :: (((([(a0, .inl (zcl G 1, 6, .inr (.inr (.inr (.inr (fun _ => none))))))] ++ kw7 G β2) ++ kw6 G β4) ++ kw6 G β6) ++ [(a7, .inl (zcl G 0, 60, .inl (fun _ => nI 0)))])) hX hI dX8_init_51 rfl rfl zi8 tyX8_ok nmX8 (by decide) zw213 rfl rfl rfl (tyX8_ok 4 (by decide)) rfl rfl (Nat.le_of_ble_eq_true rfl) rfl ?_
  refine k_aload_n 54 hX dX8_init_54 rfl ?_
  refine k_bipush (v := nI 27) 55 hX dX8_init_55 (by decide +kernel) ?_
  refine k_newa (N := 27) 57 hX dX8_init_57 zw141 (by decide +kernel) (by decide +kernel) (Nat.le_of_ble_eq_true rfl) (Nat.le_of_ble_eq_true rfl) (Nat.le_of_ble_eq_true rfl) (fun a8 => ?_)
  refine k_putF tyX8 59 5 0 ((q, .inr (8, [.ref a0, .ref (β2 0), .ref (β4 0), .ref (β6 0), .ref a7, .ref a8, .null, .int (nI 0), .int (nI 0), .int (nI 0), .int (nI 0), .int (nI 0), .int (nI 0)])) :: ((((([(a0, .inl (zcl G 1, 6, .inr (.inr (.inr (.inr (fun _ => none))))))] ++ kw7 G β2) ++ kw6 G β4) ++ kw6 G β6) ++ [(a7, .inl (zcl G 0, 60, .inl (fun _ => nI 0)))]) ++ [(a8, .inl (zcl G 0, 27, .inl (fun _ => nI 0)))])) hX hI dX8_init_59 rfl rfl zi8 tyX8_ok nmX8 (by decide) zw215 rfl rfl rfl (tyX8_ok 5 (by decide)) rfl rfl (Nat.le_of_ble_eq_true rfl) rfl ?_
  refine k_aload_n 62 hX dX8_init_62 rfl ?_
  refine k_bipush (v := nI 24) 63 hX dX8_init_63 (by decide +kernel) ?_
  refine k_newa (N := 24) 65 hX dX8_init_65 zw141 (by decide +kernel) (by decide +kernel) (Nat.le_of_ble_eq_true rfl) (Nat.le_of_ble_eq_true rfl) (Nat.le_of_ble_eq_true rfl) (fun a9 => ?_)
  refine k_putF tyX8 67 6 0 ((q, .inr (8, [.ref a0, .ref (β2 0), .ref (β4 0), .ref (β6 0), .ref a7, .ref a8, .ref a9, .int (nI 0), .int (nI 0), .int (nI 0), .int (nI 0), .int (nI 0), .int (nI 0)])) :: (((((([(a0, .inl (zcl G 1, 6, .inr (.inr (.inr (.inr (fun _ => none))))))] ++ kw7 G β2) ++ kw6 G β4) ++ kw6 G β6) ++ [(a7, .inl (zcl G 0, 60, .inl (fun _ => nI 0)))]) ++ [(a8, .inl (zcl G 0, 27, .inl (fun _ => nI 0)))]) ++ [(a9, .inl (zcl G 0, 24, .inl (fun _ => nI 0)))])) hX hI dX8_init_67 rfl rfl zi8 tyX8_ok nmX8 (by decide) zw217 rfl rfl rfl (tyX8_ok 6 (by decide)) rfl rfl (Nat.le_of_ble_eq_true rfl) rfl ?_
  refine k_aload_n 70 hX dX8_init_70 rfl ?_
  refine k_bipush (v := nI 100) 71 hX dX8_init_71 (by decide +kernel) ?_
  refine k_put (C := RX8) (T := TX8) (N := 13) tyX8 73 11 0 ((q, .inr (8, [.ref a0, .ref (β2 0), .ref (β4 0), .ref (β6 0), .ref a7, .ref a8, .ref a9, .int (nI 0), .int (nI 0), .int (nI 0), .int (nI 0), .int (nI 100), .int (nI 0)])) :: (((((([(a0, .inl (zcl G 1, 6, .inr (.inr (.inr (.inr (fun _ => none))))))] ++ kw7 G β2) ++ kw6 G β4) ++ kw6 G β6) ++ [(a7, .inl (zcl G 0, 60, .inl (fun _ => nI 0)))]) ++ [(a8, .inl (zcl G 0, 27, .inl (fun _ => nI 0)))]) ++ [(a9, .inl (zcl G 0, 24, .inl (fun _ => nI 0)))])) hX dX8_init_73 rfl rfl zi8 tyX8_ok nmX8 (by decide) zw227 rfl rfl (tyX8_ok 11 (by decide)) rfl rfl (Nat.le_of_ble_eq_true rfl) rfl ?_
  refine k_aload_n 76 hX dX8_init_76 rfl ?_
  refine k_iconst (v := nI 1) 77 hX dX8_init_77 (by decide +kernel) ?_
  refine k_put (C := RX8) (T := TX8) (N := 13) tyX8 78 12 0 ((q, .inr (8, [.ref a0, .ref (β2 0), .ref (β4 0), .ref (β6 0), .ref a7, .ref a8, .ref a9, .int (nI 0), .int (nI 0), .int (nI 0), .int (nI 0), .int (nI 100), .int (nI 1)])) :: (((((([(a0, .inl (zcl G 1, 6, .inr (.inr (.inr (.inr (fun _ => none))))))] ++ kw7 G β2) ++ kw6 G β4) ++ kw6 G β6) ++ [(a7, .inl (zcl G 0, 60, .inl (fun _ => nI 0)))]) ++ [(a8, .inl (zcl G 0, 27, .inl (fun _ => nI 0)))]) ++ [(a9, .inl (zcl G 0, 24, .inl (fun _ => nI 0)))])) hX dX8_init_78 rfl rfl zi8 tyX8_ok nmX8 (by decide) zw229 rfl rfl (tyX8_ok 12 (by decide)) rfl rfl (Nat.le_of_ble_eq_true rfl) rfl ?_
  refine k_iconst (v := nI 0) 81 hX dX8_init_81 (by decide +kernel) ?_
  refine k_istore_n 82 [some (.ref q), some (.int (nI 0))] hX dX8_init_82 (Nat.le_of_ble_eq_true rfl) rfl rfl ?_
  refine k_iload_n 83 hX dX8_init_83 rfl ?_
  refine k_bipush (v := nI 6) 84 hX dX8_init_84 (by decide +kernel) ?_
  refine k_ge_f 86 108 hX dX8_init_86 (by decide) (by decide) ?_
  refine k_aload_n 89 hX dX8_init_89 rfl ?_
  refine k_get (C := RX8) (T := TX8) (N := 13) (q0 := 0) 90 0 hX dX8_init_90 rfl rfl zi8 (by decide) zw207 rfl rfl ?_
  refine k_iload_n 93 hX dX8_init_93 rfl ?_
  refine k_new (C := RX9) (T := TX9) (N := 4) (ci := 9) tyX9 [.null, .int (nI 0), .int (nI 0), .int (nI 0)] 94 hX dX8_init_94 zi9 tyX9_ok zw108 zw177 zw77 rfl (fun j hj => by rcases (show j = 0 ∨ j = 1 ∨ j = 2 ∨ j = 3 by omega) with rfl | rfl | rfl | rfl <;> rfl) (Nat.le_of_ble_eq_true rfl) (Nat.le_of_ble_eq_true rfl) (fun v10 => ?_)
  refine k_dup 97 hX dX8_init_97 rfl ?_
  refine k_callIN (wf := kw9 G) 98 hX dX8_init_98 (c_ini9 G _) (by decide +kernel) zw179 zw77 zw180 zd_X9_init rfl rfl (Nat.le_of_ble_eq_true rfl) (Nat.le_of_ble_eq_true rfl) (Nat.le_of_ble_eq_true rfl) (Nat.le_of_ble_eq_true rfl) (Nat.le_of_ble_eq_true rfl) (fun β11 hβ11 => ?_)
  subst hβ11
  refine k_astq (r := (RX9, TX9, 4)) (t := 1) (ci := 9) (N := 6) (i := 0) (f := (fun _ => none)) 101 ((q, .inr (8, [.ref a0, .ref (β2 0), .ref (β4 0), .ref (β6 0), .ref a7, .ref a8, .ref a9, .int (nI 0), .int (nI 0), .int (nI 0), .int (nI 0), .int (nI 100), .int (nI 1)])) :: []) (((((((kw7 G β2 ++ kw6 G β4) ++ kw6 G β6) ++ [(a7, .inl (zcl G 0, 60, .inl (fun _ => nI 0)))]) ++ [(a8, .inl (zcl G 0, 27, .inl (fun _ => nI 0)))]) ++ [(a9, .inl (zcl G 0, 24, .inl (fun _ => nI 0)))]) ++ kw9 G β11)) hX dX8_init_101 rfl rfl (List.mem_append_right _ List.mem_cons_self) rfl (by decide) (by decide) ?_
  refine k_iinc (v := nI 1) 102 [some (.ref q), some (.int (nI 1))] hX dX8_init_102 rfl (by decide) rfl rfl ?_
  refine k_goto 105 83 hX dX8_init_105 (by decide) ?_
  refine k_iload_n 83 hX dX8_init_83 rfl ?_
  refine k_bipush (v := nI 6) 84 hX dX8_init_84 (by decide +kernel) ?_
  refine k_ge_f 86 108 hX dX8_init_86 (by decide) (by decide) ?_
  refine k_aload_n 89 hX dX8_init_89 rfl ?_
  refine k_get (C := RX8) (T := TX8) (N := 13) (q0 := 0) 90 0 hX dX8_init_90 rfl rfl zi8 (by decide) zw207 rfl rfl ?_
  refine k_iload_n 93 hX dX8_init_93 rfl ?_
  refine k_new (C := RX9) (T := TX9) (N := 4) (ci := 9) tyX9 [.null, .int (nI 0), .int (nI 0), .int (nI 0)] 94 hX dX8_init_94 zi9 tyX9_ok zw108 zw177 zw77 rfl (fun j hj => by rcases (show j = 0 ∨ j = 1 ∨ j = 2 ∨ j = 3 by omega) with rfl | rfl | rfl | rfl <;> rfl) (Nat.le_of_ble_eq_true rfl) (Nat.le_of_ble_eq_true rfl) (fun v12 => ?_)
  refine k_dup 97 hX dX8_init_97 rfl ?_
  refine k_callIN (wf := kw9 G) 98 hX dX8_init_98 (c_ini9 G _) (by decide +kernel) zw179 zw77 zw180 zd_X9_init rfl rfl (Nat.le_of_ble_eq_true rfl) (Nat.le_of_ble_eq_true rfl) (Nat.le_of_ble_eq_true rfl) (Nat.le_of_ble_eq_true rfl) (Nat.le_of_ble_eq_true rfl) (fun β13 hβ13 => ?_)
  subst hβ13
  refine k_astq (r := (RX9, TX9, 4)) (t := 1) (ci := 9) (N := 6) (i := 1) (f := (va_up (fun _ => none) 0 (some (β11 0)))) 101 ((q, .inr (8, [.ref a0, .ref (β2 0), .ref (β4 0), .ref (β6 0), .ref a7, .ref a8, .ref a9, .int (nI 0), .int (nI 0), .int (nI 0), .int (nI 0), .int (nI 100), .int (nI 1)])) :: []) ((((((((kw7 G β2 ++ kw6 G β4) ++ kw6 G β6) ++ [(a7, .inl (zcl G 0, 60, .inl (fun _ => nI 0)))]) ++ [(a8, .inl (zcl G 0, 27, .inl (fun _ => nI 0)))]) ++ [(a9, .inl (zcl G 0, 24, .inl (fun _ => nI 0)))]) ++ kw9 G β11) ++ kw9 G β13)) hX dX8_init_101 rfl rfl (List.mem_append_right _ List.mem_cons_self) rfl (by decide) (by decide) ?_
  refine k_iinc (v := nI 2) 102 [some (.ref q), some (.int (nI 2))] hX dX8_init_102 rfl (by decide) rfl rfl ?_
  refine k_goto 105 83 hX dX8_init_105 (by decide) ?_
  refine k_iload_n 83 hX dX8_init_83 rfl ?_
  refine k_bipush (v := nI 6) 84 hX dX8_init_84 (by decide +kernel) ?_
  refine k_ge_f 86 108 hX dX8_init_86 (by decide) (by decide) ?_
  refine k_aload_n 89 hX dX8_init_89 rfl ?_
  refine k_get (C := RX8) (T := TX8) (N := 13) (q0 := 0) 90 0 hX dX8_init_90 rfl rfl zi8 (by decide) zw207 rfl rfl ?_
  refine k_iload_n 93 hX dX8_init_93 rfl ?_
  refine k_new (C := RX9) (T := TX9) (N := 4) (ci := 9) tyX9 [.null, .int (nI 0), .int (nI 0), .int (nI 0)] 94 hX dX8_init_94 zi9 tyX9_ok zw108 zw177 zw77 rfl (fun j hj => by rcases (show j = 0 ∨ j = 1 ∨ j = 2 ∨ j = 3 by omega) with rfl | rfl | rfl | rfl <;> rfl) (Nat.le_of_ble_eq_true rfl) (Nat.le_of_ble_eq_true rfl) (fun v14 => ?_)
  refine k_dup 97 hX dX8_init_97 rfl ?_
  refine k_callIN (wf := kw9 G) 98 hX dX8_init_98 (c_ini9 G _) (by decide +kernel) zw179 zw77 zw180 zd_X9_init rfl rfl (Nat.le_of_ble_eq_true rfl) (Nat.le_of_ble_eq_true rfl) (Nat.le_of_ble_eq_true rfl) (Nat.le_of_ble_eq_true rfl) (Nat.le_of_ble_eq_true rfl) (fun β15 hβ15 => ?_)
  subst hβ15
  refine k_astq (r := (RX9, TX9, 4)) (t := 1) (ci := 9) (N := 6) (i := 2) (f := (va_up (va_up (fun _ => none) 0 (some (β11 0))) 1 (some (β13 0)))) 101 ((q, .inr (8, [.ref a0, .ref (β2 0), .ref (β4 0), .ref (β6 0), .ref a7, .ref a8, .ref a9, .int (nI 0), .int (nI 0), .int (nI 0), .int (nI 0), .int (nI 100), .int (nI 1)])) :: []) (((((((((kw7 G β2 ++ kw6 G β4) ++ kw6 G β6) ++ [(a7, .inl (zcl G 0, 60, .inl (fun _ => nI 0)))]) ++ [(a8, .inl (zcl G 0, 27, .inl (fun _ => nI 0)))]) ++ [(a9, .inl (zcl G 0, 24, .inl (fun _ => nI 0)))]) ++ kw9 G β11) ++ kw9 G β13) ++ kw9 G β15)) hX dX8_init_101 rfl rfl (List.mem_append_right _ List.mem_cons_self) rfl (by decide) (by decide) ?_
  refine k_iinc (v := nI 3) 102 [some (.ref q), some (.int (nI 3))] hX dX8_init_102 rfl (by decide) rfl rfl ?_
  refine k_goto 105 83 hX dX8_init_105 (by decide) ?_
  refine k_iload_n 83 hX dX8_init_83 rfl ?_
  refine k_bipush (v := nI 6) 84 hX dX8_init_84 (by decide +kernel) ?_
  refine k_ge_f 86 108 hX dX8_init_86 (by decide) (by decide) ?_
  refine k_aload_n 89 hX dX8_init_89 rfl ?_
  refine k_get (C := RX8) (T := TX8) (N := 13) (q0 := 0) 90 0 hX dX8_init_90 rfl rfl zi8 (by decide) zw207 rfl rfl ?_
  refine k_iload_n 93 hX dX8_init_93 rfl ?_
  refine k_new (C := RX9) (T := TX9) (N := 4) (ci := 9) tyX9 [.null, .int (nI 0), .int (nI 0), .int (nI 0)] 94 hX dX8_init_94 zi9 tyX9_ok zw108 zw177 zw77 rfl (fun j hj => by rcases (show j = 0 ∨ j = 1 ∨ j = 2 ∨ j = 3 by omega) with rfl | rfl | rfl | rfl <;> rfl) (Nat.le_of_ble_eq_true rfl) (Nat.le_of_ble_eq_true rfl) (fun v16 => ?_)
  refine k_dup 97 hX dX8_init_97 rfl ?_
  refine k_callIN (wf := kw9 G) 98 hX dX8_init_98 (c_ini9 G _) (by decide +kernel) zw179 zw77 zw180 zd_X9_init rfl rfl (Nat.le_of_ble_eq_true rfl) (Nat.le_of_ble_eq_true rfl) (Nat.le_of_ble_eq_true rfl) (Nat.le_of_ble_eq_true rfl) (Nat.le_of_ble_eq_true rfl) (fun β17 hβ17 => ?_)
  subst hβ17
  refine k_astq (r := (RX9, TX9, 4)) (t := 1) (ci := 9) (N := 6) (i := 3) (f := (va_up (va_up (va_up (fun _ => none) 0 (some (β11 0))) 1 (some (β13 0))) 2 (some (β15 0)))) 101 ((q, .inr (8, [.ref a0, .ref (β2 0), .ref (β4 0), .ref (β6 0), .ref a7, .ref a8, .ref a9, .int (nI 0), .int (nI 0), .int (nI 0), .int (nI 0), .int (nI 100), .int (nI 1)])) :: []) ((((((((((kw7 G β2 ++ kw6 G β4) ++ kw6 G β6) ++ [(a7, .inl (zcl G 0, 60, .inl (fun _ => nI 0)))]) ++ [(a8, .inl (zcl G 0, 27, .inl (fun _ => nI 0)))]) ++ [(a9, .inl (zcl G 0, 24, .inl (fun _ => nI 0)))]) ++ kw9 G β11) ++ kw9 G β13) ++ kw9 G β15) ++ kw9 G β17)) hX dX8_init_101 rfl rfl (List.mem_append_right _ List.mem_cons_self) rfl (by decide) (by decide) ?_
  refine k_iinc (v := nI 4) 102 [some (.ref q), some (.int (nI 4))] hX dX8_init_102 rfl (by decide) rfl rfl ?_
  refine k_goto 105 83 hX dX8_init_105 (by decide) ?_
  refine k_iload_n 83 hX dX8_init_83 rfl ?_
  refine k_bipush (v := nI 6) 84 hX dX8_init_84 (by decide +kernel) ?_
  refine k_ge_f 86 108 hX dX8_init_86 (by decide) (by decide) ?_
  refine k_aload_n 89 hX dX8_init_89 rfl ?_
  refine k_get (C := RX8) (T := TX8) (N := 13) (q0 := 0) 90 0 hX dX8_init_90 rfl rfl zi8 (by decide) zw207 rfl rfl ?_
  refine k_iload_n 93 hX dX8_init_93 rfl ?_
  refine k_new (C := RX9) (T := TX9) (N := 4) (ci := 9) tyX9 [.null, .int (nI 0), .int (nI 0), .int (nI 0)] 94 hX dX8_init_94 zi9 tyX9_ok zw108 zw177 zw77 rfl (fun j hj => by rcases (show j = 0 ∨ j = 1 ∨ j = 2 ∨ j = 3 by omega) with rfl | rfl | rfl | rfl <;> rfl) (Nat.le_of_ble_eq_true rfl) (Nat.le_of_ble_eq_true rfl) (fun v18 => ?_)
  refine k_dup 97 hX dX8_init_97 rfl ?_
  refine k_callIN (wf := kw9 G) 98 hX dX8_init_98 (c_ini9 G _) (by decide +kernel) zw179 zw77 zw180 zd_X9_init rfl rfl (Nat.le_of_ble_eq_true rfl) (Nat.le_of_ble_eq_true rfl) (Nat.le_of_ble_eq_true rfl) (Nat.le_of_ble_eq_true rfl) (Nat.le_of_ble_eq_true rfl) (fun β19 hβ19 => ?_)
  subst hβ19
  refine k_astq (r := (RX9, TX9, 4)) (t := 1) (ci := 9) (N := 6) (i := 4) (f := (va_up (va_up (va_up (va_up (fun _ => none) 0 (some (β11 0))) 1 (some (β13 0))) 2 (some (β15 0))) 3 (some (β17 0)))) 101 ((q, .inr (8, [.ref a0, .ref (β2 0), .ref (β4 0), .ref (β6 0), .ref a7, .ref a8, .ref a9, .int (nI 0), .int (nI 0), .int (nI 0), .int (nI 0), .int (nI 100), .int (nI 1)])) :: []) (((((((((((kw7 G β2 ++ kw6 G β4) ++ kw6 G β6) ++ [(a7, .inl (zcl G 0, 60, .inl (fun _ => nI 0)))]) ++ [(a8, .inl (zcl G 0, 27, .inl (fun _ => nI 0)))]) ++ [(a9, .inl (zcl G 0, 24, .inl (fun _ => nI 0)))]) ++ kw9 G β11) ++ kw9 G β13) ++ kw9 G β15) ++ kw9 G β17) ++ kw9 G β19)) hX dX8_init_101 rfl rfl (List.mem_append_right _ List.mem_cons_self) rfl (by decide) (by decide) ?_
  refine k_iinc (v := nI 5) 102 [some (.ref q), some (.int (nI 5))] hX dX8_init_102 rfl (by decide) rfl rfl ?_
  refine k_goto 105 83 hX dX8_init_105 (by decide) ?_
  refine k_iload_n 83 hX dX8_init_83 rfl ?_
  refine k_bipush (v := nI 6) 84 hX dX8_init_84 (by decide +kernel) ?_
  refine k_ge_f 86 108 hX dX8_init_86 (by decide) (by decide) ?_
  refine k_aload_n 89 hX dX8_init_89 rfl ?_
  refine k_get (C := RX8) (T := TX8) (N := 13) (q0 := 0) 90 0 hX dX8_init_90 rfl rfl zi8 (by decide) zw207 rfl rfl ?_
  refine k_iload_n 93 hX dX8_init_93 rfl ?_
  refine k_new (C := RX9) (T := TX9) (N := 4) (ci := 9) tyX9 [.null, .int (nI 0), .int (nI 0), .int (nI 0)] 94 hX dX8_init_94 zi9 tyX9_ok zw108 zw177 zw77 rfl (fun j hj => by rcases (show j = 0 ∨ j = 1 ∨ j = 2 ∨ j = 3 by omega) with rfl | rfl | rfl | rfl <;> rfl) (Nat.le_of_ble_eq_true rfl) (Nat.le_of_ble_eq_true rfl) (fun v20 => ?_)
  refine k_dup 97 hX dX8_init_97 rfl ?_
  refine k_callIN (wf := kw9 G) 98 hX dX8_init_98 (c_ini9 G _) (by decide +kernel) zw179 zw77 zw180 zd_X9_init rfl rfl (Nat.le_of_ble_eq_true rfl) (Nat.le_of_ble_eq_true rfl) (Nat.le_of_ble_eq_true rfl) (Nat.le_of_ble_eq_true rfl) (Nat.le_of_ble_eq_true rfl) (fun β21 hβ21 => ?_)
  subst hβ21
  refine k_astq (r := (RX9, TX9, 4)) (t := 1) (ci := 9) (N := 6) (i := 5) (f := (va_up (va_up (va_up (va_up (va_up (fun _ => none) 0 (some (β11 0))) 1 (some (β13 0))) 2 (some (β15 0))) 3 (some (β17 0))) 4 (some (β19 0)))) 101 ((q, .inr (8, [.ref a0, .ref (β2 0), .ref (β4 0), .ref (β6 0), .ref a7, .ref a8, .ref a9, .int (nI 0), .int (nI 0), .int (nI 0), .int (nI 0), .int (nI 100), .int (nI 1)])) :: []) ((((((((((((kw7 G β2 ++ kw6 G β4) ++ kw6 G β6) ++ [(a7, .inl (zcl G 0, 60, .inl (fun _ => nI 0)))]) ++ [(a8, .inl (zcl G 0, 27, .inl (fun _ => nI 0)))]) ++ [(a9, .inl (zcl G 0, 24, .inl (fun _ => nI 0)))]) ++ kw9 G β11) ++ kw9 G β13) ++ kw9 G β15) ++ kw9 G β17) ++ kw9 G β19) ++ kw9 G β21)) hX dX8_init_101 rfl rfl (List.mem_append_right _ List.mem_cons_self) rfl (by decide) (by decide) ?_
  refine k_iinc (v := nI 6) 102 [some (.ref q), some (.int (nI 6))] hX dX8_init_102 rfl (by decide) rfl rfl ?_
  refine k_goto 105 83 hX dX8_init_105 (by decide) ?_
  refine k_iload_n 83 hX dX8_init_83 rfl ?_
  refine k_bipush (v := nI 6) 84 hX dX8_init_84 (by decide +kernel) ?_
  refine k_ge_t 86 108 hX dX8_init_86 (by decide) (by decide) ?_
  refine k_arr (t := 1) (g := fun i => ([β11 0, β13 0, β15 0, β17 0, β19 0, β21 0] : List Nat)[i]?) ((q, .inr (8, [.ref a0, .ref (β2 0), .ref (β4 0), .ref (β6 0), .ref a7, .ref a8, .ref a9, .int (nI 0), .int (nI 0), .int (nI 0), .int (nI 0), .int (nI 100), .int (nI 1)])) :: []) ((((((((((((kw7 G β2 ++ kw6 G β4) ++ kw6 G β6) ++ [(a7, .inl (zcl G 0, 60, .inl (fun _ => nI 0)))]) ++ [(a8, .inl (zcl G 0, 27, .inl (fun _ => nI 0)))]) ++ [(a9, .inl (zcl G 0, 24, .inl (fun _ => nI 0)))]) ++ kw9 G β11) ++ kw9 G β13) ++ kw9 G β15) ++ kw9 G β17) ++ kw9 G β19) ++ kw9 G β21)) rfl (fun i hi => by rcases (show i = 0 ∨ i = 1 ∨ i = 2 ∨ i = 3 ∨ i = 4 ∨ i = 5 by omega) with rfl | rfl | rfl | rfl | rfl | rfl <;> rfl) ?_
  exact hE 108 _ (fun j => ([q, a0, β2 0, β2 1, β2 2, β2 3, β2 4, β2 5, β2 6, β2 7, β2 8, β2 9, β2 10, β2 11, β2 12, β2 13, β2 14, β2 15, β2 16, β2 17, β2 18, β2 19, β2 20, β2 21, β2 22, β2 23, β2 24, β2 25, β4 0, β4 1, β4 2, β4 3, β6 0, β6 1, β6 2, β6 3, a7, a8, a9, β11 0, β11 1, β13 0, β13 1, β15 0, β15 1, β17 0, β17 1, β19 0, β19 1, β21 0, β21 1] : List Nat).getD j 0) rfl dX8_init_108
