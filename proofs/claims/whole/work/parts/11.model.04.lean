theorem j_X12_lay_89z {G : zG} {X : zX} {w : zW} {re : Int32} {we : zW} {a1 : Int32} {a2 : Int32} {a3 : Int32} {a4 : Int32} {a5 : Int32} {b0 : Int32} (hX : zOk G X cX12_lay 7 RX12 3) (hE : zEI G X cX12_lay .int re we)  (h : j_X12_lay_89 a1 a2 a3 a4 a5 b0 w = some (re, we)) : zZ G X w 89 [some (.ref (zα G 128)), some (.int a1), some (.int a2), some (.int a3), some (.int a4), some (.int a5), none] [.int b0] := by
  rw [j_X12_lay_89] at h
  refine z_istore 89 [some (.ref (zα G 128)), some (.int a1), some (.int a2), some (.int a3), some (.int a4), some (.int a5), some (.int b0)] hX dX12_lay_89 (Nat.le_of_ble_eq_true rfl) rfl rfl <|
    z_aload_n 91 hX dX12_lay_91 rfl <|
    zgX12_7 92 hX dX12_lay_92 (rfl : shp 128 = (12, 0)) <|
    z_aload_n 95 hX dX12_lay_95 rfl <|
    z_iload_n 96 hX dX12_lay_96 rfl <|
    z_iload_n 97 hX dX12_lay_97 rfl <|
    zb1 h fun x2 r1 h => zcX12_124 98 [.int a1, .int a2] [.ref (zα G 129)] hX dX12_lay_98 (c_X12_at (zgd0 hX) r1) (rfl : shp 128 = (12, 0)) rfl rfl rfl (Nat.le_of_ble_eq_true rfl) (Nat.le_of_ble_eq_true rfl) <|
    z_iald 101 hX dX12_lay_101 (rfl : shp 129 = (20, 628)) h fun x3 _ h =>
    z_if_ne 102 110 hX dX12_lay_102 rfl h (fun q4 h => ?_) (fun q4 h => ?_)
  · refine z_weak (L' := [some (.ref (zα G 128)), none, none, none, none, none, none]) (zsub_s (zsub_n (zsub_n (zsub_n (zsub_n (zsub_n (zsub_n zsub_0))))))) <|
      j_X12_lay_110z hX hE h
  · refine z_iload 105 hX dX12_lay_105 rfl <|
      z_if_ne 107 116 hX dX12_lay_107 rfl h (fun q5 h => ?_) (fun q5 h => ?_)
    · refine z_aload_n 116 hX dX12_lay_116 rfl <|
        zgX12_7 117 hX dX12_lay_117 (rfl : shp 128 = (12, 0)) <|
        z_sipush 120 hX dX12_lay_120 zks266 <|
        z_iload_n 123 hX dX12_lay_123 rfl <|
        z_iadd 124 hX dX12_lay_124 <|
        z_dup2 125 hX dX12_lay_125 rfl rfl <|
        z_iald 126 hX dX12_lay_126 (rfl : shp 129 = (20, 628)) h fun x6 _ h =>
        z_iload 127 hX dX12_lay_127 rfl <|
        z_if_ne 129 136 hX dX12_lay_129 rfl h (fun q7 h => ?_) (fun q7 h => ?_)
      · refine z_iconst 136 hX dX12_lay_136 zki0 <|
          z_weak (L' := [some (.ref (zα G 128)), some (.int a1), some (.int a2), some (.int a3), some (.int a4), some (.int a5), none]) (zsub_s (zsub_s (zsub_s (zsub_s (zsub_s (zsub_s (zsub_n zsub_0))))))) <|
          j_X12_lay_137z hX hE h
      · refine z_iconst 132 hX dX12_lay_132 zki1 <|
          z_goto 133 137 hX dX12_lay_133 rfl <|
          z_weak (L' := [some (.ref (zα G 128)), some (.int a1), some (.int a2), some (.int a3), some (.int a4), some (.int a5), none]) (zsub_s (zsub_s (zsub_s (zsub_s (zsub_s (zsub_s (zsub_n zsub_0))))))) <|
          j_X12_lay_137z hX hE h
    · refine z_weak (L' := [some (.ref (zα G 128)), none, none, none, none, none, none]) (zsub_s (zsub_n (zsub_n (zsub_n (zsub_n (zsub_n (zsub_n zsub_0))))))) <|
        j_X12_lay_110z hX hE h
def f_X12_lay (a1 : Int32) (a2 : Int32) (a3 : Int32) (a4 : Int32) (w : zW) : Option (Int32 × zW) :=
  zb (f_X12_isWall a1 w) fun x2 =>
  if x2 = nI 0 then
    j_X12_lay_34 w
  else
    zb (f_X12_isPlace a1 a2 w) fun x5 =>
    if x5 = nI 0 then
      j_X12_lay_34 w
    else
      zb (f_X12_isLetter a3) fun x8 =>
      if x8 = nI 0 then
        j_X12_lay_34 w
      else
        zb (f_X12_in a4 (nI 0) (nI 1)) fun x11 =>
        if x11 = nI 0 then
          j_X12_lay_34 w
        else
          zb2 (f_X12_priceOf a3 w) fun x14 w1 =>
          if a4 = nI 0 then
            zld w1 129 628 ((nI 266) + a3) fun x17 =>
            if nI 0 < x17 then
              j_X12_lay_89 a1 a2 a3 a4 x14 (nI 1) w1
            else
              j_X12_lay_89 a1 a2 a3 a4 x14 (nI 0) w1
          else
          if (w1 129 3) < x14 then
            j_X12_lay_89 a1 a2 a3 a4 x14 (nI 0) w1
          else
            j_X12_lay_89 a1 a2 a3 a4 x14 (nI 1) w1
theorem c_X12_lay {G : zG} {l : Launch} (hG : zgood G) {w : zW} {re : Int32} {we : zW} {a1 : Int32} {a2 : Int32} {a3 : Int32} {a4 : Int32}  (h : f_X12_lay a1 a2 a3 a4 w = some (re, we)) : zMet G l yX12_lay cX12_lay 7 (some .int) 3 [.ref (zα G 128), .int a1, .int a2, .int a3, .int a4] w (some (.int re)) we := by
  refine zMet_of (L0 := [some (.ref (zα G 128)), some (.int a1), some (.int a2), some (.int a3), some (.int a4), none, none]) hG zplX12 (Nat.le_of_ble_eq_true rfl) rfl rfl (fun X hl hX hEI hEV hEA => ?_)
  subst hl
  have hX : zOk G X cX12_lay 7 RX12 3 := hX
  have hE := hEI _ _ rfl rfl
  rw [f_X12_lay] at h
  refine z_aload_n 0 hX dX12_lay_0 rfl <|
    z_iload_n 1 hX dX12_lay_1 rfl <|
    zb1 h fun x2 r1 h => zcX12_133 2 [.int a1] [] hX dX12_lay_2 (c_X12_isWall (zgd0 hX) r1) (rfl : shp 128 = (12, 0)) rfl rfl rfl (Nat.le_of_ble_eq_true rfl) (Nat.le_of_ble_eq_true rfl) <|
    z_if_eq 5 34 hX dX12_lay_5 rfl h (fun q3 h => ?_) (fun q3 h => ?_)
  · refine z_weak (L' := [some (.ref (zα G 128)), none, none, none, none, none, none]) (zsub_s (zsub_n (zsub_n (zsub_n (zsub_n (zsub_n (zsub_n zsub_0))))))) <|
      j_X12_lay_34z hX hE h
  · refine z_aload_n 8 hX dX12_lay_8 rfl <|
      z_iload_n 9 hX dX12_lay_9 rfl <|
      z_iload_n 10 hX dX12_lay_10 rfl <|
      zb1 h fun x5 r4 h => zcX12_186 11 [.int a1, .int a2] [] hX dX12_lay_11 (c_X12_isPlace (zgd0 hX) r4) (rfl : shp 128 = (12, 0)) rfl rfl rfl (Nat.le_of_ble_eq_true rfl) (Nat.le_of_ble_eq_true rfl) <|
      z_if_eq 14 34 hX dX12_lay_14 rfl h (fun q6 h => ?_) (fun q6 h => ?_)
    · refine z_weak (L' := [some (.ref (zα G 128)), none, none, none, none, none, none]) (zsub_s (zsub_n (zsub_n (zsub_n (zsub_n (zsub_n (zsub_n zsub_0))))))) <|
        j_X12_lay_34z hX hE h
    · refine z_iload_n 17 hX dX12_lay_17 rfl <|
        zb1 h fun x8 r7 h => zcX12_142 18 [.int a3] [] hX dX12_lay_18 (c_X12_isLetter (zgd0 hX) r7) rfl rfl rfl (Nat.le_of_ble_eq_true rfl) (Nat.le_of_ble_eq_true rfl) <|
        z_if_eq 21 34 hX dX12_lay_21 rfl h (fun q9 h => ?_) (fun q9 h => ?_)
      · refine z_weak (L' := [some (.ref (zα G 128)), none, none, none, none, none, none]) (zsub_s (zsub_n (zsub_n (zsub_n (zsub_n (zsub_n (zsub_n zsub_0))))))) <|
          j_X12_lay_34z hX hE h
      · refine z_iload 24 hX dX12_lay_24 rfl <|
          z_iconst 26 hX dX12_lay_26 zki0 <|
          z_iconst 27 hX dX12_lay_27 zki1 <|
          zb1 h fun x11 r10 h => zcX12_56 28 [.int a4, .int (nI 0), .int (nI 1)] [] hX dX12_lay_28 (c_X12_in (zgd0 hX) r10) rfl rfl rfl (Nat.le_of_ble_eq_true rfl) (Nat.le_of_ble_eq_true rfl) <|
          z_if_ne 31 40 hX dX12_lay_31 rfl h (fun q12 h => ?_) (fun q12 h => ?_)
        · refine z_aload_n 40 hX dX12_lay_40 rfl <|
            z_iload_n 41 hX dX12_lay_41 rfl <|
            zb12 h fun x14 w1 r13 h => zcX12_207 42 [.int a3] [] hX dX12_lay_42 (c_X12_priceOf (zgd0 hX) r13) (rfl : shp 128 = (12, 0)) rfl rfl rfl (Nat.le_of_ble_eq_true rfl) (Nat.le_of_ble_eq_true rfl) <|
            z_istore 45 [some (.ref (zα G 128)), some (.int a1), some (.int a2), some (.int a3), some (.int a4), some (.int x14), none] hX dX12_lay_45 (Nat.le_of_ble_eq_true rfl) rfl rfl <|
            z_iload 47 hX dX12_lay_47 rfl <|
            z_if_ne 49 73 hX dX12_lay_49 rfl h (fun q15 h => ?_) (fun q15 h => ?_)
          · refine z_aload_n 73 hX dX12_lay_73 rfl <|
              zgX12_7 74 hX dX12_lay_74 (rfl : shp 128 = (12, 0)) <|
              z_iconst 77 hX dX12_lay_77 zki3 <|
              z_ialdc (j := 3) 78 hX dX12_lay_78 (rfl : shp 129 = (20, 628)) (zink 3 628 (by decide) (by decide)) (nI_clamp (by decide)) <|
              z_iload 79 hX dX12_lay_79 rfl <|
              z_icmp_lt 81 88 hX dX12_lay_81 rfl h (fun q16 h => ?_) (fun q16 h => ?_)
            · refine z_iconst 88 hX dX12_lay_88 zki0 <|
                j_X12_lay_89z hX hE h
            · refine z_iconst 84 hX dX12_lay_84 zki1 <|
                z_goto 85 89 hX dX12_lay_85 rfl <|
                j_X12_lay_89z hX hE h
          · refine z_aload_n 52 hX dX12_lay_52 rfl <|
              zgX12_7 53 hX dX12_lay_53 (rfl : shp 128 = (12, 0)) <|
              z_sipush 56 hX dX12_lay_56 zks266 <|
              z_iload_n 59 hX dX12_lay_59 rfl <|
              z_iadd 60 hX dX12_lay_60 <|
              z_iald 61 hX dX12_lay_61 (rfl : shp 129 = (20, 628)) h fun x17 _ h =>
              z_if_le 62 69 hX dX12_lay_62 rfl h (fun q18 h => ?_) (fun q18 h => ?_)
            · refine z_iconst 69 hX dX12_lay_69 zki0 <|
                z_goto 70 89 hX dX12_lay_70 rfl <|
                j_X12_lay_89z hX hE h
            · refine z_iconst 65 hX dX12_lay_65 zki1 <|
                z_goto 66 89 hX dX12_lay_66 rfl <|
                j_X12_lay_89z hX hE h
        · refine z_weak (L' := [some (.ref (zα G 128)), none, none, none, none, none, none]) (zsub_s (zsub_n (zsub_n (zsub_n (zsub_n (zsub_n (zsub_n zsub_0))))))) <|
            j_X12_lay_34z hX hE h
def f_X12_toHeap (a1 : Int32) (a2 : Int32) (w : zW) : Option zW :=
  zb (f_X12_at a1 a2) fun x2 =>
  zld w 129 628 x2 fun x3 =>
  zlet ((nI 266) + x3) fun x4 =>
  zld w 129 628 x4 fun x5 =>
  zb (f_X12_held (x5 + (nI 1)) (nI 0) (nI 99)) fun x7 =>
  zsto w 129 628 x4 x7 fun w1 =>
  zb (f_X12_at a1 a2) fun x9 =>
  zsto w1 129 628 x9 (nI 0) fun w2 =>
  some w2
theorem c_X12_toHeap {G : zG} {l : Launch} (hG : zgood G) {w : zW} {we : zW} {a1 : Int32} {a2 : Int32}  (h : f_X12_toHeap a1 a2 w = some we) : zMet G l yX12_toHeap cX12_toHeap 4 none 1 [.ref (zα G 128), .int a1, .int a2] w none we := by
  refine zMet_of (L0 := [some (.ref (zα G 128)), some (.int a1), some (.int a2), none]) hG zplX12 (Nat.le_of_ble_eq_true rfl) rfl rfl (fun X hl hX hEI hEV hEA => ?_)
  subst hl
  have hX : zOk G X cX12_toHeap 4 RX12 1 := hX
  have hE := hEV rfl rfl
  rw [f_X12_toHeap] at h
  refine z_sipush 0 hX dX12_toHeap_0 zks266 <|
    z_aload_n 3 hX dX12_toHeap_3 rfl <|
    zgX12_7 4 hX dX12_toHeap_4 (rfl : shp 128 = (12, 0)) <|
    z_aload_n 7 hX dX12_toHeap_7 rfl <|
    z_iload_n 8 hX dX12_toHeap_8 rfl <|
    z_iload_n 9 hX dX12_toHeap_9 rfl <|
    zb1 h fun x2 r1 h => zcX12_124 10 [.int a1, .int a2] [.ref (zα G 129), .int (nI 266)] hX dX12_toHeap_10 (c_X12_at (zgd0 hX) r1) (rfl : shp 128 = (12, 0)) rfl rfl rfl (Nat.le_of_ble_eq_true rfl) (Nat.le_of_ble_eq_true rfl) <|
    z_iald 13 hX dX12_toHeap_13 (rfl : shp 129 = (20, 628)) h fun x3 _ h =>
    z_iadd 14 hX dX12_toHeap_14 <|
    z_top h fun x4 h =>
    z_istore_n 15 [some (.ref (zα G 128)), some (.int a1), some (.int a2), some (.int x4)] hX dX12_toHeap_15 (Nat.le_of_ble_eq_true rfl) rfl rfl <|
    z_aload_n 16 hX dX12_toHeap_16 rfl <|
    zgX12_7 17 hX dX12_toHeap_17 (rfl : shp 128 = (12, 0)) <|
    z_iload_n 20 hX dX12_toHeap_20 rfl <|
    z_aload_n 21 hX dX12_toHeap_21 rfl <|
    zgX12_7 22 hX dX12_toHeap_22 (rfl : shp 128 = (12, 0)) <|
    z_iload_n 25 hX dX12_toHeap_25 rfl <|
    z_iald 26 hX dX12_toHeap_26 (rfl : shp 129 = (20, 628)) h fun x5 _ h =>
    z_iconst 27 hX dX12_toHeap_27 zki1 <|
    z_iadd 28 hX dX12_toHeap_28 <|
    z_iconst 29 hX dX12_toHeap_29 zki0 <|
    z_bipush 30 hX dX12_toHeap_30 zkb99 <|
    zb1 h fun x7 r6 h => zcX12_161 32 [.int (x5 + (nI 1)), .int (nI 0), .int (nI 99)] [.int x4, .ref (zα G 129)] hX dX12_toHeap_32 (c_X12_held (zgd0 hX) r6) rfl rfl rfl (Nat.le_of_ble_eq_true rfl) (Nat.le_of_ble_eq_true rfl) <|
    z_iast 35 hX dX12_toHeap_35 (rfl : shp 129 = (20, 628)) h fun w1 h =>
    z_aload_n 36 hX dX12_toHeap_36 rfl <|
    zgX12_7 37 hX dX12_toHeap_37 (rfl : shp 128 = (12, 0)) <|
    z_aload_n 40 hX dX12_toHeap_40 rfl <|
    z_iload_n 41 hX dX12_toHeap_41 rfl <|
    z_iload_n 42 hX dX12_toHeap_42 rfl <|
    zb1 h fun x9 r8 h => zcX12_124 43 [.int a1, .int a2] [.ref (zα G 129)] hX dX12_toHeap_43 (c_X12_at (zgd0 hX) r8) (rfl : shp 128 = (12, 0)) rfl rfl rfl (Nat.le_of_ble_eq_true rfl) (Nat.le_of_ble_eq_true rfl) <|
    z_iconst 46 hX dX12_toHeap_46 zki0 <|
    z_iast 47 hX dX12_toHeap_47 (rfl : shp 129 = (20, 628)) h fun w2 h =>
    z_endV 48 hE h dX12_toHeap_48
def l_X12_falls_22 (K58 : Int32 → zW → Option (Int32 × zW)) : Nat → Int32 → Int32 → Int32 → zW → Option (Int32 × zW)
  | 0, _, _, _, _ => none
  | n + 1, a1, a2, a3, w =>
    zb (f_X12_its a1 (nI 2) w) fun x2 =>
    if a3 < x2 then
      zb (f_X12_at a1 a3) fun x5 =>
      zld w 129 628 x5 fun x6 =>
      if nI 0 < x6 then
        zb (f_X12_toHeap a1 a3 w) fun w1 =>
        zlet (a3 + nI 1) fun x10 =>
        (l_X12_falls_22 K58 n) a1 a2 x10 w1
      else
        zlet (a3 + nI 1) fun x8 =>
        (l_X12_falls_22 K58 n) a1 a2 x8 w
    else
      K58 a2 w
theorem l_X12_falls_22z {K58 : Int32 → zW → Option (Int32 × zW)} {G : zG} {X : zX} {re : Int32} {we : zW} (hX : zOk G X cX12_falls 4 RX12 2) (hE : zEI G X cX12_falls .int re we) (hK58 : ∀ (a2 : Int32) (w3 : zW) , K58 a2 w3 = some (re, we) → zZ G X w3 58 [none, none, some (.int a2), none] []) : ∀ (n : Nat) (a1 : Int32) (a2 : Int32) (a3 : Int32) (w : zW) , l_X12_falls_22 K58 n a1 a2 a3 w = some (re, we) → zZ G X w 22 [some (.ref (zα G 128)), some (.int a1), some (.int a2), some (.int a3)] [] := by
  intro n
  induction n with
  | zero =>
    intro a1 a2 a3 w  h
    rw [l_X12_falls_22.eq_1] at h
    cases h
  | succ n ih =>
    intro a1 a2 a3 w  h
    rw [l_X12_falls_22.eq_2] at h
    refine z_iload_n 22 hX dX12_falls_22 rfl <|
      z_aload_n 23 hX dX12_falls_23 rfl <|
      z_iload_n 24 hX dX12_falls_24 rfl <|
      z_iconst 25 hX dX12_falls_25 zki2 <|
      zb1 h fun x2 r1 h => zcX12_60 26 [.int a1, .int (nI 2)] [.int a3] hX dX12_falls_26 (c_X12_its (zgd0 hX) r1) (rfl : shp 128 = (12, 0)) rfl rfl rfl (Nat.le_of_ble_eq_true rfl) (Nat.le_of_ble_eq_true rfl) <|
      z_icmp_ge 29 58 hX dX12_falls_29 rfl h (fun q3 h => ?_) (fun q3 h => ?_)
    · refine z_weak (L' := [none, none, some (.int a2), none]) (zsub_n (zsub_n (zsub_s (zsub_n zsub_0)))) <|
        hK58 _ _ h
    · refine z_aload_n 32 hX dX12_falls_32 rfl <|
        zgX12_7 33 hX dX12_falls_33 (rfl : shp 128 = (12, 0)) <|
        z_aload_n 36 hX dX12_falls_36 rfl <|
        z_iload_n 37 hX dX12_falls_37 rfl <|
        z_iload_n 38 hX dX12_falls_38 rfl <|
        zb1 h fun x5 r4 h => zcX12_124 39 [.int a1, .int a3] [.ref (zα G 129)] hX dX12_falls_39 (c_X12_at (zgd0 hX) r4) (rfl : shp 128 = (12, 0)) rfl rfl rfl (Nat.le_of_ble_eq_true rfl) (Nat.le_of_ble_eq_true rfl) <|
        z_iald 42 hX dX12_falls_42 (rfl : shp 129 = (20, 628)) h fun x6 _ h =>
        z_if_le 43 52 hX dX12_falls_43 rfl h (fun q7 h => ?_) (fun q7 h => ?_)
      · refine z_iincG 52 (fun x8 => [some (.ref (zα G 128)), some (.int a1), some (.int a2), some (.int x8)]) hX dX12_falls_52 rfl zki1 rfl (fun _ => rfl) h fun x8 h =>
          z_goto 55 22 hX dX12_falls_55 rfl <|
          ih _ _ _ _ h
      · refine z_aload_n 46 hX dX12_falls_46 rfl <|
          z_iload_n 47 hX dX12_falls_47 rfl <|
          z_iload_n 48 hX dX12_falls_48 rfl <|
          zb1 h fun w1 r9 h => zcX12_214 49 [.int a1, .int a3] [] hX dX12_falls_49 (c_X12_toHeap (zgd0 hX) r9) (rfl : shp 128 = (12, 0)) rfl rfl rfl (Nat.le_of_ble_eq_true rfl) (Nat.le_of_ble_eq_true rfl) <|
          z_iincG 52 (fun x10 => [some (.ref (zα G 128)), some (.int a1), some (.int a2), some (.int x10)]) hX dX12_falls_52 rfl zki1 rfl (fun _ => rfl) h fun x10 h =>
          z_goto 55 22 hX dX12_falls_55 rfl <|
          ih _ _ _ _ h
def f_X12_falls (a1 : Int32) (w : zW) : Option (Int32 × zW) :=
  zb (f_X12_isWall a1 w) fun x2 =>
  if x2 = nI 0 then
    zb2 (f_X12_error (nI 1) w) fun x7 w1 =>
    some (x7, w1)
  else
    zb (f_X12_letters a1 w) fun x5 =>
    l_X12_falls_22 (fun k58_a2 w11 =>
      some (k58_a2, w11)) zfuel a1 x5 (nI 0) w
theorem c_X12_falls {G : zG} {l : Launch} (hG : zgood G) {w : zW} {re : Int32} {we : zW} {a1 : Int32}  (h : f_X12_falls a1 w = some (re, we)) : zMet G l yX12_falls cX12_falls 4 (some .int) 2 [.ref (zα G 128), .int a1] w (some (.int re)) we := by
  refine zMet_of (L0 := [some (.ref (zα G 128)), some (.int a1), none, none]) hG zplX12 (Nat.le_of_ble_eq_true rfl) rfl rfl (fun X hl hX hEI hEV hEA => ?_)
  subst hl
  have hX : zOk G X cX12_falls 4 RX12 2 := hX
  have hE := hEI _ _ rfl rfl
  rw [f_X12_falls] at h
  refine z_aload_n 0 hX dX12_falls_0 rfl <|
    z_iload_n 1 hX dX12_falls_1 rfl <|
    zb1 h fun x2 r1 h => zcX12_133 2 [.int a1] [] hX dX12_falls_2 (c_X12_isWall (zgd0 hX) r1) (rfl : shp 128 = (12, 0)) rfl rfl rfl (Nat.le_of_ble_eq_true rfl) (Nat.le_of_ble_eq_true rfl) <|
    z_if_ne 5 14 hX dX12_falls_5 rfl h (fun q3 h => ?_) (fun q3 h => ?_)
  · refine z_aload_n 14 hX dX12_falls_14 rfl <|
      z_iload_n 15 hX dX12_falls_15 rfl <|
      zb1 h fun x5 r4 h => zcX12_211 16 [.int a1] [] hX dX12_falls_16 (c_X12_letters (zgd0 hX) r4) (rfl : shp 128 = (12, 0)) rfl rfl rfl (Nat.le_of_ble_eq_true rfl) (Nat.le_of_ble_eq_true rfl) <|
      z_istore_n 19 [some (.ref (zα G 128)), some (.int a1), some (.int x5), none] hX dX12_falls_19 (Nat.le_of_ble_eq_true rfl) rfl rfl <|
      z_iconst 20 hX dX12_falls_20 zki0 <|
      z_istore_n 21 [some (.ref (zα G 128)), some (.int a1), some (.int x5), some (.int (nI 0))] hX dX12_falls_21 (Nat.le_of_ble_eq_true rfl) rfl rfl <|
      l_X12_falls_22z hX hE (fun k58_a2 w11 h => ?_) _ _ _ _ _ h
    · refine z_iload_n 58 hX dX12_falls_58 rfl <|
        z_endI2 59 hE rfl h dX12_falls_59
  · refine z_aload_n 8 hX dX12_falls_8 rfl <|
      z_iconst 9 hX dX12_falls_9 zki1 <|
      zb12 h fun x7 w1 r6 h => zcX12_64 10 [.int (nI 1)] [] hX dX12_falls_10 (c_X12_error (zgd0 hX) r6) (rfl : shp 128 = (12, 0)) rfl rfl rfl (Nat.le_of_ble_eq_true rfl) (Nat.le_of_ble_eq_true rfl) <|
      z_endI2 13 hE rfl h dX12_falls_13
def j_X12_takesLetters_59 (rc : Int32 → Int32 → Int32 → zW → Option (Int32 × zW)) (K66 : Int32 → zW → Option (Int32 × zW)) (a1 : Int32) (a3 : Int32) (b0 : Int32) (w : zW) : Option (Int32 × zW) :=
  zlet (a3 + nI 1) fun x1 =>
  rc a1 b0 x1 w
theorem j_X12_takesLetters_59z {rc : Int32 → Int32 → Int32 → zW → Option (Int32 × zW)} {K66 : Int32 → zW → Option (Int32 × zW)} {G : zG} {X : zX} {w : zW} {re : Int32} {we : zW} {a1 : Int32} {a3 : Int32} {b0 : Int32} (hX : zOk G X cX12_takesLetters 4 RX12 1) (hE : zEI G X cX12_takesLetters .boolean re we) (hrc : ∀ (a1 : Int32) (a2 : Int32) (a3 : Int32) (w3 : zW) , rc a1 a2 a3 w3 = some (re, we) → zZ G X w3 4 [some (.ref (zα G 128)), some (.int a1), some (.int a2), some (.int a3)] []) (hK66 : ∀ (a2 : Int32) (w3 : zW) , K66 a2 w3 = some (re, we) → zZ G X w3 66 [none, none, some (.int a2), none] [])  (h : j_X12_takesLetters_59 rc K66 a1 a3 b0 w = some (re, we)) : zZ G X w 59 [some (.ref (zα G 128)), some (.int a1), none, some (.int a3)] [.int b0] := by
  rw [j_X12_takesLetters_59] at h
  refine z_istore_n 59 [some (.ref (zα G 128)), some (.int a1), some (.int b0), some (.int a3)] hX dX12_takesLetters_59 (Nat.le_of_ble_eq_true rfl) rfl rfl <|
    z_iincG 60 (fun x1 => [some (.ref (zα G 128)), some (.int a1), some (.int b0), some (.int x1)]) hX dX12_takesLetters_60 rfl zki1 rfl (fun _ => rfl) h fun x1 h =>
    z_goto 63 4 hX dX12_takesLetters_63 rfl <|
    hrc _ _ _ _ h
def j_X12_takesLetters_58 (rc : Int32 → Int32 → Int32 → zW → Option (Int32 × zW)) (K66 : Int32 → zW → Option (Int32 × zW)) (a1 : Int32) (a3 : Int32) (w : zW) : Option (Int32 × zW) :=
  j_X12_takesLetters_59 rc K66 a1 a3 (nI 0) w
theorem j_X12_takesLetters_58z {rc : Int32 → Int32 → Int32 → zW → Option (Int32 × zW)} {K66 : Int32 → zW → Option (Int32 × zW)} {G : zG} {X : zX} {w : zW} {re : Int32} {we : zW} {a1 : Int32} {a3 : Int32} (hX : zOk G X cX12_takesLetters 4 RX12 1) (hE : zEI G X cX12_takesLetters .boolean re we) (hrc : ∀ (a1 : Int32) (a2 : Int32) (a3 : Int32) (w3 : zW) , rc a1 a2 a3 w3 = some (re, we) → zZ G X w3 4 [some (.ref (zα G 128)), some (.int a1), some (.int a2), some (.int a3)] []) (hK66 : ∀ (a2 : Int32) (w3 : zW) , K66 a2 w3 = some (re, we) → zZ G X w3 66 [none, none, some (.int a2), none] [])  (h : j_X12_takesLetters_58 rc K66 a1 a3 w = some (re, we)) : zZ G X w 58 [some (.ref (zα G 128)), some (.int a1), none, some (.int a3)] [] := by
  rw [j_X12_takesLetters_58] at h
  refine z_iconst 58 hX dX12_takesLetters_58 zki0 <|
    j_X12_takesLetters_59z hX hE hrc hK66 h
def l_X12_takesLetters_4 (K66 : Int32 → zW → Option (Int32 × zW)) : Nat → Int32 → Int32 → Int32 → zW → Option (Int32 × zW)
  | 0, _, _, _, _ => none
  | n + 1, a1, a2, a3, w =>
    zb (f_X12_lengthOf a1 w) fun x2 =>
    if a3 < x2 then
      zb (f_X12_letterOf a1 a3 w) fun x5 =>
      zld w 129 628 ((nI 266) + x5) fun x6 =>
      zsto w 129 628 ((nI 266) + x5) (x6 - (nI 1)) fun w1 =>
      if a2 = nI 0 then
        j_X12_takesLetters_58 (l_X12_takesLetters_4 K66 n) K66 a1 a3 w1
      else
        zb (f_X12_letterOf a1 a3 w1) fun x9 =>
        zld w1 129 628 ((nI 266) + x9) fun x10 =>
        if x10 < nI 0 then
          j_X12_takesLetters_58 (l_X12_takesLetters_4 K66 n) K66 a1 a3 w1
        else
          j_X12_takesLetters_59 (l_X12_takesLetters_4 K66 n) K66 a1 a3 (nI 1) w1
    else
      K66 a2 w
theorem l_X12_takesLetters_4z {K66 : Int32 → zW → Option (Int32 × zW)} {G : zG} {X : zX} {re : Int32} {we : zW} (hX : zOk G X cX12_takesLetters 4 RX12 1) (hE : zEI G X cX12_takesLetters .boolean re we) (hK66 : ∀ (a2 : Int32) (w3 : zW) , K66 a2 w3 = some (re, we) → zZ G X w3 66 [none, none, some (.int a2), none] []) : ∀ (n : Nat) (a1 : Int32) (a2 : Int32) (a3 : Int32) (w : zW) , l_X12_takesLetters_4 K66 n a1 a2 a3 w = some (re, we) → zZ G X w 4 [some (.ref (zα G 128)), some (.int a1), some (.int a2), some (.int a3)] [] := by
  intro n
  induction n with
  | zero =>
    intro a1 a2 a3 w  h
    rw [l_X12_takesLetters_4.eq_1] at h
    cases h
  | succ n ih =>
    intro a1 a2 a3 w  h
    rw [l_X12_takesLetters_4.eq_2] at h
    refine z_iload_n 4 hX dX12_takesLetters_4 rfl <|
      z_aload_n 5 hX dX12_takesLetters_5 rfl <|
      z_iload_n 6 hX dX12_takesLetters_6 rfl <|
      zb1 h fun x2 r1 h => zcX12_145 7 [.int a1] [.int a3] hX dX12_takesLetters_7 (c_X12_lengthOf (zgd0 hX) r1) (rfl : shp 128 = (12, 0)) rfl rfl rfl (Nat.le_of_ble_eq_true rfl) (Nat.le_of_ble_eq_true rfl) <|
      z_icmp_ge 10 66 hX dX12_takesLetters_10 rfl h (fun q3 h => ?_) (fun q3 h => ?_)
    · refine z_weak (L' := [none, none, some (.int a2), none]) (zsub_n (zsub_n (zsub_s (zsub_n zsub_0)))) <|
        hK66 _ _ h
    · refine z_aload_n 13 hX dX12_takesLetters_13 rfl <|
        zgX12_7 14 hX dX12_takesLetters_14 (rfl : shp 128 = (12, 0)) <|
        z_sipush 17 hX dX12_takesLetters_17 zks266 <|
        z_aload_n 20 hX dX12_takesLetters_20 rfl <|
        z_iload_n 21 hX dX12_takesLetters_21 rfl <|
        z_iload_n 22 hX dX12_takesLetters_22 rfl <|
        zb1 h fun x5 r4 h => zcX12_148 23 [.int a1, .int a3] [.int (nI 266), .ref (zα G 129)] hX dX12_takesLetters_23 (c_X12_letterOf (zgd0 hX) r4) (rfl : shp 128 = (12, 0)) rfl rfl rfl (Nat.le_of_ble_eq_true rfl) (Nat.le_of_ble_eq_true rfl) <|
        z_iadd 26 hX dX12_takesLetters_26 <|
        z_dup2 27 hX dX12_takesLetters_27 rfl rfl <|
        z_iald 28 hX dX12_takesLetters_28 (rfl : shp 129 = (20, 628)) h fun x6 _ h =>
        z_iconst 29 hX dX12_takesLetters_29 zki1 <|
        z_isub 30 hX dX12_takesLetters_30 <|
        z_iast 31 hX dX12_takesLetters_31 (rfl : shp 129 = (20, 628)) h fun w1 h =>
        z_iload_n 32 hX dX12_takesLetters_32 rfl <|
        z_if_eq 33 58 hX dX12_takesLetters_33 rfl h (fun q7 h => ?_) (fun q7 h => ?_)
      · refine z_weak (L' := [some (.ref (zα G 128)), some (.int a1), none, some (.int a3)]) (zsub_s (zsub_s (zsub_n (zsub_s zsub_0)))) <|
          j_X12_takesLetters_58z hX hE ih hK66 h
      · refine z_aload_n 36 hX dX12_takesLetters_36 rfl <|
          zgX12_7 37 hX dX12_takesLetters_37 (rfl : shp 128 = (12, 0)) <|
          z_sipush 40 hX dX12_takesLetters_40 zks266 <|
          z_aload_n 43 hX dX12_takesLetters_43 rfl <|
          z_iload_n 44 hX dX12_takesLetters_44 rfl <|
          z_iload_n 45 hX dX12_takesLetters_45 rfl <|
          zb1 h fun x9 r8 h => zcX12_148 46 [.int a1, .int a3] [.int (nI 266), .ref (zα G 129)] hX dX12_takesLetters_46 (c_X12_letterOf (zgd0 hX) r8) (rfl : shp 128 = (12, 0)) rfl rfl rfl (Nat.le_of_ble_eq_true rfl) (Nat.le_of_ble_eq_true rfl) <|
          z_iadd 49 hX dX12_takesLetters_49 <|
          z_iald 50 hX dX12_takesLetters_50 (rfl : shp 129 = (20, 628)) h fun x10 _ h =>
          z_if_lt 51 58 hX dX12_takesLetters_51 rfl h (fun q11 h => ?_) (fun q11 h => ?_)
        · refine z_weak (L' := [some (.ref (zα G 128)), some (.int a1), none, some (.int a3)]) (zsub_s (zsub_s (zsub_n (zsub_s zsub_0)))) <|
            j_X12_takesLetters_58z hX hE ih hK66 h
        · refine z_iconst 54 hX dX12_takesLetters_54 zki1 <|
            z_goto 55 59 hX dX12_takesLetters_55 rfl <|
            z_weak (L' := [some (.ref (zα G 128)), some (.int a1), none, some (.int a3)]) (zsub_s (zsub_s (zsub_n (zsub_s zsub_0)))) <|
            j_X12_takesLetters_59z hX hE ih hK66 h
def f_X12_takesLetters (a1 : Int32) (w : zW) : Option (Int32 × zW) :=
  l_X12_takesLetters_4 (fun k66_a2 w11 =>
    zguard (zbool k66_a2) (
    some (k66_a2, w11))) zfuel a1 (nI 1) (nI 0) w
theorem c_X12_takesLetters {G : zG} {l : Launch} (hG : zgood G) {w : zW} {re : Int32} {we : zW} {a1 : Int32}  (h : f_X12_takesLetters a1 w = some (re, we)) : zMet G l yX12_takesLetters cX12_takesLetters 4 (some .boolean) 1 [.ref (zα G 128), .int a1] w (some (.int re)) we := by
  refine zMet_of (L0 := [some (.ref (zα G 128)), some (.int a1), none, none]) hG zplX12 (Nat.le_of_ble_eq_true rfl) rfl rfl (fun X hl hX hEI hEV hEA => ?_)
  subst hl
  have hX : zOk G X cX12_takesLetters 4 RX12 1 := hX
  have hE := hEI _ _ rfl rfl
  rw [f_X12_takesLetters] at h
  refine z_iconst 0 hX dX12_takesLetters_0 zki1 <|
    z_istore_n 1 [some (.ref (zα G 128)), some (.int a1), some (.int (nI 1)), none] hX dX12_takesLetters_1 (Nat.le_of_ble_eq_true rfl) rfl rfl <|
    z_iconst 2 hX dX12_takesLetters_2 zki0 <|
    z_istore_n 3 [some (.ref (zα G 128)), some (.int a1), some (.int (nI 1)), some (.int (nI 0))] hX dX12_takesLetters_3 (Nat.le_of_ble_eq_true rfl) rfl rfl <|
    l_X12_takesLetters_4z hX hE (fun k66_a2 w11 h => ?_) _ _ _ _ _ h
  · refine z_iload_n 66 hX dX12_takesLetters_66 rfl <|
      zgd2 h fun q101 h =>
      z_endI2 67 hE (znar_bool q101) h dX12_takesLetters_67
def l_X12_givesLetters_2 (K36 : zW → Option zW) : Nat → Int32 → Int32 → zW → Option zW
  | 0, _, _, _ => none
  | n + 1, a1, a2, w =>
    zb (f_X12_lengthOf a1 w) fun x2 =>
    if a2 < x2 then
      zb (f_X12_letterOf a1 a2 w) fun x5 =>
      zld w 129 628 ((nI 266) + x5) fun x6 =>
      zsto w 129 628 ((nI 266) + x5) (x6 + (nI 1)) fun w1 =>
      zlet (a2 + nI 1) fun x7 =>
      (l_X12_givesLetters_2 K36 n) a1 x7 w1
    else
      K36 w
theorem l_X12_givesLetters_2z {K36 : zW → Option zW} {G : zG} {X : zX} {we : zW} (hX : zOk G X cX12_givesLetters 3 RX12 1) (hE : zEV G X cX12_givesLetters we) (hK36 : ∀ (w3 : zW) , K36 w3 = some we → zZ G X w3 36 [none, none, none] []) : ∀ (n : Nat) (a1 : Int32) (a2 : Int32) (w : zW) , l_X12_givesLetters_2 K36 n a1 a2 w = some we → zZ G X w 2 [some (.ref (zα G 128)), some (.int a1), some (.int a2)] [] := by
  intro n
  induction n with
  | zero =>
    intro a1 a2 w  h
    rw [l_X12_givesLetters_2.eq_1] at h
    cases h
  | succ n ih =>
    intro a1 a2 w  h
    rw [l_X12_givesLetters_2.eq_2] at h
    refine z_iload_n 2 hX dX12_givesLetters_2 rfl <|
      z_aload_n 3 hX dX12_givesLetters_3 rfl <|
      z_iload_n 4 hX dX12_givesLetters_4 rfl <|
      zb1 h fun x2 r1 h => zcX12_145 5 [.int a1] [.int a2] hX dX12_givesLetters_5 (c_X12_lengthOf (zgd0 hX) r1) (rfl : shp 128 = (12, 0)) rfl rfl rfl (Nat.le_of_ble_eq_true rfl) (Nat.le_of_ble_eq_true rfl) <|
      z_icmp_ge 8 36 hX dX12_givesLetters_8 rfl h (fun q3 h => ?_) (fun q3 h => ?_)
    · refine z_weak (L' := [none, none, none]) (zsub_n (zsub_n (zsub_n zsub_0))) <|
        hK36 _ h
    · refine z_aload_n 11 hX dX12_givesLetters_11 rfl <|
        zgX12_7 12 hX dX12_givesLetters_12 (rfl : shp 128 = (12, 0)) <|
        z_sipush 15 hX dX12_givesLetters_15 zks266 <|
        z_aload_n 18 hX dX12_givesLetters_18 rfl <|
        z_iload_n 19 hX dX12_givesLetters_19 rfl <|
        z_iload_n 20 hX dX12_givesLetters_20 rfl <|
        zb1 h fun x5 r4 h => zcX12_148 21 [.int a1, .int a2] [.int (nI 266), .ref (zα G 129)] hX dX12_givesLetters_21 (c_X12_letterOf (zgd0 hX) r4) (rfl : shp 128 = (12, 0)) rfl rfl rfl (Nat.le_of_ble_eq_true rfl) (Nat.le_of_ble_eq_true rfl) <|
        z_iadd 24 hX dX12_givesLetters_24 <|
        z_dup2 25 hX dX12_givesLetters_25 rfl rfl <|
        z_iald 26 hX dX12_givesLetters_26 (rfl : shp 129 = (20, 628)) h fun x6 _ h =>
        z_iconst 27 hX dX12_givesLetters_27 zki1 <|
        z_iadd 28 hX dX12_givesLetters_28 <|
        z_iast 29 hX dX12_givesLetters_29 (rfl : shp 129 = (20, 628)) h fun w1 h =>
        z_iincG 30 (fun x7 => [some (.ref (zα G 128)), some (.int a1), some (.int x7)]) hX dX12_givesLetters_30 rfl zki1 rfl (fun _ => rfl) h fun x7 h =>
        z_goto 33 2 hX dX12_givesLetters_33 rfl <|
        ih _ _ _ h
def f_X12_givesLetters (a1 : Int32) (w : zW) : Option zW :=
  l_X12_givesLetters_2 (fun w11 =>
    some w11) zfuel a1 (nI 0) w
theorem c_X12_givesLetters {G : zG} {l : Launch} (hG : zgood G) {w : zW} {we : zW} {a1 : Int32}  (h : f_X12_givesLetters a1 w = some we) : zMet G l yX12_givesLetters cX12_givesLetters 3 none 1 [.ref (zα G 128), .int a1] w none we := by
  refine zMet_of (L0 := [some (.ref (zα G 128)), some (.int a1), none]) hG zplX12 (Nat.le_of_ble_eq_true rfl) rfl rfl (fun X hl hX hEI hEV hEA => ?_)
  subst hl
  have hX : zOk G X cX12_givesLetters 3 RX12 1 := hX
  have hE := hEV rfl rfl
  rw [f_X12_givesLetters] at h
  refine z_iconst 0 hX dX12_givesLetters_0 zki0 <|
    z_istore_n 1 [some (.ref (zα G 128)), some (.int a1), some (.int (nI 0))] hX dX12_givesLetters_1 (Nat.le_of_ble_eq_true rfl) rfl rfl <|
    l_X12_givesLetters_2z hX hE (fun w11 h => ?_) _ _ _ _ h
  · refine z_endV 36 hE h dX12_givesLetters_36
abbrev zrec_X12_builds1 (G : zG) (l : Launch) (F : Nat → Int32 → Int32 → Int32 → Int32 → zW → Option zW) (hd : Nat) : Prop :=
  (∀ {w we : zW} {a1 a2 a3 a4 : Int32}, F 0 a1 a2 a3 a4 w = some we → zMet G l yX12_builds1 cX12_builds1 7 none hd [.ref (zα G 128), .int a1, .int a2, .int a3, .int a4] w none we)
def j_X12_builds1_107 (F : Nat → Int32 → Int32 → Int32 → Int32 → zW → Option zW) (rc : Int32 → Int32 → Int32 → Int32 → Int32 → zW → Option zW) (K119 : zW → Option zW) (a1 : Int32) (a2 : Int32) (a3 : Int32) (a4 : Int32) (a5 : Int32) (w : zW) : Option zW :=
  zb (f_X12_givesLetters a5 w) fun w1 =>
  zlet (a5 + nI 1) fun x2 =>
  rc a1 a2 a3 a4 x2 w1
theorem j_X12_builds1_107z {F : Nat → Int32 → Int32 → Int32 → Int32 → zW → Option zW} {rc : Int32 → Int32 → Int32 → Int32 → Int32 → zW → Option zW} {K119 : zW → Option zW} {G : zG} {X : zX} {w : zW} {we : zW} {a1 : Int32} {a2 : Int32} {a3 : Int32} {a4 : Int32} {a5 : Int32} (hd : Nat) (hb : 2 ≤ hd) (hF : zrec_X12_builds1 G X.2.1 F hd) (hX : zOk G X cX12_builds1 7 RX12 (hd + 1)) (hE : zEV G X cX12_builds1 we) (hrc : ∀ (a1 : Int32) (a2 : Int32) (a3 : Int32) (a4 : Int32) (a5 : Int32) (w3 : zW) , rc a1 a2 a3 a4 a5 w3 = some we → zZ G X w3 44 [some (.ref (zα G 128)), some (.int a1), some (.int a2), some (.int a3), some (.int a4), some (.int a5), none] []) (hK119 : ∀ (w3 : zW) , K119 w3 = some we → zZ G X w3 119 [none, none, none, none, none, none, none] [])  (h : j_X12_builds1_107 F rc K119 a1 a2 a3 a4 a5 w = some we) : zZ G X w 107 [some (.ref (zα G 128)), some (.int a1), some (.int a2), some (.int a3), some (.int a4), some (.int a5), none] [] := by
  rw [j_X12_builds1_107] at h
  refine z_aload_n 107 hX dX12_builds1_107 rfl <|
    z_iload 108 hX dX12_builds1_108 rfl <|
    zb1 h fun w1 r1 h => zcX12_233 110 [.int a5] [] hX dX12_builds1_110 (c_X12_givesLetters (zgd0 hX) r1) (rfl : shp 128 = (12, 0)) rfl rfl rfl (Nat.le_of_ble_eq_true rfl) (by omega) <|
    z_iincG 113 (fun x2 => [some (.ref (zα G 128)), some (.int a1), some (.int a2), some (.int a3), some (.int a4), some (.int x2), none]) hX dX12_builds1_113 rfl zki1 rfl (fun _ => rfl) h fun x2 h =>
    z_goto 116 44 hX dX12_builds1_116 rfl <|
    hrc _ _ _ _ _ _ h
def l_X12_builds1_44 (F : Nat → Int32 → Int32 → Int32 → Int32 → zW → Option zW) (K119 : zW → Option zW) : Nat → Int32 → Int32 → Int32 → Int32 → Int32 → zW → Option zW
  | 0, _, _, _, _, _, _ => none
  | n + 1, a1, a2, a3, a4, a5, w =>
    if a5 < (w 129 1) then
      if a2 < a1 then
        zb (f_X12_sortOf a5 w) fun x4 =>
        zb (f_X12_behind a3 x4) fun x6 =>
        if x6 = (mI 1) then
          zlet (a5 + nI 1) fun x8 =>
          (l_X12_builds1_44 F K119 n) a1 a2 a3 a4 x8 w
        else
          zb2 (f_X12_takesLetters a5 w) fun x10 w1 =>
          if x10 = nI 0 then
            j_X12_builds1_107 F (l_X12_builds1_44 F K119 n) K119 a1 a2 a3 a4 a5 w1
          else
            zb (F 0 a1 (a2 + (nI 1)) x6 ((((nI 16) * a4) + a5) + (nI 1)) w1) fun w2 =>
            j_X12_builds1_107 F (l_X12_builds1_44 F K119 n) K119 a1 a2 a3 a4 a5 w2
      else
        K119 w
    else
      K119 w
theorem l_X12_builds1_44z {F : Nat → Int32 → Int32 → Int32 → Int32 → zW → Option zW} {K119 : zW → Option zW} {G : zG} {X : zX} {we : zW} (hd : Nat) (hb : 2 ≤ hd) (hF : zrec_X12_builds1 G X.2.1 F hd) (hX : zOk G X cX12_builds1 7 RX12 (hd + 1)) (hE : zEV G X cX12_builds1 we) (hK119 : ∀ (w3 : zW) , K119 w3 = some we → zZ G X w3 119 [none, none, none, none, none, none, none] []) : ∀ (n : Nat) (a1 : Int32) (a2 : Int32) (a3 : Int32) (a4 : Int32) (a5 : Int32) (w : zW) , l_X12_builds1_44 F K119 n a1 a2 a3 a4 a5 w = some we → zZ G X w 44 [some (.ref (zα G 128)), some (.int a1), some (.int a2), some (.int a3), some (.int a4), some (.int a5), none] [] := by
  intro n
  induction n with
  | zero =>
    intro a1 a2 a3 a4 a5 w  h
    rw [l_X12_builds1_44.eq_1] at h
    cases h
  | succ n ih =>
    intro a1 a2 a3 a4 a5 w  h
    rw [l_X12_builds1_44.eq_2] at h
    refine z_iload 44 hX dX12_builds1_44 rfl <|
      z_aload_n 46 hX dX12_builds1_46 rfl <|
      zgX12_7 47 hX dX12_builds1_47 (rfl : shp 128 = (12, 0)) <|
      z_iconst 50 hX dX12_builds1_50 zki1 <|
      z_ialdc (j := 1) 51 hX dX12_builds1_51 (rfl : shp 129 = (20, 628)) (zink 1 628 (by decide) (by decide)) (nI_clamp (by decide)) <|
      z_icmp_ge 52 119 hX dX12_builds1_52 rfl h (fun q1 h => ?_) (fun q1 h => ?_)
    · refine z_weak (L' := [none, none, none, none, none, none, none]) (zsub_n (zsub_n (zsub_n (zsub_n (zsub_n (zsub_n (zsub_n zsub_0))))))) <|
        hK119 _ h
    · refine z_iload_n 55 hX dX12_builds1_55 rfl <|
        z_iload_n 56 hX dX12_builds1_56 rfl <|
        z_icmp_ge 57 119 hX dX12_builds1_57 rfl h (fun q2 h => ?_) (fun q2 h => ?_)
      · refine z_weak (L' := [none, none, none, none, none, none, none]) (zsub_n (zsub_n (zsub_n (zsub_n (zsub_n (zsub_n (zsub_n zsub_0))))))) <|
          hK119 _ h
      · refine z_iload_n 60 hX dX12_builds1_60 rfl <|
          z_aload_n 61 hX dX12_builds1_61 rfl <|
          z_iload 62 hX dX12_builds1_62 rfl <|
          zb1 h fun x4 r3 h => zcX12_151 64 [.int a5] [.int a3] hX dX12_builds1_64 (c_X12_sortOf (zgd0 hX) r3) (rfl : shp 128 = (12, 0)) rfl rfl rfl (Nat.le_of_ble_eq_true rfl) (by omega) <|
          zb1 h fun x6 r5 h => zcX12_154 67 [.int a3, .int x4] [] hX dX12_builds1_67 (c_X12_behind (zgd0 hX) r5) rfl rfl rfl (Nat.le_of_ble_eq_true rfl) (by omega) <|
          z_istore 70 [some (.ref (zα G 128)), some (.int a1), some (.int a2), some (.int a3), some (.int a4), some (.int a5), some (.int x6)] hX dX12_builds1_70 (Nat.le_of_ble_eq_true rfl) rfl rfl <|
          z_iload 72 hX dX12_builds1_72 rfl <|
          z_iconst 74 hX dX12_builds1_74 zkim1 <|
          z_icmp_eq 75 113 hX dX12_builds1_75 rfl h (fun q7 h => ?_) (fun q7 h => ?_)
        · refine z_iincG 113 (fun x8 => [some (.ref (zα G 128)), some (.int a1), some (.int a2), some (.int a3), some (.int a4), some (.int x8), some (.int x6)]) hX dX12_builds1_113 rfl zki1 rfl (fun _ => rfl) h fun x8 h =>
            z_goto 116 44 hX dX12_builds1_116 rfl <|
            z_weak (L' := [some (.ref (zα G 128)), some (.int a1), some (.int a2), some (.int a3), some (.int a4), some (.int x8), none]) (zsub_s (zsub_s (zsub_s (zsub_s (zsub_s (zsub_s (zsub_n zsub_0))))))) <|
            ih _ _ _ _ _ _ h
        · refine z_aload_n 78 hX dX12_builds1_78 rfl <|
            z_iload 79 hX dX12_builds1_79 rfl <|
            zb12 h fun x10 w1 r9 h => zcX12_226 81 [.int a5] [] hX dX12_builds1_81 (c_X12_takesLetters (zgd0 hX) r9) (rfl : shp 128 = (12, 0)) rfl rfl rfl (Nat.le_of_ble_eq_true rfl) (by omega) <|
            z_if_eq 84 107 hX dX12_builds1_84 rfl h (fun q11 h => ?_) (fun q11 h => ?_)
          · refine z_weak (L' := [some (.ref (zα G 128)), some (.int a1), some (.int a2), some (.int a3), some (.int a4), some (.int a5), none]) (zsub_s (zsub_s (zsub_s (zsub_s (zsub_s (zsub_s (zsub_n zsub_0))))))) <|
              j_X12_builds1_107z hd hb hF hX hE ih hK119 h
          · refine z_aload_n 87 hX dX12_builds1_87 rfl <|
              z_iload_n 88 hX dX12_builds1_88 rfl <|
              z_iload_n 89 hX dX12_builds1_89 rfl <|
              z_iconst 90 hX dX12_builds1_90 zki1 <|
              z_iadd 91 hX dX12_builds1_91 <|
              z_iload 92 hX dX12_builds1_92 rfl <|
              z_bipush 94 hX dX12_builds1_94 zkb16 <|
              z_iload 96 hX dX12_builds1_96 rfl <|
              z_imul 98 hX dX12_builds1_98 <|
              z_iload 99 hX dX12_builds1_99 rfl <|
              z_iadd 101 hX dX12_builds1_101 <|
              z_iconst 102 hX dX12_builds1_102 zki1 <|
              z_iadd 103 hX dX12_builds1_103 <|
              zb1 h fun w2 r12 h => zcX12_229 104 [.int a1, .int (a2 + (nI 1)), .int x6, .int ((((nI 16) * a4) + a5) + (nI 1))] [] hX dX12_builds1_104 (hF r12) (rfl : shp 128 = (12, 0)) rfl rfl rfl (Nat.le_of_ble_eq_true rfl) (by omega) <|
              z_weak (L' := [some (.ref (zα G 128)), some (.int a1), some (.int a2), some (.int a3), some (.int a4), some (.int a5), none]) (zsub_s (zsub_s (zsub_s (zsub_s (zsub_s (zsub_s (zsub_n zsub_0))))))) <|
              j_X12_builds1_107z hd hb hF hX hE ih hK119 h
def j_X12_builds1_41 (F : Nat → Int32 → Int32 → Int32 → Int32 → zW → Option zW) (a1 : Int32) (a2 : Int32) (a3 : Int32) (a4 : Int32) (w : zW) : Option zW :=
  l_X12_builds1_44 F (fun w11 =>
    some w11) zfuel a1 a2 a3 a4 (nI 0) w
theorem j_X12_builds1_41z {F : Nat → Int32 → Int32 → Int32 → Int32 → zW → Option zW} {G : zG} {X : zX} {w : zW} {we : zW} {a1 : Int32} {a2 : Int32} {a3 : Int32} {a4 : Int32} (hd : Nat) (hb : 2 ≤ hd) (hF : zrec_X12_builds1 G X.2.1 F hd) (hX : zOk G X cX12_builds1 7 RX12 (hd + 1)) (hE : zEV G X cX12_builds1 we)  (h : j_X12_builds1_41 F a1 a2 a3 a4 w = some we) : zZ G X w 41 [some (.ref (zα G 128)), some (.int a1), some (.int a2), some (.int a3), some (.int a4), none, none] [] := by
  rw [j_X12_builds1_41] at h
  refine z_iconst 41 hX dX12_builds1_41 zki0 <|
    z_istore 42 [some (.ref (zα G 128)), some (.int a1), some (.int a2), some (.int a3), some (.int a4), some (.int (nI 0)), none] hX dX12_builds1_42 (Nat.le_of_ble_eq_true rfl) rfl rfl <|
    l_X12_builds1_44z hd hb hF hX hE (fun w11 h => ?_) _ _ _ _ _ _ _ h
  · refine z_endV 119 hE h dX12_builds1_119
def j_X12_builds1_30 (F : Nat → Int32 → Int32 → Int32 → Int32 → zW → Option zW) (a1 : Int32) (a2 : Int32) (a3 : Int32) (a4 : Int32) (w : zW) : Option zW :=
  zlet (zupd w 128 18 a4) fun w1 =>
  zlet (zupd w1 128 19 a2) fun w2 =>
  j_X12_builds1_41 F a1 a2 a3 a4 w2
theorem j_X12_builds1_30z {F : Nat → Int32 → Int32 → Int32 → Int32 → zW → Option zW} {G : zG} {X : zX} {w : zW} {we : zW} {a1 : Int32} {a2 : Int32} {a3 : Int32} {a4 : Int32} (hd : Nat) (hb : 2 ≤ hd) (hF : zrec_X12_builds1 G X.2.1 F hd) (hX : zOk G X cX12_builds1 7 RX12 (hd + 1)) (hE : zEV G X cX12_builds1 we)  (h : j_X12_builds1_30 F a1 a2 a3 a4 w = some we) : zZ G X w 30 [some (.ref (zα G 128)), some (.int a1), some (.int a2), some (.int a3), some (.int a4), none, none] [] := by
  rw [j_X12_builds1_30] at h
  refine z_aload_n 30 hX dX12_builds1_30 rfl <|
    z_iload 31 hX dX12_builds1_31 rfl <|
    zpX12_220 33 hX dX12_builds1_33 (rfl : shp 128 = (12, 0)) <|
    z_w h fun w1 h =>
    z_aload_n 36 hX dX12_builds1_36 rfl <|
    z_iload_n 37 hX dX12_builds1_37 rfl <|
    zpX12_223 38 hX dX12_builds1_38 (rfl : shp 128 = (12, 0)) <|
    z_w h fun w2 h =>
    j_X12_builds1_41z hd hb hF hX hE h
def b_X12_builds1 (F : Nat → Int32 → Int32 → Int32 → Int32 → zW → Option zW) (a1 : Int32) (a2 : Int32) (a3 : Int32) (a4 : Int32) (w : zW) : Option zW :=
  if a3 = (nI 4) then
    zlet (zupd w 128 17 ((w 128 17) + (nI 1))) fun w1 =>
    if (w1 128 18) = nI 0 then
      j_X12_builds1_30 F a1 a2 a3 a4 w1
    else
    if a2 < (w1 128 19) then
      j_X12_builds1_30 F a1 a2 a3 a4 w1
    else
      j_X12_builds1_41 F a1 a2 a3 a4 w1
  else
    j_X12_builds1_41 F a1 a2 a3 a4 w
theorem cb_X12_builds1 {F : Nat → Int32 → Int32 → Int32 → Int32 → zW → Option zW} {G : zG} {l : Launch} (hG : zgood G) {w : zW} {we : zW} {a1 : Int32} {a2 : Int32} {a3 : Int32} {a4 : Int32} (hd : Nat) (hb : 2 ≤ hd) (hF : zrec_X12_builds1 G l F hd)  (h : b_X12_builds1 F a1 a2 a3 a4 w = some we) : zMet G l yX12_builds1 cX12_builds1 7 none (hd + 1) [.ref (zα G 128), .int a1, .int a2, .int a3, .int a4] w none we := by
  refine zMet_of (L0 := [some (.ref (zα G 128)), some (.int a1), some (.int a2), some (.int a3), some (.int a4), none, none]) hG zplX12 (Nat.le_of_ble_eq_true rfl) rfl rfl (fun X hl hX hEI hEV hEA => ?_)
  subst hl
  have hX : zOk G X cX12_builds1 7 RX12 (hd + 1) := hX
  have hE := hEV rfl rfl
  rw [b_X12_builds1] at h
  refine z_iload_n 0 hX dX12_builds1_0 rfl <|
    z_iconst 1 hX dX12_builds1_1 zki4 <|
    z_icmp_ne 2 41 hX dX12_builds1_2 rfl h (fun q1 h => ?_) (fun q1 h => ?_)
  · refine j_X12_builds1_41z hd hb hF hX hE h
  · refine z_aload_n 5 hX dX12_builds1_5 rfl <|
      z_dup 6 hX dX12_builds1_6 rfl <|
      zgX12_217 7 hX dX12_builds1_7 (rfl : shp 128 = (12, 0)) <|
      z_iconst 10 hX dX12_builds1_10 zki1 <|
      z_iadd 11 hX dX12_builds1_11 <|
      zpX12_217 12 hX dX12_builds1_12 (rfl : shp 128 = (12, 0)) <|
      z_w h fun w1 h =>
      z_aload_n 15 hX dX12_builds1_15 rfl <|
      zgX12_220 16 hX dX12_builds1_16 (rfl : shp 128 = (12, 0)) <|
      z_if_eq 19 30 hX dX12_builds1_19 rfl h (fun q2 h => ?_) (fun q2 h => ?_)
    · refine j_X12_builds1_30z hd hb hF hX hE h
    · refine z_iload_n 22 hX dX12_builds1_22 rfl <|
        z_aload_n 23 hX dX12_builds1_23 rfl <|
        zgX12_223 24 hX dX12_builds1_24 (rfl : shp 128 = (12, 0)) <|
        z_icmp_ge 27 41 hX dX12_builds1_27 rfl h (fun q3 h => ?_) (fun q3 h => ?_)
      · refine j_X12_builds1_41z hd hb hF hX hE h
      · refine j_X12_builds1_30z hd hb hF hX hE h
def F_X12_builds1 : Nat → Nat → Int32 → Int32 → Int32 → Int32 → zW → Option zW
  | 0, _, _, _, _, _, _ => none
  | d + 1, _, x0, x1, x2, x3, w => b_X12_builds1 (F_X12_builds1 d) x0 x1 x2 x3 w
theorem cF_X12_builds1 {G : zG} {l : Launch} (hG : zgood G) : ∀ d : Nat, zrec_X12_builds1 G l (F_X12_builds1 d) (2 + d) := by
  intro d
  induction d with
  | zero => intro w we a1 a2 a3 a4 h; cases h
  | succ d ih => intro w we a1 a2 a3 a4 h; exact cb_X12_builds1 hG _ (Nat.le_add_right _ _) ih h
def f_X12_builds1 (a1 : Int32) (a2 : Int32) (a3 : Int32) (a4 : Int32) (w : zW) : Option zW := F_X12_builds1 100 0 a1 a2 a3 a4 w
theorem c_X12_builds1 {G : zG} {l : Launch} (hG : zgood G) {w : zW} {we : zW} {a1 : Int32} {a2 : Int32} {a3 : Int32} {a4 : Int32} (h : f_X12_builds1 a1 a2 a3 a4 w = some we) : zMet G l yX12_builds1 cX12_builds1 7 none 102 [.ref (zα G 128), .int a1, .int a2, .int a3, .int a4] w none we := (cF_X12_builds1 hG 100) h
def j_X12_builds_19  (w : zW) : Option (Int32 × zW) :=
  zb2 (f_X12_error (nI 1) w) fun x2 w1 =>
  some (x2, w1)
theorem j_X12_builds_19z {G : zG} {X : zX} {w : zW} {re : Int32} {we : zW}  (hX : zOk G X cX12_builds 3 RX12 103) (hE : zEI G X cX12_builds .int re we)  (h : j_X12_builds_19 w = some (re, we)) : zZ G X w 19 [some (.ref (zα G 128)), none, none] [] := by
  rw [j_X12_builds_19] at h
  refine z_aload_n 19 hX dX12_builds_19 rfl <|
    z_iconst 20 hX dX12_builds_20 zki1 <|
    zb12 h fun x2 w1 r1 h => zcX12_64 21 [.int (nI 1)] [] hX dX12_builds_21 (c_X12_error (zgd0 hX) r1) (rfl : shp 128 = (12, 0)) rfl rfl rfl (Nat.le_of_ble_eq_true rfl) (Nat.le_of_ble_eq_true rfl) <|
    z_endI2 24 hE rfl h dX12_builds_24
def f_X12_builds (a1 : Int32) (a2 : Int32) (w : zW) : Option (Int32 × zW) :=
  zb (f_X12_in a1 (nI 1) (nI 7)) fun x2 =>
  if x2 = nI 0 then
    j_X12_builds_19 w
  else
    zb (f_X12_in a2 (nI 0) (nI 1)) fun x5 =>
    if x5 = nI 0 then
      j_X12_builds_19 w
    else
      zlet (zupd w 128 17 (nI 0)) fun w1 =>
      zlet (zupd w1 128 18 (nI 0)) fun w2 =>
      zlet (zupd w2 128 19 (nI 0)) fun w3 =>
      zb (f_X12_builds1 a1 (nI 0) (nI 0) (nI 0) w3) fun w4 =>
      if a2 = nI 0 then
        some (w4 128 17, w4)
      else
        some (w4 128 18, w4)
theorem c_X12_builds {G : zG} {l : Launch} (hG : zgood G) {w : zW} {re : Int32} {we : zW} {a1 : Int32} {a2 : Int32}  (h : f_X12_builds a1 a2 w = some (re, we)) : zMet G l yX12_builds cX12_builds 3 (some .int) 103 [.ref (zα G 128), .int a1, .int a2] w (some (.int re)) we := by
  refine zMet_of (L0 := [some (.ref (zα G 128)), some (.int a1), some (.int a2)]) hG zplX12 (Nat.le_of_ble_eq_true rfl) rfl rfl (fun X hl hX hEI hEV hEA => ?_)
  subst hl
  have hX : zOk G X cX12_builds 3 RX12 103 := hX
  have hE := hEI _ _ rfl rfl
  rw [f_X12_builds] at h
  refine z_iload_n 0 hX dX12_builds_0 rfl <|
    z_iconst 1 hX dX12_builds_1 zki1 <|
    z_bipush 2 hX dX12_builds_2 zkb7 <|
    zb1 h fun x2 r1 h => zcX12_56 4 [.int a1, .int (nI 1), .int (nI 7)] [] hX dX12_builds_4 (c_X12_in (zgd0 hX) r1) rfl rfl rfl (Nat.le_of_ble_eq_true rfl) (Nat.le_of_ble_eq_true rfl) <|
    z_if_eq 7 19 hX dX12_builds_7 rfl h (fun q3 h => ?_) (fun q3 h => ?_)
  · refine z_weak (L' := [some (.ref (zα G 128)), none, none]) (zsub_s (zsub_n (zsub_n zsub_0))) <|
      j_X12_builds_19z hX hE h
  · refine z_iload_n 10 hX dX12_builds_10 rfl <|
      z_iconst 11 hX dX12_builds_11 zki0 <|
      z_iconst 12 hX dX12_builds_12 zki1 <|
      zb1 h fun x5 r4 h => zcX12_56 13 [.int a2, .int (nI 0), .int (nI 1)] [] hX dX12_builds_13 (c_X12_in (zgd0 hX) r4) rfl rfl rfl (Nat.le_of_ble_eq_true rfl) (Nat.le_of_ble_eq_true rfl) <|
      z_if_ne 16 25 hX dX12_builds_16 rfl h (fun q6 h => ?_) (fun q6 h => ?_)
    · refine z_aload_n 25 hX dX12_builds_25 rfl <|
        z_iconst 26 hX dX12_builds_26 zki0 <|
        zpX12_217 27 hX dX12_builds_27 (rfl : shp 128 = (12, 0)) <|
        z_w h fun w1 h =>
        z_aload_n 30 hX dX12_builds_30 rfl <|
        z_iconst 31 hX dX12_builds_31 zki0 <|
        zpX12_220 32 hX dX12_builds_32 (rfl : shp 128 = (12, 0)) <|
        z_w h fun w2 h =>
        z_aload_n 35 hX dX12_builds_35 rfl <|
        z_iconst 36 hX dX12_builds_36 zki0 <|
        zpX12_223 37 hX dX12_builds_37 (rfl : shp 128 = (12, 0)) <|
        z_w h fun w3 h =>
        z_aload_n 40 hX dX12_builds_40 rfl <|
        z_iload_n 41 hX dX12_builds_41 rfl <|
        z_iconst 42 hX dX12_builds_42 zki0 <|
        z_iconst 43 hX dX12_builds_43 zki0 <|
        z_iconst 44 hX dX12_builds_44 zki0 <|
        zb1 h fun w4 r7 h => zcX12_229 45 [.int a1, .int (nI 0), .int (nI 0), .int (nI 0)] [] hX dX12_builds_45 (c_X12_builds1 (zgd0 hX) r7) (rfl : shp 128 = (12, 0)) rfl rfl rfl (Nat.le_of_ble_eq_true rfl) (Nat.le_of_ble_eq_true rfl) <|
        z_iload_n 48 hX dX12_builds_48 rfl <|
        z_if_ne 49 59 hX dX12_builds_49 rfl h (fun q8 h => ?_) (fun q8 h => ?_)
      · refine z_aload_n 59 hX dX12_builds_59 rfl <|
          zgX12_220 60 hX dX12_builds_60 (rfl : shp 128 = (12, 0)) <|
          z_endI2 63 hE rfl h dX12_builds_63
      · refine z_aload_n 52 hX dX12_builds_52 rfl <|
          zgX12_217 53 hX dX12_builds_53 (rfl : shp 128 = (12, 0)) <|
          z_goto 56 63 hX dX12_builds_56 rfl <|
          z_endI2 63 hE rfl h dX12_builds_63
    · refine z_weak (L' := [some (.ref (zα G 128)), none, none]) (zsub_s (zsub_n (zsub_n zsub_0))) <|
        j_X12_builds_19z hX hE h
def f_X12_draw  (w : zW) : Option (Int32 × zW) :=
  zlet (zupd w 129 6 (((w 129 6) * (nI 1103515245)) + (nI 12345))) fun w1 =>
  some (((w1 129 6).toUInt32 >>> ((nI 8).toUInt32 &&& Int32.toUInt32 31)).toInt32, w1)
theorem c_X12_draw {G : zG} {l : Launch} (hG : zgood G) {w : zW} {re : Int32} {we : zW}   (h : f_X12_draw w = some (re, we)) : zMet G l yX12_draw cX12_draw 1 (some .int) 0 [.ref (zα G 128)] w (some (.int re)) we := by
  refine zMet_of (L0 := [some (.ref (zα G 128))]) hG zplX12 (Nat.le_of_ble_eq_true rfl) rfl rfl (fun X hl hX hEI hEV hEA => ?_)
  subst hl
  have hX : zOk G X cX12_draw 1 RX12 0 := hX
  have hE := hEI _ _ rfl rfl
  rw [f_X12_draw] at h
  refine z_aload_n 0 hX dX12_draw_0 rfl <|
    zgX12_7 1 hX dX12_draw_1 (rfl : shp 128 = (12, 0)) <|
    z_bipush 4 hX dX12_draw_4 zkb6 <|
    z_aload_n 6 hX dX12_draw_6 rfl <|
    zgX12_7 7 hX dX12_draw_7 (rfl : shp 128 = (12, 0)) <|
    z_bipush 10 hX dX12_draw_10 zkb6 <|
    z_ialdc (j := 6) 12 hX dX12_draw_12 (rfl : shp 129 = (20, 628)) (zink 6 628 (by decide) (by decide)) (nI_clamp (by decide)) <|
    z_ldc 13 hX dX12_draw_13 zw1410 zkl1103515245 <|
    z_imul 15 hX dX12_draw_15 <|
    z_sipush 16 hX dX12_draw_16 zks12345 <|
    z_iadd 19 hX dX12_draw_19 <|
    z_iastc (j := 6) 20 hX dX12_draw_20 (rfl : shp 129 = (20, 628)) (zink 6 628 (by decide) (by decide)) (nI_clamp (by decide)) <|
    z_w h fun w1 h =>
    z_aload_n 21 hX dX12_draw_21 rfl <|
    zgX12_7 22 hX dX12_draw_22 (rfl : shp 128 = (12, 0)) <|
    z_bipush 25 hX dX12_draw_25 zkb6 <|
    z_ialdc (j := 6) 27 hX dX12_draw_27 (rfl : shp 129 = (20, 628)) (zink 6 628 (by decide) (by decide)) (nI_clamp (by decide)) <|
    z_bipush 28 hX dX12_draw_28 zkb8 <|
    z_iushr 30 hX dX12_draw_30 <|
    z_endI2 31 hE rfl h dX12_draw_31
def l_X12_years_61 (K140 : Int32 → Int32 → Int32 → zW → Option (Int32 × zW)) : Nat → Int32 → Int32 → Int32 → Int32 → zW → Option (Int32 × zW)
  | 0, _, _, _, _, _ => none
  | n + 1, a1, a2, a3, a4, w =>
    if a4 < (w 129 0) then
      zb (f_X12_letters a4 w) fun x3 =>
      if nI 0 < x3 then
        zb2 (f_X12_draw w) fun x7 w1 =>
        zb (f_X12_its a4 (nI 2) w1) fun x9 =>
        zguard (decide (¬ x9 = 0)) (
        zlet (x7 - x7 / x9 * x9) fun x10 =>
        zb (f_X12_at a4 x10) fun x12 =>
        zld w1 129 628 x12 fun x13 =>
        if nI 0 < x13 then
          zb2 (f_X12_readsWithDoor a4 x10 (nI 1) w1) fun x17 w2 =>
          if x17 = nI 0 then
            zlet (a4 + nI 1) fun x19 =>
            (l_X12_years_61 K140 n) a1 a2 a3 x19 w2
          else
            zb (f_X12_toHeap a4 x10 w2) fun w3 =>
            zlet (a2 + nI 1) fun x21 =>
            zlet (a4 + nI 1) fun x22 =>
            (l_X12_years_61 K140 n) a1 x21 a3 x22 w3
        else
          zlet (a4 + nI 1) fun x15 =>
          (l_X12_years_61 K140 n) a1 a2 a3 x15 w1)
      else
        zlet (a4 + nI 1) fun x5 =>
        (l_X12_years_61 K140 n) a1 a2 a3 x5 w
    else
      K140 a1 a2 a3 w
theorem l_X12_years_61z {K140 : Int32 → Int32 → Int32 → zW → Option (Int32 × zW)} {G : zG} {X : zX} {re : Int32} {we : zW} (hX : zOk G X cX12_years 6 RX12 5) (hE : zEI G X cX12_years .int re we) (hK140 : ∀ (a1 : Int32) (a2 : Int32) (a3 : Int32) (w3 : zW) , K140 a1 a2 a3 w3 = some (re, we) → zZ G X w3 140 [some (.ref (zα G 128)), some (.int a1), some (.int a2), some (.int a3), none, none] []) : ∀ (n : Nat) (a1 : Int32) (a2 : Int32) (a3 : Int32) (a4 : Int32) (w : zW) , l_X12_years_61 K140 n a1 a2 a3 a4 w = some (re, we) → zZ G X w 61 [some (.ref (zα G 128)), some (.int a1), some (.int a2), some (.int a3), some (.int a4), none] [] := by
  intro n
  induction n with
  | zero =>
    intro a1 a2 a3 a4 w  h
    rw [l_X12_years_61.eq_1] at h
    cases h
  | succ n ih =>
    intro a1 a2 a3 a4 w  h
    rw [l_X12_years_61.eq_2] at h
    refine z_iload 61 hX dX12_years_61 rfl <|
      z_aload_n 63 hX dX12_years_63 rfl <|
      zgX12_7 64 hX dX12_years_64 (rfl : shp 128 = (12, 0)) <|
      z_iconst 67 hX dX12_years_67 zki0 <|
      z_ialdc (j := 0) 68 hX dX12_years_68 (rfl : shp 129 = (20, 628)) (zink 0 628 (by decide) (by decide)) (nI_clamp (by decide)) <|
      z_icmp_ge 69 140 hX dX12_years_69 rfl h (fun q1 h => ?_) (fun q1 h => ?_)
    · refine z_weak (L' := [some (.ref (zα G 128)), some (.int a1), some (.int a2), some (.int a3), none, none]) (zsub_s (zsub_s (zsub_s (zsub_s (zsub_n (zsub_n zsub_0)))))) <|
        hK140 _ _ _ _ h
    · refine z_aload_n 72 hX dX12_years_72 rfl <|
        z_iload 73 hX dX12_years_73 rfl <|
        zb1 h fun x3 r2 h => zcX12_211 75 [.int a4] [] hX dX12_years_75 (c_X12_letters (zgd0 hX) r2) (rfl : shp 128 = (12, 0)) rfl rfl rfl (Nat.le_of_ble_eq_true rfl) (Nat.le_of_ble_eq_true rfl) <|
        z_if_le 78 134 hX dX12_years_78 rfl h (fun q4 h => ?_) (fun q4 h => ?_)
      · refine z_iincG 134 (fun x5 => [some (.ref (zα G 128)), some (.int a1), some (.int a2), some (.int a3), some (.int x5), none]) hX dX12_years_134 rfl zki1 rfl (fun _ => rfl) h fun x5 h =>
          z_goto 137 61 hX dX12_years_137 rfl <|
          ih _ _ _ _ _ h
      · refine z_aload_n 81 hX dX12_years_81 rfl <|
          zb12 h fun x7 w1 r6 h => zcX12_237 82 [] [] hX dX12_years_82 (c_X12_draw (zgd0 hX) r6) (rfl : shp 128 = (12, 0)) rfl rfl rfl (Nat.le_of_ble_eq_true rfl) (Nat.le_of_ble_eq_true rfl) <|
          z_aload_n 85 hX dX12_years_85 rfl <|
          z_iload 86 hX dX12_years_86 rfl <|
          z_iconst 88 hX dX12_years_88 zki2 <|
          zb1 h fun x9 r8 h => zcX12_60 89 [.int a4, .int (nI 2)] [.int x7] hX dX12_years_89 (c_X12_its (zgd0 hX) r8) (rfl : shp 128 = (12, 0)) rfl rfl rfl (Nat.le_of_ble_eq_true rfl) (Nat.le_of_ble_eq_true rfl) <|
          z_irem 92 hX dX12_years_92 h fun h =>
          z_top h fun x10 h =>
          z_istore 93 [some (.ref (zα G 128)), some (.int a1), some (.int a2), some (.int a3), some (.int a4), some (.int x10)] hX dX12_years_93 (Nat.le_of_ble_eq_true rfl) rfl rfl <|
          z_aload_n 95 hX dX12_years_95 rfl <|
          zgX12_7 96 hX dX12_years_96 (rfl : shp 128 = (12, 0)) <|
          z_aload_n 99 hX dX12_years_99 rfl <|
          z_iload 100 hX dX12_years_100 rfl <|
          z_iload 102 hX dX12_years_102 rfl <|
          zb1 h fun x12 r11 h => zcX12_124 104 [.int a4, .int x10] [.ref (zα G 129)] hX dX12_years_104 (c_X12_at (zgd0 hX) r11) (rfl : shp 128 = (12, 0)) rfl rfl rfl (Nat.le_of_ble_eq_true rfl) (Nat.le_of_ble_eq_true rfl) <|
          z_iald 107 hX dX12_years_107 (rfl : shp 129 = (20, 628)) h fun x13 _ h =>
          z_if_le 108 134 hX dX12_years_108 rfl h (fun q14 h => ?_) (fun q14 h => ?_)
        · refine z_iincG 134 (fun x15 => [some (.ref (zα G 128)), some (.int a1), some (.int a2), some (.int a3), some (.int x15), some (.int x10)]) hX dX12_years_134 rfl zki1 rfl (fun _ => rfl) h fun x15 h =>
            z_goto 137 61 hX dX12_years_137 rfl <|
            z_weak (L' := [some (.ref (zα G 128)), some (.int a1), some (.int a2), some (.int a3), some (.int x15), none]) (zsub_s (zsub_s (zsub_s (zsub_s (zsub_s (zsub_n zsub_0)))))) <|
            ih _ _ _ _ _ h
        · refine z_aload_n 111 hX dX12_years_111 rfl <|
            z_iload 112 hX dX12_years_112 rfl <|
            z_iload 114 hX dX12_years_114 rfl <|
            z_iconst 116 hX dX12_years_116 zki1 <|
            zb12 h fun x17 w2 r16 h => zcX12_195 117 [.int a4, .int x10, .int (nI 1)] [] hX dX12_years_117 (c_X12_readsWithDoor (zgd0 hX) r16) (rfl : shp 128 = (12, 0)) rfl rfl rfl (Nat.le_of_ble_eq_true rfl) (Nat.le_of_ble_eq_true rfl) <|
            z_if_eq 120 134 hX dX12_years_120 rfl h (fun q18 h => ?_) (fun q18 h => ?_)
          · refine z_iincG 134 (fun x19 => [some (.ref (zα G 128)), some (.int a1), some (.int a2), some (.int a3), some (.int x19), some (.int x10)]) hX dX12_years_134 rfl zki1 rfl (fun _ => rfl) h fun x19 h =>
              z_goto 137 61 hX dX12_years_137 rfl <|
              z_weak (L' := [some (.ref (zα G 128)), some (.int a1), some (.int a2), some (.int a3), some (.int x19), none]) (zsub_s (zsub_s (zsub_s (zsub_s (zsub_s (zsub_n zsub_0)))))) <|
              ih _ _ _ _ _ h
          · refine z_aload_n 123 hX dX12_years_123 rfl <|
              z_iload 124 hX dX12_years_124 rfl <|
              z_iload 126 hX dX12_years_126 rfl <|
              zb1 h fun w3 r20 h => zcX12_214 128 [.int a4, .int x10] [] hX dX12_years_128 (c_X12_toHeap (zgd0 hX) r20) (rfl : shp 128 = (12, 0)) rfl rfl rfl (Nat.le_of_ble_eq_true rfl) (Nat.le_of_ble_eq_true rfl) <|
              z_iincG 131 (fun x21 => [some (.ref (zα G 128)), some (.int a1), some (.int x21), some (.int a3), some (.int a4), some (.int x10)]) hX dX12_years_131 rfl zki1 rfl (fun _ => rfl) h fun x21 h =>
              z_iincG 134 (fun x22 => [some (.ref (zα G 128)), some (.int a1), some (.int x21), some (.int a3), some (.int x22), some (.int x10)]) hX dX12_years_134 rfl zki1 rfl (fun _ => rfl) h fun x22 h =>
              z_goto 137 61 hX dX12_years_137 rfl <|
              z_weak (L' := [some (.ref (zα G 128)), some (.int a1), some (.int x21), some (.int a3), some (.int x22), none]) (zsub_s (zsub_s (zsub_s (zsub_s (zsub_s (zsub_n zsub_0)))))) <|
              ih _ _ _ _ _ h
def l_X12_years_20 (K146 : Int32 → zW → Option (Int32 × zW)) : Nat → Int32 → Int32 → Int32 → zW → Option (Int32 × zW)
  | 0, _, _, _, _ => none
  | n + 1, a1, a2, a3, w =>
    if a3 < a1 then
      zb2 (f_X12_draw w) fun x3 w1 =>
      zlet (zupd w1 129 2 (x3 - x3 / (nI 4) * (nI 4))) fun w2 =>
      zb (f_X12_held ((w2 129 3) + (nI 50)) (nI 0) (nI 99999)) fun x5 =>
      zlet (zupd w2 129 3 x5) fun w3 =>
      l_X12_years_61 (fun k140_a1 k140_a2 k140_a3 w14 =>
        zlet (k140_a3 + nI 1) fun x106 =>
        (l_X12_years_20 K146 n) k140_a1 k140_a2 x106 w14) zfuel a1 a2 a3 (nI 0) w3
    else
      K146 a2 w
theorem l_X12_years_20z {K146 : Int32 → zW → Option (Int32 × zW)} {G : zG} {X : zX} {re : Int32} {we : zW} (hX : zOk G X cX12_years 6 RX12 5) (hE : zEI G X cX12_years .int re we) (hK146 : ∀ (a2 : Int32) (w3 : zW) , K146 a2 w3 = some (re, we) → zZ G X w3 146 [none, none, some (.int a2), none, none, none] []) : ∀ (n : Nat) (a1 : Int32) (a2 : Int32) (a3 : Int32) (w : zW) , l_X12_years_20 K146 n a1 a2 a3 w = some (re, we) → zZ G X w 20 [some (.ref (zα G 128)), some (.int a1), some (.int a2), some (.int a3), none, none] [] := by
  intro n
  induction n with
  | zero =>
    intro a1 a2 a3 w  h
    rw [l_X12_years_20.eq_1] at h
    cases h
  | succ n ih =>
    intro a1 a2 a3 w  h
    rw [l_X12_years_20.eq_2] at h
    refine z_iload_n 20 hX dX12_years_20 rfl <|
      z_iload_n 21 hX dX12_years_21 rfl <|
      z_icmp_ge 22 146 hX dX12_years_22 rfl h (fun q1 h => ?_) (fun q1 h => ?_)
    · refine z_weak (L' := [none, none, some (.int a2), none, none, none]) (zsub_n (zsub_n (zsub_s (zsub_n (zsub_n (zsub_n zsub_0)))))) <|
        hK146 _ _ h
    · refine z_aload_n 25 hX dX12_years_25 rfl <|
        zgX12_7 26 hX dX12_years_26 (rfl : shp 128 = (12, 0)) <|
        z_iconst 29 hX dX12_years_29 zki2 <|
        z_aload_n 30 hX dX12_years_30 rfl <|
        zb12 h fun x3 w1 r2 h => zcX12_237 31 [] [.int (nI 2), .ref (zα G 129)] hX dX12_years_31 (c_X12_draw (zgd0 hX) r2) (rfl : shp 128 = (12, 0)) rfl rfl rfl (Nat.le_of_ble_eq_true rfl) (Nat.le_of_ble_eq_true rfl) <|
        z_iconst 34 hX dX12_years_34 zki4 <|
        z_iremc 35 hX dX12_years_35 (by decide) <|
        z_iastc (j := 2) 36 hX dX12_years_36 (rfl : shp 129 = (20, 628)) (zink 2 628 (by decide) (by decide)) (nI_clamp (by decide)) <|
        z_w h fun w2 h =>
        z_aload_n 37 hX dX12_years_37 rfl <|
        zgX12_7 38 hX dX12_years_38 (rfl : shp 128 = (12, 0)) <|
        z_iconst 41 hX dX12_years_41 zki3 <|
        z_aload_n 42 hX dX12_years_42 rfl <|
        zgX12_7 43 hX dX12_years_43 (rfl : shp 128 = (12, 0)) <|
        z_iconst 46 hX dX12_years_46 zki3 <|
        z_ialdc (j := 3) 47 hX dX12_years_47 (rfl : shp 129 = (20, 628)) (zink 3 628 (by decide) (by decide)) (nI_clamp (by decide)) <|
        z_bipush 48 hX dX12_years_48 zkb50 <|
        z_iadd 50 hX dX12_years_50 <|
        z_iconst 51 hX dX12_years_51 zki0 <|
        z_ldc 52 hX dX12_years_52 zw1369 zkl99999 <|
        zb1 h fun x5 r4 h => zcX12_161 54 [.int ((w2 129 3) + (nI 50)), .int (nI 0), .int (nI 99999)] [.int (nI 3), .ref (zα G 129)] hX dX12_years_54 (c_X12_held (zgd0 hX) r4) rfl rfl rfl (Nat.le_of_ble_eq_true rfl) (Nat.le_of_ble_eq_true rfl) <|
        z_iastc (j := 3) 57 hX dX12_years_57 (rfl : shp 129 = (20, 628)) (zink 3 628 (by decide) (by decide)) (nI_clamp (by decide)) <|
        z_w h fun w3 h =>
        z_iconst 58 hX dX12_years_58 zki0 <|
        z_istore 59 [some (.ref (zα G 128)), some (.int a1), some (.int a2), some (.int a3), some (.int (nI 0)), none] hX dX12_years_59 (Nat.le_of_ble_eq_true rfl) rfl rfl <|
        l_X12_years_61z hX hE (fun k140_a1 k140_a2 k140_a3 w14 h => ?_) _ _ _ _ _ _ h
      · refine z_iincG 140 (fun x106 => [some (.ref (zα G 128)), some (.int k140_a1), some (.int k140_a2), some (.int x106), none, none]) hX dX12_years_140 rfl zki1 rfl (fun _ => rfl) h fun x106 h =>
          z_goto 143 20 hX dX12_years_143 rfl <|
          ih _ _ _ _ h
def f_X12_years (a1 : Int32) (w : zW) : Option (Int32 × zW) :=
  zb (f_X12_in a1 (nI 1) (nI 20)) fun x2 =>
  if x2 = nI 0 then
    zb2 (f_X12_error (nI 1) w) fun x5 w1 =>
    some (x5, w1)
  else
    l_X12_years_20 (fun k146_a2 w11 =>
      some (k146_a2, w11)) zfuel a1 (nI 0) (nI 0) w
theorem c_X12_years {G : zG} {l : Launch} (hG : zgood G) {w : zW} {re : Int32} {we : zW} {a1 : Int32}  (h : f_X12_years a1 w = some (re, we)) : zMet G l yX12_years cX12_years 6 (some .int) 5 [.ref (zα G 128), .int a1] w (some (.int re)) we := by
  refine zMet_of (L0 := [some (.ref (zα G 128)), some (.int a1), none, none, none, none]) hG zplX12 (Nat.le_of_ble_eq_true rfl) rfl rfl (fun X hl hX hEI hEV hEA => ?_)
  subst hl
  have hX : zOk G X cX12_years 6 RX12 5 := hX
  have hE := hEI _ _ rfl rfl
  rw [f_X12_years] at h
  refine z_iload_n 0 hX dX12_years_0 rfl <|
    z_iconst 1 hX dX12_years_1 zki1 <|
    z_bipush 2 hX dX12_years_2 zkb20 <|
    zb1 h fun x2 r1 h => zcX12_56 4 [.int a1, .int (nI 1), .int (nI 20)] [] hX dX12_years_4 (c_X12_in (zgd0 hX) r1) rfl rfl rfl (Nat.le_of_ble_eq_true rfl) (Nat.le_of_ble_eq_true rfl) <|
    z_if_ne 7 16 hX dX12_years_7 rfl h (fun q3 h => ?_) (fun q3 h => ?_)
  · refine z_iconst 16 hX dX12_years_16 zki0 <|
      z_istore_n 17 [some (.ref (zα G 128)), some (.int a1), some (.int (nI 0)), none, none, none] hX dX12_years_17 (Nat.le_of_ble_eq_true rfl) rfl rfl <|
      z_iconst 18 hX dX12_years_18 zki0 <|
      z_istore_n 19 [some (.ref (zα G 128)), some (.int a1), some (.int (nI 0)), some (.int (nI 0)), none, none] hX dX12_years_19 (Nat.le_of_ble_eq_true rfl) rfl rfl <|
      l_X12_years_20z hX hE (fun k146_a2 w11 h => ?_) _ _ _ _ _ h
    · refine z_iload_n 146 hX dX12_years_146 rfl <|
        z_endI2 147 hE rfl h dX12_years_147
  · refine z_aload_n 10 hX dX12_years_10 rfl <|
      z_iconst 11 hX dX12_years_11 zki1 <|
      zb12 h fun x5 w1 r4 h => zcX12_64 12 [.int (nI 1)] [] hX dX12_years_12 (c_X12_error (zgd0 hX) r4) (rfl : shp 128 = (12, 0)) rfl rfl rfl (Nat.le_of_ble_eq_true rfl) (Nat.le_of_ble_eq_true rfl) <|
      z_endI2 15 hE rfl h dX12_years_15
def f_X12_seed (a1 : Int32) (w : zW) : Option (Int32 × zW) :=
  zlet (w 129 6) fun x1 =>
  zlet (zupd w 129 6 a1) fun w1 =>
  some (x1, w1)
theorem c_X12_seed {G : zG} {l : Launch} (hG : zgood G) {w : zW} {re : Int32} {we : zW} {a1 : Int32}  (h : f_X12_seed a1 w = some (re, we)) : zMet G l yX12_seed cX12_seed 3 (some .int) 0 [.ref (zα G 128), .int a1] w (some (.int re)) we := by
  refine zMet_of (L0 := [some (.ref (zα G 128)), some (.int a1), none]) hG zplX12 (Nat.le_of_ble_eq_true rfl) rfl rfl (fun X hl hX hEI hEV hEA => ?_)
  subst hl
  have hX : zOk G X cX12_seed 3 RX12 0 := hX
  have hE := hEI _ _ rfl rfl
  rw [f_X12_seed] at h
  refine z_aload_n 0 hX dX12_seed_0 rfl <|
    zgX12_7 1 hX dX12_seed_1 (rfl : shp 128 = (12, 0)) <|
    z_bipush 4 hX dX12_seed_4 zkb6 <|
    z_ialdc (j := 6) 6 hX dX12_seed_6 (rfl : shp 129 = (20, 628)) (zink 6 628 (by decide) (by decide)) (nI_clamp (by decide)) <|
    z_top h fun x1 h =>
    z_istore_n 7 [some (.ref (zα G 128)), some (.int a1), some (.int x1)] hX dX12_seed_7 (Nat.le_of_ble_eq_true rfl) rfl rfl <|
    z_aload_n 8 hX dX12_seed_8 rfl <|
    zgX12_7 9 hX dX12_seed_9 (rfl : shp 128 = (12, 0)) <|
    z_bipush 12 hX dX12_seed_12 zkb6 <|
    z_iload_n 14 hX dX12_seed_14 rfl <|
    z_iastc (j := 6) 15 hX dX12_seed_15 (rfl : shp 129 = (20, 628)) (zink 6 628 (by decide) (by decide)) (nI_clamp (by decide)) <|
    z_w h fun w1 h =>
    z_iload_n 16 hX dX12_seed_16 rfl <|
    z_endI2 17 hE rfl h dX12_seed_17
def f_X12_begins (a1 : Int32) (w : zW) : Option zW :=
  if (w 128 21) < (nI 30) then
    zsto w 139 30 (w 128 21) a1 fun w1 =>
    zlet (zupd w1 128 21 ((w1 128 21) + (nI 1))) fun w2 =>
    some w2
  else
    some w
theorem c_X12_begins {G : zG} {l : Launch} (hG : zgood G) {w : zW} {we : zW} {a1 : Int32}  (h : f_X12_begins a1 w = some we) : zMet G l yX12_begins cX12_begins 2 none 0 [.ref (zα G 128), .int a1] w none we := by
  refine zMet_of (L0 := [some (.ref (zα G 128)), some (.int a1)]) hG zplX12 (Nat.le_of_ble_eq_true rfl) rfl rfl (fun X hl hX hEI hEV hEA => ?_)
  subst hl
  have hX : zOk G X cX12_begins 2 RX12 0 := hX
  have hE := hEV rfl rfl
  rw [f_X12_begins] at h
  refine z_aload_n 0 hX dX12_begins_0 rfl <|
    zgX12_240 1 hX dX12_begins_1 (rfl : shp 128 = (12, 0)) <|
    z_bipush 4 hX dX12_begins_4 zkb30 <|
    z_icmp_ge 6 29 hX dX12_begins_6 rfl h (fun q1 h => ?_) (fun q1 h => ?_)
  · refine z_endV 29 hE h dX12_begins_29
  · refine z_aload_n 9 hX dX12_begins_9 rfl <|
      zgX12_40 10 hX dX12_begins_10 (rfl : shp 128 = (12, 0)) <|
      z_aload_n 13 hX dX12_begins_13 rfl <|
      zgX12_240 14 hX dX12_begins_14 (rfl : shp 128 = (12, 0)) <|
      z_iload_n 17 hX dX12_begins_17 rfl <|
      z_iast 18 hX dX12_begins_18 (rfl : shp 139 = (20, 30)) h fun w1 h =>
      z_aload_n 19 hX dX12_begins_19 rfl <|
      z_dup 20 hX dX12_begins_20 rfl <|
      zgX12_240 21 hX dX12_begins_21 (rfl : shp 128 = (12, 0)) <|
      z_iconst 24 hX dX12_begins_24 zki1 <|
      z_iadd 25 hX dX12_begins_25 <|
      zpX12_240 26 hX dX12_begins_26 (rfl : shp 128 = (12, 0)) <|
      z_w h fun w2 h =>
      z_endV 29 hE h dX12_begins_29
def f_X12_above (a0 : Int32)  : Option Int32 :=
  if a0 = (nI 4) then
    some (nI 1)
  else
  if a0 = (nI 5) then
    some (nI 3)
  else
    some (nI 0)
theorem c_X12_above {G : zG} {l : Launch} (hG : zgood G) {w : zW} {re : Int32} {a0 : Int32}  (h : f_X12_above a0 = some re) : zMet G l yX12_above cX12_above 1 (some .int) 0 [.int a0] w (some (.int re)) w := by
  refine zMet_of (L0 := [some (.int a0)]) hG zplX12 (Nat.le_of_ble_eq_true rfl) rfl rfl (fun X hl hX hEI hEV hEA => ?_)
  subst hl
  have hX : zOk G X cX12_above 1 RX12 0 := hX
  have hE := hEI _ _ rfl rfl
  rw [f_X12_above] at h
  refine z_iload_n 0 hX dX12_above_0 rfl <|
    z_iconst 1 hX dX12_above_1 zki4 <|
    z_icmp_ne 2 9 hX dX12_above_2 rfl h (fun q1 h => ?_) (fun q1 h => ?_)
  · refine z_iload_n 9 hX dX12_above_9 rfl <|
      z_iconst 10 hX dX12_above_10 zki5 <|
      z_icmp_ne 11 18 hX dX12_above_11 rfl h (fun q2 h => ?_) (fun q2 h => ?_)
    · refine z_iconst 18 hX dX12_above_18 zki0 <|
        z_endI 19 hE rfl h dX12_above_19
    · refine z_iconst 14 hX dX12_above_14 zki3 <|
        z_goto 15 19 hX dX12_above_15 rfl <|
        z_endI 19 hE rfl h dX12_above_19
  · refine z_iconst 5 hX dX12_above_5 zki1 <|
      z_goto 6 19 hX dX12_above_6 rfl <|
      z_endI 19 hE rfl h dX12_above_19
def f_X12_kindNow  (w : zW) : Option Int32 :=
  zb (f_X12_its (w 128 22) (nI 0) w) fun x2 =>
  some x2
theorem c_X12_kindNow {G : zG} {l : Launch} (hG : zgood G) {w : zW} {re : Int32}   (h : f_X12_kindNow w = some re) : zMet G l yX12_kindNow cX12_kindNow 1 (some .int) 1 [.ref (zα G 128)] w (some (.int re)) w := by
  refine zMet_of (L0 := [some (.ref (zα G 128))]) hG zplX12 (Nat.le_of_ble_eq_true rfl) rfl rfl (fun X hl hX hEI hEV hEA => ?_)
  subst hl
  have hX : zOk G X cX12_kindNow 1 RX12 1 := hX
  have hE := hEI _ _ rfl rfl
  rw [f_X12_kindNow] at h
  refine z_aload_n 0 hX dX12_kindNow_0 rfl <|
    z_aload_n 1 hX dX12_kindNow_1 rfl <|
    zgX12_243 2 hX dX12_kindNow_2 (rfl : shp 128 = (12, 0)) <|
    z_iconst 5 hX dX12_kindNow_5 zki0 <|
    zb1 h fun x2 r1 h => zcX12_60 6 [.int (w 128 22), .int (nI 0)] [] hX dX12_kindNow_6 (c_X12_its (zgd0 hX) r1) (rfl : shp 128 = (12, 0)) rfl rfl rfl (Nat.le_of_ble_eq_true rfl) (Nat.le_of_ble_eq_true rfl) <|
    z_endI 9 hE rfl h dX12_kindNow_9
def f_X12_mNow  (w : zW) : Option Int32 :=
  zb (f_X12_its (w 128 22) (nI 1) w) fun x2 =>
  some x2
theorem c_X12_mNow {G : zG} {l : Launch} (hG : zgood G) {w : zW} {re : Int32}   (h : f_X12_mNow w = some re) : zMet G l yX12_mNow cX12_mNow 1 (some .int) 1 [.ref (zα G 128)] w (some (.int re)) w := by
  refine zMet_of (L0 := [some (.ref (zα G 128))]) hG zplX12 (Nat.le_of_ble_eq_true rfl) rfl rfl (fun X hl hX hEI hEV hEA => ?_)
  subst hl
  have hX : zOk G X cX12_mNow 1 RX12 1 := hX
  have hE := hEI _ _ rfl rfl
  rw [f_X12_mNow] at h
  refine z_aload_n 0 hX dX12_mNow_0 rfl <|
    z_aload_n 1 hX dX12_mNow_1 rfl <|
    zgX12_243 2 hX dX12_mNow_2 (rfl : shp 128 = (12, 0)) <|
    z_iconst 5 hX dX12_mNow_5 zki1 <|
    zb1 h fun x2 r1 h => zcX12_60 6 [.int (w 128 22), .int (nI 1)] [] hX dX12_mNow_6 (c_X12_its (zgd0 hX) r1) (rfl : shp 128 = (12, 0)) rfl rfl rfl (Nat.le_of_ble_eq_true rfl) (Nat.le_of_ble_eq_true rfl) <|
    z_endI 9 hE rfl h dX12_mNow_9
abbrev zrec_X12_readsBy (G : zG) (l : Launch) (F : Nat → Int32 → Int32 → zW → Option (Int32 × zW)) (hd : Nat) : Prop :=
  (∀ {w we : zW} {re : Int32} {a1 a2 : Int32}, F 0 a1 a2 w = some (re, we) → zMet G l yX12_readsBy cX12_readsBy 3 (some .int) hd [.ref (zα G 128), .int a1, .int a2] w (some (.int re)) we)
def b_X12_readsBy (F : Nat → Int32 → Int32 → zW → Option (Int32 × zW)) (a1 : Int32) (a2 : Int32) (w : zW) : Option (Int32 × zW) :=
  if a1 = nI 0 then
    zb (f_X12_begins (nI 10) w) fun w1 =>
    some (a2 + (w1 128 22), w1)
  else
  if a1 = nI 1 then
    zb (f_X12_begins (nI 20) w) fun w2 =>
    zb (f_X12_above (nI 1)) fun x6 =>
    zb2 (F 0 x6 a2 w2) fun x8 w3 =>
    some (x8 - (nI 6), w3)
  else
  if a1 = nI 2 then
    zb (f_X12_above a1) fun x11 =>
    zb2 (F 0 x11 a2 w) fun x13 w4 =>
    some (x13, w4)
  else
  if a1 = nI 3 then
    zb (f_X12_above a1) fun x16 =>
    zb2 (F 0 x16 a2 w) fun x18 w5 =>
    some (x18, w5)
  else
  if a1 = nI 4 then
    zb (f_X12_begins (nI 50) w) fun w6 =>
    zb (f_X12_above (nI 4)) fun x22 =>
    zb2 (F 0 x22 a2 w6) fun x24 w7 =>
    some (x24 * (nI 3), w7)
  else
  if a1 = nI 5 then
    zb (f_X12_above a1) fun x27 =>
    zb2 (F 0 x27 a2 w) fun x29 w8 =>
    some (x29, w8)
  else
  if a1 = nI 6 then
    zb (f_X12_begins (nI 70) w) fun w9 =>
    some (nI 8, w9)
  else
    zb (f_X12_above a1) fun x33 =>
    zb2 (F 0 x33 a2 w) fun x35 w10 =>
    some (x35, w10)
theorem cb_X12_readsBy {F : Nat → Int32 → Int32 → zW → Option (Int32 × zW)} {G : zG} {l : Launch} (hG : zgood G) {w : zW} {re : Int32} {we : zW} {a1 : Int32} {a2 : Int32} (hd : Nat) (hb : 1 ≤ hd) (hF : zrec_X12_readsBy G l F hd)  (h : b_X12_readsBy F a1 a2 w = some (re, we)) : zMet G l yX12_readsBy cX12_readsBy 3 (some .int) (hd + 1) [.ref (zα G 128), .int a1, .int a2] w (some (.int re)) we := by
  refine zMet_of (L0 := [some (.ref (zα G 128)), some (.int a1), some (.int a2)]) hG zplX12 (Nat.le_of_ble_eq_true rfl) rfl rfl (fun X hl hX hEI hEV hEA => ?_)
  subst hl
  have hX : zOk G X cX12_readsBy 3 RX12 (hd + 1) := hX
  have hE := hEI _ _ rfl rfl
  rw [b_X12_readsBy] at h
  refine z_iload_n 0 hX dX12_readsBy_0 rfl <|
    ?_
  rcases zif h with ⟨q1, h⟩ | ⟨q1, h⟩
  · refine z_tsIn (off := 43) 1 44 (0) hX dX12_readsBy_1 (zti 0 (by decide) q1) (by decide) (by decide) (by decide) rfl <|
      z_aload_n 44 hX dX12_readsBy_44 rfl <|
      z_bipush 45 hX dX12_readsBy_45 zkb10 <|
      zb1 h fun w1 r2 h => zcX12_246 47 [.int (nI 10)] [] hX dX12_readsBy_47 (c_X12_begins (zgd0 hX) r2) (rfl : shp 128 = (12, 0)) rfl rfl rfl (Nat.le_of_ble_eq_true rfl) (by omega) <|
      z_iload_n 50 hX dX12_readsBy_50 rfl <|
      z_aload_n 51 hX dX12_readsBy_51 rfl <|
      zgX12_243 52 hX dX12_readsBy_52 (rfl : shp 128 = (12, 0)) <|
      z_iadd 55 hX dX12_readsBy_55 <|
      z_endI2 56 hE rfl h dX12_readsBy_56
  rcases zif h with ⟨q3, h⟩ | ⟨q3, h⟩
  · refine z_tsIn (off := 56) 1 57 (1) hX dX12_readsBy_1 (zti 1 (by decide) q3) (by decide) (by decide) (by decide) rfl <|
      z_aload_n 57 hX dX12_readsBy_57 rfl <|
      z_bipush 58 hX dX12_readsBy_58 zkb20 <|
      zb1 h fun w2 r4 h => zcX12_246 60 [.int (nI 20)] [] hX dX12_readsBy_60 (c_X12_begins (zgd0 hX) r4) (rfl : shp 128 = (12, 0)) rfl rfl rfl (Nat.le_of_ble_eq_true rfl) (by omega) <|
      z_aload_n 63 hX dX12_readsBy_63 rfl <|
      z_iconst 64 hX dX12_readsBy_64 zki1 <|
      zb1 h fun x6 r5 h => zcX12_249 65 [.int (nI 1)] [.ref (zα G 128)] hX dX12_readsBy_65 (c_X12_above (zgd0 hX) r5) rfl rfl rfl (Nat.le_of_ble_eq_true rfl) (by omega) <|
      z_iload_n 68 hX dX12_readsBy_68 rfl <|
      zb12 h fun x8 w3 r7 h => zcX12_252 69 [.int x6, .int a2] [] hX dX12_readsBy_69 (hF r7) (rfl : shp 128 = (12, 0)) rfl rfl rfl (Nat.le_of_ble_eq_true rfl) (by omega) <|
      z_bipush 72 hX dX12_readsBy_72 zkb6 <|
      z_isub 74 hX dX12_readsBy_74 <|
      z_endI2 75 hE rfl h dX12_readsBy_75
  rcases zif h with ⟨q9, h⟩ | ⟨q9, h⟩
  · refine z_tsIn (off := 102) 1 103 (2) hX dX12_readsBy_1 (zti 2 (by decide) q9) (by decide) (by decide) (by decide) rfl <|
      z_aload_n 103 hX dX12_readsBy_103 rfl <|
      z_iload_n 104 hX dX12_readsBy_104 rfl <|
      zb1 h fun x11 r10 h => zcX12_249 105 [.int a1] [.ref (zα G 128)] hX dX12_readsBy_105 (c_X12_above (zgd0 hX) r10) rfl rfl rfl (Nat.le_of_ble_eq_true rfl) (by omega) <|
      z_iload_n 108 hX dX12_readsBy_108 rfl <|
      zb12 h fun x13 w4 r12 h => zcX12_252 109 [.int x11, .int a2] [] hX dX12_readsBy_109 (hF r12) (rfl : shp 128 = (12, 0)) rfl rfl rfl (Nat.le_of_ble_eq_true rfl) (by omega) <|
      z_endI2 112 hE rfl h dX12_readsBy_112
  rcases zif h with ⟨q14, h⟩ | ⟨q14, h⟩
  · refine z_tsIn (off := 102) 1 103 (3) hX dX12_readsBy_1 (zti 3 (by decide) q14) (by decide) (by decide) (by decide) rfl <|
      z_aload_n 103 hX dX12_readsBy_103 rfl <|
      z_iload_n 104 hX dX12_readsBy_104 rfl <|
      zb1 h fun x16 r15 h => zcX12_249 105 [.int a1] [.ref (zα G 128)] hX dX12_readsBy_105 (c_X12_above (zgd0 hX) r15) rfl rfl rfl (Nat.le_of_ble_eq_true rfl) (by omega) <|
      z_iload_n 108 hX dX12_readsBy_108 rfl <|
      zb12 h fun x18 w5 r17 h => zcX12_252 109 [.int x16, .int a2] [] hX dX12_readsBy_109 (hF r17) (rfl : shp 128 = (12, 0)) rfl rfl rfl (Nat.le_of_ble_eq_true rfl) (by omega) <|
      z_endI2 112 hE rfl h dX12_readsBy_112
  rcases zif h with ⟨q19, h⟩ | ⟨q19, h⟩
  · refine z_tsIn (off := 75) 1 76 (4) hX dX12_readsBy_1 (zti 4 (by decide) q19) (by decide) (by decide) (by decide) rfl <|
      z_aload_n 76 hX dX12_readsBy_76 rfl <|
      z_bipush 77 hX dX12_readsBy_77 zkb50 <|
      zb1 h fun w6 r20 h => zcX12_246 79 [.int (nI 50)] [] hX dX12_readsBy_79 (c_X12_begins (zgd0 hX) r20) (rfl : shp 128 = (12, 0)) rfl rfl rfl (Nat.le_of_ble_eq_true rfl) (by omega) <|
      z_aload_n 82 hX dX12_readsBy_82 rfl <|
      z_iconst 83 hX dX12_readsBy_83 zki4 <|
      zb1 h fun x22 r21 h => zcX12_249 84 [.int (nI 4)] [.ref (zα G 128)] hX dX12_readsBy_84 (c_X12_above (zgd0 hX) r21) rfl rfl rfl (Nat.le_of_ble_eq_true rfl) (by omega) <|
      z_iload_n 87 hX dX12_readsBy_87 rfl <|
      zb12 h fun x24 w7 r23 h => zcX12_252 88 [.int x22, .int a2] [] hX dX12_readsBy_88 (hF r23) (rfl : shp 128 = (12, 0)) rfl rfl rfl (Nat.le_of_ble_eq_true rfl) (by omega) <|
      z_iconst 91 hX dX12_readsBy_91 zki3 <|
      z_imul 92 hX dX12_readsBy_92 <|
      z_endI2 93 hE rfl h dX12_readsBy_93
  rcases zif h with ⟨q25, h⟩ | ⟨q25, h⟩
  · refine z_tsIn (off := 102) 1 103 (5) hX dX12_readsBy_1 (zti 5 (by decide) q25) (by decide) (by decide) (by decide) rfl <|
      z_aload_n 103 hX dX12_readsBy_103 rfl <|
      z_iload_n 104 hX dX12_readsBy_104 rfl <|
      zb1 h fun x27 r26 h => zcX12_249 105 [.int a1] [.ref (zα G 128)] hX dX12_readsBy_105 (c_X12_above (zgd0 hX) r26) rfl rfl rfl (Nat.le_of_ble_eq_true rfl) (by omega) <|
      z_iload_n 108 hX dX12_readsBy_108 rfl <|
      zb12 h fun x29 w8 r28 h => zcX12_252 109 [.int x27, .int a2] [] hX dX12_readsBy_109 (hF r28) (rfl : shp 128 = (12, 0)) rfl rfl rfl (Nat.le_of_ble_eq_true rfl) (by omega) <|
      z_endI2 112 hE rfl h dX12_readsBy_112
  rcases zif h with ⟨q30, h⟩ | ⟨q30, h⟩
  · refine z_tsIn (off := 93) 1 94 (6) hX dX12_readsBy_1 (zti 6 (by decide) q30) (by decide) (by decide) (by decide) rfl <|
      z_aload_n 94 hX dX12_readsBy_94 rfl <|
      z_bipush 95 hX dX12_readsBy_95 zkb70 <|
      zb1 h fun w9 r31 h => zcX12_246 97 [.int (nI 70)] [] hX dX12_readsBy_97 (c_X12_begins (zgd0 hX) r31) (rfl : shp 128 = (12, 0)) rfl rfl rfl (Nat.le_of_ble_eq_true rfl) (by omega) <|
      z_bipush 100 hX dX12_readsBy_100 zkb8 <|
      z_endI2 102 hE rfl h dX12_readsBy_102
  refine z_tsOut 1 103 hX dX12_readsBy_1 (by have e0 := zne 0 (by decide) q1; have e1 := zne 1 (by decide) q3; have e2 := zne 2 (by decide) q9; have e3 := zne 3 (by decide) q14; have e4 := zne 4 (by decide) q19; have e5 := zne 5 (by decide) q25; have e6 := zne 6 (by decide) q30; omega) rfl <|
    z_aload_n 103 hX dX12_readsBy_103 rfl <|
    z_iload_n 104 hX dX12_readsBy_104 rfl <|
    zb1 h fun x33 r32 h => zcX12_249 105 [.int a1] [.ref (zα G 128)] hX dX12_readsBy_105 (c_X12_above (zgd0 hX) r32) rfl rfl rfl (Nat.le_of_ble_eq_true rfl) (by omega) <|
    z_iload_n 108 hX dX12_readsBy_108 rfl <|
    zb12 h fun x35 w10 r34 h => zcX12_252 109 [.int x33, .int a2] [] hX dX12_readsBy_109 (hF r34) (rfl : shp 128 = (12, 0)) rfl rfl rfl (Nat.le_of_ble_eq_true rfl) (by omega) <|
    z_endI2 112 hE rfl h dX12_readsBy_112
def F_X12_readsBy : Nat → Nat → Int32 → Int32 → zW → Option (Int32 × zW)
  | 0, _, _, _, _ => none
  | d + 1, _, x0, x1, w => b_X12_readsBy (F_X12_readsBy d) x0 x1 w
theorem cF_X12_readsBy {G : zG} {l : Launch} (hG : zgood G) : ∀ d : Nat, zrec_X12_readsBy G l (F_X12_readsBy d) (1 + d) := by
  intro d
  induction d with
  | zero => intro w we re a1 a2 h; cases h
  | succ d ih => intro w we re a1 a2 h; exact cb_X12_readsBy hG _ (Nat.le_add_right _ _) ih h
def f_X12_readsBy (a1 : Int32) (a2 : Int32) (w : zW) : Option (Int32 × zW) := F_X12_readsBy 100 0 a1 a2 w
theorem c_X12_readsBy {G : zG} {l : Launch} (hG : zgood G) {w : zW} {re : Int32} {we : zW} {a1 : Int32} {a2 : Int32} (h : f_X12_readsBy a1 a2 w = some (re, we)) : zMet G l yX12_readsBy cX12_readsBy 3 (some .int) 101 [.ref (zα G 128), .int a1, .int a2] w (some (.int re)) we := (cF_X12_readsBy hG 100) h
abbrev zrec_X12_saysBy (G : zG) (l : Launch) (F : Nat → Int32 → Int32 → zW → Option (Int32 × zW)) (hd : Nat) : Prop :=
  (∀ {w we : zW} {re : Int32} {a1 a2 : Int32}, F 0 a1 a2 w = some (re, we) → zMet G l yX12_saysBy cX12_saysBy 3 (some .int) hd [.ref (zα G 128), .int a1, .int a2] w (some (.int re)) we)
def b_X12_saysBy (F : Nat → Int32 → Int32 → zW → Option (Int32 × zW)) (a1 : Int32) (a2 : Int32) (w : zW) : Option (Int32 × zW) :=
  if a1 = nI 0 then
    zb (f_X12_begins (nI 11) w) fun w1 =>
    zb (f_X12_kindNow w1) fun x4 =>
    zb2 (f_X12_readsBy x4 a2 w1) fun x6 w2 =>
    some (x6 * (nI 2), w2)
  else
  if a1 = nI 1 then
    zb (f_X12_above a1) fun x9 =>
    zb2 (F 0 x9 a2 w) fun x11 w3 =>
    some (x11, w3)
  else
  if a1 = nI 2 then
    zb (f_X12_begins (nI 30) w) fun w4 =>
    zb (f_X12_above (nI 2)) fun x15 =>
    zb2 (F 0 x15 a2 w4) fun x17 w5 =>
    some ((nI 0) - x17, w5)
  else
  if a1 = nI 3 then
    zb (f_X12_above a1) fun x20 =>
    zb2 (F 0 x20 a2 w) fun x22 w6 =>
    some (x22, w6)
  else
  if a1 = nI 4 then
    zb (f_X12_above a1) fun x25 =>
    zb2 (F 0 x25 a2 w) fun x27 w7 =>
    some (x27, w7)
  else
  if a1 = nI 5 then
    zb (f_X12_begins (nI 60) w) fun w8 =>
    zb (f_X12_above (nI 5)) fun x31 =>
    zb2 (F 0 x31 (a2 + (nI 1)) w8) fun x33 w9 =>
    some (x33, w9)
  else
  if a1 = nI 6 then
    zb (f_X12_begins (nI 71) w) fun w10 =>
    zb (f_X12_above (nI 6)) fun x37 =>
    zb2 (F 0 x37 a2 w10) fun x39 w11 =>
    zb (f_X12_mNow w11) fun x41 =>
    some (x39 + x41, w11)
  else
    zb (f_X12_above a1) fun x43 =>
    zb2 (F 0 x43 a2 w) fun x45 w12 =>
    some (x45, w12)
theorem cb_X12_saysBy {F : Nat → Int32 → Int32 → zW → Option (Int32 × zW)} {G : zG} {l : Launch} (hG : zgood G) {w : zW} {re : Int32} {we : zW} {a1 : Int32} {a2 : Int32} (hd : Nat) (hb : 102 ≤ hd) (hF : zrec_X12_saysBy G l F hd)  (h : b_X12_saysBy F a1 a2 w = some (re, we)) : zMet G l yX12_saysBy cX12_saysBy 3 (some .int) (hd + 1) [.ref (zα G 128), .int a1, .int a2] w (some (.int re)) we := by
  refine zMet_of (L0 := [some (.ref (zα G 128)), some (.int a1), some (.int a2)]) hG zplX12 (Nat.le_of_ble_eq_true rfl) rfl rfl (fun X hl hX hEI hEV hEA => ?_)
  subst hl
  have hX : zOk G X cX12_saysBy 3 RX12 (hd + 1) := hX
  have hE := hEI _ _ rfl rfl
  rw [b_X12_saysBy] at h
  refine z_iload_n 0 hX dX12_saysBy_0 rfl <|
    ?_
  rcases zif h with ⟨q1, h⟩ | ⟨q1, h⟩
  · refine z_tsIn (off := 43) 1 44 (0) hX dX12_saysBy_1 (zti 0 (by decide) q1) (by decide) (by decide) (by decide) rfl <|
      z_aload_n 44 hX dX12_saysBy_44 rfl <|
      z_bipush 45 hX dX12_saysBy_45 zkb11 <|
      zb1 h fun w1 r2 h => zcX12_246 47 [.int (nI 11)] [] hX dX12_saysBy_47 (c_X12_begins (zgd0 hX) r2) (rfl : shp 128 = (12, 0)) rfl rfl rfl (Nat.le_of_ble_eq_true rfl) (by omega) <|
      z_aload_n 50 hX dX12_saysBy_50 rfl <|
      z_aload_n 51 hX dX12_saysBy_51 rfl <|
      zb1 h fun x4 r3 h => zcX12_255 52 [] [.ref (zα G 128)] hX dX12_saysBy_52 (c_X12_kindNow (zgd0 hX) r3) (rfl : shp 128 = (12, 0)) rfl rfl rfl (Nat.le_of_ble_eq_true rfl) (by omega) <|
      z_iload_n 55 hX dX12_saysBy_55 rfl <|
      zb12 h fun x6 w2 r5 h => zcX12_252 56 [.int x4, .int a2] [] hX dX12_saysBy_56 (c_X12_readsBy (zgd0 hX) r5) (rfl : shp 128 = (12, 0)) rfl rfl rfl (Nat.le_of_ble_eq_true rfl) (by omega) <|
      z_iconst 59 hX dX12_saysBy_59 zki2 <|
      z_imul 60 hX dX12_saysBy_60 <|
      z_endI2 61 hE rfl h dX12_saysBy_61
  rcases zif h with ⟨q7, h⟩ | ⟨q7, h⟩
  · refine z_tsIn (off := 119) 1 120 (1) hX dX12_saysBy_1 (zti 1 (by decide) q7) (by decide) (by decide) (by decide) rfl <|
      z_aload_n 120 hX dX12_saysBy_120 rfl <|
      z_iload_n 121 hX dX12_saysBy_121 rfl <|
      zb1 h fun x9 r8 h => zcX12_249 122 [.int a1] [.ref (zα G 128)] hX dX12_saysBy_122 (c_X12_above (zgd0 hX) r8) rfl rfl rfl (Nat.le_of_ble_eq_true rfl) (by omega) <|
      z_iload_n 125 hX dX12_saysBy_125 rfl <|
      zb12 h fun x11 w3 r10 h => zcX12_258 126 [.int x9, .int a2] [] hX dX12_saysBy_126 (hF r10) (rfl : shp 128 = (12, 0)) rfl rfl rfl (Nat.le_of_ble_eq_true rfl) (by omega) <|
      z_endI2 129 hE rfl h dX12_saysBy_129
  rcases zif h with ⟨q12, h⟩ | ⟨q12, h⟩
  · refine z_tsIn (off := 61) 1 62 (2) hX dX12_saysBy_1 (zti 2 (by decide) q12) (by decide) (by decide) (by decide) rfl <|
      z_aload_n 62 hX dX12_saysBy_62 rfl <|
      z_bipush 63 hX dX12_saysBy_63 zkb30 <|
      zb1 h fun w4 r13 h => zcX12_246 65 [.int (nI 30)] [] hX dX12_saysBy_65 (c_X12_begins (zgd0 hX) r13) (rfl : shp 128 = (12, 0)) rfl rfl rfl (Nat.le_of_ble_eq_true rfl) (by omega) <|
      z_iconst 68 hX dX12_saysBy_68 zki0 <|
      z_aload_n 69 hX dX12_saysBy_69 rfl <|
      z_iconst 70 hX dX12_saysBy_70 zki2 <|
      zb1 h fun x15 r14 h => zcX12_249 71 [.int (nI 2)] [.ref (zα G 128), .int (nI 0)] hX dX12_saysBy_71 (c_X12_above (zgd0 hX) r14) rfl rfl rfl (Nat.le_of_ble_eq_true rfl) (by omega) <|
      z_iload_n 74 hX dX12_saysBy_74 rfl <|
      zb12 h fun x17 w5 r16 h => zcX12_258 75 [.int x15, .int a2] [.int (nI 0)] hX dX12_saysBy_75 (hF r16) (rfl : shp 128 = (12, 0)) rfl rfl rfl (Nat.le_of_ble_eq_true rfl) (by omega) <|
      z_isub 78 hX dX12_saysBy_78 <|
      z_endI2 79 hE rfl h dX12_saysBy_79
  rcases zif h with ⟨q18, h⟩ | ⟨q18, h⟩
  · refine z_tsIn (off := 119) 1 120 (3) hX dX12_saysBy_1 (zti 3 (by decide) q18) (by decide) (by decide) (by decide) rfl <|
      z_aload_n 120 hX dX12_saysBy_120 rfl <|
      z_iload_n 121 hX dX12_saysBy_121 rfl <|
      zb1 h fun x20 r19 h => zcX12_249 122 [.int a1] [.ref (zα G 128)] hX dX12_saysBy_122 (c_X12_above (zgd0 hX) r19) rfl rfl rfl (Nat.le_of_ble_eq_true rfl) (by omega) <|
      z_iload_n 125 hX dX12_saysBy_125 rfl <|
      zb12 h fun x22 w6 r21 h => zcX12_258 126 [.int x20, .int a2] [] hX dX12_saysBy_126 (hF r21) (rfl : shp 128 = (12, 0)) rfl rfl rfl (Nat.le_of_ble_eq_true rfl) (by omega) <|
      z_endI2 129 hE rfl h dX12_saysBy_129
  rcases zif h with ⟨q23, h⟩ | ⟨q23, h⟩
  · refine z_tsIn (off := 119) 1 120 (4) hX dX12_saysBy_1 (zti 4 (by decide) q23) (by decide) (by decide) (by decide) rfl <|
      z_aload_n 120 hX dX12_saysBy_120 rfl <|
      z_iload_n 121 hX dX12_saysBy_121 rfl <|
      zb1 h fun x25 r24 h => zcX12_249 122 [.int a1] [.ref (zα G 128)] hX dX12_saysBy_122 (c_X12_above (zgd0 hX) r24) rfl rfl rfl (Nat.le_of_ble_eq_true rfl) (by omega) <|
      z_iload_n 125 hX dX12_saysBy_125 rfl <|
      zb12 h fun x27 w7 r26 h => zcX12_258 126 [.int x25, .int a2] [] hX dX12_saysBy_126 (hF r26) (rfl : shp 128 = (12, 0)) rfl rfl rfl (Nat.le_of_ble_eq_true rfl) (by omega) <|
      z_endI2 129 hE rfl h dX12_saysBy_129
  rcases zif h with ⟨q28, h⟩ | ⟨q28, h⟩
  · refine z_tsIn (off := 79) 1 80 (5) hX dX12_saysBy_1 (zti 5 (by decide) q28) (by decide) (by decide) (by decide) rfl <|
      z_aload_n 80 hX dX12_saysBy_80 rfl <|
      z_bipush 81 hX dX12_saysBy_81 zkb60 <|
      zb1 h fun w8 r29 h => zcX12_246 83 [.int (nI 60)] [] hX dX12_saysBy_83 (c_X12_begins (zgd0 hX) r29) (rfl : shp 128 = (12, 0)) rfl rfl rfl (Nat.le_of_ble_eq_true rfl) (by omega) <|
      z_aload_n 86 hX dX12_saysBy_86 rfl <|
      z_iconst 87 hX dX12_saysBy_87 zki5 <|
      zb1 h fun x31 r30 h => zcX12_249 88 [.int (nI 5)] [.ref (zα G 128)] hX dX12_saysBy_88 (c_X12_above (zgd0 hX) r30) rfl rfl rfl (Nat.le_of_ble_eq_true rfl) (by omega) <|
      z_iload_n 91 hX dX12_saysBy_91 rfl <|
      z_iconst 92 hX dX12_saysBy_92 zki1 <|
      z_iadd 93 hX dX12_saysBy_93 <|
      zb12 h fun x33 w9 r32 h => zcX12_258 94 [.int x31, .int (a2 + (nI 1))] [] hX dX12_saysBy_94 (hF r32) (rfl : shp 128 = (12, 0)) rfl rfl rfl (Nat.le_of_ble_eq_true rfl) (by omega) <|
      z_endI2 97 hE rfl h dX12_saysBy_97
  rcases zif h with ⟨q34, h⟩ | ⟨q34, h⟩
  · refine z_tsIn (off := 97) 1 98 (6) hX dX12_saysBy_1 (zti 6 (by decide) q34) (by decide) (by decide) (by decide) rfl <|
      z_aload_n 98 hX dX12_saysBy_98 rfl <|
      z_bipush 99 hX dX12_saysBy_99 zkb71 <|
      zb1 h fun w10 r35 h => zcX12_246 101 [.int (nI 71)] [] hX dX12_saysBy_101 (c_X12_begins (zgd0 hX) r35) (rfl : shp 128 = (12, 0)) rfl rfl rfl (Nat.le_of_ble_eq_true rfl) (by omega) <|
      z_aload_n 104 hX dX12_saysBy_104 rfl <|
      z_bipush 105 hX dX12_saysBy_105 zkb6 <|
      zb1 h fun x37 r36 h => zcX12_249 107 [.int (nI 6)] [.ref (zα G 128)] hX dX12_saysBy_107 (c_X12_above (zgd0 hX) r36) rfl rfl rfl (Nat.le_of_ble_eq_true rfl) (by omega) <|
      z_iload_n 110 hX dX12_saysBy_110 rfl <|
      zb12 h fun x39 w11 r38 h => zcX12_258 111 [.int x37, .int a2] [] hX dX12_saysBy_111 (hF r38) (rfl : shp 128 = (12, 0)) rfl rfl rfl (Nat.le_of_ble_eq_true rfl) (by omega) <|
      z_aload_n 114 hX dX12_saysBy_114 rfl <|
      zb1 h fun x41 r40 h => zcX12_261 115 [] [.int x39] hX dX12_saysBy_115 (c_X12_mNow (zgd0 hX) r40) (rfl : shp 128 = (12, 0)) rfl rfl rfl (Nat.le_of_ble_eq_true rfl) (by omega) <|
      z_iadd 118 hX dX12_saysBy_118 <|
      z_endI2 119 hE rfl h dX12_saysBy_119
  refine z_tsOut 1 120 hX dX12_saysBy_1 (by have e0 := zne 0 (by decide) q1; have e1 := zne 1 (by decide) q7; have e2 := zne 2 (by decide) q12; have e3 := zne 3 (by decide) q18; have e4 := zne 4 (by decide) q23; have e5 := zne 5 (by decide) q28; have e6 := zne 6 (by decide) q34; omega) rfl <|
    z_aload_n 120 hX dX12_saysBy_120 rfl <|
    z_iload_n 121 hX dX12_saysBy_121 rfl <|
    zb1 h fun x43 r42 h => zcX12_249 122 [.int a1] [.ref (zα G 128)] hX dX12_saysBy_122 (c_X12_above (zgd0 hX) r42) rfl rfl rfl (Nat.le_of_ble_eq_true rfl) (by omega) <|
    z_iload_n 125 hX dX12_saysBy_125 rfl <|
    zb12 h fun x45 w12 r44 h => zcX12_258 126 [.int x43, .int a2] [] hX dX12_saysBy_126 (hF r44) (rfl : shp 128 = (12, 0)) rfl rfl rfl (Nat.le_of_ble_eq_true rfl) (by omega) <|
    z_endI2 129 hE rfl h dX12_saysBy_129
def F_X12_saysBy : Nat → Nat → Int32 → Int32 → zW → Option (Int32 × zW)
  | 0, _, _, _, _ => none
  | d + 1, _, x0, x1, w => b_X12_saysBy (F_X12_saysBy d) x0 x1 w
theorem cF_X12_saysBy {G : zG} {l : Launch} (hG : zgood G) : ∀ d : Nat, zrec_X12_saysBy G l (F_X12_saysBy d) (102 + d) := by
  intro d
  induction d with
  | zero => intro w we re a1 a2 h; cases h
  | succ d ih => intro w we re a1 a2 h; exact cb_X12_saysBy hG _ (Nat.le_add_right _ _) ih h
def f_X12_saysBy (a1 : Int32) (a2 : Int32) (w : zW) : Option (Int32 × zW) := F_X12_saysBy 100 0 a1 a2 w
theorem c_X12_saysBy {G : zG} {l : Launch} (hG : zgood G) {w : zW} {re : Int32} {we : zW} {a1 : Int32} {a2 : Int32} (h : f_X12_saysBy a1 a2 w = some (re, we)) : zMet G l yX12_saysBy cX12_saysBy 3 (some .int) 202 [.ref (zα G 128), .int a1, .int a2] w (some (.int re)) we := (cF_X12_saysBy hG 100) h
abbrev zrec_X12_fallsBy (G : zG) (l : Launch) (F : Nat → Int32 → Int32 → zW → Option (Int32 × zW)) (hd : Nat) : Prop :=
  (∀ {w we : zW} {re : Int32} {a1 a2 : Int32}, F 0 a1 a2 w = some (re, we) → zMet G l yX12_fallsBy cX12_fallsBy 3 (some .int) hd [.ref (zα G 128), .int a1, .int a2] w (some (.int re)) we)
def b_X12_fallsBy (F : Nat → Int32 → Int32 → zW → Option (Int32 × zW)) (a1 : Int32) (a2 : Int32) (w : zW) : Option (Int32 × zW) :=
  if a1 = nI 0 then
    zb (f_X12_begins (nI 12) w) fun w1 =>
    zb (f_X12_kindNow w1) fun x4 =>
    zb2 (f_X12_saysBy x4 a2 w1) fun x6 w2 =>
    zb (f_X12_mNow w2) fun x8 =>
    some (x6 - x8, w2)
  else
  if a1 = nI 1 then
    zb (f_X12_above a1) fun x11 =>
    zb2 (F 0 x11 a2 w) fun x13 w3 =>
    some (x13, w3)
  else
  if a1 = nI 2 then
    zb (f_X12_above a1) fun x16 =>
    zb2 (F 0 x16 a2 w) fun x18 w4 =>
    some (x18, w4)
  else
  if a1 = nI 3 then
    zb (f_X12_begins (nI 40) w) fun w5 =>
    zb (f_X12_above (nI 3)) fun x22 =>
    zb2 (F 0 x22 (a2 / (nI 2)) w5) fun x24 w6 =>
    some (x24, w6)
  else
  if a1 = nI 4 then
    zb (f_X12_begins (nI 51) w) fun w7 =>
    zb (f_X12_above (nI 4)) fun x28 =>
    zb2 (F 0 x28 a2 w7) fun x30 w8 =>
    some (x30 ^^^ (w8 128 22), w8)
  else
    zb (f_X12_above a1) fun x32 =>
    zb2 (F 0 x32 a2 w) fun x34 w9 =>
    some (x34, w9)
theorem cb_X12_fallsBy {F : Nat → Int32 → Int32 → zW → Option (Int32 × zW)} {G : zG} {l : Launch} (hG : zgood G) {w : zW} {re : Int32} {we : zW} {a1 : Int32} {a2 : Int32} (hd : Nat) (hb : 203 ≤ hd) (hF : zrec_X12_fallsBy G l F hd)  (h : b_X12_fallsBy F a1 a2 w = some (re, we)) : zMet G l yX12_fallsBy cX12_fallsBy 3 (some .int) (hd + 1) [.ref (zα G 128), .int a1, .int a2] w (some (.int re)) we := by
  refine zMet_of (L0 := [some (.ref (zα G 128)), some (.int a1), some (.int a2)]) hG zplX12 (Nat.le_of_ble_eq_true rfl) rfl rfl (fun X hl hX hEI hEV hEA => ?_)
  subst hl
  have hX : zOk G X cX12_fallsBy 3 RX12 (hd + 1) := hX
  have hE := hEI _ _ rfl rfl
  rw [b_X12_fallsBy] at h
  refine z_iload_n 0 hX dX12_fallsBy_0 rfl <|
    ?_
  rcases zif h with ⟨q1, h⟩ | ⟨q1, h⟩
  · refine z_tsIn (off := 35) 1 36 (0) hX dX12_fallsBy_1 (zti 0 (by decide) q1) (by decide) (by decide) (by decide) rfl <|
      z_aload_n 36 hX dX12_fallsBy_36 rfl <|
      z_bipush 37 hX dX12_fallsBy_37 zkb12 <|
      zb1 h fun w1 r2 h => zcX12_246 39 [.int (nI 12)] [] hX dX12_fallsBy_39 (c_X12_begins (zgd0 hX) r2) (rfl : shp 128 = (12, 0)) rfl rfl rfl (Nat.le_of_ble_eq_true rfl) (by omega) <|
      z_aload_n 42 hX dX12_fallsBy_42 rfl <|
      z_aload_n 43 hX dX12_fallsBy_43 rfl <|
      zb1 h fun x4 r3 h => zcX12_255 44 [] [.ref (zα G 128)] hX dX12_fallsBy_44 (c_X12_kindNow (zgd0 hX) r3) (rfl : shp 128 = (12, 0)) rfl rfl rfl (Nat.le_of_ble_eq_true rfl) (by omega) <|
      z_iload_n 47 hX dX12_fallsBy_47 rfl <|
      zb12 h fun x6 w2 r5 h => zcX12_258 48 [.int x4, .int a2] [] hX dX12_fallsBy_48 (c_X12_saysBy (zgd0 hX) r5) (rfl : shp 128 = (12, 0)) rfl rfl rfl (Nat.le_of_ble_eq_true rfl) (by omega) <|
      z_aload_n 51 hX dX12_fallsBy_51 rfl <|
      zb1 h fun x8 r7 h => zcX12_261 52 [] [.int x6] hX dX12_fallsBy_52 (c_X12_mNow (zgd0 hX) r7) (rfl : shp 128 = (12, 0)) rfl rfl rfl (Nat.le_of_ble_eq_true rfl) (by omega) <|
      z_isub 55 hX dX12_fallsBy_55 <|
      z_endI2 56 hE rfl h dX12_fallsBy_56
  rcases zif h with ⟨q9, h⟩ | ⟨q9, h⟩
  · refine z_tsIn (off := 95) 1 96 (1) hX dX12_fallsBy_1 (zti 1 (by decide) q9) (by decide) (by decide) (by decide) rfl <|
      z_aload_n 96 hX dX12_fallsBy_96 rfl <|
      z_iload_n 97 hX dX12_fallsBy_97 rfl <|
      zb1 h fun x11 r10 h => zcX12_249 98 [.int a1] [.ref (zα G 128)] hX dX12_fallsBy_98 (c_X12_above (zgd0 hX) r10) rfl rfl rfl (Nat.le_of_ble_eq_true rfl) (by omega) <|
      z_iload_n 101 hX dX12_fallsBy_101 rfl <|
      zb12 h fun x13 w3 r12 h => zcX12_264 102 [.int x11, .int a2] [] hX dX12_fallsBy_102 (hF r12) (rfl : shp 128 = (12, 0)) rfl rfl rfl (Nat.le_of_ble_eq_true rfl) (by omega) <|
      z_endI2 105 hE rfl h dX12_fallsBy_105
  rcases zif h with ⟨q14, h⟩ | ⟨q14, h⟩
  · refine z_tsIn (off := 95) 1 96 (2) hX dX12_fallsBy_1 (zti 2 (by decide) q14) (by decide) (by decide) (by decide) rfl <|
      z_aload_n 96 hX dX12_fallsBy_96 rfl <|
      z_iload_n 97 hX dX12_fallsBy_97 rfl <|
      zb1 h fun x16 r15 h => zcX12_249 98 [.int a1] [.ref (zα G 128)] hX dX12_fallsBy_98 (c_X12_above (zgd0 hX) r15) rfl rfl rfl (Nat.le_of_ble_eq_true rfl) (by omega) <|
      z_iload_n 101 hX dX12_fallsBy_101 rfl <|
      zb12 h fun x18 w4 r17 h => zcX12_264 102 [.int x16, .int a2] [] hX dX12_fallsBy_102 (hF r17) (rfl : shp 128 = (12, 0)) rfl rfl rfl (Nat.le_of_ble_eq_true rfl) (by omega) <|
      z_endI2 105 hE rfl h dX12_fallsBy_105
  rcases zif h with ⟨q19, h⟩ | ⟨q19, h⟩
  · refine z_tsIn (off := 56) 1 57 (3) hX dX12_fallsBy_1 (zti 3 (by decide) q19) (by decide) (by decide) (by decide) rfl <|
      z_aload_n 57 hX dX12_fallsBy_57 rfl <|
      z_bipush 58 hX dX12_fallsBy_58 zkb40 <|
      zb1 h fun w5 r20 h => zcX12_246 60 [.int (nI 40)] [] hX dX12_fallsBy_60 (c_X12_begins (zgd0 hX) r20) (rfl : shp 128 = (12, 0)) rfl rfl rfl (Nat.le_of_ble_eq_true rfl) (by omega) <|
      z_aload_n 63 hX dX12_fallsBy_63 rfl <|
      z_iconst 64 hX dX12_fallsBy_64 zki3 <|
      zb1 h fun x22 r21 h => zcX12_249 65 [.int (nI 3)] [.ref (zα G 128)] hX dX12_fallsBy_65 (c_X12_above (zgd0 hX) r21) rfl rfl rfl (Nat.le_of_ble_eq_true rfl) (by omega) <|
      z_iload_n 68 hX dX12_fallsBy_68 rfl <|
      z_iconst 69 hX dX12_fallsBy_69 zki2 <|
      z_idivc 70 hX dX12_fallsBy_70 (by decide) <|
      zb12 h fun x24 w6 r23 h => zcX12_264 71 [.int x22, .int (a2 / (nI 2))] [] hX dX12_fallsBy_71 (hF r23) (rfl : shp 128 = (12, 0)) rfl rfl rfl (Nat.le_of_ble_eq_true rfl) (by omega) <|
      z_endI2 74 hE rfl h dX12_fallsBy_74
  rcases zif h with ⟨q25, h⟩ | ⟨q25, h⟩
  · refine z_tsIn (off := 74) 1 75 (4) hX dX12_fallsBy_1 (zti 4 (by decide) q25) (by decide) (by decide) (by decide) rfl <|
      z_aload_n 75 hX dX12_fallsBy_75 rfl <|
      z_bipush 76 hX dX12_fallsBy_76 zkb51 <|
      zb1 h fun w7 r26 h => zcX12_246 78 [.int (nI 51)] [] hX dX12_fallsBy_78 (c_X12_begins (zgd0 hX) r26) (rfl : shp 128 = (12, 0)) rfl rfl rfl (Nat.le_of_ble_eq_true rfl) (by omega) <|
      z_aload_n 81 hX dX12_fallsBy_81 rfl <|
      z_iconst 82 hX dX12_fallsBy_82 zki4 <|
      zb1 h fun x28 r27 h => zcX12_249 83 [.int (nI 4)] [.ref (zα G 128)] hX dX12_fallsBy_83 (c_X12_above (zgd0 hX) r27) rfl rfl rfl (Nat.le_of_ble_eq_true rfl) (by omega) <|
      z_iload_n 86 hX dX12_fallsBy_86 rfl <|
      zb12 h fun x30 w8 r29 h => zcX12_264 87 [.int x28, .int a2] [] hX dX12_fallsBy_87 (hF r29) (rfl : shp 128 = (12, 0)) rfl rfl rfl (Nat.le_of_ble_eq_true rfl) (by omega) <|
      z_aload_n 90 hX dX12_fallsBy_90 rfl <|
      zgX12_243 91 hX dX12_fallsBy_91 (rfl : shp 128 = (12, 0)) <|
      z_ixor 94 hX dX12_fallsBy_94 <|
      z_endI2 95 hE rfl h dX12_fallsBy_95
  refine z_tsOut 1 96 hX dX12_fallsBy_1 (by have e0 := zne 0 (by decide) q1; have e1 := zne 1 (by decide) q9; have e2 := zne 2 (by decide) q14; have e3 := zne 3 (by decide) q19; have e4 := zne 4 (by decide) q25; omega) rfl <|
    z_aload_n 96 hX dX12_fallsBy_96 rfl <|
    z_iload_n 97 hX dX12_fallsBy_97 rfl <|
    zb1 h fun x32 r31 h => zcX12_249 98 [.int a1] [.ref (zα G 128)] hX dX12_fallsBy_98 (c_X12_above (zgd0 hX) r31) rfl rfl rfl (Nat.le_of_ble_eq_true rfl) (by omega) <|
    z_iload_n 101 hX dX12_fallsBy_101 rfl <|
    zb12 h fun x34 w9 r33 h => zcX12_264 102 [.int x32, .int a2] [] hX dX12_fallsBy_102 (hF r33) (rfl : shp 128 = (12, 0)) rfl rfl rfl (Nat.le_of_ble_eq_true rfl) (by omega) <|
    z_endI2 105 hE rfl h dX12_fallsBy_105
def F_X12_fallsBy : Nat → Nat → Int32 → Int32 → zW → Option (Int32 × zW)
  | 0, _, _, _, _ => none
  | d + 1, _, x0, x1, w => b_X12_fallsBy (F_X12_fallsBy d) x0 x1 w
theorem cF_X12_fallsBy {G : zG} {l : Launch} (hG : zgood G) : ∀ d : Nat, zrec_X12_fallsBy G l (F_X12_fallsBy d) (203 + d) := by
  intro d
  induction d with
  | zero => intro w we re a1 a2 h; cases h
  | succ d ih => intro w we re a1 a2 h; exact cb_X12_fallsBy hG _ (Nat.le_add_right _ _) ih h
def f_X12_fallsBy (a1 : Int32) (a2 : Int32) (w : zW) : Option (Int32 × zW) := F_X12_fallsBy 100 0 a1 a2 w
theorem c_X12_fallsBy {G : zG} {l : Launch} (hG : zgood G) {w : zW} {re : Int32} {we : zW} {a1 : Int32} {a2 : Int32} (h : f_X12_fallsBy a1 a2 w = some (re, we)) : zMet G l yX12_fallsBy cX12_fallsBy 3 (some .int) 303 [.ref (zα G 128), .int a1, .int a2] w (some (.int re)) we := (cF_X12_fallsBy hG 100) h
abbrev zrec_X12_mendsBy (G : zG) (l : Launch) (F : Nat → Int32 → Int32 → zW → Option (Int32 × zW)) (hd : Nat) : Prop :=
  (∀ {w we : zW} {re : Int32} {a1 a2 : Int32}, F 0 a1 a2 w = some (re, we) → zMet G l yX12_mendsBy cX12_mendsBy 5 (some .int) hd [.ref (zα G 128), .int a1, .int a2] w (some (.int re)) we)
def j_X12_mendsBy_54 (F : Nat → Int32 → Int32 → zW → Option (Int32 × zW)) (a2 : Int32) (a3 : Int32) (b1 : Int32) (w : zW) : Option (Int32 × zW) :=
  zguard (zbool b1) (
  zlet (zupd w 128 23 b1) fun w1 =>
  if a3 = nI 0 then
    some (nI 0, w1)
  else
  if a3 = (mI 1) then
    some (-a2, w1)
  else
    zguard (decide (¬ a3 = 0)) (
    some (a2 / a3, w1)))
theorem j_X12_mendsBy_54z {F : Nat → Int32 → Int32 → zW → Option (Int32 × zW)} {G : zG} {X : zX} {w : zW} {re : Int32} {we : zW} {a2 : Int32} {a3 : Int32} {b1 : Int32} (hd : Nat) (hb : 203 ≤ hd) (hF : zrec_X12_mendsBy G X.2.1 F hd) (hX : zOk G X cX12_mendsBy 5 RX12 (hd + 1)) (hE : zEI G X cX12_mendsBy .int re we)  (h : j_X12_mendsBy_54 F a2 a3 b1 w = some (re, we)) : zZ G X w 54 [none, none, some (.int a2), some (.int a3), none] [.int b1, .ref (zα G 128)] := by
  rw [j_X12_mendsBy_54] at h
  refine zgd2 h fun q1 h =>
    zpX12_267 54 hX dX12_mendsBy_54 (rfl : shp 128 = (12, 0)) q1 <|
    z_w h fun w1 h =>
    z_iload_n 57 hX dX12_mendsBy_57 rfl <|
    z_if_ne 58 65 hX dX12_mendsBy_58 rfl h (fun q2 h => ?_) (fun q2 h => ?_)
  · refine z_iload_n 65 hX dX12_mendsBy_65 rfl <|
      z_iconst 66 hX dX12_mendsBy_66 zkim1 <|
      z_icmp_ne 67 75 hX dX12_mendsBy_67 rfl h (fun q3 h => ?_) (fun q3 h => ?_)
    · refine z_iload_n 75 hX dX12_mendsBy_75 rfl <|
        z_iload_n 76 hX dX12_mendsBy_76 rfl <|
        z_idiv 77 hX dX12_mendsBy_77 h fun h =>
        z_endI2 78 hE rfl h dX12_mendsBy_78
    · refine z_iload_n 70 hX dX12_mendsBy_70 rfl <|
        z_ineg 71 hX dX12_mendsBy_71 <|
        z_goto 72 78 hX dX12_mendsBy_72 rfl <|
        z_endI2 78 hE rfl h dX12_mendsBy_78
  · refine z_iconst 61 hX dX12_mendsBy_61 zki0 <|
      z_goto 62 78 hX dX12_mendsBy_62 rfl <|
      z_endI2 78 hE rfl h dX12_mendsBy_78
def b_X12_mendsBy (F : Nat → Int32 → Int32 → zW → Option (Int32 × zW)) (a1 : Int32) (a2 : Int32) (w : zW) : Option (Int32 × zW) :=
  if a1 = nI 0 then
    zb (f_X12_begins (nI 13) w) fun w1 =>
    zb (f_X12_mNow w1) fun x4 =>
    zlet (x4 - (w1 128 22)) fun x5 =>
    if x5 = nI 0 then
      j_X12_mendsBy_54 F a2 x5 (nI 1) w1
    else
      j_X12_mendsBy_54 F a2 x5 (nI 0) w1
  else
  if a1 = nI 1 then
    zb (f_X12_begins (nI 21) w) fun w2 =>
    zb (f_X12_above (nI 1)) fun x10 =>
    zb2 (F 0 x10 a2 w2) fun x12 w3 =>
    if (w3 128 23) = nI 0 then
      zb (f_X12_kindNow w3) fun x15 =>
      zb2 (f_X12_saysBy x15 (nI 1) w3) fun x17 w4 =>
      some (x12 + x17, w4)
    else
      some (nI 0, w3)
  else
    zb (f_X12_above a1) fun x19 =>
    zb2 (F 0 x19 a2 w) fun x21 w5 =>
    some (x21, w5)
theorem cb_X12_mendsBy {F : Nat → Int32 → Int32 → zW → Option (Int32 × zW)} {G : zG} {l : Launch} (hG : zgood G) {w : zW} {re : Int32} {we : zW} {a1 : Int32} {a2 : Int32} (hd : Nat) (hb : 203 ≤ hd) (hF : zrec_X12_mendsBy G l F hd)  (h : b_X12_mendsBy F a1 a2 w = some (re, we)) : zMet G l yX12_mendsBy cX12_mendsBy 5 (some .int) (hd + 1) [.ref (zα G 128), .int a1, .int a2] w (some (.int re)) we := by
  refine zMet_of (L0 := [some (.ref (zα G 128)), some (.int a1), some (.int a2), none, none]) hG zplX12 (Nat.le_of_ble_eq_true rfl) rfl rfl (fun X hl hX hEI hEV hEA => ?_)
  subst hl
  have hX : zOk G X cX12_mendsBy 5 RX12 (hd + 1) := hX
  have hE := hEI _ _ rfl rfl
  rw [b_X12_mendsBy] at h
  refine z_iload_n 0 hX dX12_mendsBy_0 rfl <|
    ?_
  rcases zif h with ⟨q1, h⟩ | ⟨q1, h⟩
  · refine z_lsw (off := 27) 1 28 hX dX12_mendsBy_1 (by decide) (by rw [zti 0 (by decide) q1]; decide) rfl <|
      z_aload_n 28 hX dX12_mendsBy_28 rfl <|
      z_bipush 29 hX dX12_mendsBy_29 zkb13 <|
      zb1 h fun w1 r2 h => zcX12_246 31 [.int (nI 13)] [] hX dX12_mendsBy_31 (c_X12_begins (zgd0 hX) r2) (rfl : shp 128 = (12, 0)) rfl rfl rfl (Nat.le_of_ble_eq_true rfl) (by omega) <|
      z_aload_n 34 hX dX12_mendsBy_34 rfl <|
      zb1 h fun x4 r3 h => zcX12_261 35 [] [] hX dX12_mendsBy_35 (c_X12_mNow (zgd0 hX) r3) (rfl : shp 128 = (12, 0)) rfl rfl rfl (Nat.le_of_ble_eq_true rfl) (by omega) <|
      z_aload_n 38 hX dX12_mendsBy_38 rfl <|
      zgX12_243 39 hX dX12_mendsBy_39 (rfl : shp 128 = (12, 0)) <|
      z_isub 42 hX dX12_mendsBy_42 <|
      z_top h fun x5 h =>
      z_istore_n 43 [some (.ref (zα G 128)), some (.int a1), some (.int a2), some (.int x5), none] hX dX12_mendsBy_43 (Nat.le_of_ble_eq_true rfl) rfl rfl <|
      z_aload_n 44 hX dX12_mendsBy_44 rfl <|
      z_iload_n 45 hX dX12_mendsBy_45 rfl <|
      z_if_ne 46 53 hX dX12_mendsBy_46 rfl h (fun q6 h => ?_) (fun q6 h => ?_)
    · refine z_iconst 53 hX dX12_mendsBy_53 zki0 <|
        z_weak (L' := [none, none, some (.int a2), some (.int x5), none]) (zsub_n (zsub_n (zsub_s (zsub_s (zsub_n zsub_0))))) <|
        j_X12_mendsBy_54z hd hb hF hX hE h
    · refine z_iconst 49 hX dX12_mendsBy_49 zki1 <|
        z_goto 50 54 hX dX12_mendsBy_50 rfl <|
        z_weak (L' := [none, none, some (.int a2), some (.int x5), none]) (zsub_n (zsub_n (zsub_s (zsub_s (zsub_n zsub_0))))) <|
        j_X12_mendsBy_54z hd hb hF hX hE h
  rcases zif h with ⟨q7, h⟩ | ⟨q7, h⟩
  · refine z_lsw (off := 78) 1 79 hX dX12_mendsBy_1 (by decide) (by rw [zti 1 (by decide) q7]; decide) rfl <|
      z_aload_n 79 hX dX12_mendsBy_79 rfl <|
      z_bipush 80 hX dX12_mendsBy_80 zkb21 <|
      zb1 h fun w2 r8 h => zcX12_246 82 [.int (nI 21)] [] hX dX12_mendsBy_82 (c_X12_begins (zgd0 hX) r8) (rfl : shp 128 = (12, 0)) rfl rfl rfl (Nat.le_of_ble_eq_true rfl) (by omega) <|
      z_aload_n 85 hX dX12_mendsBy_85 rfl <|
      z_iconst 86 hX dX12_mendsBy_86 zki1 <|
      zb1 h fun x10 r9 h => zcX12_249 87 [.int (nI 1)] [.ref (zα G 128)] hX dX12_mendsBy_87 (c_X12_above (zgd0 hX) r9) rfl rfl rfl (Nat.le_of_ble_eq_true rfl) (by omega) <|
      z_iload_n 90 hX dX12_mendsBy_90 rfl <|
      zb12 h fun x12 w3 r11 h => zcX12_271 91 [.int x10, .int a2] [] hX dX12_mendsBy_91 (hF r11) (rfl : shp 128 = (12, 0)) rfl rfl rfl (Nat.le_of_ble_eq_true rfl) (by omega) <|
      z_istore 94 [some (.ref (zα G 128)), some (.int a1), some (.int a2), none, some (.int x12)] hX dX12_mendsBy_94 (Nat.le_of_ble_eq_true rfl) rfl rfl <|
      z_aload_n 96 hX dX12_mendsBy_96 rfl <|
      zgX12_267 97 hX dX12_mendsBy_97 (rfl : shp 128 = (12, 0)) <|
      z_if_eq 100 107 hX dX12_mendsBy_100 rfl h (fun q13 h => ?_) (fun q13 h => ?_)
    · refine z_iload 107 hX dX12_mendsBy_107 rfl <|
        z_aload_n 109 hX dX12_mendsBy_109 rfl <|
        z_aload_n 110 hX dX12_mendsBy_110 rfl <|
        zb1 h fun x15 r14 h => zcX12_255 111 [] [.ref (zα G 128), .int x12] hX dX12_mendsBy_111 (c_X12_kindNow (zgd0 hX) r14) (rfl : shp 128 = (12, 0)) rfl rfl rfl (Nat.le_of_ble_eq_true rfl) (by omega) <|
        z_iconst 114 hX dX12_mendsBy_114 zki1 <|
        zb12 h fun x17 w4 r16 h => zcX12_258 115 [.int x15, .int (nI 1)] [.int x12] hX dX12_mendsBy_115 (c_X12_saysBy (zgd0 hX) r16) (rfl : shp 128 = (12, 0)) rfl rfl rfl (Nat.le_of_ble_eq_true rfl) (by omega) <|
        z_iadd 118 hX dX12_mendsBy_118 <|
        z_endI2 119 hE rfl h dX12_mendsBy_119
    · refine z_iconst 103 hX dX12_mendsBy_103 zki0 <|
        z_goto 104 119 hX dX12_mendsBy_104 rfl <|
        z_endI2 119 hE rfl h dX12_mendsBy_119
  refine z_lsw (off := 119) 1 120 hX dX12_mendsBy_1 (by decide) (Eq.trans (lv_osw q1 (by decide)) <| Eq.trans (lv_osw q7 (by decide)) rfl) rfl <|
    z_aload_n 120 hX dX12_mendsBy_120 rfl <|
    z_iload_n 121 hX dX12_mendsBy_121 rfl <|
    zb1 h fun x19 r18 h => zcX12_249 122 [.int a1] [.ref (zα G 128)] hX dX12_mendsBy_122 (c_X12_above (zgd0 hX) r18) rfl rfl rfl (Nat.le_of_ble_eq_true rfl) (by omega) <|
    z_iload_n 125 hX dX12_mendsBy_125 rfl <|
    zb12 h fun x21 w5 r20 h => zcX12_271 126 [.int x19, .int a2] [] hX dX12_mendsBy_126 (hF r20) (rfl : shp 128 = (12, 0)) rfl rfl rfl (Nat.le_of_ble_eq_true rfl) (by omega) <|
    z_endI2 129 hE rfl h dX12_mendsBy_129
def F_X12_mendsBy : Nat → Nat → Int32 → Int32 → zW → Option (Int32 × zW)
  | 0, _, _, _, _ => none
  | d + 1, _, x0, x1, w => b_X12_mendsBy (F_X12_mendsBy d) x0 x1 w
