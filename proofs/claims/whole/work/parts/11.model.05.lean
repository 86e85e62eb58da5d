theorem cF_X12_mendsBy {G : zG} {l : Launch} (hG : zgood G) : ∀ d : Nat, zrec_X12_mendsBy G l (F_X12_mendsBy d) (203 + d) := by
  intro d
  induction d with
  | zero => intro w we re a1 a2 h; cases h
  | succ d ih => intro w we re a1 a2 h; exact cb_X12_mendsBy hG _ (Nat.le_add_right _ _) ih h
def f_X12_mendsBy (a1 : Int32) (a2 : Int32) (w : zW) : Option (Int32 × zW) := F_X12_mendsBy 100 0 a1 a2 w
theorem c_X12_mendsBy {G : zG} {l : Launch} (hG : zgood G) {w : zW} {re : Int32} {we : zW} {a1 : Int32} {a2 : Int32} (h : f_X12_mendsBy a1 a2 w = some (re, we)) : zMet G l yX12_mendsBy cX12_mendsBy 5 (some .int) 303 [.ref (zα G 128), .int a1, .int a2] w (some (.int re)) we := (cF_X12_mendsBy hG 100) h
def j_X12_voice_17  (w : zW) : Option (Int32 × zW) :=
  zb2 (f_X12_error (nI 1) w) fun x2 w1 =>
  some (x2, w1)
theorem j_X12_voice_17z {G : zG} {X : zX} {w : zW} {re : Int32} {we : zW}  (hX : zOk G X cX12_voice 6 RX12 304) (hE : zEI G X cX12_voice .int re we)  (h : j_X12_voice_17 w = some (re, we)) : zZ G X w 17 [some (.ref (zα G 128)), none, none, none, none, none] [] := by
  rw [j_X12_voice_17] at h
  refine z_aload_n 17 hX dX12_voice_17 rfl <|
    z_iconst 18 hX dX12_voice_18 zki1 <|
    zb12 h fun x2 w1 r1 h => zcX12_64 19 [.int (nI 1)] [] hX dX12_voice_19 (c_X12_error (zgd0 hX) r1) (rfl : shp 128 = (12, 0)) rfl rfl rfl (Nat.le_of_ble_eq_true rfl) (Nat.le_of_ble_eq_true rfl) <|
    z_endI2 22 hE rfl h dX12_voice_22
def j_X12_voice_95 (b0 : Int32) (w : zW) : Option (Int32 × zW) :=
  if (w 128 23) = nI 0 then
    some (b0, w)
  else
    zb2 (f_X12_error (nI 6) w) fun x3 w1 =>
    some (x3, w1)
theorem j_X12_voice_95z {G : zG} {X : zX} {w : zW} {re : Int32} {we : zW} {b0 : Int32} (hX : zOk G X cX12_voice 6 RX12 304) (hE : zEI G X cX12_voice .int re we)  (h : j_X12_voice_95 b0 w = some (re, we)) : zZ G X w 95 [some (.ref (zα G 128)), none, none, none, none, none] [.int b0] := by
  rw [j_X12_voice_95] at h
  refine z_istore 95 [some (.ref (zα G 128)), none, none, none, none, some (.int b0)] hX dX12_voice_95 (Nat.le_of_ble_eq_true rfl) rfl rfl <|
    z_aload_n 97 hX dX12_voice_97 rfl <|
    zgX12_267 98 hX dX12_voice_98 (rfl : shp 128 = (12, 0)) <|
    z_if_eq 101 113 hX dX12_voice_101 rfl h (fun q1 h => ?_) (fun q1 h => ?_)
  · refine z_iload 113 hX dX12_voice_113 rfl <|
      z_endI2 115 hE rfl h dX12_voice_115
  · refine z_aload_n 104 hX dX12_voice_104 rfl <|
      z_bipush 105 hX dX12_voice_105 zkb6 <|
      zb12 h fun x3 w1 r2 h => zcX12_64 107 [.int (nI 6)] [] hX dX12_voice_107 (c_X12_error (zgd0 hX) r2) (rfl : shp 128 = (12, 0)) rfl rfl rfl (Nat.le_of_ble_eq_true rfl) (Nat.le_of_ble_eq_true rfl) <|
      z_goto 110 115 hX dX12_voice_110 rfl <|
      z_endI2 115 hE rfl h dX12_voice_115
def f_X12_voice (a1 : Int32) (a2 : Int32) (a3 : Int32) (w : zW) : Option (Int32 × zW) :=
  zb (f_X12_isWall a1 w) fun x2 =>
  if x2 = nI 0 then
    j_X12_voice_17 w
  else
    zb (f_X12_in a2 (nI 0) (nI 3)) fun x5 =>
    if x5 = nI 0 then
      j_X12_voice_17 w
    else
      zlet (zupd w 128 21 (nI 0)) fun w1 =>
      zlet (zupd w1 128 22 a1) fun w2 =>
      zlet (zupd w2 128 23 (nI 0)) fun w3 =>
      zb (f_X12_kindNow w3) fun x8 =>
      if a2 = nI 0 then
        zb2 (f_X12_readsBy x8 a3 w3) fun x19 w7 =>
        j_X12_voice_95 x19 w7
      else
      if a2 = (nI 1) then
        zb2 (f_X12_saysBy x8 a3 w3) fun x17 w6 =>
        j_X12_voice_95 x17 w6
      else
      if a2 = (nI 2) then
        zb2 (f_X12_fallsBy x8 a3 w3) fun x15 w5 =>
        j_X12_voice_95 x15 w5
      else
        zb2 (f_X12_mendsBy x8 a3 w3) fun x13 w4 =>
        j_X12_voice_95 x13 w4
theorem c_X12_voice {G : zG} {l : Launch} (hG : zgood G) {w : zW} {re : Int32} {we : zW} {a1 : Int32} {a2 : Int32} {a3 : Int32}  (h : f_X12_voice a1 a2 a3 w = some (re, we)) : zMet G l yX12_voice cX12_voice 6 (some .int) 304 [.ref (zα G 128), .int a1, .int a2, .int a3] w (some (.int re)) we := by
  refine zMet_of (L0 := [some (.ref (zα G 128)), some (.int a1), some (.int a2), some (.int a3), none, none]) hG zplX12 (Nat.le_of_ble_eq_true rfl) rfl rfl (fun X hl hX hEI hEV hEA => ?_)
  subst hl
  have hX : zOk G X cX12_voice 6 RX12 304 := hX
  have hE := hEI _ _ rfl rfl
  rw [f_X12_voice] at h
  refine z_aload_n 0 hX dX12_voice_0 rfl <|
    z_iload_n 1 hX dX12_voice_1 rfl <|
    zb1 h fun x2 r1 h => zcX12_133 2 [.int a1] [] hX dX12_voice_2 (c_X12_isWall (zgd0 hX) r1) (rfl : shp 128 = (12, 0)) rfl rfl rfl (Nat.le_of_ble_eq_true rfl) (Nat.le_of_ble_eq_true rfl) <|
    z_if_eq 5 17 hX dX12_voice_5 rfl h (fun q3 h => ?_) (fun q3 h => ?_)
  · refine z_weak (L' := [some (.ref (zα G 128)), none, none, none, none, none]) (zsub_s (zsub_n (zsub_n (zsub_n (zsub_n (zsub_n zsub_0)))))) <|
      j_X12_voice_17z hX hE h
  · refine z_iload_n 8 hX dX12_voice_8 rfl <|
      z_iconst 9 hX dX12_voice_9 zki0 <|
      z_iconst 10 hX dX12_voice_10 zki3 <|
      zb1 h fun x5 r4 h => zcX12_56 11 [.int a2, .int (nI 0), .int (nI 3)] [] hX dX12_voice_11 (c_X12_in (zgd0 hX) r4) rfl rfl rfl (Nat.le_of_ble_eq_true rfl) (Nat.le_of_ble_eq_true rfl) <|
      z_if_ne 14 23 hX dX12_voice_14 rfl h (fun q6 h => ?_) (fun q6 h => ?_)
    · refine z_aload_n 23 hX dX12_voice_23 rfl <|
        z_iconst 24 hX dX12_voice_24 zki0 <|
        zpX12_240 25 hX dX12_voice_25 (rfl : shp 128 = (12, 0)) <|
        z_w h fun w1 h =>
        z_aload_n 28 hX dX12_voice_28 rfl <|
        z_iload_n 29 hX dX12_voice_29 rfl <|
        zpX12_243 30 hX dX12_voice_30 (rfl : shp 128 = (12, 0)) <|
        z_w h fun w2 h =>
        z_aload_n 33 hX dX12_voice_33 rfl <|
        z_iconst 34 hX dX12_voice_34 zki0 <|
        zpX12_267 35 hX dX12_voice_35 (rfl : shp 128 = (12, 0)) (by decide) <|
        z_w h fun w3 h =>
        z_aload_n 38 hX dX12_voice_38 rfl <|
        zb1 h fun x8 r7 h => zcX12_255 39 [] [] hX dX12_voice_39 (c_X12_kindNow (zgd0 hX) r7) (rfl : shp 128 = (12, 0)) rfl rfl rfl (Nat.le_of_ble_eq_true rfl) (Nat.le_of_ble_eq_true rfl) <|
        z_istore 42 [some (.ref (zα G 128)), some (.int a1), some (.int a2), some (.int a3), some (.int x8), none] hX dX12_voice_42 (Nat.le_of_ble_eq_true rfl) rfl rfl <|
        z_iload_n 44 hX dX12_voice_44 rfl <|
        z_if_ne 45 58 hX dX12_voice_45 rfl h (fun q9 h => ?_) (fun q9 h => ?_)
      · refine z_iload_n 58 hX dX12_voice_58 rfl <|
          z_iconst 59 hX dX12_voice_59 zki1 <|
          z_icmp_ne 60 73 hX dX12_voice_60 rfl h (fun q10 h => ?_) (fun q10 h => ?_)
        · refine z_iload_n 73 hX dX12_voice_73 rfl <|
            z_iconst 74 hX dX12_voice_74 zki2 <|
            z_icmp_ne 75 88 hX dX12_voice_75 rfl h (fun q11 h => ?_) (fun q11 h => ?_)
          · refine z_aload_n 88 hX dX12_voice_88 rfl <|
              z_iload 89 hX dX12_voice_89 rfl <|
              z_iload_n 91 hX dX12_voice_91 rfl <|
              zb12 h fun x13 w4 r12 h => zcX12_271 92 [.int x8, .int a3] [] hX dX12_voice_92 (c_X12_mendsBy (zgd0 hX) r12) (rfl : shp 128 = (12, 0)) rfl rfl rfl (Nat.le_of_ble_eq_true rfl) (Nat.le_of_ble_eq_true rfl) <|
              z_weak (L' := [some (.ref (zα G 128)), none, none, none, none, none]) (zsub_s (zsub_n (zsub_n (zsub_n (zsub_n (zsub_n zsub_0)))))) <|
              j_X12_voice_95z hX hE h
          · refine z_aload_n 78 hX dX12_voice_78 rfl <|
              z_iload 79 hX dX12_voice_79 rfl <|
              z_iload_n 81 hX dX12_voice_81 rfl <|
              zb12 h fun x15 w5 r14 h => zcX12_264 82 [.int x8, .int a3] [] hX dX12_voice_82 (c_X12_fallsBy (zgd0 hX) r14) (rfl : shp 128 = (12, 0)) rfl rfl rfl (Nat.le_of_ble_eq_true rfl) (Nat.le_of_ble_eq_true rfl) <|
              z_goto 85 95 hX dX12_voice_85 rfl <|
              z_weak (L' := [some (.ref (zα G 128)), none, none, none, none, none]) (zsub_s (zsub_n (zsub_n (zsub_n (zsub_n (zsub_n zsub_0)))))) <|
              j_X12_voice_95z hX hE h
        · refine z_aload_n 63 hX dX12_voice_63 rfl <|
            z_iload 64 hX dX12_voice_64 rfl <|
            z_iload_n 66 hX dX12_voice_66 rfl <|
            zb12 h fun x17 w6 r16 h => zcX12_258 67 [.int x8, .int a3] [] hX dX12_voice_67 (c_X12_saysBy (zgd0 hX) r16) (rfl : shp 128 = (12, 0)) rfl rfl rfl (Nat.le_of_ble_eq_true rfl) (Nat.le_of_ble_eq_true rfl) <|
            z_goto 70 95 hX dX12_voice_70 rfl <|
            z_weak (L' := [some (.ref (zα G 128)), none, none, none, none, none]) (zsub_s (zsub_n (zsub_n (zsub_n (zsub_n (zsub_n zsub_0)))))) <|
            j_X12_voice_95z hX hE h
      · refine z_aload_n 48 hX dX12_voice_48 rfl <|
          z_iload 49 hX dX12_voice_49 rfl <|
          z_iload_n 51 hX dX12_voice_51 rfl <|
          zb12 h fun x19 w7 r18 h => zcX12_252 52 [.int x8, .int a3] [] hX dX12_voice_52 (c_X12_readsBy (zgd0 hX) r18) (rfl : shp 128 = (12, 0)) rfl rfl rfl (Nat.le_of_ble_eq_true rfl) (Nat.le_of_ble_eq_true rfl) <|
          z_goto 55 95 hX dX12_voice_55 rfl <|
          z_weak (L' := [some (.ref (zα G 128)), none, none, none, none, none]) (zsub_s (zsub_n (zsub_n (zsub_n (zsub_n (zsub_n zsub_0)))))) <|
          j_X12_voice_95z hX hE h
    · refine z_weak (L' := [some (.ref (zα G 128)), none, none, none, none, none]) (zsub_s (zsub_n (zsub_n (zsub_n (zsub_n (zsub_n zsub_0)))))) <|
        j_X12_voice_17z hX hE h
def f_X12_body (a1 : Int32) (w : zW) : Option (Int32 × zW) :=
  zb (f_X12_in a1 (nI 0) ((w 128 21) - (nI 1))) fun x2 =>
  if x2 = nI 0 then
    zb2 (f_X12_error (nI 2) w) fun x5 w1 =>
    some (x5, w1)
  else
    zld w 139 30 a1 fun x6 =>
    some (x6, w)
theorem c_X12_body {G : zG} {l : Launch} (hG : zgood G) {w : zW} {re : Int32} {we : zW} {a1 : Int32}  (h : f_X12_body a1 w = some (re, we)) : zMet G l yX12_body cX12_body 2 (some .int) 1 [.ref (zα G 128), .int a1] w (some (.int re)) we := by
  refine zMet_of (L0 := [some (.ref (zα G 128)), some (.int a1)]) hG zplX12 (Nat.le_of_ble_eq_true rfl) rfl rfl (fun X hl hX hEI hEV hEA => ?_)
  subst hl
  have hX : zOk G X cX12_body 2 RX12 1 := hX
  have hE := hEI _ _ rfl rfl
  rw [f_X12_body] at h
  refine z_iload_n 0 hX dX12_body_0 rfl <|
    z_iconst 1 hX dX12_body_1 zki0 <|
    z_aload_n 2 hX dX12_body_2 rfl <|
    zgX12_240 3 hX dX12_body_3 (rfl : shp 128 = (12, 0)) <|
    z_iconst 6 hX dX12_body_6 zki1 <|
    z_isub 7 hX dX12_body_7 <|
    zb1 h fun x2 r1 h => zcX12_56 8 [.int a1, .int (nI 0), .int ((w 128 21) - (nI 1))] [] hX dX12_body_8 (c_X12_in (zgd0 hX) r1) rfl rfl rfl (Nat.le_of_ble_eq_true rfl) (Nat.le_of_ble_eq_true rfl) <|
    z_if_eq 11 23 hX dX12_body_11 rfl h (fun q3 h => ?_) (fun q3 h => ?_)
  · refine z_aload_n 23 hX dX12_body_23 rfl <|
      z_iconst 24 hX dX12_body_24 zki2 <|
      zb12 h fun x5 w1 r4 h => zcX12_64 25 [.int (nI 2)] [] hX dX12_body_25 (c_X12_error (zgd0 hX) r4) (rfl : shp 128 = (12, 0)) rfl rfl rfl (Nat.le_of_ble_eq_true rfl) (Nat.le_of_ble_eq_true rfl) <|
      z_endI2 28 hE rfl h dX12_body_28
  · refine z_aload_n 14 hX dX12_body_14 rfl <|
      zgX12_40 15 hX dX12_body_15 (rfl : shp 128 = (12, 0)) <|
      z_iload_n 18 hX dX12_body_18 rfl <|
      z_iald 19 hX dX12_body_19 (rfl : shp 139 = (20, 30)) h fun x6 _ h =>
      z_goto 20 28 hX dX12_body_20 rfl <|
      z_endI2 28 hE rfl h dX12_body_28
def j_X12_sheet_29  (w : zW) : Option (Int32 × zW) :=
  zb2 (f_X12_error (nI 1) w) fun x2 w1 =>
  some (x2, w1)
theorem j_X12_sheet_29z {G : zG} {X : zX} {w : zW} {re : Int32} {we : zW}  (hX : zOk G X cX12_sheet 5 RX12 2) (hE : zEI G X cX12_sheet .int re we)  (h : j_X12_sheet_29 w = some (re, we)) : zZ G X w 29 [some (.ref (zα G 128)), none, none, none, none] [] := by
  rw [j_X12_sheet_29] at h
  refine z_aload_n 29 hX dX12_sheet_29 rfl <|
    z_iconst 30 hX dX12_sheet_30 zki1 <|
    zb12 h fun x2 w1 r1 h => zcX12_64 31 [.int (nI 1)] [] hX dX12_sheet_31 (c_X12_error (zgd0 hX) r1) (rfl : shp 128 = (12, 0)) rfl rfl rfl (Nat.le_of_ble_eq_true rfl) (Nat.le_of_ble_eq_true rfl) <|
    z_endI2 34 hE rfl h dX12_sheet_34
def l_X12_sheet_90 (K116 : zW → Option (Int32 × zW)) : Nat → Int32 → Int32 → zW → Option (Int32 × zW)
  | 0, _, _, _ => none
  | n + 1, a1, a4, w =>
    if a4 < (nI 24) then
      zsto w 142 96 (((nI 24) * a1) + a4) (nI 0) fun w1 =>
      zlet (a4 + nI 1) fun x2 =>
      (l_X12_sheet_90 K116 n) a1 x2 w1
    else
      K116 w
theorem l_X12_sheet_90z {K116 : zW → Option (Int32 × zW)} {G : zG} {X : zX} {re : Int32} {we : zW} (hX : zOk G X cX12_sheet 5 RX12 2) (hE : zEI G X cX12_sheet .int re we) (hK116 : ∀ (w3 : zW) , K116 w3 = some (re, we) → zZ G X w3 116 [none, none, none, none, none] []) : ∀ (n : Nat) (a1 : Int32) (a4 : Int32) (w : zW) , l_X12_sheet_90 K116 n a1 a4 w = some (re, we) → zZ G X w 90 [some (.ref (zα G 128)), some (.int a1), none, none, some (.int a4)] [] := by
  intro n
  induction n with
  | zero =>
    intro a1 a4 w  h
    rw [l_X12_sheet_90.eq_1] at h
    cases h
  | succ n ih =>
    intro a1 a4 w  h
    rw [l_X12_sheet_90.eq_2] at h
    refine z_iload 90 hX dX12_sheet_90 rfl <|
      z_bipush 92 hX dX12_sheet_92 zkb24 <|
      z_icmp_ge 94 116 hX dX12_sheet_94 rfl h (fun q1 h => ?_) (fun q1 h => ?_)
    · refine z_weak (L' := [none, none, none, none, none]) (zsub_n (zsub_n (zsub_n (zsub_n (zsub_n zsub_0))))) <|
        hK116 _ h
    · refine z_aload_n 97 hX dX12_sheet_97 rfl <|
        zgX12_49 98 hX dX12_sheet_98 (rfl : shp 128 = (12, 0)) <|
        z_bipush 101 hX dX12_sheet_101 zkb24 <|
        z_iload_n 103 hX dX12_sheet_103 rfl <|
        z_imul 104 hX dX12_sheet_104 <|
        z_iload 105 hX dX12_sheet_105 rfl <|
        z_iadd 107 hX dX12_sheet_107 <|
        z_iconst 108 hX dX12_sheet_108 zki0 <|
        z_iast 109 hX dX12_sheet_109 (rfl : shp 142 = (20, 96)) h fun w1 h =>
        z_iincG 110 (fun x2 => [some (.ref (zα G 128)), some (.int a1), none, none, some (.int x2)]) hX dX12_sheet_110 rfl zki1 rfl (fun _ => rfl) h fun x2 h =>
        z_goto 113 90 hX dX12_sheet_113 rfl <|
        ih _ _ _ h
def j_X12_sheet_86 (a1 : Int32) (b1 : Int32) (b2 : Int32) (w : zW) : Option (Int32 × zW) :=
  zsto w 141 4 b1 b2 fun w1 =>
  l_X12_sheet_90 (fun w12 =>
    some (nI 1, w12)) zfuel a1 (nI 0) w1
theorem j_X12_sheet_86z {G : zG} {X : zX} {w : zW} {re : Int32} {we : zW} {a1 : Int32} {b1 : Int32} {b2 : Int32} (hX : zOk G X cX12_sheet 5 RX12 2) (hE : zEI G X cX12_sheet .int re we)  (h : j_X12_sheet_86 a1 b1 b2 w = some (re, we)) : zZ G X w 86 [some (.ref (zα G 128)), some (.int a1), none, none, none] [.int b2, .int b1, .ref (zα G 141)] := by
  rw [j_X12_sheet_86] at h
  refine z_iast 86 hX dX12_sheet_86 (rfl : shp 141 = (20, 4)) h fun w1 h =>
    z_iconst 87 hX dX12_sheet_87 zki0 <|
    z_istore 88 [some (.ref (zα G 128)), some (.int a1), none, none, some (.int (nI 0))] hX dX12_sheet_88 (Nat.le_of_ble_eq_true rfl) rfl rfl <|
    l_X12_sheet_90z hX hE (fun w12 h => ?_) _ _ _ _ h
  · refine z_iconst 116 hX dX12_sheet_116 zki1 <|
      z_endI2 117 hE rfl h dX12_sheet_117
def j_X12_sheet_65 (a1 : Int32) (a2 : Int32) (a3 : Int32) (w : zW) : Option (Int32 × zW) :=
  zsto w 140 4 a1 a2 fun w1 =>
  if a2 = nI 0 then
    j_X12_sheet_86 a1 a1 (nI 0) w1
  else
    j_X12_sheet_86 a1 a1 a3 w1
theorem j_X12_sheet_65z {G : zG} {X : zX} {w : zW} {re : Int32} {we : zW} {a1 : Int32} {a2 : Int32} {a3 : Int32} (hX : zOk G X cX12_sheet 5 RX12 2) (hE : zEI G X cX12_sheet .int re we)  (h : j_X12_sheet_65 a1 a2 a3 w = some (re, we)) : zZ G X w 65 [some (.ref (zα G 128)), some (.int a1), some (.int a2), some (.int a3), none] [] := by
  rw [j_X12_sheet_65] at h
  refine z_aload_n 65 hX dX12_sheet_65 rfl <|
    zgX12_43 66 hX dX12_sheet_66 (rfl : shp 128 = (12, 0)) <|
    z_iload_n 69 hX dX12_sheet_69 rfl <|
    z_iload_n 70 hX dX12_sheet_70 rfl <|
    z_iast 71 hX dX12_sheet_71 (rfl : shp 140 = (20, 4)) h fun w1 h =>
    z_aload_n 72 hX dX12_sheet_72 rfl <|
    zgX12_46 73 hX dX12_sheet_73 (rfl : shp 128 = (12, 0)) <|
    z_iload_n 76 hX dX12_sheet_76 rfl <|
    z_iload_n 77 hX dX12_sheet_77 rfl <|
    z_if_ne 78 85 hX dX12_sheet_78 rfl h (fun q1 h => ?_) (fun q1 h => ?_)
  · refine z_iload_n 85 hX dX12_sheet_85 rfl <|
      z_weak (L' := [some (.ref (zα G 128)), some (.int a1), none, none, none]) (zsub_s (zsub_s (zsub_n (zsub_n (zsub_n zsub_0))))) <|
      j_X12_sheet_86z hX hE h
  · refine z_iconst 81 hX dX12_sheet_81 zki0 <|
      z_goto 82 86 hX dX12_sheet_82 rfl <|
      z_weak (L' := [some (.ref (zα G 128)), some (.int a1), none, none, none]) (zsub_s (zsub_s (zsub_n (zsub_n (zsub_n zsub_0))))) <|
      j_X12_sheet_86z hX hE h
def j_X12_sheet_49 (a1 : Int32) (a2 : Int32) (a3 : Int32) (w : zW) : Option (Int32 × zW) :=
  if a2 = nI 0 then
    j_X12_sheet_65 a1 a2 a3 w
  else
  if (nI 24) < a3 then
    zb2 (f_X12_error (nI 1) w) fun x4 w1 =>
    some (x4, w1)
  else
    j_X12_sheet_65 a1 a2 a3 w
theorem j_X12_sheet_49z {G : zG} {X : zX} {w : zW} {re : Int32} {we : zW} {a1 : Int32} {a2 : Int32} {a3 : Int32} (hX : zOk G X cX12_sheet 5 RX12 2) (hE : zEI G X cX12_sheet .int re we)  (h : j_X12_sheet_49 a1 a2 a3 w = some (re, we)) : zZ G X w 49 [some (.ref (zα G 128)), some (.int a1), some (.int a2), some (.int a3), none] [] := by
  rw [j_X12_sheet_49] at h
  refine z_iload_n 49 hX dX12_sheet_49 rfl <|
    z_if_eq 50 65 hX dX12_sheet_50 rfl h (fun q1 h => ?_) (fun q1 h => ?_)
  · refine j_X12_sheet_65z hX hE h
  · refine z_iload_n 53 hX dX12_sheet_53 rfl <|
      z_bipush 54 hX dX12_sheet_54 zkb24 <|
      z_icmp_le 56 65 hX dX12_sheet_56 rfl h (fun q2 h => ?_) (fun q2 h => ?_)
    · refine j_X12_sheet_65z hX hE h
    · refine z_aload_n 59 hX dX12_sheet_59 rfl <|
        z_iconst 60 hX dX12_sheet_60 zki1 <|
        zb12 h fun x4 w1 r3 h => zcX12_64 61 [.int (nI 1)] [] hX dX12_sheet_61 (c_X12_error (zgd0 hX) r3) (rfl : shp 128 = (12, 0)) rfl rfl rfl (Nat.le_of_ble_eq_true rfl) (Nat.le_of_ble_eq_true rfl) <|
        z_endI2 64 hE rfl h dX12_sheet_64
def j_X12_sheet_35 (a1 : Int32) (a2 : Int32) (a3 : Int32) (w : zW) : Option (Int32 × zW) :=
  if a2 = nI 0 then
    j_X12_sheet_49 a1 a2 a3 w
  else
  if a3 < nI 0 then
    zb2 (f_X12_error (nI 3) w) fun x4 w1 =>
    some (x4, w1)
  else
    j_X12_sheet_49 a1 a2 a3 w
theorem j_X12_sheet_35z {G : zG} {X : zX} {w : zW} {re : Int32} {we : zW} {a1 : Int32} {a2 : Int32} {a3 : Int32} (hX : zOk G X cX12_sheet 5 RX12 2) (hE : zEI G X cX12_sheet .int re we)  (h : j_X12_sheet_35 a1 a2 a3 w = some (re, we)) : zZ G X w 35 [some (.ref (zα G 128)), some (.int a1), some (.int a2), some (.int a3), none] [] := by
  rw [j_X12_sheet_35] at h
  refine z_iload_n 35 hX dX12_sheet_35 rfl <|
    z_if_eq 36 49 hX dX12_sheet_36 rfl h (fun q1 h => ?_) (fun q1 h => ?_)
  · refine j_X12_sheet_49z hX hE h
  · refine z_iload_n 39 hX dX12_sheet_39 rfl <|
      z_if_ge 40 49 hX dX12_sheet_40 rfl h (fun q2 h => ?_) (fun q2 h => ?_)
    · refine j_X12_sheet_49z hX hE h
    · refine z_aload_n 43 hX dX12_sheet_43 rfl <|
        z_iconst 44 hX dX12_sheet_44 zki3 <|
        zb12 h fun x4 w1 r3 h => zcX12_64 45 [.int (nI 3)] [] hX dX12_sheet_45 (c_X12_error (zgd0 hX) r3) (rfl : shp 128 = (12, 0)) rfl rfl rfl (Nat.le_of_ble_eq_true rfl) (Nat.le_of_ble_eq_true rfl) <|
        z_endI2 48 hE rfl h dX12_sheet_48
def f_X12_sheet (a1 : Int32) (a2 : Int32) (a3 : Int32) (w : zW) : Option (Int32 × zW) :=
  zb (f_X12_isSheet a1) fun x2 =>
  if x2 = nI 0 then
    j_X12_sheet_29 w
  else
  if a2 = nI 0 then
    j_X12_sheet_35 a1 a2 a3 w
  else
  if a2 = (nI 8) then
    j_X12_sheet_35 a1 a2 a3 w
  else
  if a2 = (nI 16) then
    j_X12_sheet_35 a1 a2 a3 w
  else
  if a2 = (nI 32) then
    j_X12_sheet_35 a1 a2 a3 w
  else
    j_X12_sheet_29 w
theorem c_X12_sheet {G : zG} {l : Launch} (hG : zgood G) {w : zW} {re : Int32} {we : zW} {a1 : Int32} {a2 : Int32} {a3 : Int32}  (h : f_X12_sheet a1 a2 a3 w = some (re, we)) : zMet G l yX12_sheet cX12_sheet 5 (some .int) 2 [.ref (zα G 128), .int a1, .int a2, .int a3] w (some (.int re)) we := by
  refine zMet_of (L0 := [some (.ref (zα G 128)), some (.int a1), some (.int a2), some (.int a3), none]) hG zplX12 (Nat.le_of_ble_eq_true rfl) rfl rfl (fun X hl hX hEI hEV hEA => ?_)
  subst hl
  have hX : zOk G X cX12_sheet 5 RX12 2 := hX
  have hE := hEI _ _ rfl rfl
  rw [f_X12_sheet] at h
  refine z_iload_n 0 hX dX12_sheet_0 rfl <|
    zb1 h fun x2 r1 h => zcX12_204 1 [.int a1] [] hX dX12_sheet_1 (c_X12_isSheet (zgd0 hX) r1) rfl rfl rfl (Nat.le_of_ble_eq_true rfl) (Nat.le_of_ble_eq_true rfl) <|
    z_if_eq 4 29 hX dX12_sheet_4 rfl h (fun q3 h => ?_) (fun q3 h => ?_)
  · refine z_weak (L' := [some (.ref (zα G 128)), none, none, none, none]) (zsub_s (zsub_n (zsub_n (zsub_n (zsub_n zsub_0))))) <|
      j_X12_sheet_29z hX hE h
  · refine z_iload_n 7 hX dX12_sheet_7 rfl <|
      z_if_eq 8 35 hX dX12_sheet_8 rfl h (fun q4 h => ?_) (fun q4 h => ?_)
    · refine j_X12_sheet_35z hX hE h
    · refine z_iload_n 11 hX dX12_sheet_11 rfl <|
        z_bipush 12 hX dX12_sheet_12 zkb8 <|
        z_icmp_eq 14 35 hX dX12_sheet_14 rfl h (fun q5 h => ?_) (fun q5 h => ?_)
      · refine j_X12_sheet_35z hX hE h
      · refine z_iload_n 17 hX dX12_sheet_17 rfl <|
          z_bipush 18 hX dX12_sheet_18 zkb16 <|
          z_icmp_eq 20 35 hX dX12_sheet_20 rfl h (fun q6 h => ?_) (fun q6 h => ?_)
        · refine j_X12_sheet_35z hX hE h
        · refine z_iload_n 23 hX dX12_sheet_23 rfl <|
            z_bipush 24 hX dX12_sheet_24 zkb32 <|
            z_icmp_eq 26 35 hX dX12_sheet_26 rfl h (fun q7 h => ?_) (fun q7 h => ?_)
          · refine j_X12_sheet_35z hX hE h
          · refine z_weak (L' := [some (.ref (zα G 128)), none, none, none, none]) (zsub_s (zsub_n (zsub_n (zsub_n (zsub_n zsub_0))))) <|
              j_X12_sheet_29z hX hE h
def f_X12_put (a1 : Int32) (a2 : Int32) (a3 : Int32) (w : zW) : Option (Int32 × zW) :=
  zb (f_X12_isSheet a1) fun x2 =>
  if x2 = nI 0 then
    zb2 (f_X12_error (nI 1) w) fun x17 w4 =>
    some (x17, w4)
  else
    zld w 140 4 a1 fun x4 =>
    if x4 = nI 0 then
      zb2 (f_X12_error (nI 2) w) fun x15 w3 =>
      some (x15, w3)
    else
      zld w 141 4 a1 fun x6 =>
      zb (f_X12_in a2 (nI 0) (x6 - (nI 1))) fun x8 =>
      if x8 = nI 0 then
        zb2 (f_X12_error (nI 1) w) fun x13 w2 =>
        some (x13, w2)
      else
        zld w 140 4 a1 fun x10 =>
        zlet ((nI 32) - x10) fun x11 =>
        zsto w 142 96 (((nI 24) * a1) + a2) ((a3 <<< (x11 &&& 31)) >>> (x11 &&& 31)) fun w1 =>
        some (nI 1, w1)
theorem c_X12_put {G : zG} {l : Launch} (hG : zgood G) {w : zW} {re : Int32} {we : zW} {a1 : Int32} {a2 : Int32} {a3 : Int32}  (h : f_X12_put a1 a2 a3 w = some (re, we)) : zMet G l yX12_put cX12_put 5 (some .int) 2 [.ref (zα G 128), .int a1, .int a2, .int a3] w (some (.int re)) we := by
  refine zMet_of (L0 := [some (.ref (zα G 128)), some (.int a1), some (.int a2), some (.int a3), none]) hG zplX12 (Nat.le_of_ble_eq_true rfl) rfl rfl (fun X hl hX hEI hEV hEA => ?_)
  subst hl
  have hX : zOk G X cX12_put 5 RX12 2 := hX
  have hE := hEI _ _ rfl rfl
  rw [f_X12_put] at h
  refine z_iload_n 0 hX dX12_put_0 rfl <|
    zb1 h fun x2 r1 h => zcX12_204 1 [.int a1] [] hX dX12_put_1 (c_X12_isSheet (zgd0 hX) r1) rfl rfl rfl (Nat.le_of_ble_eq_true rfl) (Nat.le_of_ble_eq_true rfl) <|
    z_if_ne 4 13 hX dX12_put_4 rfl h (fun q3 h => ?_) (fun q3 h => ?_)
  · refine z_aload_n 13 hX dX12_put_13 rfl <|
      zgX12_43 14 hX dX12_put_14 (rfl : shp 128 = (12, 0)) <|
      z_iload_n 17 hX dX12_put_17 rfl <|
      z_iald 18 hX dX12_put_18 (rfl : shp 140 = (20, 4)) h fun x4 _ h =>
      z_if_ne 19 28 hX dX12_put_19 rfl h (fun q5 h => ?_) (fun q5 h => ?_)
    · refine z_iload_n 28 hX dX12_put_28 rfl <|
        z_iconst 29 hX dX12_put_29 zki0 <|
        z_aload_n 30 hX dX12_put_30 rfl <|
        zgX12_46 31 hX dX12_put_31 (rfl : shp 128 = (12, 0)) <|
        z_iload_n 34 hX dX12_put_34 rfl <|
        z_iald 35 hX dX12_put_35 (rfl : shp 141 = (20, 4)) h fun x6 _ h =>
        z_iconst 36 hX dX12_put_36 zki1 <|
        z_isub 37 hX dX12_put_37 <|
        zb1 h fun x8 r7 h => zcX12_56 38 [.int a2, .int (nI 0), .int (x6 - (nI 1))] [] hX dX12_put_38 (c_X12_in (zgd0 hX) r7) rfl rfl rfl (Nat.le_of_ble_eq_true rfl) (Nat.le_of_ble_eq_true rfl) <|
        z_if_ne 41 50 hX dX12_put_41 rfl h (fun q9 h => ?_) (fun q9 h => ?_)
      · refine z_bipush 50 hX dX12_put_50 zkb32 <|
          z_aload_n 52 hX dX12_put_52 rfl <|
          zgX12_43 53 hX dX12_put_53 (rfl : shp 128 = (12, 0)) <|
          z_iload_n 56 hX dX12_put_56 rfl <|
          z_iald 57 hX dX12_put_57 (rfl : shp 140 = (20, 4)) h fun x10 _ h =>
          z_isub 58 hX dX12_put_58 <|
          z_top h fun x11 h =>
          z_istore 59 [some (.ref (zα G 128)), some (.int a1), some (.int a2), some (.int a3), some (.int x11)] hX dX12_put_59 (Nat.le_of_ble_eq_true rfl) rfl rfl <|
          z_aload_n 61 hX dX12_put_61 rfl <|
          zgX12_49 62 hX dX12_put_62 (rfl : shp 128 = (12, 0)) <|
          z_bipush 65 hX dX12_put_65 zkb24 <|
          z_iload_n 67 hX dX12_put_67 rfl <|
          z_imul 68 hX dX12_put_68 <|
          z_iload_n 69 hX dX12_put_69 rfl <|
          z_iadd 70 hX dX12_put_70 <|
          z_iload_n 71 hX dX12_put_71 rfl <|
          z_iload 72 hX dX12_put_72 rfl <|
          z_ishl 74 hX dX12_put_74 <|
          z_iload 75 hX dX12_put_75 rfl <|
          z_ishr 77 hX dX12_put_77 <|
          z_iast 78 hX dX12_put_78 (rfl : shp 142 = (20, 96)) h fun w1 h =>
          z_iconst 79 hX dX12_put_79 zki1 <|
          z_endI2 80 hE rfl h dX12_put_80
      · refine z_aload_n 44 hX dX12_put_44 rfl <|
          z_iconst 45 hX dX12_put_45 zki1 <|
          zb12 h fun x13 w2 r12 h => zcX12_64 46 [.int (nI 1)] [] hX dX12_put_46 (c_X12_error (zgd0 hX) r12) (rfl : shp 128 = (12, 0)) rfl rfl rfl (Nat.le_of_ble_eq_true rfl) (Nat.le_of_ble_eq_true rfl) <|
          z_endI2 49 hE rfl h dX12_put_49
    · refine z_aload_n 22 hX dX12_put_22 rfl <|
        z_iconst 23 hX dX12_put_23 zki2 <|
        zb12 h fun x15 w3 r14 h => zcX12_64 24 [.int (nI 2)] [] hX dX12_put_24 (c_X12_error (zgd0 hX) r14) (rfl : shp 128 = (12, 0)) rfl rfl rfl (Nat.le_of_ble_eq_true rfl) (Nat.le_of_ble_eq_true rfl) <|
        z_endI2 27 hE rfl h dX12_put_27
  · refine z_aload_n 7 hX dX12_put_7 rfl <|
      z_iconst 8 hX dX12_put_8 zki1 <|
      zb12 h fun x17 w4 r16 h => zcX12_64 9 [.int (nI 1)] [] hX dX12_put_9 (c_X12_error (zgd0 hX) r16) (rfl : shp 128 = (12, 0)) rfl rfl rfl (Nat.le_of_ble_eq_true rfl) (Nat.le_of_ble_eq_true rfl) <|
      z_endI2 12 hE rfl h dX12_put_12
def j_X12_move_14  (w : zW) : Option (Int32 × zW) :=
  zb2 (f_X12_error (nI 1) w) fun x2 w1 =>
  some (x2, w1)
theorem j_X12_move_14z {G : zG} {X : zX} {w : zW} {re : Int32} {we : zW}  (hX : zOk G X cX12_move 7 RX12 2) (hE : zEI G X cX12_move .int re we)  (h : j_X12_move_14 w = some (re, we)) : zZ G X w 14 [some (.ref (zα G 128)), none, none, none, none, none, none] [] := by
  rw [j_X12_move_14] at h
  refine z_aload_n 14 hX dX12_move_14 rfl <|
    z_iconst 15 hX dX12_move_15 zki1 <|
    zb12 h fun x2 w1 r1 h => zcX12_64 16 [.int (nI 1)] [] hX dX12_move_16 (c_X12_error (zgd0 hX) r1) (rfl : shp 128 = (12, 0)) rfl rfl rfl (Nat.le_of_ble_eq_true rfl) (Nat.le_of_ble_eq_true rfl) <|
    z_endI2 19 hE rfl h dX12_move_19
def j_X12_move_38  (w : zW) : Option (Int32 × zW) :=
  zb2 (f_X12_error (nI 2) w) fun x2 w1 =>
  some (x2, w1)
theorem j_X12_move_38z {G : zG} {X : zX} {w : zW} {re : Int32} {we : zW}  (hX : zOk G X cX12_move 7 RX12 2) (hE : zEI G X cX12_move .int re we)  (h : j_X12_move_38 w = some (re, we)) : zZ G X w 38 [some (.ref (zα G 128)), none, none, none, none, none, none] [] := by
  rw [j_X12_move_38] at h
  refine z_aload_n 38 hX dX12_move_38 rfl <|
    z_iconst 39 hX dX12_move_39 zki2 <|
    zb12 h fun x2 w1 r1 h => zcX12_64 40 [.int (nI 2)] [] hX dX12_move_40 (c_X12_error (zgd0 hX) r1) (rfl : shp 128 = (12, 0)) rfl rfl rfl (Nat.le_of_ble_eq_true rfl) (Nat.le_of_ble_eq_true rfl) <|
    z_endI2 43 hE rfl h dX12_move_43
def j_X12_move_106  (w : zW) : Option (Int32 × zW) :=
  zb2 (f_X12_error (nI 1) w) fun x2 w1 =>
  some (x2, w1)
theorem j_X12_move_106z {G : zG} {X : zX} {w : zW} {re : Int32} {we : zW}  (hX : zOk G X cX12_move 7 RX12 2) (hE : zEI G X cX12_move .int re we)  (h : j_X12_move_106 w = some (re, we)) : zZ G X w 106 [some (.ref (zα G 128)), none, none, none, none, none, none] [] := by
  rw [j_X12_move_106] at h
  refine z_aload_n 106 hX dX12_move_106 rfl <|
    z_iconst 107 hX dX12_move_107 zki1 <|
    zb12 h fun x2 w1 r1 h => zcX12_64 108 [.int (nI 1)] [] hX dX12_move_108 (c_X12_error (zgd0 hX) r1) (rfl : shp 128 = (12, 0)) rfl rfl rfl (Nat.le_of_ble_eq_true rfl) (Nat.le_of_ble_eq_true rfl) <|
    z_endI2 111 hE rfl h dX12_move_111
def l_X12_move_115 (K149 : Int32 → Int32 → Int32 → zW → Option (Int32 × zW)) : Nat → Int32 → Int32 → Int32 → Int32 → Int32 → Int32 → zW → Option (Int32 × zW)
  | 0, _, _, _, _, _, _, _ => none
  | n + 1, a1, a2, a3, a4, a5, a6, w =>
    if a6 < a5 then
      zld w 142 96 ((((nI 24) * a1) + a2) + a6) fun x2 =>
      zsto w 143 24 a6 x2 fun w1 =>
      zlet (a6 + nI 1) fun x3 =>
      (l_X12_move_115 K149 n) a1 a2 a3 a4 a5 x3 w1
    else
      K149 a3 a4 a5 w
theorem l_X12_move_115z {K149 : Int32 → Int32 → Int32 → zW → Option (Int32 × zW)} {G : zG} {X : zX} {re : Int32} {we : zW} (hX : zOk G X cX12_move 7 RX12 2) (hE : zEI G X cX12_move .int re we) (hK149 : ∀ (a3 : Int32) (a4 : Int32) (a5 : Int32) (w3 : zW) , K149 a3 a4 a5 w3 = some (re, we) → zZ G X w3 149 [some (.ref (zα G 128)), none, none, some (.int a3), some (.int a4), some (.int a5), none] []) : ∀ (n : Nat) (a1 : Int32) (a2 : Int32) (a3 : Int32) (a4 : Int32) (a5 : Int32) (a6 : Int32) (w : zW) , l_X12_move_115 K149 n a1 a2 a3 a4 a5 a6 w = some (re, we) → zZ G X w 115 [some (.ref (zα G 128)), some (.int a1), some (.int a2), some (.int a3), some (.int a4), some (.int a5), some (.int a6)] [] := by
  intro n
  induction n with
  | zero =>
    intro a1 a2 a3 a4 a5 a6 w  h
    rw [l_X12_move_115.eq_1] at h
    cases h
  | succ n ih =>
    intro a1 a2 a3 a4 a5 a6 w  h
    rw [l_X12_move_115.eq_2] at h
    refine z_iload 115 hX dX12_move_115 rfl <|
      z_iload 117 hX dX12_move_117 rfl <|
      z_icmp_ge 119 149 hX dX12_move_119 rfl h (fun q1 h => ?_) (fun q1 h => ?_)
    · refine z_weak (L' := [some (.ref (zα G 128)), none, none, some (.int a3), some (.int a4), some (.int a5), none]) (zsub_s (zsub_n (zsub_n (zsub_s (zsub_s (zsub_s (zsub_n zsub_0))))))) <|
        hK149 _ _ _ _ h
    · refine z_aload_n 122 hX dX12_move_122 rfl <|
        zgX12_52 123 hX dX12_move_123 (rfl : shp 128 = (12, 0)) <|
        z_iload 126 hX dX12_move_126 rfl <|
        z_aload_n 128 hX dX12_move_128 rfl <|
        zgX12_49 129 hX dX12_move_129 (rfl : shp 128 = (12, 0)) <|
        z_bipush 132 hX dX12_move_132 zkb24 <|
        z_iload_n 134 hX dX12_move_134 rfl <|
        z_imul 135 hX dX12_move_135 <|
        z_iload_n 136 hX dX12_move_136 rfl <|
        z_iadd 137 hX dX12_move_137 <|
        z_iload 138 hX dX12_move_138 rfl <|
        z_iadd 140 hX dX12_move_140 <|
        z_iald 141 hX dX12_move_141 (rfl : shp 142 = (20, 96)) h fun x2 _ h =>
        z_iast 142 hX dX12_move_142 (rfl : shp 143 = (20, 24)) h fun w1 h =>
        z_iincG 143 (fun x3 => [some (.ref (zα G 128)), some (.int a1), some (.int a2), some (.int a3), some (.int a4), some (.int a5), some (.int x3)]) hX dX12_move_143 rfl zki1 rfl (fun _ => rfl) h fun x3 h =>
        z_goto 146 115 hX dX12_move_146 rfl <|
        ih _ _ _ _ _ _ _ h
def l_X12_move_152 (K187 : Int32 → zW → Option (Int32 × zW)) : Nat → Int32 → Int32 → Int32 → Int32 → zW → Option (Int32 × zW)
  | 0, _, _, _, _, _ => none
  | n + 1, a3, a4, a5, a6, w =>
    if a6 < a5 then
      zld w 143 24 a6 fun x2 =>
      zsto w 142 96 ((((nI 24) * a3) + a4) + a6) x2 fun w1 =>
      zlet (a6 + nI 1) fun x3 =>
      (l_X12_move_152 K187 n) a3 a4 a5 x3 w1
    else
      K187 a5 w
theorem l_X12_move_152z {K187 : Int32 → zW → Option (Int32 × zW)} {G : zG} {X : zX} {re : Int32} {we : zW} (hX : zOk G X cX12_move 7 RX12 2) (hE : zEI G X cX12_move .int re we) (hK187 : ∀ (a5 : Int32) (w3 : zW) , K187 a5 w3 = some (re, we) → zZ G X w3 187 [none, none, none, none, none, some (.int a5), none] []) : ∀ (n : Nat) (a3 : Int32) (a4 : Int32) (a5 : Int32) (a6 : Int32) (w : zW) , l_X12_move_152 K187 n a3 a4 a5 a6 w = some (re, we) → zZ G X w 152 [some (.ref (zα G 128)), none, none, some (.int a3), some (.int a4), some (.int a5), some (.int a6)] [] := by
  intro n
  induction n with
  | zero =>
    intro a3 a4 a5 a6 w  h
    rw [l_X12_move_152.eq_1] at h
    cases h
  | succ n ih =>
    intro a3 a4 a5 a6 w  h
    rw [l_X12_move_152.eq_2] at h
    refine z_iload 152 hX dX12_move_152 rfl <|
      z_iload 154 hX dX12_move_154 rfl <|
      z_icmp_ge 156 187 hX dX12_move_156 rfl h (fun q1 h => ?_) (fun q1 h => ?_)
    · refine z_weak (L' := [none, none, none, none, none, some (.int a5), none]) (zsub_n (zsub_n (zsub_n (zsub_n (zsub_n (zsub_s (zsub_n zsub_0))))))) <|
        hK187 _ _ h
    · refine z_aload_n 159 hX dX12_move_159 rfl <|
        zgX12_49 160 hX dX12_move_160 (rfl : shp 128 = (12, 0)) <|
        z_bipush 163 hX dX12_move_163 zkb24 <|
        z_iload_n 165 hX dX12_move_165 rfl <|
        z_imul 166 hX dX12_move_166 <|
        z_iload 167 hX dX12_move_167 rfl <|
        z_iadd 169 hX dX12_move_169 <|
        z_iload 170 hX dX12_move_170 rfl <|
        z_iadd 172 hX dX12_move_172 <|
        z_aload_n 173 hX dX12_move_173 rfl <|
        zgX12_52 174 hX dX12_move_174 (rfl : shp 128 = (12, 0)) <|
        z_iload 177 hX dX12_move_177 rfl <|
        z_iald 179 hX dX12_move_179 (rfl : shp 143 = (20, 24)) h fun x2 _ h =>
        z_iast 180 hX dX12_move_180 (rfl : shp 142 = (20, 96)) h fun w1 h =>
        z_iincG 181 (fun x3 => [some (.ref (zα G 128)), none, none, some (.int a3), some (.int a4), some (.int a5), some (.int x3)]) hX dX12_move_181 rfl zki1 rfl (fun _ => rfl) h fun x3 h =>
        z_goto 184 152 hX dX12_move_184 rfl <|
        ih _ _ _ _ _ h
def f_X12_move (a1 : Int32) (a2 : Int32) (a3 : Int32) (a4 : Int32) (a5 : Int32) (w : zW) : Option (Int32 × zW) :=
  zb (f_X12_isSheet a1) fun x2 =>
  if x2 = nI 0 then
    j_X12_move_14 w
  else
    zb (f_X12_isSheet a3) fun x5 =>
    if x5 = nI 0 then
      j_X12_move_14 w
    else
      zld w 140 4 a1 fun x7 =>
      if x7 = nI 0 then
        j_X12_move_38 w
      else
        zld w 140 4 a3 fun x9 =>
        if x9 = nI 0 then
          j_X12_move_38 w
        else
          zld w 140 4 a1 fun x11 =>
          zld w 140 4 a3 fun x12 =>
          if x11 = x12 then
            if a5 < nI 0 then
              j_X12_move_106 w
            else
            if a2 < nI 0 then
              j_X12_move_106 w
            else
            if a4 < nI 0 then
              j_X12_move_106 w
            else
              zld w 141 4 a1 fun x17 =>
              if (x17 - a5) < a2 then
                j_X12_move_106 w
              else
                zld w 141 4 a3 fun x19 =>
                if (x19 - a5) < a4 then
                  j_X12_move_106 w
                else
                  l_X12_move_115 (fun k149_a3 k149_a4 k149_a5 w11 =>
                    l_X12_move_152 (fun k187_a5 w22 =>
                      some (k187_a5, w22)) zfuel k149_a3 k149_a4 k149_a5 (nI 0) w11) zfuel a1 a2 a3 a4 a5 (nI 0) w
          else
            zb2 (f_X12_error (nI 5) w) fun x22 w1 =>
            some (x22, w1)
theorem c_X12_move {G : zG} {l : Launch} (hG : zgood G) {w : zW} {re : Int32} {we : zW} {a1 : Int32} {a2 : Int32} {a3 : Int32} {a4 : Int32} {a5 : Int32}  (h : f_X12_move a1 a2 a3 a4 a5 w = some (re, we)) : zMet G l yX12_move cX12_move 7 (some .int) 2 [.ref (zα G 128), .int a1, .int a2, .int a3, .int a4, .int a5] w (some (.int re)) we := by
  refine zMet_of (L0 := [some (.ref (zα G 128)), some (.int a1), some (.int a2), some (.int a3), some (.int a4), some (.int a5), none]) hG zplX12 (Nat.le_of_ble_eq_true rfl) rfl rfl (fun X hl hX hEI hEV hEA => ?_)
  subst hl
  have hX : zOk G X cX12_move 7 RX12 2 := hX
  have hE := hEI _ _ rfl rfl
  rw [f_X12_move] at h
  refine z_iload_n 0 hX dX12_move_0 rfl <|
    zb1 h fun x2 r1 h => zcX12_204 1 [.int a1] [] hX dX12_move_1 (c_X12_isSheet (zgd0 hX) r1) rfl rfl rfl (Nat.le_of_ble_eq_true rfl) (Nat.le_of_ble_eq_true rfl) <|
    z_if_eq 4 14 hX dX12_move_4 rfl h (fun q3 h => ?_) (fun q3 h => ?_)
  · refine z_weak (L' := [some (.ref (zα G 128)), none, none, none, none, none, none]) (zsub_s (zsub_n (zsub_n (zsub_n (zsub_n (zsub_n (zsub_n zsub_0))))))) <|
      j_X12_move_14z hX hE h
  · refine z_iload_n 7 hX dX12_move_7 rfl <|
      zb1 h fun x5 r4 h => zcX12_204 8 [.int a3] [] hX dX12_move_8 (c_X12_isSheet (zgd0 hX) r4) rfl rfl rfl (Nat.le_of_ble_eq_true rfl) (Nat.le_of_ble_eq_true rfl) <|
      z_if_ne 11 20 hX dX12_move_11 rfl h (fun q6 h => ?_) (fun q6 h => ?_)
    · refine z_aload_n 20 hX dX12_move_20 rfl <|
        zgX12_43 21 hX dX12_move_21 (rfl : shp 128 = (12, 0)) <|
        z_iload_n 24 hX dX12_move_24 rfl <|
        z_iald 25 hX dX12_move_25 (rfl : shp 140 = (20, 4)) h fun x7 _ h =>
        z_if_eq 26 38 hX dX12_move_26 rfl h (fun q8 h => ?_) (fun q8 h => ?_)
      · refine z_weak (L' := [some (.ref (zα G 128)), none, none, none, none, none, none]) (zsub_s (zsub_n (zsub_n (zsub_n (zsub_n (zsub_n (zsub_n zsub_0))))))) <|
          j_X12_move_38z hX hE h
      · refine z_aload_n 29 hX dX12_move_29 rfl <|
          zgX12_43 30 hX dX12_move_30 (rfl : shp 128 = (12, 0)) <|
          z_iload_n 33 hX dX12_move_33 rfl <|
          z_iald 34 hX dX12_move_34 (rfl : shp 140 = (20, 4)) h fun x9 _ h =>
          z_if_ne 35 44 hX dX12_move_35 rfl h (fun q10 h => ?_) (fun q10 h => ?_)
        · refine z_aload_n 44 hX dX12_move_44 rfl <|
            zgX12_43 45 hX dX12_move_45 (rfl : shp 128 = (12, 0)) <|
            z_iload_n 48 hX dX12_move_48 rfl <|
            z_iald 49 hX dX12_move_49 (rfl : shp 140 = (20, 4)) h fun x11 _ h =>
            z_aload_n 50 hX dX12_move_50 rfl <|
            zgX12_43 51 hX dX12_move_51 (rfl : shp 128 = (12, 0)) <|
            z_iload_n 54 hX dX12_move_54 rfl <|
            z_iald 55 hX dX12_move_55 (rfl : shp 140 = (20, 4)) h fun x12 _ h =>
            z_icmp_eq 56 65 hX dX12_move_56 rfl h (fun q13 h => ?_) (fun q13 h => ?_)
          · refine z_iload 65 hX dX12_move_65 rfl <|
              z_if_lt 67 106 hX dX12_move_67 rfl h (fun q14 h => ?_) (fun q14 h => ?_)
            · refine z_weak (L' := [some (.ref (zα G 128)), none, none, none, none, none, none]) (zsub_s (zsub_n (zsub_n (zsub_n (zsub_n (zsub_n (zsub_n zsub_0))))))) <|
                j_X12_move_106z hX hE h
            · refine z_iload_n 70 hX dX12_move_70 rfl <|
                z_if_lt 71 106 hX dX12_move_71 rfl h (fun q15 h => ?_) (fun q15 h => ?_)
              · refine z_weak (L' := [some (.ref (zα G 128)), none, none, none, none, none, none]) (zsub_s (zsub_n (zsub_n (zsub_n (zsub_n (zsub_n (zsub_n zsub_0))))))) <|
                  j_X12_move_106z hX hE h
              · refine z_iload 74 hX dX12_move_74 rfl <|
                  z_if_lt 76 106 hX dX12_move_76 rfl h (fun q16 h => ?_) (fun q16 h => ?_)
                · refine z_weak (L' := [some (.ref (zα G 128)), none, none, none, none, none, none]) (zsub_s (zsub_n (zsub_n (zsub_n (zsub_n (zsub_n (zsub_n zsub_0))))))) <|
                    j_X12_move_106z hX hE h
                · refine z_iload_n 79 hX dX12_move_79 rfl <|
                    z_aload_n 80 hX dX12_move_80 rfl <|
                    zgX12_46 81 hX dX12_move_81 (rfl : shp 128 = (12, 0)) <|
                    z_iload_n 84 hX dX12_move_84 rfl <|
                    z_iald 85 hX dX12_move_85 (rfl : shp 141 = (20, 4)) h fun x17 _ h =>
                    z_iload 86 hX dX12_move_86 rfl <|
                    z_isub 88 hX dX12_move_88 <|
                    z_icmp_gt 89 106 hX dX12_move_89 rfl h (fun q18 h => ?_) (fun q18 h => ?_)
                  · refine z_weak (L' := [some (.ref (zα G 128)), none, none, none, none, none, none]) (zsub_s (zsub_n (zsub_n (zsub_n (zsub_n (zsub_n (zsub_n zsub_0))))))) <|
                      j_X12_move_106z hX hE h
                  · refine z_iload 92 hX dX12_move_92 rfl <|
                      z_aload_n 94 hX dX12_move_94 rfl <|
                      zgX12_46 95 hX dX12_move_95 (rfl : shp 128 = (12, 0)) <|
                      z_iload_n 98 hX dX12_move_98 rfl <|
                      z_iald 99 hX dX12_move_99 (rfl : shp 141 = (20, 4)) h fun x19 _ h =>
                      z_iload 100 hX dX12_move_100 rfl <|
                      z_isub 102 hX dX12_move_102 <|
                      z_icmp_le 103 112 hX dX12_move_103 rfl h (fun q20 h => ?_) (fun q20 h => ?_)
                    · refine z_iconst 112 hX dX12_move_112 zki0 <|
                        z_istore 113 [some (.ref (zα G 128)), some (.int a1), some (.int a2), some (.int a3), some (.int a4), some (.int a5), some (.int (nI 0))] hX dX12_move_113 (Nat.le_of_ble_eq_true rfl) rfl rfl <|
                        l_X12_move_115z hX hE (fun k149_a3 k149_a4 k149_a5 w11 h => ?_) _ _ _ _ _ _ _ _ h
                      · refine z_iconst 149 hX dX12_move_149 zki0 <|
                          z_istore 150 [some (.ref (zα G 128)), none, none, some (.int k149_a3), some (.int k149_a4), some (.int k149_a5), some (.int (nI 0))] hX dX12_move_150 (Nat.le_of_ble_eq_true rfl) rfl rfl <|
                          l_X12_move_152z hX hE (fun k187_a5 w22 h => ?_) _ _ _ _ _ _ h
                        · refine z_iload 187 hX dX12_move_187 rfl <|
                            z_endI2 189 hE rfl h dX12_move_189
                    · refine z_weak (L' := [some (.ref (zα G 128)), none, none, none, none, none, none]) (zsub_s (zsub_n (zsub_n (zsub_n (zsub_n (zsub_n (zsub_n zsub_0))))))) <|
                        j_X12_move_106z hX hE h
          · refine z_aload_n 59 hX dX12_move_59 rfl <|
              z_iconst 60 hX dX12_move_60 zki5 <|
              zb12 h fun x22 w1 r21 h => zcX12_64 61 [.int (nI 5)] [] hX dX12_move_61 (c_X12_error (zgd0 hX) r21) (rfl : shp 128 = (12, 0)) rfl rfl rfl (Nat.le_of_ble_eq_true rfl) (Nat.le_of_ble_eq_true rfl) <|
              z_endI2 64 hE rfl h dX12_move_64
        · refine z_weak (L' := [some (.ref (zα G 128)), none, none, none, none, none, none]) (zsub_s (zsub_n (zsub_n (zsub_n (zsub_n (zsub_n (zsub_n zsub_0))))))) <|
            j_X12_move_38z hX hE h
    · refine z_weak (L' := [some (.ref (zα G 128)), none, none, none, none, none, none]) (zsub_s (zsub_n (zsub_n (zsub_n (zsub_n (zsub_n (zsub_n zsub_0))))))) <|
        j_X12_move_14z hX hE h
def j_X12_bricks_15  (w : zW) : Option (Int32 × zW) :=
  zb2 (f_X12_error (nI 1) w) fun x2 w1 =>
  some (x2, w1)
theorem j_X12_bricks_15z {G : zG} {X : zX} {w : zW} {re : Int32} {we : zW}  (hX : zOk G X cX12_bricks 4 RX12 2) (hE : zEI G X cX12_bricks .int re we)  (h : j_X12_bricks_15 w = some (re, we)) : zZ G X w 15 [some (.ref (zα G 128)), none, none, none] [] := by
  rw [j_X12_bricks_15] at h
  refine z_aload_n 15 hX dX12_bricks_15 rfl <|
    z_iconst 16 hX dX12_bricks_16 zki1 <|
    zb12 h fun x2 w1 r1 h => zcX12_64 17 [.int (nI 1)] [] hX dX12_bricks_17 (c_X12_error (zgd0 hX) r1) (rfl : shp 128 = (12, 0)) rfl rfl rfl (Nat.le_of_ble_eq_true rfl) (Nat.le_of_ble_eq_true rfl) <|
    z_endI2 20 hE rfl h dX12_bricks_20
def l_X12_bricks_38 (K105 : Int32 → zW → Option (Int32 × zW)) : Nat → Int32 → Int32 → Int32 → zW → Option (Int32 × zW)
  | 0, _, _, _, _ => none
  | n + 1, a1, a2, a3, w =>
    zld w 141 4 a1 fun x1 =>
    if a3 < x1 then
      zb (f_X12_isPlace a2 a3 w) fun x4 =>
      if x4 = nI 0 then
        K105 a3 w
      else
        zld w 142 96 (((nI 24) * a1) + a3) fun x6 =>
        zb (f_X12_in x6 (nI 0) (nI 26)) fun x8 =>
        if x8 = nI 0 then
          K105 a3 w
        else
          zb (f_X12_at a2 a3) fun x11 =>
          zld w 142 96 (((nI 24) * a1) + a3) fun x12 =>
          zsto w 129 628 x11 x12 fun w1 =>
          zlet (a3 + nI 1) fun x13 =>
          (l_X12_bricks_38 K105 n) a1 a2 x13 w1
    else
      K105 a3 w
theorem l_X12_bricks_38z {K105 : Int32 → zW → Option (Int32 × zW)} {G : zG} {X : zX} {re : Int32} {we : zW} (hX : zOk G X cX12_bricks 4 RX12 2) (hE : zEI G X cX12_bricks .int re we) (hK105 : ∀ (a3 : Int32) (w3 : zW) , K105 a3 w3 = some (re, we) → zZ G X w3 105 [none, none, none, some (.int a3)] []) : ∀ (n : Nat) (a1 : Int32) (a2 : Int32) (a3 : Int32) (w : zW) , l_X12_bricks_38 K105 n a1 a2 a3 w = some (re, we) → zZ G X w 38 [some (.ref (zα G 128)), some (.int a1), some (.int a2), some (.int a3)] [] := by
  intro n
  induction n with
  | zero =>
    intro a1 a2 a3 w  h
    rw [l_X12_bricks_38.eq_1] at h
    cases h
  | succ n ih =>
    intro a1 a2 a3 w  h
    rw [l_X12_bricks_38.eq_2] at h
    refine z_iload_n 38 hX dX12_bricks_38 rfl <|
      z_aload_n 39 hX dX12_bricks_39 rfl <|
      zgX12_46 40 hX dX12_bricks_40 (rfl : shp 128 = (12, 0)) <|
      z_iload_n 43 hX dX12_bricks_43 rfl <|
      z_iald 44 hX dX12_bricks_44 (rfl : shp 141 = (20, 4)) h fun x1 _ h =>
      z_icmp_ge 45 105 hX dX12_bricks_45 rfl h (fun q2 h => ?_) (fun q2 h => ?_)
    · refine z_weak (L' := [none, none, none, some (.int a3)]) (zsub_n (zsub_n (zsub_n (zsub_s zsub_0)))) <|
        hK105 _ _ h
    · refine z_aload_n 48 hX dX12_bricks_48 rfl <|
        z_iload_n 49 hX dX12_bricks_49 rfl <|
        z_iload_n 50 hX dX12_bricks_50 rfl <|
        zb1 h fun x4 r3 h => zcX12_186 51 [.int a2, .int a3] [] hX dX12_bricks_51 (c_X12_isPlace (zgd0 hX) r3) (rfl : shp 128 = (12, 0)) rfl rfl rfl (Nat.le_of_ble_eq_true rfl) (Nat.le_of_ble_eq_true rfl) <|
        z_if_eq 54 105 hX dX12_bricks_54 rfl h (fun q5 h => ?_) (fun q5 h => ?_)
      · refine z_weak (L' := [none, none, none, some (.int a3)]) (zsub_n (zsub_n (zsub_n (zsub_s zsub_0)))) <|
          hK105 _ _ h
      · refine z_aload_n 57 hX dX12_bricks_57 rfl <|
          zgX12_49 58 hX dX12_bricks_58 (rfl : shp 128 = (12, 0)) <|
          z_bipush 61 hX dX12_bricks_61 zkb24 <|
          z_iload_n 63 hX dX12_bricks_63 rfl <|
          z_imul 64 hX dX12_bricks_64 <|
          z_iload_n 65 hX dX12_bricks_65 rfl <|
          z_iadd 66 hX dX12_bricks_66 <|
          z_iald 67 hX dX12_bricks_67 (rfl : shp 142 = (20, 96)) h fun x6 _ h =>
          z_iconst 68 hX dX12_bricks_68 zki0 <|
          z_bipush 69 hX dX12_bricks_69 zkb26 <|
          zb1 h fun x8 r7 h => zcX12_56 71 [.int x6, .int (nI 0), .int (nI 26)] [] hX dX12_bricks_71 (c_X12_in (zgd0 hX) r7) rfl rfl rfl (Nat.le_of_ble_eq_true rfl) (Nat.le_of_ble_eq_true rfl) <|
          z_if_eq 74 105 hX dX12_bricks_74 rfl h (fun q9 h => ?_) (fun q9 h => ?_)
        · refine z_weak (L' := [none, none, none, some (.int a3)]) (zsub_n (zsub_n (zsub_n (zsub_s zsub_0)))) <|
            hK105 _ _ h
        · refine z_aload_n 77 hX dX12_bricks_77 rfl <|
            zgX12_7 78 hX dX12_bricks_78 (rfl : shp 128 = (12, 0)) <|
            z_aload_n 81 hX dX12_bricks_81 rfl <|
            z_iload_n 82 hX dX12_bricks_82 rfl <|
            z_iload_n 83 hX dX12_bricks_83 rfl <|
            zb1 h fun x11 r10 h => zcX12_124 84 [.int a2, .int a3] [.ref (zα G 129)] hX dX12_bricks_84 (c_X12_at (zgd0 hX) r10) (rfl : shp 128 = (12, 0)) rfl rfl rfl (Nat.le_of_ble_eq_true rfl) (Nat.le_of_ble_eq_true rfl) <|
            z_aload_n 87 hX dX12_bricks_87 rfl <|
            zgX12_49 88 hX dX12_bricks_88 (rfl : shp 128 = (12, 0)) <|
            z_bipush 91 hX dX12_bricks_91 zkb24 <|
            z_iload_n 93 hX dX12_bricks_93 rfl <|
            z_imul 94 hX dX12_bricks_94 <|
            z_iload_n 95 hX dX12_bricks_95 rfl <|
            z_iadd 96 hX dX12_bricks_96 <|
            z_iald 97 hX dX12_bricks_97 (rfl : shp 142 = (20, 96)) h fun x12 _ h =>
            z_iast 98 hX dX12_bricks_98 (rfl : shp 129 = (20, 628)) h fun w1 h =>
            z_iincG 99 (fun x13 => [some (.ref (zα G 128)), some (.int a1), some (.int a2), some (.int x13)]) hX dX12_bricks_99 rfl zki1 rfl (fun _ => rfl) h fun x13 h =>
            z_goto 102 38 hX dX12_bricks_102 rfl <|
            ih _ _ _ _ h
def f_X12_bricks (a1 : Int32) (a2 : Int32) (w : zW) : Option (Int32 × zW) :=
  zb (f_X12_isSheet a1) fun x2 =>
  if x2 = nI 0 then
    j_X12_bricks_15 w
  else
    zb (f_X12_isWall a2 w) fun x5 =>
    if x5 = nI 0 then
      j_X12_bricks_15 w
    else
      zld w 140 4 a1 fun x7 =>
      if x7 = nI 0 then
        zb2 (f_X12_error (nI 2) w) fun x10 w1 =>
        some (x10, w1)
      else
        l_X12_bricks_38 (fun k105_a3 w11 =>
          some (k105_a3, w11)) zfuel a1 a2 (nI 0) w
theorem c_X12_bricks {G : zG} {l : Launch} (hG : zgood G) {w : zW} {re : Int32} {we : zW} {a1 : Int32} {a2 : Int32}  (h : f_X12_bricks a1 a2 w = some (re, we)) : zMet G l yX12_bricks cX12_bricks 4 (some .int) 2 [.ref (zα G 128), .int a1, .int a2] w (some (.int re)) we := by
  refine zMet_of (L0 := [some (.ref (zα G 128)), some (.int a1), some (.int a2), none]) hG zplX12 (Nat.le_of_ble_eq_true rfl) rfl rfl (fun X hl hX hEI hEV hEA => ?_)
  subst hl
  have hX : zOk G X cX12_bricks 4 RX12 2 := hX
  have hE := hEI _ _ rfl rfl
  rw [f_X12_bricks] at h
  refine z_iload_n 0 hX dX12_bricks_0 rfl <|
    zb1 h fun x2 r1 h => zcX12_204 1 [.int a1] [] hX dX12_bricks_1 (c_X12_isSheet (zgd0 hX) r1) rfl rfl rfl (Nat.le_of_ble_eq_true rfl) (Nat.le_of_ble_eq_true rfl) <|
    z_if_eq 4 15 hX dX12_bricks_4 rfl h (fun q3 h => ?_) (fun q3 h => ?_)
  · refine z_weak (L' := [some (.ref (zα G 128)), none, none, none]) (zsub_s (zsub_n (zsub_n (zsub_n zsub_0)))) <|
      j_X12_bricks_15z hX hE h
  · refine z_aload_n 7 hX dX12_bricks_7 rfl <|
      z_iload_n 8 hX dX12_bricks_8 rfl <|
      zb1 h fun x5 r4 h => zcX12_133 9 [.int a2] [] hX dX12_bricks_9 (c_X12_isWall (zgd0 hX) r4) (rfl : shp 128 = (12, 0)) rfl rfl rfl (Nat.le_of_ble_eq_true rfl) (Nat.le_of_ble_eq_true rfl) <|
      z_if_ne 12 21 hX dX12_bricks_12 rfl h (fun q6 h => ?_) (fun q6 h => ?_)
    · refine z_aload_n 21 hX dX12_bricks_21 rfl <|
        zgX12_43 22 hX dX12_bricks_22 (rfl : shp 128 = (12, 0)) <|
        z_iload_n 25 hX dX12_bricks_25 rfl <|
        z_iald 26 hX dX12_bricks_26 (rfl : shp 140 = (20, 4)) h fun x7 _ h =>
        z_if_ne 27 36 hX dX12_bricks_27 rfl h (fun q8 h => ?_) (fun q8 h => ?_)
      · refine z_iconst 36 hX dX12_bricks_36 zki0 <|
          z_istore_n 37 [some (.ref (zα G 128)), some (.int a1), some (.int a2), some (.int (nI 0))] hX dX12_bricks_37 (Nat.le_of_ble_eq_true rfl) rfl rfl <|
          l_X12_bricks_38z hX hE (fun k105_a3 w11 h => ?_) _ _ _ _ _ h
        · refine z_iload_n 105 hX dX12_bricks_105 rfl <|
            z_endI2 106 hE rfl h dX12_bricks_106
      · refine z_aload_n 30 hX dX12_bricks_30 rfl <|
          z_iconst 31 hX dX12_bricks_31 zki2 <|
          zb12 h fun x10 w1 r9 h => zcX12_64 32 [.int (nI 2)] [] hX dX12_bricks_32 (c_X12_error (zgd0 hX) r9) (rfl : shp 128 = (12, 0)) rfl rfl rfl (Nat.le_of_ble_eq_true rfl) (Nat.le_of_ble_eq_true rfl) <|
          z_endI2 35 hE rfl h dX12_bricks_35
    · refine z_weak (L' := [some (.ref (zα G 128)), none, none, none]) (zsub_s (zsub_n (zsub_n (zsub_n zsub_0)))) <|
        j_X12_bricks_15z hX hE h
def f_X12_image  (w : zW) : Option (Int32 × zW) :=
  zb (f_X12_carry 129 628 130 628 w) fun w1 =>
  zlet (zupd w1 128 2 ((w1 128 2) + (nI 1))) fun w2 =>
  some (w2 128 2, w2)
theorem c_X12_image {G : zG} {l : Launch} (hG : zgood G) {w : zW} {re : Int32} {we : zW}   (h : f_X12_image w = some (re, we)) : zMet G l yX12_image cX12_image 1 (some .int) 1 [.ref (zα G 128)] w (some (.int re)) we := by
  refine zMet_of (L0 := [some (.ref (zα G 128))]) hG zplX12 (Nat.le_of_ble_eq_true rfl) rfl rfl (fun X hl hX hEI hEV hEA => ?_)
  subst hl
  have hX : zOk G X cX12_image 1 RX12 1 := hX
  have hE := hEI _ _ rfl rfl
  rw [f_X12_image] at h
  refine z_aload_n 0 hX dX12_image_0 rfl <|
    zgX12_7 1 hX dX12_image_1 (rfl : shp 128 = (12, 0)) <|
    z_aload_n 4 hX dX12_image_4 rfl <|
    zgX12_13 5 hX dX12_image_5 (rfl : shp 128 = (12, 0)) <|
    zb1 h fun w1 r1 h => zcX12_274 8 [.ref (zα G 129), .ref (zα G 130)] [] hX dX12_image_8 (c_X12_carry (zgd0 hX) (rfl : shp 129 = (20, 628)) (rfl : shp 130 = (20, 628)) r1) rfl rfl rfl (Nat.le_of_ble_eq_true rfl) (Nat.le_of_ble_eq_true rfl) <|
    z_aload_n 11 hX dX12_image_11 rfl <|
    z_dup 12 hX dX12_image_12 rfl <|
    zgX12_278 13 hX dX12_image_13 (rfl : shp 128 = (12, 0)) <|
    z_iconst 16 hX dX12_image_16 zki1 <|
    z_iadd 17 hX dX12_image_17 <|
    zpX12_278 18 hX dX12_image_18 (rfl : shp 128 = (12, 0)) <|
    z_w h fun w2 h =>
    z_aload_n 21 hX dX12_image_21 rfl <|
    zgX12_278 22 hX dX12_image_22 (rfl : shp 128 = (12, 0)) <|
    z_endI2 25 hE rfl h dX12_image_25
def f_X12_restore  (w : zW) : Option (Int32 × zW) :=
  if (w 128 2) = nI 0 then
    zb2 (f_X12_error (nI 2) w) fun x4 w2 =>
    some (x4, w2)
  else
    zb (f_X12_carry 130 628 129 628 w) fun w1 =>
    some (w1 129 0, w1)
theorem c_X12_restore {G : zG} {l : Launch} (hG : zgood G) {w : zW} {re : Int32} {we : zW}   (h : f_X12_restore w = some (re, we)) : zMet G l yX12_restore cX12_restore 1 (some .int) 1 [.ref (zα G 128)] w (some (.int re)) we := by
  refine zMet_of (L0 := [some (.ref (zα G 128))]) hG zplX12 (Nat.le_of_ble_eq_true rfl) rfl rfl (fun X hl hX hEI hEV hEA => ?_)
  subst hl
  have hX : zOk G X cX12_restore 1 RX12 1 := hX
  have hE := hEI _ _ rfl rfl
  rw [f_X12_restore] at h
  refine z_aload_n 0 hX dX12_restore_0 rfl <|
    zgX12_278 1 hX dX12_restore_1 (rfl : shp 128 = (12, 0)) <|
    z_if_ne 4 13 hX dX12_restore_4 rfl h (fun q1 h => ?_) (fun q1 h => ?_)
  · refine z_aload_n 13 hX dX12_restore_13 rfl <|
      zgX12_13 14 hX dX12_restore_14 (rfl : shp 128 = (12, 0)) <|
      z_aload_n 17 hX dX12_restore_17 rfl <|
      zgX12_7 18 hX dX12_restore_18 (rfl : shp 128 = (12, 0)) <|
      zb1 h fun w1 r2 h => zcX12_274 21 [.ref (zα G 130), .ref (zα G 129)] [] hX dX12_restore_21 (c_X12_carry (zgd0 hX) (rfl : shp 130 = (20, 628)) (rfl : shp 129 = (20, 628)) r2) rfl rfl rfl (Nat.le_of_ble_eq_true rfl) (Nat.le_of_ble_eq_true rfl) <|
      z_aload_n 24 hX dX12_restore_24 rfl <|
      zgX12_7 25 hX dX12_restore_25 (rfl : shp 128 = (12, 0)) <|
      z_iconst 28 hX dX12_restore_28 zki0 <|
      z_ialdc (j := 0) 29 hX dX12_restore_29 (rfl : shp 129 = (20, 628)) (zink 0 628 (by decide) (by decide)) (nI_clamp (by decide)) <|
      z_endI2 30 hE rfl h dX12_restore_30
  · refine z_aload_n 7 hX dX12_restore_7 rfl <|
      z_iconst 8 hX dX12_restore_8 zki2 <|
      zb12 h fun x4 w2 r3 h => zcX12_64 9 [.int (nI 2)] [] hX dX12_restore_9 (c_X12_error (zgd0 hX) r3) (rfl : shp 128 = (12, 0)) rfl rfl rfl (Nat.le_of_ble_eq_true rfl) (Nat.le_of_ble_eq_true rfl) <|
      z_endI2 12 hE rfl h dX12_restore_12
def f_X12_tell (a1 : Int32) (w : zW) : Option (Int32 × zW) :=
  if (w 129 5) = (nI 24) then
    zb2 (f_X12_error (nI 4) w) fun x3 w3 =>
    some (x3, w3)
  else
    zsto w 129 628 ((nI 604) + (w 129 5)) a1 fun w1 =>
    zlet (zupd w1 129 5 ((w1 129 5) + (nI 1))) fun w2 =>
    some (w2 129 5, w2)
theorem c_X12_tell {G : zG} {l : Launch} (hG : zgood G) {w : zW} {re : Int32} {we : zW} {a1 : Int32}  (h : f_X12_tell a1 w = some (re, we)) : zMet G l yX12_tell cX12_tell 2 (some .int) 1 [.ref (zα G 128), .int a1] w (some (.int re)) we := by
  refine zMet_of (L0 := [some (.ref (zα G 128)), some (.int a1)]) hG zplX12 (Nat.le_of_ble_eq_true rfl) rfl rfl (fun X hl hX hEI hEV hEA => ?_)
  subst hl
  have hX : zOk G X cX12_tell 2 RX12 1 := hX
  have hE := hEI _ _ rfl rfl
  rw [f_X12_tell] at h
  refine z_aload_n 0 hX dX12_tell_0 rfl <|
    zgX12_7 1 hX dX12_tell_1 (rfl : shp 128 = (12, 0)) <|
    z_iconst 4 hX dX12_tell_4 zki5 <|
    z_ialdc (j := 5) 5 hX dX12_tell_5 (rfl : shp 129 = (20, 628)) (zink 5 628 (by decide) (by decide)) (nI_clamp (by decide)) <|
    z_bipush 6 hX dX12_tell_6 zkb24 <|
    z_icmp_ne 8 17 hX dX12_tell_8 rfl h (fun q1 h => ?_) (fun q1 h => ?_)
  · refine z_aload_n 17 hX dX12_tell_17 rfl <|
      zgX12_7 18 hX dX12_tell_18 (rfl : shp 128 = (12, 0)) <|
      z_sipush 21 hX dX12_tell_21 zks604 <|
      z_aload_n 24 hX dX12_tell_24 rfl <|
      zgX12_7 25 hX dX12_tell_25 (rfl : shp 128 = (12, 0)) <|
      z_iconst 28 hX dX12_tell_28 zki5 <|
      z_ialdc (j := 5) 29 hX dX12_tell_29 (rfl : shp 129 = (20, 628)) (zink 5 628 (by decide) (by decide)) (nI_clamp (by decide)) <|
      z_iadd 30 hX dX12_tell_30 <|
      z_iload_n 31 hX dX12_tell_31 rfl <|
      z_iast 32 hX dX12_tell_32 (rfl : shp 129 = (20, 628)) h fun w1 h =>
      z_aload_n 33 hX dX12_tell_33 rfl <|
      zgX12_7 34 hX dX12_tell_34 (rfl : shp 128 = (12, 0)) <|
      z_iconst 37 hX dX12_tell_37 zki5 <|
      z_dup2 38 hX dX12_tell_38 rfl rfl <|
      z_ialdc (j := 5) 39 hX dX12_tell_39 (rfl : shp 129 = (20, 628)) (zink 5 628 (by decide) (by decide)) (nI_clamp (by decide)) <|
      z_iconst 40 hX dX12_tell_40 zki1 <|
      z_iadd 41 hX dX12_tell_41 <|
      z_iastc (j := 5) 42 hX dX12_tell_42 (rfl : shp 129 = (20, 628)) (zink 5 628 (by decide) (by decide)) (nI_clamp (by decide)) <|
      z_w h fun w2 h =>
      z_aload_n 43 hX dX12_tell_43 rfl <|
      zgX12_7 44 hX dX12_tell_44 (rfl : shp 128 = (12, 0)) <|
      z_iconst 47 hX dX12_tell_47 zki5 <|
      z_ialdc (j := 5) 48 hX dX12_tell_48 (rfl : shp 129 = (20, 628)) (zink 5 628 (by decide) (by decide)) (nI_clamp (by decide)) <|
      z_endI2 49 hE rfl h dX12_tell_49
  · refine z_aload_n 11 hX dX12_tell_11 rfl <|
      z_iconst 12 hX dX12_tell_12 zki4 <|
      zb12 h fun x3 w3 r2 h => zcX12_64 13 [.int (nI 4)] [] hX dX12_tell_13 (c_X12_error (zgd0 hX) r2) (rfl : shp 128 = (12, 0)) rfl rfl rfl (Nat.le_of_ble_eq_true rfl) (Nat.le_of_ble_eq_true rfl) <|
      z_endI2 16 hE rfl h dX12_tell_16
def l_X12_check_48 (K86 : Int32 → Int32 → zW → Option (Int32 × zW)) : Nat → Int32 → Int32 → zW → Option (Int32 × zW)
  | 0, _, _, _ => none
  | n + 1, a2, a3, w =>
    if a3 < a2 then
      if a3 < (w 128 15) then
        zld w 129 628 ((nI 604) + a3) fun x3 =>
        zld w 137 48 a3 fun x4 =>
        if x3 = x4 then
          zlet (a3 + nI 1) fun x6 =>
          (l_X12_check_48 K86 n) a2 x6 w
        else
          K86 a2 a3 w
      else
        K86 a2 a3 w
    else
      K86 a2 a3 w
theorem l_X12_check_48z {K86 : Int32 → Int32 → zW → Option (Int32 × zW)} {G : zG} {X : zX} {re : Int32} {we : zW} (hX : zOk G X cX12_check 4 RX12 4) (hE : zEI G X cX12_check .int re we) (hK86 : ∀ (a2 : Int32) (a3 : Int32) (w3 : zW) , K86 a2 a3 w3 = some (re, we) → zZ G X w3 86 [some (.ref (zα G 128)), none, some (.int a2), some (.int a3)] []) : ∀ (n : Nat) (a2 : Int32) (a3 : Int32) (w : zW) , l_X12_check_48 K86 n a2 a3 w = some (re, we) → zZ G X w 48 [some (.ref (zα G 128)), none, some (.int a2), some (.int a3)] [] := by
  intro n
  induction n with
  | zero =>
    intro a2 a3 w  h
    rw [l_X12_check_48.eq_1] at h
    cases h
  | succ n ih =>
    intro a2 a3 w  h
    rw [l_X12_check_48.eq_2] at h
    refine z_iload_n 48 hX dX12_check_48 rfl <|
      z_iload_n 49 hX dX12_check_49 rfl <|
      z_icmp_ge 50 86 hX dX12_check_50 rfl h (fun q1 h => ?_) (fun q1 h => ?_)
    · refine hK86 _ _ _ h
    · refine z_iload_n 53 hX dX12_check_53 rfl <|
        z_aload_n 54 hX dX12_check_54 rfl <|
        zgX12_170 55 hX dX12_check_55 (rfl : shp 128 = (12, 0)) <|
        z_icmp_ge 58 86 hX dX12_check_58 rfl h (fun q2 h => ?_) (fun q2 h => ?_)
      · refine hK86 _ _ _ h
      · refine z_aload_n 61 hX dX12_check_61 rfl <|
          zgX12_7 62 hX dX12_check_62 (rfl : shp 128 = (12, 0)) <|
          z_sipush 65 hX dX12_check_65 zks604 <|
          z_iload_n 68 hX dX12_check_68 rfl <|
          z_iadd 69 hX dX12_check_69 <|
          z_iald 70 hX dX12_check_70 (rfl : shp 129 = (20, 628)) h fun x3 _ h =>
          z_aload_n 71 hX dX12_check_71 rfl <|
          zgX12_34 72 hX dX12_check_72 (rfl : shp 128 = (12, 0)) <|
          z_iload_n 75 hX dX12_check_75 rfl <|
          z_iald 76 hX dX12_check_76 (rfl : shp 137 = (20, 48)) h fun x4 _ h =>
          z_icmp_ne 77 86 hX dX12_check_77 rfl h (fun q5 h => ?_) (fun q5 h => ?_)
        · refine hK86 _ _ _ h
        · refine z_iincG 80 (fun x6 => [some (.ref (zα G 128)), none, some (.int a2), some (.int x6)]) hX dX12_check_80 rfl zki1 rfl (fun _ => rfl) h fun x6 h =>
            z_goto 83 48 hX dX12_check_83 rfl <|
            ih _ _ _ h
def j_X12_check_103 (a3 : Int32) (w : zW) : Option (Int32 × zW) :=
  some ((nI 1) + a3, w)
theorem j_X12_check_103z {G : zG} {X : zX} {w : zW} {re : Int32} {we : zW} {a3 : Int32} (hX : zOk G X cX12_check 4 RX12 4) (hE : zEI G X cX12_check .int re we)  (h : j_X12_check_103 a3 w = some (re, we)) : zZ G X w 103 [none, none, none, some (.int a3)] [] := by
  rw [j_X12_check_103] at h
  refine z_iconst 103 hX dX12_check_103 zki1 <|
    z_iload_n 104 hX dX12_check_104 rfl <|
    z_iadd 105 hX dX12_check_105 <|
    z_endI2 106 hE rfl h dX12_check_106
def j_X12_check_86 (a2 : Int32) (a3 : Int32) (w : zW) : Option (Int32 × zW) :=
  if a3 = a2 then
    if a3 = (w 128 15) then
      some (nI 0, w)
    else
      j_X12_check_103 a3 w
  else
    j_X12_check_103 a3 w
theorem j_X12_check_86z {G : zG} {X : zX} {w : zW} {re : Int32} {we : zW} {a2 : Int32} {a3 : Int32} (hX : zOk G X cX12_check 4 RX12 4) (hE : zEI G X cX12_check .int re we)  (h : j_X12_check_86 a2 a3 w = some (re, we)) : zZ G X w 86 [some (.ref (zα G 128)), none, some (.int a2), some (.int a3)] [] := by
  rw [j_X12_check_86] at h
  refine z_iload_n 86 hX dX12_check_86 rfl <|
    z_iload_n 87 hX dX12_check_87 rfl <|
    z_icmp_ne 88 103 hX dX12_check_88 rfl h (fun q1 h => ?_) (fun q1 h => ?_)
  · refine z_weak (L' := [none, none, none, some (.int a3)]) (zsub_n (zsub_n (zsub_n (zsub_s zsub_0)))) <|
      j_X12_check_103z hX hE h
  · refine z_iload_n 91 hX dX12_check_91 rfl <|
      z_aload_n 92 hX dX12_check_92 rfl <|
      zgX12_170 93 hX dX12_check_93 (rfl : shp 128 = (12, 0)) <|
      z_icmp_ne 96 103 hX dX12_check_96 rfl h (fun q2 h => ?_) (fun q2 h => ?_)
    · refine z_weak (L' := [none, none, none, some (.int a3)]) (zsub_n (zsub_n (zsub_n (zsub_s zsub_0)))) <|
        j_X12_check_103z hX hE h
    · refine z_iconst 99 hX dX12_check_99 zki0 <|
        z_goto 100 106 hX dX12_check_100 rfl <|
        z_endI2 106 hE rfl h dX12_check_106
def f_X12_check (a1 : Int32) (w : zW) : Option (Int32 × zW) :=
  zlet (w 129 5) fun x1 =>
  zlet (zupd w 129 5 (nI 0)) fun w1 =>
  zb (f_X12_isWall a1 w1) fun x3 =>
  if x3 = nI 0 then
    zb2 (f_X12_error (nI 1) w1) fun x12 w5 =>
    some (x12, w5)
  else
    zb2 (f_X12_doesRead a1 w1) fun x6 w2 =>
    if x6 = nI 0 then
      zb2 (f_X12_error (nI 2) w2) fun x10 w4 =>
      some (x10, w4)
    else
      zb (f_X12_findSaid w2) fun w3 =>
      l_X12_check_48 (fun k86_a2 k86_a3 w14 =>
        j_X12_check_86 k86_a2 k86_a3 w14) zfuel x1 (nI 0) w3
theorem c_X12_check {G : zG} {l : Launch} (hG : zgood G) {w : zW} {re : Int32} {we : zW} {a1 : Int32}  (h : f_X12_check a1 w = some (re, we)) : zMet G l yX12_check cX12_check 4 (some .int) 4 [.ref (zα G 128), .int a1] w (some (.int re)) we := by
  refine zMet_of (L0 := [some (.ref (zα G 128)), some (.int a1), none, none]) hG zplX12 (Nat.le_of_ble_eq_true rfl) rfl rfl (fun X hl hX hEI hEV hEA => ?_)
  subst hl
  have hX : zOk G X cX12_check 4 RX12 4 := hX
  have hE := hEI _ _ rfl rfl
  rw [f_X12_check] at h
  refine z_aload_n 0 hX dX12_check_0 rfl <|
    zgX12_7 1 hX dX12_check_1 (rfl : shp 128 = (12, 0)) <|
    z_iconst 4 hX dX12_check_4 zki5 <|
    z_ialdc (j := 5) 5 hX dX12_check_5 (rfl : shp 129 = (20, 628)) (zink 5 628 (by decide) (by decide)) (nI_clamp (by decide)) <|
    z_top h fun x1 h =>
    z_istore_n 6 [some (.ref (zα G 128)), some (.int a1), some (.int x1), none] hX dX12_check_6 (Nat.le_of_ble_eq_true rfl) rfl rfl <|
    z_aload_n 7 hX dX12_check_7 rfl <|
    zgX12_7 8 hX dX12_check_8 (rfl : shp 128 = (12, 0)) <|
    z_iconst 11 hX dX12_check_11 zki5 <|
    z_iconst 12 hX dX12_check_12 zki0 <|
    z_iastc (j := 5) 13 hX dX12_check_13 (rfl : shp 129 = (20, 628)) (zink 5 628 (by decide) (by decide)) (nI_clamp (by decide)) <|
    z_w h fun w1 h =>
    z_aload_n 14 hX dX12_check_14 rfl <|
    z_iload_n 15 hX dX12_check_15 rfl <|
    zb1 h fun x3 r2 h => zcX12_133 16 [.int a1] [] hX dX12_check_16 (c_X12_isWall (zgd0 hX) r2) (rfl : shp 128 = (12, 0)) rfl rfl rfl (Nat.le_of_ble_eq_true rfl) (Nat.le_of_ble_eq_true rfl) <|
    z_if_ne 19 28 hX dX12_check_19 rfl h (fun q4 h => ?_) (fun q4 h => ?_)
  · refine z_aload_n 28 hX dX12_check_28 rfl <|
      z_iload_n 29 hX dX12_check_29 rfl <|
      zb12 h fun x6 w2 r5 h => zcX12_173 30 [.int a1] [] hX dX12_check_30 (c_X12_doesRead (zgd0 hX) r5) (rfl : shp 128 = (12, 0)) rfl rfl rfl (Nat.le_of_ble_eq_true rfl) (Nat.le_of_ble_eq_true rfl) <|
      z_if_ne 33 42 hX dX12_check_33 rfl h (fun q7 h => ?_) (fun q7 h => ?_)
    · refine z_aload_n 42 hX dX12_check_42 rfl <|
        zb1 h fun w3 r8 h => zcX12_192 43 [] [] hX dX12_check_43 (c_X12_findSaid (zgd0 hX) r8) (rfl : shp 128 = (12, 0)) rfl rfl rfl (Nat.le_of_ble_eq_true rfl) (Nat.le_of_ble_eq_true rfl) <|
        z_iconst 46 hX dX12_check_46 zki0 <|
        z_istore_n 47 [some (.ref (zα G 128)), some (.int a1), some (.int x1), some (.int (nI 0))] hX dX12_check_47 (Nat.le_of_ble_eq_true rfl) rfl rfl <|
        z_weak (L' := [some (.ref (zα G 128)), none, some (.int x1), some (.int (nI 0))]) (zsub_s (zsub_n (zsub_s (zsub_s zsub_0)))) <|
        l_X12_check_48z hX hE (fun k86_a2 k86_a3 w14 h => ?_) _ _ _ _ h
      · refine j_X12_check_86z hX hE h
    · refine z_aload_n 36 hX dX12_check_36 rfl <|
        z_iconst 37 hX dX12_check_37 zki2 <|
        zb12 h fun x10 w4 r9 h => zcX12_64 38 [.int (nI 2)] [] hX dX12_check_38 (c_X12_error (zgd0 hX) r9) (rfl : shp 128 = (12, 0)) rfl rfl rfl (Nat.le_of_ble_eq_true rfl) (Nat.le_of_ble_eq_true rfl) <|
        z_endI2 41 hE rfl h dX12_check_41
  · refine z_aload_n 22 hX dX12_check_22 rfl <|
      z_iconst 23 hX dX12_check_23 zki1 <|
      zb12 h fun x12 w5 r11 h => zcX12_64 24 [.int (nI 1)] [] hX dX12_check_24 (c_X12_error (zgd0 hX) r11) (rfl : shp 128 = (12, 0)) rfl rfl rfl (Nat.le_of_ble_eq_true rfl) (Nat.le_of_ble_eq_true rfl) <|
      z_endI2 27 hE rfl h dX12_check_27
def l_X12_count_62 (K87 : Int32 → zW → Option (Int32 × zW)) : Nat → Int32 → Int32 → zW → Option (Int32 × zW)
  | 0, _, _, _ => none
  | n + 1, a2, a3, w =>
    if (nI 26) < a3 then
      K87 a2 w
    else
      zld w 129 628 ((nI 266) + a3) fun x2 =>
      zlet (a2 + x2) fun x3 =>
      zlet (a3 + nI 1) fun x4 =>
      (l_X12_count_62 K87 n) x3 x4 w
theorem l_X12_count_62z {K87 : Int32 → zW → Option (Int32 × zW)} {G : zG} {X : zX} {re : Int32} {we : zW} (hX : zOk G X cX12_count 4 RX12 1) (hE : zEI G X cX12_count .int re we) (hK87 : ∀ (a2 : Int32) (w3 : zW) , K87 a2 w3 = some (re, we) → zZ G X w3 87 [none, none, some (.int a2), none] []) : ∀ (n : Nat) (a2 : Int32) (a3 : Int32) (w : zW) , l_X12_count_62 K87 n a2 a3 w = some (re, we) → zZ G X w 62 [some (.ref (zα G 128)), none, some (.int a2), some (.int a3)] [] := by
  intro n
  induction n with
  | zero =>
    intro a2 a3 w  h
    rw [l_X12_count_62.eq_1] at h
    cases h
  | succ n ih =>
    intro a2 a3 w  h
    rw [l_X12_count_62.eq_2] at h
    refine z_iload_n 62 hX dX12_count_62 rfl <|
      z_bipush 63 hX dX12_count_63 zkb26 <|
      z_icmp_gt 65 87 hX dX12_count_65 rfl h (fun q1 h => ?_) (fun q1 h => ?_)
    · refine z_weak (L' := [none, none, some (.int a2), none]) (zsub_n (zsub_n (zsub_s (zsub_n zsub_0)))) <|
        hK87 _ _ h
    · refine z_iload_n 68 hX dX12_count_68 rfl <|
        z_aload_n 69 hX dX12_count_69 rfl <|
        zgX12_7 70 hX dX12_count_70 (rfl : shp 128 = (12, 0)) <|
        z_sipush 73 hX dX12_count_73 zks266 <|
        z_iload_n 76 hX dX12_count_76 rfl <|
        z_iadd 77 hX dX12_count_77 <|
        z_iald 78 hX dX12_count_78 (rfl : shp 129 = (20, 628)) h fun x2 _ h =>
        z_iadd 79 hX dX12_count_79 <|
        z_top h fun x3 h =>
        z_istore_n 80 [some (.ref (zα G 128)), none, some (.int x3), some (.int a3)] hX dX12_count_80 (Nat.le_of_ble_eq_true rfl) rfl rfl <|
        z_iincG 81 (fun x4 => [some (.ref (zα G 128)), none, some (.int x3), some (.int x4)]) hX dX12_count_81 rfl zki1 rfl (fun _ => rfl) h fun x4 h =>
        z_goto 84 62 hX dX12_count_84 rfl <|
        ih _ _ _ h
def f_X12_count (a1 : Int32) (w : zW) : Option (Int32 × zW) :=
  if a1 = nI 0 then
    some (w 129 0, w)
  else
  if a1 = nI 1 then
    some (w 129 1, w)
  else
  if a1 = nI 2 then
    l_X12_count_62 (fun k87_a2 w11 =>
      some (k87_a2, w11)) zfuel (nI 0) (nI 1) w
  else
  if a1 = nI 3 then
    some (w 129 4, w)
  else
  if a1 = nI 4 then
    some (w 129 5, w)
  else
  if a1 = nI 5 then
    some (w 128 21, w)
  else
  if a1 = nI 6 then
    some (w 129 6, w)
  else
    zb2 (f_X12_error (nI 1) w) fun x9 w1 =>
    some (x9, w1)
theorem c_X12_count {G : zG} {l : Launch} (hG : zgood G) {w : zW} {re : Int32} {we : zW} {a1 : Int32}  (h : f_X12_count a1 w = some (re, we)) : zMet G l yX12_count cX12_count 4 (some .int) 1 [.ref (zα G 128), .int a1] w (some (.int re)) we := by
  refine zMet_of (L0 := [some (.ref (zα G 128)), some (.int a1), none, none]) hG zplX12 (Nat.le_of_ble_eq_true rfl) rfl rfl (fun X hl hX hEI hEV hEA => ?_)
  subst hl
  have hX : zOk G X cX12_count 4 RX12 1 := hX
  have hE := hEI _ _ rfl rfl
  rw [f_X12_count] at h
  refine z_iload_n 0 hX dX12_count_0 rfl <|
    ?_
  rcases zif h with ⟨q1, h⟩ | ⟨q1, h⟩
  · refine z_tsIn (off := 43) 1 44 (0) hX dX12_count_1 (zti 0 (by decide) q1) (by decide) (by decide) (by decide) rfl <|
      z_aload_n 44 hX dX12_count_44 rfl <|
      zgX12_7 45 hX dX12_count_45 (rfl : shp 128 = (12, 0)) <|
      z_iconst 48 hX dX12_count_48 zki0 <|
      z_ialdc (j := 0) 49 hX dX12_count_49 (rfl : shp 129 = (20, 628)) (zink 0 628 (by decide) (by decide)) (nI_clamp (by decide)) <|
      z_endI2 50 hE rfl h dX12_count_50
  rcases zif h with ⟨q2, h⟩ | ⟨q2, h⟩
  · refine z_tsIn (off := 50) 1 51 (1) hX dX12_count_1 (zti 1 (by decide) q2) (by decide) (by decide) (by decide) rfl <|
      z_aload_n 51 hX dX12_count_51 rfl <|
      zgX12_7 52 hX dX12_count_52 (rfl : shp 128 = (12, 0)) <|
      z_iconst 55 hX dX12_count_55 zki1 <|
      z_ialdc (j := 1) 56 hX dX12_count_56 (rfl : shp 129 = (20, 628)) (zink 1 628 (by decide) (by decide)) (nI_clamp (by decide)) <|
      z_endI2 57 hE rfl h dX12_count_57
  rcases zif h with ⟨q3, h⟩ | ⟨q3, h⟩
  · refine z_tsIn (off := 57) 1 58 (2) hX dX12_count_1 (zti 2 (by decide) q3) (by decide) (by decide) (by decide) rfl <|
      z_iconst 58 hX dX12_count_58 zki0 <|
      z_istore_n 59 [some (.ref (zα G 128)), some (.int a1), some (.int (nI 0)), none] hX dX12_count_59 (Nat.le_of_ble_eq_true rfl) rfl rfl <|
      z_iconst 60 hX dX12_count_60 zki1 <|
      z_istore_n 61 [some (.ref (zα G 128)), some (.int a1), some (.int (nI 0)), some (.int (nI 1))] hX dX12_count_61 (Nat.le_of_ble_eq_true rfl) rfl rfl <|
      z_weak (L' := [some (.ref (zα G 128)), none, some (.int (nI 0)), some (.int (nI 1))]) (zsub_s (zsub_n (zsub_s (zsub_s zsub_0)))) <|
      l_X12_count_62z hX hE (fun k87_a2 w11 h => ?_) _ _ _ _ h
    · refine z_iload_n 87 hX dX12_count_87 rfl <|
        z_endI2 88 hE rfl h dX12_count_88
  rcases zif h with ⟨q4, h⟩ | ⟨q4, h⟩
  · refine z_tsIn (off := 88) 1 89 (3) hX dX12_count_1 (zti 3 (by decide) q4) (by decide) (by decide) (by decide) rfl <|
      z_aload_n 89 hX dX12_count_89 rfl <|
      zgX12_7 90 hX dX12_count_90 (rfl : shp 128 = (12, 0)) <|
      z_iconst 93 hX dX12_count_93 zki4 <|
      z_ialdc (j := 4) 94 hX dX12_count_94 (rfl : shp 129 = (20, 628)) (zink 4 628 (by decide) (by decide)) (nI_clamp (by decide)) <|
      z_endI2 95 hE rfl h dX12_count_95
  rcases zif h with ⟨q5, h⟩ | ⟨q5, h⟩
  · refine z_tsIn (off := 95) 1 96 (4) hX dX12_count_1 (zti 4 (by decide) q5) (by decide) (by decide) (by decide) rfl <|
      z_aload_n 96 hX dX12_count_96 rfl <|
      zgX12_7 97 hX dX12_count_97 (rfl : shp 128 = (12, 0)) <|
      z_iconst 100 hX dX12_count_100 zki5 <|
      z_ialdc (j := 5) 101 hX dX12_count_101 (rfl : shp 129 = (20, 628)) (zink 5 628 (by decide) (by decide)) (nI_clamp (by decide)) <|
      z_endI2 102 hE rfl h dX12_count_102
  rcases zif h with ⟨q6, h⟩ | ⟨q6, h⟩
  · refine z_tsIn (off := 102) 1 103 (5) hX dX12_count_1 (zti 5 (by decide) q6) (by decide) (by decide) (by decide) rfl <|
      z_aload_n 103 hX dX12_count_103 rfl <|
      zgX12_240 104 hX dX12_count_104 (rfl : shp 128 = (12, 0)) <|
      z_endI2 107 hE rfl h dX12_count_107
  rcases zif h with ⟨q7, h⟩ | ⟨q7, h⟩
  · refine z_tsIn (off := 107) 1 108 (6) hX dX12_count_1 (zti 6 (by decide) q7) (by decide) (by decide) (by decide) rfl <|
      z_aload_n 108 hX dX12_count_108 rfl <|
      zgX12_7 109 hX dX12_count_109 (rfl : shp 128 = (12, 0)) <|
      z_bipush 112 hX dX12_count_112 zkb6 <|
      z_ialdc (j := 6) 114 hX dX12_count_114 (rfl : shp 129 = (20, 628)) (zink 6 628 (by decide) (by decide)) (nI_clamp (by decide)) <|
      z_endI2 115 hE rfl h dX12_count_115
  refine z_tsOut 1 116 hX dX12_count_1 (by have e0 := zne 0 (by decide) q1; have e1 := zne 1 (by decide) q2; have e2 := zne 2 (by decide) q3; have e3 := zne 3 (by decide) q4; have e4 := zne 4 (by decide) q5; have e5 := zne 5 (by decide) q6; have e6 := zne 6 (by decide) q7; omega) rfl <|
    z_aload_n 116 hX dX12_count_116 rfl <|
    z_iconst 117 hX dX12_count_117 zki1 <|
    zb12 h fun x9 w1 r8 h => zcX12_64 118 [.int (nI 1)] [] hX dX12_count_118 (c_X12_error (zgd0 hX) r8) (rfl : shp 128 = (12, 0)) rfl rfl rfl (Nat.le_of_ble_eq_true rfl) (Nat.le_of_ble_eq_true rfl) <|
    z_endI2 121 hE rfl h dX12_count_121
def f_X12_told (a1 : Int32) (w : zW) : Option (Int32 × zW) :=
  zb (f_X12_in a1 (nI 1) (nI 6)) fun x2 =>
  if x2 = nI 0 then
    zb2 (f_X12_error (nI 1) w) fun x5 w1 =>
    some (x5, w1)
  else
    zld w 131 7 a1 fun x6 =>
    some (x6, w)
theorem c_X12_told {G : zG} {l : Launch} (hG : zgood G) {w : zW} {re : Int32} {we : zW} {a1 : Int32}  (h : f_X12_told a1 w = some (re, we)) : zMet G l yX12_told cX12_told 2 (some .int) 1 [.ref (zα G 128), .int a1] w (some (.int re)) we := by
  refine zMet_of (L0 := [some (.ref (zα G 128)), some (.int a1)]) hG zplX12 (Nat.le_of_ble_eq_true rfl) rfl rfl (fun X hl hX hEI hEV hEA => ?_)
  subst hl
  have hX : zOk G X cX12_told 2 RX12 1 := hX
  have hE := hEI _ _ rfl rfl
  rw [f_X12_told] at h
  refine z_iload_n 0 hX dX12_told_0 rfl <|
    z_iconst 1 hX dX12_told_1 zki1 <|
    z_bipush 2 hX dX12_told_2 zkb6 <|
    zb1 h fun x2 r1 h => zcX12_56 4 [.int a1, .int (nI 1), .int (nI 6)] [] hX dX12_told_4 (c_X12_in (zgd0 hX) r1) rfl rfl rfl (Nat.le_of_ble_eq_true rfl) (Nat.le_of_ble_eq_true rfl) <|
    z_if_eq 7 19 hX dX12_told_7 rfl h (fun q3 h => ?_) (fun q3 h => ?_)
  · refine z_aload_n 19 hX dX12_told_19 rfl <|
      z_iconst 20 hX dX12_told_20 zki1 <|
      zb12 h fun x5 w1 r4 h => zcX12_64 21 [.int (nI 1)] [] hX dX12_told_21 (c_X12_error (zgd0 hX) r4) (rfl : shp 128 = (12, 0)) rfl rfl rfl (Nat.le_of_ble_eq_true rfl) (Nat.le_of_ble_eq_true rfl) <|
      z_endI2 24 hE rfl h dX12_told_24
  · refine z_aload_n 10 hX dX12_told_10 rfl <|
      zgX12_16 11 hX dX12_told_11 (rfl : shp 128 = (12, 0)) <|
      z_iload_n 14 hX dX12_told_14 rfl <|
      z_iald 15 hX dX12_told_15 (rfl : shp 131 = (20, 7)) h fun x6 _ h =>
      z_goto 16 24 hX dX12_told_16 rfl <|
      z_endI2 24 hE rfl h dX12_told_24
