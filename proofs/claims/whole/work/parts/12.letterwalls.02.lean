def j_X11_sheet_29  (w : zW) : Option (Int32 × zW) :=
  zb2 (f_X11_error (nI 1) w) fun x2 w1 =>
  some (x2, w1)
theorem j_X11_sheet_29z {G : zG} {X : zX} {w : zW} {re : Int32} {we : zW}  (hX : zOk G X cX11_sheet 4 RX11 2) (hE : zEI G X cX11_sheet .int re we)  (h : j_X11_sheet_29 w = some (re, we)) : zZ G X w 29 [some (.ref (zα G 0)), none, none, none] [] := by
  rw [j_X11_sheet_29] at h
  refine z_aload_n 29 hX dX11_sheet_29 rfl <|
    z_iconst 30 hX dX11_sheet_30 zki1 <|
    zb12 h fun x2 w1 r1 h => zcX11_72 31 [.int (nI 1)] [] hX dX11_sheet_31 (c_X11_error (zgd0 hX) r1) (rfl : shp 0 = (11, 0)) rfl rfl rfl (Nat.le_of_ble_eq_true rfl) (Nat.le_of_ble_eq_true rfl) <|
    z_endI2 34 hE rfl h dX11_sheet_34
def j_X11_sheet_35 (a1 : Int32) (a2 : Int32) (a3 : Int32) (w : zW) : Option (Int32 × zW) :=
  if a2 = nI 0 then
    zguard (zin a1 4) (
    zb (f_X4_begin (104 + 2 * a1.toNatClampNeg) (nI 0) (nI 0) w) fun w4 =>
    some (nI 1, w4))
  else
  if a3 < nI 0 then
    zb2 (f_X11_error (nI 3) w) fun x9 w3 =>
    some (x9, w3)
  else
  if (nI 24) < a3 then
    zb2 (f_X11_error (nI 1) w) fun x7 w2 =>
    some (x7, w2)
  else
    zguard (zin a1 4) (
    zb (f_X4_begin (104 + 2 * a1.toNatClampNeg) a2 a3 w) fun w1 =>
    some (nI 1, w1))
theorem j_X11_sheet_35z {G : zG} {X : zX} {w : zW} {re : Int32} {we : zW} {a1 : Int32} {a2 : Int32} {a3 : Int32} (hX : zOk G X cX11_sheet 4 RX11 2) (hE : zEI G X cX11_sheet .int re we)  (h : j_X11_sheet_35 a1 a2 a3 w = some (re, we)) : zZ G X w 35 [some (.ref (zα G 0)), some (.int a1), some (.int a2), some (.int a3)] [] := by
  rw [j_X11_sheet_35] at h
  refine z_iload_n 35 hX dX11_sheet_35 rfl <|
    z_if_ne 36 52 hX dX11_sheet_36 rfl h (fun q1 h => ?_) (fun q1 h => ?_)
  · refine z_iload_n 52 hX dX11_sheet_52 rfl <|
      z_if_ge 53 62 hX dX11_sheet_53 rfl h (fun q2 h => ?_) (fun q2 h => ?_)
    · refine z_iload_n 62 hX dX11_sheet_62 rfl <|
        z_bipush 63 hX dX11_sheet_63 zkb24 <|
        z_icmp_le 65 74 hX dX11_sheet_65 rfl h (fun q3 h => ?_) (fun q3 h => ?_)
      · refine z_aload_n 74 hX dX11_sheet_74 rfl <|
          zgX11_21 75 hX dX11_sheet_75 (rfl : shp 0 = (11, 0)) <|
          z_iload_n 78 hX dX11_sheet_78 rfl <|
          z_aald 79 hX dX11_sheet_79 (rfl : shp 103 = (23, 4)) (by decide) h fun q4 h =>
          z_iload_n 80 hX dX11_sheet_80 rfl <|
          z_iload_n 81 hX dX11_sheet_81 rfl <|
          zb1 h fun w1 r5 h => zcX11_288 82 [.int a2, .int a3] [] hX dX11_sheet_82 (c_X4_begin (zgd0 hX) (ze23 _ (rfl : shp 103 = (23, 4)) _ q4) r5) (ze23 _ (rfl : shp 103 = (23, 4)) _ q4) rfl rfl rfl (Nat.le_of_ble_eq_true rfl) (Nat.le_of_ble_eq_true rfl) <|
          z_iconst 85 hX dX11_sheet_85 zki1 <|
          z_endI2 86 hE rfl h dX11_sheet_86
      · refine z_aload_n 68 hX dX11_sheet_68 rfl <|
          z_iconst 69 hX dX11_sheet_69 zki1 <|
          zb12 h fun x7 w2 r6 h => zcX11_72 70 [.int (nI 1)] [] hX dX11_sheet_70 (c_X11_error (zgd0 hX) r6) (rfl : shp 0 = (11, 0)) rfl rfl rfl (Nat.le_of_ble_eq_true rfl) (Nat.le_of_ble_eq_true rfl) <|
          z_endI2 73 hE rfl h dX11_sheet_73
    · refine z_aload_n 56 hX dX11_sheet_56 rfl <|
        z_iconst 57 hX dX11_sheet_57 zki3 <|
        zb12 h fun x9 w3 r8 h => zcX11_72 58 [.int (nI 3)] [] hX dX11_sheet_58 (c_X11_error (zgd0 hX) r8) (rfl : shp 0 = (11, 0)) rfl rfl rfl (Nat.le_of_ble_eq_true rfl) (Nat.le_of_ble_eq_true rfl) <|
        z_endI2 61 hE rfl h dX11_sheet_61
  · refine z_aload_n 39 hX dX11_sheet_39 rfl <|
      zgX11_21 40 hX dX11_sheet_40 (rfl : shp 0 = (11, 0)) <|
      z_iload_n 43 hX dX11_sheet_43 rfl <|
      z_aald 44 hX dX11_sheet_44 (rfl : shp 103 = (23, 4)) (by decide) h fun q10 h =>
      z_iconst 45 hX dX11_sheet_45 zki0 <|
      z_iconst 46 hX dX11_sheet_46 zki0 <|
      zb1 h fun w4 r11 h => zcX11_288 47 [.int (nI 0), .int (nI 0)] [] hX dX11_sheet_47 (c_X4_begin (zgd0 hX) (ze23 _ (rfl : shp 103 = (23, 4)) _ q10) r11) (ze23 _ (rfl : shp 103 = (23, 4)) _ q10) rfl rfl rfl (Nat.le_of_ble_eq_true rfl) (Nat.le_of_ble_eq_true rfl) <|
      z_iconst 50 hX dX11_sheet_50 zki1 <|
      z_endI2 51 hE rfl h dX11_sheet_51
def f_X11_sheet (a1 : Int32) (a2 : Int32) (a3 : Int32) (w : zW) : Option (Int32 × zW) :=
  zb (f_X11_isSheet a1) fun x2 =>
  if x2 = nI 0 then
    j_X11_sheet_29 w
  else
  if a2 = nI 0 then
    j_X11_sheet_35 a1 a2 a3 w
  else
  if a2 = (nI 8) then
    j_X11_sheet_35 a1 a2 a3 w
  else
  if a2 = (nI 16) then
    j_X11_sheet_35 a1 a2 a3 w
  else
  if a2 = (nI 32) then
    j_X11_sheet_35 a1 a2 a3 w
  else
    j_X11_sheet_29 w
theorem c_X11_sheet {G : zG} {l : Launch} (hG : zgood G) {w : zW} {re : Int32} {we : zW} {a1 : Int32} {a2 : Int32} {a3 : Int32}  (h : f_X11_sheet a1 a2 a3 w = some (re, we)) : zMet G l yX11_sheet cX11_sheet 4 (some .int) 2 [.ref (zα G 0), .int a1, .int a2, .int a3] w (some (.int re)) we := by
  refine zMet_of (L0 := [some (.ref (zα G 0)), some (.int a1), some (.int a2), some (.int a3)]) hG zplX11 (Nat.le_of_ble_eq_true rfl) rfl rfl (fun X hl hX hEI hEV hEA => ?_)
  subst hl
  have hX : zOk G X cX11_sheet 4 RX11 2 := hX
  have hE := hEI _ _ rfl rfl
  rw [f_X11_sheet] at h
  refine z_iload_n 0 hX dX11_sheet_0 rfl <|
    zb1 h fun x2 r1 h => zcX11_223 1 [.int a1] [] hX dX11_sheet_1 (c_X11_isSheet (zgd0 hX) r1) rfl rfl rfl (Nat.le_of_ble_eq_true rfl) (Nat.le_of_ble_eq_true rfl) <|
    z_if_eq 4 29 hX dX11_sheet_4 rfl h (fun q3 h => ?_) (fun q3 h => ?_)
  · refine z_weak (L' := [some (.ref (zα G 0)), none, none, none]) (zsub_s (zsub_n (zsub_n (zsub_n zsub_0)))) <|
      j_X11_sheet_29z hX hE h
  · refine z_iload_n 7 hX dX11_sheet_7 rfl <|
      z_if_eq 8 35 hX dX11_sheet_8 rfl h (fun q4 h => ?_) (fun q4 h => ?_)
    · refine j_X11_sheet_35z hX hE h
    · refine z_iload_n 11 hX dX11_sheet_11 rfl <|
        z_bipush 12 hX dX11_sheet_12 zkb8 <|
        z_icmp_eq 14 35 hX dX11_sheet_14 rfl h (fun q5 h => ?_) (fun q5 h => ?_)
      · refine j_X11_sheet_35z hX hE h
      · refine z_iload_n 17 hX dX11_sheet_17 rfl <|
          z_bipush 18 hX dX11_sheet_18 zkb16 <|
          z_icmp_eq 20 35 hX dX11_sheet_20 rfl h (fun q6 h => ?_) (fun q6 h => ?_)
        · refine j_X11_sheet_35z hX hE h
        · refine z_iload_n 23 hX dX11_sheet_23 rfl <|
            z_bipush 24 hX dX11_sheet_24 zkb32 <|
            z_icmp_eq 26 35 hX dX11_sheet_26 rfl h (fun q7 h => ?_) (fun q7 h => ?_)
          · refine j_X11_sheet_35z hX hE h
          · refine z_weak (L' := [some (.ref (zα G 0)), none, none, none]) (zsub_s (zsub_n (zsub_n (zsub_n zsub_0)))) <|
              j_X11_sheet_29z hX hE h
def j_X11_put_48  (w : zW) : Option (Int32 × zW) :=
  zb2 (f_X11_error (nI 1) w) fun x2 w1 =>
  some (x2, w1)
theorem j_X11_put_48z {G : zG} {X : zX} {w : zW} {re : Int32} {we : zW}  (hX : zOk G X cX11_put 5 RX11 1) (hE : zEI G X cX11_put .int re we)  (h : j_X11_put_48 w = some (re, we)) : zZ G X w 48 [some (.ref (zα G 0)), none, none, none, none] [] := by
  rw [j_X11_put_48] at h
  refine z_aload_n 48 hX dX11_put_48 rfl <|
    z_iconst 49 hX dX11_put_49 zki1 <|
    zb12 h fun x2 w1 r1 h => zcX11_72 50 [.int (nI 1)] [] hX dX11_put_50 (c_X11_error (zgd0 hX) r1) (rfl : shp 0 = (11, 0)) rfl rfl rfl (Nat.le_of_ble_eq_true rfl) (Nat.le_of_ble_eq_true rfl) <|
    z_endI2 53 hE rfl h dX11_put_53
def f_X11_put (a1 : Int32) (a2 : Int32) (a3 : Int32) (w : zW) : Option (Int32 × zW) :=
  zb (f_X11_isSheet a1) fun x2 =>
  if x2 = nI 0 then
    zb2 (f_X11_error (nI 1) w) fun x14 w3 =>
    some (x14, w3)
  else
    zguard (zin a1 4) (
    zb (f_X4_isMissing (104 + 2 * a1.toNatClampNeg) w) fun x6 =>
    if x6 = nI 0 then
      if a2 < nI 0 then
        j_X11_put_48 w
      else
      if a2 < (w (104 + 2 * a1.toNatClampNeg) 2) then
        zb (f_X4_write (104 + 2 * a1.toNatClampNeg) a2 a3 w) fun w1 =>
        some (nI 1, w1)
      else
        j_X11_put_48 w
    else
      zb2 (f_X11_error (nI 2) w) fun x12 w2 =>
      some (x12, w2))
theorem c_X11_put {G : zG} {l : Launch} (hG : zgood G) {w : zW} {re : Int32} {we : zW} {a1 : Int32} {a2 : Int32} {a3 : Int32}  (h : f_X11_put a1 a2 a3 w = some (re, we)) : zMet G l yX11_put cX11_put 5 (some .int) 1 [.ref (zα G 0), .int a1, .int a2, .int a3] w (some (.int re)) we := by
  refine zMet_of (L0 := [some (.ref (zα G 0)), some (.int a1), some (.int a2), some (.int a3), none]) hG zplX11 (Nat.le_of_ble_eq_true rfl) rfl rfl (fun X hl hX hEI hEV hEA => ?_)
  subst hl
  have hX : zOk G X cX11_put 5 RX11 1 := hX
  have hE := hEI _ _ rfl rfl
  rw [f_X11_put] at h
  refine z_iload_n 0 hX dX11_put_0 rfl <|
    zb1 h fun x2 r1 h => zcX11_223 1 [.int a1] [] hX dX11_put_1 (c_X11_isSheet (zgd0 hX) r1) rfl rfl rfl (Nat.le_of_ble_eq_true rfl) (Nat.le_of_ble_eq_true rfl) <|
    z_if_ne 4 13 hX dX11_put_4 rfl h (fun q3 h => ?_) (fun q3 h => ?_)
  · refine z_aload_n 13 hX dX11_put_13 rfl <|
      zgX11_21 14 hX dX11_put_14 (rfl : shp 0 = (11, 0)) <|
      z_iload_n 17 hX dX11_put_17 rfl <|
      z_aald 18 hX dX11_put_18 (rfl : shp 103 = (23, 4)) (by decide) h fun q4 h =>
      z_astore 19 [some (.ref (zα G 0)), some (.int a1), some (.int a2), some (.int a3), some (.ref (zα G (104 + 2 * a1.toNatClampNeg)))] hX dX11_put_19 (Nat.le_of_ble_eq_true rfl) rfl rfl <|
      z_aload 21 hX dX11_put_21 rfl <|
      zb1 h fun x6 r5 h => zcX11_226 23 [] [] hX dX11_put_23 (c_X4_isMissing (zgd0 hX) (ze23 _ (rfl : shp 103 = (23, 4)) _ q4) r5) (ze23 _ (rfl : shp 103 = (23, 4)) _ q4) rfl rfl rfl (Nat.le_of_ble_eq_true rfl) (Nat.le_of_ble_eq_true rfl) <|
      z_if_eq 26 35 hX dX11_put_26 rfl h (fun q7 h => ?_) (fun q7 h => ?_)
    · refine z_iload_n 35 hX dX11_put_35 rfl <|
        z_if_lt 36 48 hX dX11_put_36 rfl h (fun q8 h => ?_) (fun q8 h => ?_)
      · refine z_weak (L' := [some (.ref (zα G 0)), none, none, none, none]) (zsub_s (zsub_n (zsub_n (zsub_n (zsub_n zsub_0))))) <|
          j_X11_put_48z hX hE h
      · refine z_iload_n 39 hX dX11_put_39 rfl <|
          z_aload 40 hX dX11_put_40 rfl <|
          zgX11_229 42 hX dX11_put_42 (ze23 _ (rfl : shp 103 = (23, 4)) _ q4) <|
          z_icmp_lt 45 54 hX dX11_put_45 rfl h (fun q9 h => ?_) (fun q9 h => ?_)
        · refine z_aload 54 hX dX11_put_54 rfl <|
            z_iload_n 56 hX dX11_put_56 rfl <|
            z_iload_n 57 hX dX11_put_57 rfl <|
            zb1 h fun w1 r10 h => zcX11_289 58 [.int a2, .int a3] [] hX dX11_put_58 (c_X4_write (zgd0 hX) (ze23 _ (rfl : shp 103 = (23, 4)) _ q4) r10) (ze23 _ (rfl : shp 103 = (23, 4)) _ q4) rfl rfl rfl (Nat.le_of_ble_eq_true rfl) (Nat.le_of_ble_eq_true rfl) <|
            z_iconst 61 hX dX11_put_61 zki1 <|
            z_endI2 62 hE rfl h dX11_put_62
        · refine z_weak (L' := [some (.ref (zα G 0)), none, none, none, none]) (zsub_s (zsub_n (zsub_n (zsub_n (zsub_n zsub_0))))) <|
            j_X11_put_48z hX hE h
    · refine z_aload_n 29 hX dX11_put_29 rfl <|
        z_iconst 30 hX dX11_put_30 zki2 <|
        zb12 h fun x12 w2 r11 h => zcX11_72 31 [.int (nI 2)] [] hX dX11_put_31 (c_X11_error (zgd0 hX) r11) (rfl : shp 0 = (11, 0)) rfl rfl rfl (Nat.le_of_ble_eq_true rfl) (Nat.le_of_ble_eq_true rfl) <|
        z_endI2 34 hE rfl h dX11_put_34
  · refine z_aload_n 7 hX dX11_put_7 rfl <|
      z_iconst 8 hX dX11_put_8 zki1 <|
      zb12 h fun x14 w3 r13 h => zcX11_72 9 [.int (nI 1)] [] hX dX11_put_9 (c_X11_error (zgd0 hX) r13) (rfl : shp 0 = (11, 0)) rfl rfl rfl (Nat.le_of_ble_eq_true rfl) (Nat.le_of_ble_eq_true rfl) <|
      z_endI2 12 hE rfl h dX11_put_12
def j_X11_move_14  (w : zW) : Option (Int32 × zW) :=
  zb2 (f_X11_error (nI 1) w) fun x2 w1 =>
  some (x2, w1)
theorem j_X11_move_14z {G : zG} {X : zX} {w : zW} {re : Int32} {we : zW}  (hX : zOk G X cX11_move 8 RX11 1) (hE : zEI G X cX11_move .int re we)  (h : j_X11_move_14 w = some (re, we)) : zZ G X w 14 [some (.ref (zα G 0)), none, none, none, none, none, none, none] [] := by
  rw [j_X11_move_14] at h
  refine z_aload_n 14 hX dX11_move_14 rfl <|
    z_iconst 15 hX dX11_move_15 zki1 <|
    zb12 h fun x2 w1 r1 h => zcX11_72 16 [.int (nI 1)] [] hX dX11_move_16 (c_X11_error (zgd0 hX) r1) (rfl : shp 0 = (11, 0)) rfl rfl rfl (Nat.le_of_ble_eq_true rfl) (Nat.le_of_ble_eq_true rfl) <|
    z_endI2 19 hE rfl h dX11_move_19
def j_X11_move_52  (w : zW) : Option (Int32 × zW) :=
  zb2 (f_X11_error (nI 2) w) fun x2 w1 =>
  some (x2, w1)
theorem j_X11_move_52z {G : zG} {X : zX} {w : zW} {re : Int32} {we : zW}  (hX : zOk G X cX11_move 8 RX11 1) (hE : zEI G X cX11_move .int re we)  (h : j_X11_move_52 w = some (re, we)) : zZ G X w 52 [some (.ref (zα G 0)), none, none, none, none, none, none, none] [] := by
  rw [j_X11_move_52] at h
  refine z_aload_n 52 hX dX11_move_52 rfl <|
    z_iconst 53 hX dX11_move_53 zki2 <|
    zb12 h fun x2 w1 r1 h => zcX11_72 54 [.int (nI 2)] [] hX dX11_move_54 (c_X11_error (zgd0 hX) r1) (rfl : shp 0 = (11, 0)) rfl rfl rfl (Nat.le_of_ble_eq_true rfl) (Nat.le_of_ble_eq_true rfl) <|
    z_endI2 57 hE rfl h dX11_move_57
def j_X11_move_100  (w : zW) : Option (Int32 × zW) :=
  zb2 (f_X11_error (nI 1) w) fun x2 w1 =>
  some (x2, w1)
theorem j_X11_move_100z {G : zG} {X : zX} {w : zW} {re : Int32} {we : zW}  (hX : zOk G X cX11_move 8 RX11 1) (hE : zEI G X cX11_move .int re we)  (h : j_X11_move_100 w = some (re, we)) : zZ G X w 100 [some (.ref (zα G 0)), none, none, none, none, none, none, none] [] := by
  rw [j_X11_move_100] at h
  refine z_aload_n 100 hX dX11_move_100 rfl <|
    z_iconst 101 hX dX11_move_101 zki1 <|
    zb12 h fun x2 w1 r1 h => zcX11_72 102 [.int (nI 1)] [] hX dX11_move_102 (c_X11_error (zgd0 hX) r1) (rfl : shp 0 = (11, 0)) rfl rfl rfl (Nat.le_of_ble_eq_true rfl) (Nat.le_of_ble_eq_true rfl) <|
    z_endI2 105 hE rfl h dX11_move_105
def f_X11_move (a1 : Int32) (a2 : Int32) (a3 : Int32) (a4 : Int32) (a5 : Int32) (w : zW) : Option (Int32 × zW) :=
  zb (f_X11_isSheet a1) fun x2 =>
  if x2 = nI 0 then
    j_X11_move_14 w
  else
    zb (f_X11_isSheet a3) fun x5 =>
    if x5 = nI 0 then
      j_X11_move_14 w
    else
      zguard (zin a1 4) (
      zguard (zin a3 4) (
      zb (f_X4_isMissing (104 + 2 * a1.toNatClampNeg) w) fun x10 =>
      if x10 = nI 0 then
        zb (f_X4_isMissing (104 + 2 * a3.toNatClampNeg) w) fun x13 =>
        if x13 = nI 0 then
          if (w (104 + 2 * a1.toNatClampNeg) 1) = (w (104 + 2 * a3.toNatClampNeg) 1) then
            zb (f_X4_holds (104 + 2 * a1.toNatClampNeg) a2 a5 w) fun x17 =>
            if x17 = nI 0 then
              j_X11_move_100 w
            else
              zb (f_X4_holds (104 + 2 * a3.toNatClampNeg) a4 a5 w) fun x20 =>
              if x20 = nI 0 then
                j_X11_move_100 w
              else
                zguard (zcpyok a2 a4 a5 24 24) (zlet (zcopy w ((104 + 2 * a1.toNatClampNeg) + 1) ((104 + 2 * a3.toNatClampNeg) + 1) a2 a4 a5) fun w1 =>
                some (a5, w1))
          else
            zb2 (f_X11_error (nI 5) w) fun x23 w2 =>
            some (x23, w2)
        else
          j_X11_move_52 w
      else
        j_X11_move_52 w))
theorem c_X11_move {G : zG} {l : Launch} (hG : zgood G) {w : zW} {re : Int32} {we : zW} {a1 : Int32} {a2 : Int32} {a3 : Int32} {a4 : Int32} {a5 : Int32}  (h : f_X11_move a1 a2 a3 a4 a5 w = some (re, we)) : zMet G l yX11_move cX11_move 8 (some .int) 1 [.ref (zα G 0), .int a1, .int a2, .int a3, .int a4, .int a5] w (some (.int re)) we := by
  refine zMet_of (L0 := [some (.ref (zα G 0)), some (.int a1), some (.int a2), some (.int a3), some (.int a4), some (.int a5), none, none]) hG zplX11 (Nat.le_of_ble_eq_true rfl) rfl rfl (fun X hl hX hEI hEV hEA => ?_)
  subst hl
  have hX : zOk G X cX11_move 8 RX11 1 := hX
  have hE := hEI _ _ rfl rfl
  rw [f_X11_move] at h
  refine z_iload_n 0 hX dX11_move_0 rfl <|
    zb1 h fun x2 r1 h => zcX11_223 1 [.int a1] [] hX dX11_move_1 (c_X11_isSheet (zgd0 hX) r1) rfl rfl rfl (Nat.le_of_ble_eq_true rfl) (Nat.le_of_ble_eq_true rfl) <|
    z_if_eq 4 14 hX dX11_move_4 rfl h (fun q3 h => ?_) (fun q3 h => ?_)
  · refine z_weak (L' := [some (.ref (zα G 0)), none, none, none, none, none, none, none]) (zsub_s (zsub_n (zsub_n (zsub_n (zsub_n (zsub_n (zsub_n (zsub_n zsub_0)))))))) <|
      j_X11_move_14z hX hE h
  · refine z_iload_n 7 hX dX11_move_7 rfl <|
      zb1 h fun x5 r4 h => zcX11_223 8 [.int a3] [] hX dX11_move_8 (c_X11_isSheet (zgd0 hX) r4) rfl rfl rfl (Nat.le_of_ble_eq_true rfl) (Nat.le_of_ble_eq_true rfl) <|
      z_if_ne 11 20 hX dX11_move_11 rfl h (fun q6 h => ?_) (fun q6 h => ?_)
    · refine z_aload_n 20 hX dX11_move_20 rfl <|
        zgX11_21 21 hX dX11_move_21 (rfl : shp 0 = (11, 0)) <|
        z_iload_n 24 hX dX11_move_24 rfl <|
        z_aald 25 hX dX11_move_25 (rfl : shp 103 = (23, 4)) (by decide) h fun q7 h =>
        z_astore 26 [some (.ref (zα G 0)), some (.int a1), some (.int a2), some (.int a3), some (.int a4), some (.int a5), some (.ref (zα G (104 + 2 * a1.toNatClampNeg))), none] hX dX11_move_26 (Nat.le_of_ble_eq_true rfl) rfl rfl <|
        z_aload_n 28 hX dX11_move_28 rfl <|
        zgX11_21 29 hX dX11_move_29 (rfl : shp 0 = (11, 0)) <|
        z_iload_n 32 hX dX11_move_32 rfl <|
        z_aald 33 hX dX11_move_33 (rfl : shp 103 = (23, 4)) (by decide) h fun q8 h =>
        z_astore 34 [some (.ref (zα G 0)), some (.int a1), some (.int a2), some (.int a3), some (.int a4), some (.int a5), some (.ref (zα G (104 + 2 * a1.toNatClampNeg))), some (.ref (zα G (104 + 2 * a3.toNatClampNeg)))] hX dX11_move_34 (Nat.le_of_ble_eq_true rfl) rfl rfl <|
        z_aload 36 hX dX11_move_36 rfl <|
        zb1 h fun x10 r9 h => zcX11_226 38 [] [] hX dX11_move_38 (c_X4_isMissing (zgd0 hX) (ze23 _ (rfl : shp 103 = (23, 4)) _ q7) r9) (ze23 _ (rfl : shp 103 = (23, 4)) _ q7) rfl rfl rfl (Nat.le_of_ble_eq_true rfl) (Nat.le_of_ble_eq_true rfl) <|
        z_if_ne 41 52 hX dX11_move_41 rfl h (fun q11 h => ?_) (fun q11 h => ?_)
      · refine z_weak (L' := [some (.ref (zα G 0)), none, none, none, none, none, none, none]) (zsub_s (zsub_n (zsub_n (zsub_n (zsub_n (zsub_n (zsub_n (zsub_n zsub_0)))))))) <|
          j_X11_move_52z hX hE h
      · refine z_aload 44 hX dX11_move_44 rfl <|
          zb1 h fun x13 r12 h => zcX11_226 46 [] [] hX dX11_move_46 (c_X4_isMissing (zgd0 hX) (ze23 _ (rfl : shp 103 = (23, 4)) _ q8) r12) (ze23 _ (rfl : shp 103 = (23, 4)) _ q8) rfl rfl rfl (Nat.le_of_ble_eq_true rfl) (Nat.le_of_ble_eq_true rfl) <|
          z_if_eq 49 58 hX dX11_move_49 rfl h (fun q14 h => ?_) (fun q14 h => ?_)
        · refine z_aload 58 hX dX11_move_58 rfl <|
            zgX11_292 60 hX dX11_move_60 (ze23 _ (rfl : shp 103 = (23, 4)) _ q7) <|
            z_aload 63 hX dX11_move_63 rfl <|
            zgX11_292 65 hX dX11_move_65 (ze23 _ (rfl : shp 103 = (23, 4)) _ q8) <|
            z_icmp_eq 68 77 hX dX11_move_68 rfl h (fun q15 h => ?_) (fun q15 h => ?_)
          · refine z_aload 77 hX dX11_move_77 rfl <|
              z_iload_n 79 hX dX11_move_79 rfl <|
              z_iload 80 hX dX11_move_80 rfl <|
              zb1 h fun x17 r16 h => zcX11_295 82 [.int a2, .int a5] [] hX dX11_move_82 (c_X4_holds (zgd0 hX) (ze23 _ (rfl : shp 103 = (23, 4)) _ q7) r16) (ze23 _ (rfl : shp 103 = (23, 4)) _ q7) rfl rfl rfl (Nat.le_of_ble_eq_true rfl) (Nat.le_of_ble_eq_true rfl) <|
              z_if_eq 85 100 hX dX11_move_85 rfl h (fun q18 h => ?_) (fun q18 h => ?_)
            · refine z_weak (L' := [some (.ref (zα G 0)), none, none, none, none, none, none, none]) (zsub_s (zsub_n (zsub_n (zsub_n (zsub_n (zsub_n (zsub_n (zsub_n zsub_0)))))))) <|
                j_X11_move_100z hX hE h
            · refine z_aload 88 hX dX11_move_88 rfl <|
                z_iload 90 hX dX11_move_90 rfl <|
                z_iload 92 hX dX11_move_92 rfl <|
                zb1 h fun x20 r19 h => zcX11_295 94 [.int a4, .int a5] [] hX dX11_move_94 (c_X4_holds (zgd0 hX) (ze23 _ (rfl : shp 103 = (23, 4)) _ q8) r19) (ze23 _ (rfl : shp 103 = (23, 4)) _ q8) rfl rfl rfl (Nat.le_of_ble_eq_true rfl) (Nat.le_of_ble_eq_true rfl) <|
                z_if_ne 97 106 hX dX11_move_97 rfl h (fun q21 h => ?_) (fun q21 h => ?_)
              · refine z_aload 106 hX dX11_move_106 rfl <|
                  zgX11_230 108 hX dX11_move_108 (ze23 _ (rfl : shp 103 = (23, 4)) _ q7) <|
                  z_iload_n 111 hX dX11_move_111 rfl <|
                  z_aload 112 hX dX11_move_112 rfl <|
                  zgX11_230 114 hX dX11_move_114 (ze23 _ (rfl : shp 103 = (23, 4)) _ q8) <|
                  z_iload 117 hX dX11_move_117 rfl <|
                  z_iload 119 hX dX11_move_119 rfl <|
                  z_copy 121 hX dX11_move_121 zw970 zw619 zw618 zw87 (zr4_numbers _ (ze23 _ (rfl : shp 103 = (23, 4)) _ q7)) (zr4_numbers _ (ze23 _ (rfl : shp 103 = (23, 4)) _ q8)) rfl (Nat.le_of_ble_eq_true rfl) (Nat.le_of_ble_eq_true rfl) h fun h =>
                  z_w h fun w1 h =>
                  z_iload 124 hX dX11_move_124 rfl <|
                  z_endI2 126 hE rfl h dX11_move_126
              · refine z_weak (L' := [some (.ref (zα G 0)), none, none, none, none, none, none, none]) (zsub_s (zsub_n (zsub_n (zsub_n (zsub_n (zsub_n (zsub_n (zsub_n zsub_0)))))))) <|
                  j_X11_move_100z hX hE h
          · refine z_aload_n 71 hX dX11_move_71 rfl <|
              z_iconst 72 hX dX11_move_72 zki5 <|
              zb12 h fun x23 w2 r22 h => zcX11_72 73 [.int (nI 5)] [] hX dX11_move_73 (c_X11_error (zgd0 hX) r22) (rfl : shp 0 = (11, 0)) rfl rfl rfl (Nat.le_of_ble_eq_true rfl) (Nat.le_of_ble_eq_true rfl) <|
              z_endI2 76 hE rfl h dX11_move_76
        · refine z_weak (L' := [some (.ref (zα G 0)), none, none, none, none, none, none, none]) (zsub_s (zsub_n (zsub_n (zsub_n (zsub_n (zsub_n (zsub_n (zsub_n zsub_0)))))))) <|
            j_X11_move_52z hX hE h
    · refine z_weak (L' := [some (.ref (zα G 0)), none, none, none, none, none, none, none]) (zsub_s (zsub_n (zsub_n (zsub_n (zsub_n (zsub_n (zsub_n (zsub_n zsub_0)))))))) <|
        j_X11_move_14z hX hE h
def j_X11_bricks_18  (w : zW) : Option (Int32 × zW) :=
  zb2 (f_X11_error (nI 1) w) fun x2 w1 =>
  some (x2, w1)
theorem j_X11_bricks_18z {G : zG} {X : zX} {w : zW} {re : Int32} {we : zW}  (hX : zOk G X cX11_bricks 8 RX11 1) (hE : zEI G X cX11_bricks .int re we)  (h : j_X11_bricks_18 w = some (re, we)) : zZ G X w 18 [some (.ref (zα G 0)), none, none, none, none, none, none, none] [] := by
  rw [j_X11_bricks_18] at h
  refine z_aload_n 18 hX dX11_bricks_18 rfl <|
    z_iconst 19 hX dX11_bricks_19 zki1 <|
    zb12 h fun x2 w1 r1 h => zcX11_72 20 [.int (nI 1)] [] hX dX11_bricks_20 (c_X11_error (zgd0 hX) r1) (rfl : shp 0 = (11, 0)) rfl rfl rfl (Nat.le_of_ble_eq_true rfl) (Nat.le_of_ble_eq_true rfl) <|
    z_endI2 23 hE rfl h dX11_bricks_23
def j_X11_bricks_104 (rc : Nat → Nat → Int32 → Int32 → zW → Option (Int32 × zW)) (K101 : Int32 → zW → Option (Int32 × zW)) (K120 : Int32 → zW → Option (Int32 × zW)) (a3 : Nat) (a4 : Nat) (a5 : Int32) (a6 : Int32) (a7 : Int32) (w : zW) : Option (Int32 × zW) :=
  zsto w (a4 + 1) 24 a6 a7 fun w1 =>
  zlet (a6 + nI 1) fun x1 =>
  rc a3 a4 a5 x1 w1
theorem j_X11_bricks_104z {rc : Nat → Nat → Int32 → Int32 → zW → Option (Int32 × zW)} {K101 : Int32 → zW → Option (Int32 × zW)} {K120 : Int32 → zW → Option (Int32 × zW)} {G : zG} {X : zX} {w : zW} {re : Int32} {we : zW} {a3 : Nat} {a4 : Nat} {a5 : Int32} {a6 : Int32} {a7 : Int32} (hX : zOk G X cX11_bricks 8 RX11 1) (hE : zEI G X cX11_bricks .int re we) (hrc : ∀ (a3 : Nat) (a4 : Nat) (a5 : Int32) (a6 : Int32) (w3 : zW) (ha3 : shp a3 = (4, 0)) (ha4 : shp a4 = (9, 0)), rc a3 a4 a5 a6 w3 = some (re, we) → zZ G X w3 72 [none, none, none, some (.ref (zα G a3)), some (.ref (zα G a4)), some (.int a5), some (.int a6), none] []) (hK101 : ∀ (a6 : Int32) (w3 : zW) , K101 a6 w3 = some (re, we) → zZ G X w3 101 [none, none, none, none, none, none, some (.int a6), none] []) (hK120 : ∀ (a5 : Int32) (w3 : zW) , K120 a5 w3 = some (re, we) → zZ G X w3 120 [none, none, none, none, none, some (.int a5), none, none] []) (ha3 : shp a3 = (4, 0)) (ha4 : shp a4 = (9, 0)) (h : j_X11_bricks_104 rc K101 K120 a3 a4 a5 a6 a7 w = some (re, we)) : zZ G X w 104 [none, none, none, some (.ref (zα G a3)), some (.ref (zα G a4)), some (.int a5), some (.int a6), some (.int a7)] [] := by
  rw [j_X11_bricks_104] at h
  refine z_aload 104 hX dX11_bricks_104 rfl <|
    zgX11_132 106 hX dX11_bricks_106 ha4 <|
    z_iload 109 hX dX11_bricks_109 rfl <|
    z_iload 111 hX dX11_bricks_111 rfl <|
    z_iast 113 hX dX11_bricks_113 (zr9_stones _ ha4) h fun w1 h =>
    z_iincG 114 (fun x1 => [none, none, none, some (.ref (zα G a3)), some (.ref (zα G a4)), some (.int a5), some (.int x1), some (.int a7)]) hX dX11_bricks_114 rfl zki1 rfl (fun _ => rfl) h fun x1 h =>
    z_goto 117 72 hX dX11_bricks_117 rfl <|
    z_weak (L' := [none, none, none, some (.ref (zα G a3)), some (.ref (zα G a4)), some (.int a5), some (.int x1), none]) (zsub_n (zsub_n (zsub_n (zsub_s (zsub_s (zsub_s (zsub_s (zsub_n zsub_0)))))))) <|
    hrc _ _ _ _ _ ha3 ha4 h
def l_X11_bricks_72 (K101 : Int32 → zW → Option (Int32 × zW)) (K120 : Int32 → zW → Option (Int32 × zW)) : Nat → Nat → Nat → Int32 → Int32 → zW → Option (Int32 × zW)
  | 0, _, _, _, _, _ => none
  | n + 1, a3, a4, a5, a6, w =>
    if a6 < a5 then
      zld w (a3 + 1) 24 a6 fun x2 =>
      if x2 = nI 0 then
        j_X11_bricks_104 (l_X11_bricks_72 K101 K120 n) K101 K120 a3 a4 a5 a6 x2 w
      else
        zb (f_X11_isLetter x2) fun x5 =>
        if x5 = nI 0 then
          K101 a6 w
        else
          j_X11_bricks_104 (l_X11_bricks_72 K101 K120 n) K101 K120 a3 a4 a5 a6 x2 w
    else
      K120 a5 w
theorem l_X11_bricks_72z {K101 : Int32 → zW → Option (Int32 × zW)} {K120 : Int32 → zW → Option (Int32 × zW)} {G : zG} {X : zX} {re : Int32} {we : zW} (hX : zOk G X cX11_bricks 8 RX11 1) (hE : zEI G X cX11_bricks .int re we) (hK101 : ∀ (a6 : Int32) (w3 : zW) , K101 a6 w3 = some (re, we) → zZ G X w3 101 [none, none, none, none, none, none, some (.int a6), none] []) (hK120 : ∀ (a5 : Int32) (w3 : zW) , K120 a5 w3 = some (re, we) → zZ G X w3 120 [none, none, none, none, none, some (.int a5), none, none] []) : ∀ (n : Nat) (a3 : Nat) (a4 : Nat) (a5 : Int32) (a6 : Int32) (w : zW) (ha3 : shp a3 = (4, 0)) (ha4 : shp a4 = (9, 0)), l_X11_bricks_72 K101 K120 n a3 a4 a5 a6 w = some (re, we) → zZ G X w 72 [none, none, none, some (.ref (zα G a3)), some (.ref (zα G a4)), some (.int a5), some (.int a6), none] [] := by
  intro n
  induction n with
  | zero =>
    intro a3 a4 a5 a6 w ha3 ha4 h
    rw [l_X11_bricks_72.eq_1] at h
    cases h
  | succ n ih =>
    intro a3 a4 a5 a6 w ha3 ha4 h
    rw [l_X11_bricks_72.eq_2] at h
    refine z_iload 72 hX dX11_bricks_72 rfl <|
      z_iload 74 hX dX11_bricks_74 rfl <|
      z_icmp_ge 76 120 hX dX11_bricks_76 rfl h (fun q1 h => ?_) (fun q1 h => ?_)
    · refine z_weak (L' := [none, none, none, none, none, some (.int a5), none, none]) (zsub_n (zsub_n (zsub_n (zsub_n (zsub_n (zsub_s (zsub_n (zsub_n zsub_0)))))))) <|
        hK120 _ _ h
    · refine z_aload_n 79 hX dX11_bricks_79 rfl <|
        zgX11_230 80 hX dX11_bricks_80 ha3 <|
        z_iload 83 hX dX11_bricks_83 rfl <|
        z_iald 85 hX dX11_bricks_85 (zr4_numbers _ ha3) h fun x2 _ h =>
        z_istore 86 [none, none, none, some (.ref (zα G a3)), some (.ref (zα G a4)), some (.int a5), some (.int a6), some (.int x2)] hX dX11_bricks_86 (Nat.le_of_ble_eq_true rfl) rfl rfl <|
        z_iload 88 hX dX11_bricks_88 rfl <|
        z_if_eq 90 104 hX dX11_bricks_90 rfl h (fun q3 h => ?_) (fun q3 h => ?_)
      · refine j_X11_bricks_104z hX hE ih hK101 hK120 ha3 ha4 h
      · refine z_iload 93 hX dX11_bricks_93 rfl <|
          zb1 h fun x5 r4 h => zcX11_138 95 [.int x2] [] hX dX11_bricks_95 (c_X11_isLetter (zgd0 hX) r4) rfl rfl rfl (Nat.le_of_ble_eq_true rfl) (Nat.le_of_ble_eq_true rfl) <|
          z_if_ne 98 104 hX dX11_bricks_98 rfl h (fun q6 h => ?_) (fun q6 h => ?_)
        · refine j_X11_bricks_104z hX hE ih hK101 hK120 ha3 ha4 h
        · refine z_weak (L' := [none, none, none, none, none, none, some (.int a6), none]) (zsub_n (zsub_n (zsub_n (zsub_n (zsub_n (zsub_n (zsub_s (zsub_n zsub_0)))))))) <|
            hK101 _ _ h
def f_X11_bricks (a1 : Int32) (a2 : Int32) (w : zW) : Option (Int32 × zW) :=
  zb (f_X11_isSheet a1) fun x2 =>
  if x2 = nI 0 then
    j_X11_bricks_18 w
  else
    zb (f_X8_hasWall a2 w) fun x5 =>
    if x5 = nI 0 then
      j_X11_bricks_18 w
    else
      zguard (zin a1 4) (
      zb (f_X4_isMissing (104 + 2 * a1.toNatClampNeg) w) fun x9 =>
      if x9 = nI 0 then
        zguard (zin a2 6) (
        zlet (if (w (40 + 2 * a2.toNatClampNeg) 3) < (w (104 + 2 * a1.toNatClampNeg) 2) then (w (40 + 2 * a2.toNatClampNeg) 3) else (w (104 + 2 * a1.toNatClampNeg) 2)) fun x12 =>
        l_X11_bricks_72 (fun k101_a6 w11 =>
          some (k101_a6, w11)) (fun k120_a5 w21 =>
          some (k120_a5, w21)) zfuel (104 + 2 * a1.toNatClampNeg) (40 + 2 * a2.toNatClampNeg) x12 (nI 0) w)
      else
        zb2 (f_X11_error (nI 2) w) fun x14 w1 =>
        some (x14, w1))
theorem c_X11_bricks {G : zG} {l : Launch} (hG : zgood G) {w : zW} {re : Int32} {we : zW} {a1 : Int32} {a2 : Int32}  (h : f_X11_bricks a1 a2 w = some (re, we)) : zMet G l yX11_bricks cX11_bricks 8 (some .int) 1 [.ref (zα G 0), .int a1, .int a2] w (some (.int re)) we := by
  refine zMet_of (L0 := [some (.ref (zα G 0)), some (.int a1), some (.int a2), none, none, none, none, none]) hG zplX11 (Nat.le_of_ble_eq_true rfl) rfl rfl (fun X hl hX hEI hEV hEA => ?_)
  subst hl
  have hX : zOk G X cX11_bricks 8 RX11 1 := hX
  have hE := hEI _ _ rfl rfl
  rw [f_X11_bricks] at h
  refine z_iload_n 0 hX dX11_bricks_0 rfl <|
    zb1 h fun x2 r1 h => zcX11_223 1 [.int a1] [] hX dX11_bricks_1 (c_X11_isSheet (zgd0 hX) r1) rfl rfl rfl (Nat.le_of_ble_eq_true rfl) (Nat.le_of_ble_eq_true rfl) <|
    z_if_eq 4 18 hX dX11_bricks_4 rfl h (fun q3 h => ?_) (fun q3 h => ?_)
  · refine z_weak (L' := [some (.ref (zα G 0)), none, none, none, none, none, none, none]) (zsub_s (zsub_n (zsub_n (zsub_n (zsub_n (zsub_n (zsub_n (zsub_n zsub_0)))))))) <|
      j_X11_bricks_18z hX hE h
  · refine z_aload_n 7 hX dX11_bricks_7 rfl <|
      zgX11_12 8 hX dX11_bricks_8 (rfl : shp 0 = (11, 0)) <|
      z_iload_n 11 hX dX11_bricks_11 rfl <|
      zb1 h fun x5 r4 h => zcX11_88 12 [.int a2] [] hX dX11_bricks_12 (c_X8_hasWall (zgd0 hX) r4) (rfl : shp 1 = (8, 0)) rfl rfl rfl (Nat.le_of_ble_eq_true rfl) (Nat.le_of_ble_eq_true rfl) <|
      z_if_ne 15 24 hX dX11_bricks_15 rfl h (fun q6 h => ?_) (fun q6 h => ?_)
    · refine z_aload_n 24 hX dX11_bricks_24 rfl <|
        zgX11_21 25 hX dX11_bricks_25 (rfl : shp 0 = (11, 0)) <|
        z_iload_n 28 hX dX11_bricks_28 rfl <|
        z_aald 29 hX dX11_bricks_29 (rfl : shp 103 = (23, 4)) (by decide) h fun q7 h =>
        z_astore_n 30 [some (.ref (zα G 0)), some (.int a1), some (.int a2), some (.ref (zα G (104 + 2 * a1.toNatClampNeg))), none, none, none, none] hX dX11_bricks_30 (Nat.le_of_ble_eq_true rfl) rfl rfl <|
        z_aload_n 31 hX dX11_bricks_31 rfl <|
        zb1 h fun x9 r8 h => zcX11_226 32 [] [] hX dX11_bricks_32 (c_X4_isMissing (zgd0 hX) (ze23 _ (rfl : shp 103 = (23, 4)) _ q7) r8) (ze23 _ (rfl : shp 103 = (23, 4)) _ q7) rfl rfl rfl (Nat.le_of_ble_eq_true rfl) (Nat.le_of_ble_eq_true rfl) <|
        z_if_eq 35 44 hX dX11_bricks_35 rfl h (fun q10 h => ?_) (fun q10 h => ?_)
      · refine z_aload_n 44 hX dX11_bricks_44 rfl <|
          zgX11_12 45 hX dX11_bricks_45 (rfl : shp 0 = (11, 0)) <|
          zgX11_80 48 hX dX11_bricks_48 (rfl : shp 1 = (8, 0)) <|
          z_iload_n 51 hX dX11_bricks_51 rfl <|
          z_aald 52 hX dX11_bricks_52 (rfl : shp 2 = (21, 6)) (by decide) h fun q11 h =>
          z_astore 53 [some (.ref (zα G 0)), some (.int a1), some (.int a2), some (.ref (zα G (104 + 2 * a1.toNatClampNeg))), some (.ref (zα G (40 + 2 * a2.toNatClampNeg))), none, none, none] hX dX11_bricks_53 (Nat.le_of_ble_eq_true rfl) rfl rfl <|
          z_aload_n 55 hX dX11_bricks_55 rfl <|
          zgX11_229 56 hX dX11_bricks_56 (ze23 _ (rfl : shp 103 = (23, 4)) _ q7) <|
          z_aload 59 hX dX11_bricks_59 rfl <|
          zgX11_102 61 hX dX11_bricks_61 (ze21 _ (rfl : shp 2 = (21, 6)) _ q11) <|
          z_mmin 64 hX dX11_bricks_64 zw909 zw538 zw86 zw539 rfl (Nat.le_of_ble_eq_true rfl) (Nat.le_of_ble_eq_true rfl) <|
          z_top h fun x12 h =>
          z_istore 67 [some (.ref (zα G 0)), some (.int a1), some (.int a2), some (.ref (zα G (104 + 2 * a1.toNatClampNeg))), some (.ref (zα G (40 + 2 * a2.toNatClampNeg))), some (.int x12), none, none] hX dX11_bricks_67 (Nat.le_of_ble_eq_true rfl) rfl rfl <|
          z_iconst 69 hX dX11_bricks_69 zki0 <|
          z_istore 70 [some (.ref (zα G 0)), some (.int a1), some (.int a2), some (.ref (zα G (104 + 2 * a1.toNatClampNeg))), some (.ref (zα G (40 + 2 * a2.toNatClampNeg))), some (.int x12), some (.int (nI 0)), none] hX dX11_bricks_70 (Nat.le_of_ble_eq_true rfl) rfl rfl <|
          z_weak (L' := [none, none, none, some (.ref (zα G (104 + 2 * a1.toNatClampNeg))), some (.ref (zα G (40 + 2 * a2.toNatClampNeg))), some (.int x12), some (.int (nI 0)), none]) (zsub_n (zsub_n (zsub_n (zsub_s (zsub_s (zsub_s (zsub_s (zsub_n zsub_0)))))))) <|
          l_X11_bricks_72z hX hE (fun k101_a6 w11 h => ?_) (fun k120_a5 w21 h => ?_) _ _ _ _ _ _ (ze23 _ (rfl : shp 103 = (23, 4)) _ q7) (ze21 _ (rfl : shp 2 = (21, 6)) _ q11) h
        · refine z_iload 101 hX dX11_bricks_101 rfl <|
            z_endI2 103 hE rfl h dX11_bricks_103
        · refine z_iload 120 hX dX11_bricks_120 rfl <|
            z_endI2 122 hE rfl h dX11_bricks_122
      · refine z_aload_n 38 hX dX11_bricks_38 rfl <|
          z_iconst 39 hX dX11_bricks_39 zki2 <|
          zb12 h fun x14 w1 r13 h => zcX11_72 40 [.int (nI 2)] [] hX dX11_bricks_40 (c_X11_error (zgd0 hX) r13) (rfl : shp 0 = (11, 0)) rfl rfl rfl (Nat.le_of_ble_eq_true rfl) (Nat.le_of_ble_eq_true rfl) <|
          z_endI2 43 hE rfl h dX11_bricks_43
    · refine z_weak (L' := [some (.ref (zα G 0)), none, none, none, none, none, none, none]) (zsub_s (zsub_n (zsub_n (zsub_n (zsub_n (zsub_n (zsub_n (zsub_n zsub_0)))))))) <|
        j_X11_bricks_18z hX hE h
def f_X11_image  (w : zW) : Option (Int32 × zW) :=
  zb (f_X8_copyFrom 52 1 w) fun w1 =>
  zlet (zupd w1 0 10 ((w1 0 10) + (nI 1))) fun w2 =>
  some (w2 0 10, w2)
theorem c_X11_image {G : zG} {l : Launch} (hG : zgood G) {w : zW} {re : Int32} {we : zW}   (h : f_X11_image w = some (re, we)) : zMet G l yX11_image cX11_image 1 (some .int) 4 [.ref (zα G 0)] w (some (.int re)) we := by
  refine zMet_of (L0 := [some (.ref (zα G 0))]) hG zplX11 (Nat.le_of_ble_eq_true rfl) rfl rfl (fun X hl hX hEI hEV hEA => ?_)
  subst hl
  have hX : zOk G X cX11_image 1 RX11 4 := hX
  have hE := hEI _ _ rfl rfl
  rw [f_X11_image] at h
  refine z_aload_n 0 hX dX11_image_0 rfl <|
    zgX11_16 1 hX dX11_image_1 (rfl : shp 0 = (11, 0)) <|
    z_aload_n 4 hX dX11_image_4 rfl <|
    zgX11_12 5 hX dX11_image_5 (rfl : shp 0 = (11, 0)) <|
    zb1 h fun w1 r1 h => zcX11_309 8 [.ref (zα G 1)] [] hX dX11_image_8 (c_X8_copyFrom (zgd0 hX) (rfl : shp 52 = (8, 0)) (rfl : shp 1 = (8, 0)) r1) (rfl : shp 52 = (8, 0)) rfl rfl rfl (Nat.le_of_ble_eq_true rfl) (Nat.le_of_ble_eq_true rfl) <|
    z_aload_n 11 hX dX11_image_11 rfl <|
    z_dup 12 hX dX11_image_12 rfl <|
    zgX11_312 13 hX dX11_image_13 (rfl : shp 0 = (11, 0)) <|
    z_iconst 16 hX dX11_image_16 zki1 <|
    z_iadd 17 hX dX11_image_17 <|
    zpX11_312 18 hX dX11_image_18 (rfl : shp 0 = (11, 0)) <|
    z_w h fun w2 h =>
    z_aload_n 21 hX dX11_image_21 rfl <|
    zgX11_312 22 hX dX11_image_22 (rfl : shp 0 = (11, 0)) <|
    z_endI2 25 hE rfl h dX11_image_25
def f_X11_restore  (w : zW) : Option (Int32 × zW) :=
  if (w 0 10) = nI 0 then
    zb2 (f_X11_error (nI 2) w) fun x4 w2 =>
    some (x4, w2)
  else
    zb (f_X8_copyFrom 1 52 w) fun w1 =>
    some (w1 1 7, w1)
theorem c_X11_restore {G : zG} {l : Launch} (hG : zgood G) {w : zW} {re : Int32} {we : zW}   (h : f_X11_restore w = some (re, we)) : zMet G l yX11_restore cX11_restore 1 (some .int) 4 [.ref (zα G 0)] w (some (.int re)) we := by
  refine zMet_of (L0 := [some (.ref (zα G 0))]) hG zplX11 (Nat.le_of_ble_eq_true rfl) rfl rfl (fun X hl hX hEI hEV hEA => ?_)
  subst hl
  have hX : zOk G X cX11_restore 1 RX11 4 := hX
  have hE := hEI _ _ rfl rfl
  rw [f_X11_restore] at h
  refine z_aload_n 0 hX dX11_restore_0 rfl <|
    zgX11_312 1 hX dX11_restore_1 (rfl : shp 0 = (11, 0)) <|
    z_if_ne 4 13 hX dX11_restore_4 rfl h (fun q1 h => ?_) (fun q1 h => ?_)
  · refine z_aload_n 13 hX dX11_restore_13 rfl <|
      zgX11_12 14 hX dX11_restore_14 (rfl : shp 0 = (11, 0)) <|
      z_aload_n 17 hX dX11_restore_17 rfl <|
      zgX11_16 18 hX dX11_restore_18 (rfl : shp 0 = (11, 0)) <|
      zb1 h fun w1 r2 h => zcX11_309 21 [.ref (zα G 52)] [] hX dX11_restore_21 (c_X8_copyFrom (zgd0 hX) (rfl : shp 1 = (8, 0)) (rfl : shp 52 = (8, 0)) r2) (rfl : shp 1 = (8, 0)) rfl rfl rfl (Nat.le_of_ble_eq_true rfl) (Nat.le_of_ble_eq_true rfl) <|
      z_aload_n 24 hX dX11_restore_24 rfl <|
      zgX11_12 25 hX dX11_restore_25 (rfl : shp 0 = (11, 0)) <|
      zgX11_76 28 hX dX11_restore_28 (rfl : shp 1 = (8, 0)) <|
      z_endI2 31 hE rfl h dX11_restore_31
  · refine z_aload_n 7 hX dX11_restore_7 rfl <|
      z_iconst 8 hX dX11_restore_8 zki2 <|
      zb12 h fun x4 w2 r3 h => zcX11_72 9 [.int (nI 2)] [] hX dX11_restore_9 (c_X11_error (zgd0 hX) r3) (rfl : shp 0 = (11, 0)) rfl rfl rfl (Nat.le_of_ble_eq_true rfl) (Nat.le_of_ble_eq_true rfl) <|
      z_endI2 12 hE rfl h dX11_restore_12
def f_X11_tell (a1 : Int32) (w : zW) : Option (Int32 × zW) :=
  if (w 1 9) < (nI 24) then
    zsto w 39 24 (w 1 9) a1 fun w1 =>
    zlet (zupd w1 1 9 ((w1 1 9) + (nI 1))) fun w2 =>
    some (w2 1 9, w2)
  else
    zb2 (f_X11_error (nI 4) w) fun x3 w3 =>
    some (x3, w3)
theorem c_X11_tell {G : zG} {l : Launch} (hG : zgood G) {w : zW} {re : Int32} {we : zW} {a1 : Int32}  (h : f_X11_tell a1 w = some (re, we)) : zMet G l yX11_tell cX11_tell 2 (some .int) 1 [.ref (zα G 0), .int a1] w (some (.int re)) we := by
  refine zMet_of (L0 := [some (.ref (zα G 0)), some (.int a1)]) hG zplX11 (Nat.le_of_ble_eq_true rfl) rfl rfl (fun X hl hX hEI hEV hEA => ?_)
  subst hl
  have hX : zOk G X cX11_tell 2 RX11 1 := hX
  have hE := hEI _ _ rfl rfl
  rw [f_X11_tell] at h
  refine z_aload_n 0 hX dX11_tell_0 rfl <|
    zgX11_12 1 hX dX11_tell_1 (rfl : shp 0 = (11, 0)) <|
    zgX11_315 4 hX dX11_tell_4 (rfl : shp 1 = (8, 0)) <|
    z_bipush 7 hX dX11_tell_7 zkb24 <|
    z_icmp_lt 9 18 hX dX11_tell_9 rfl h (fun q1 h => ?_) (fun q1 h => ?_)
  · refine z_aload_n 18 hX dX11_tell_18 rfl <|
      zgX11_12 19 hX dX11_tell_19 (rfl : shp 0 = (11, 0)) <|
      zgX11_318 22 hX dX11_tell_22 (rfl : shp 1 = (8, 0)) <|
      z_aload_n 25 hX dX11_tell_25 rfl <|
      zgX11_12 26 hX dX11_tell_26 (rfl : shp 0 = (11, 0)) <|
      zgX11_315 29 hX dX11_tell_29 (rfl : shp 1 = (8, 0)) <|
      z_iload_n 32 hX dX11_tell_32 rfl <|
      z_iast 33 hX dX11_tell_33 (rfl : shp 39 = (20, 24)) h fun w1 h =>
      z_aload_n 34 hX dX11_tell_34 rfl <|
      zgX11_12 35 hX dX11_tell_35 (rfl : shp 0 = (11, 0)) <|
      z_dup 38 hX dX11_tell_38 rfl <|
      zgX11_315 39 hX dX11_tell_39 (rfl : shp 1 = (8, 0)) <|
      z_iconst 42 hX dX11_tell_42 zki1 <|
      z_iadd 43 hX dX11_tell_43 <|
      zpX11_315 44 hX dX11_tell_44 (rfl : shp 1 = (8, 0)) <|
      z_w h fun w2 h =>
      z_aload_n 47 hX dX11_tell_47 rfl <|
      zgX11_12 48 hX dX11_tell_48 (rfl : shp 0 = (11, 0)) <|
      zgX11_315 51 hX dX11_tell_51 (rfl : shp 1 = (8, 0)) <|
      z_endI2 54 hE rfl h dX11_tell_54
  · refine z_aload_n 12 hX dX11_tell_12 rfl <|
      z_iconst 13 hX dX11_tell_13 zki4 <|
      zb12 h fun x3 w3 r2 h => zcX11_72 14 [.int (nI 4)] [] hX dX11_tell_14 (c_X11_error (zgd0 hX) r2) (rfl : shp 0 = (11, 0)) rfl rfl rfl (Nat.le_of_ble_eq_true rfl) (Nat.le_of_ble_eq_true rfl) <|
      z_endI2 17 hE rfl h dX11_tell_17
def f_X11_check (a1 : Int32) (w : zW) : Option (Int32 × zW) :=
  zlet (w 1 9) fun x1 =>
  zlet (zupd w 1 9 (nI 0)) fun w1 =>
  zb (f_X8_hasWall a1 w1) fun x3 =>
  if x3 = nI 0 then
    zb2 (f_X11_error (nI 1) w1) fun x15 w5 =>
    some (x15, w5)
  else
    zguard (zin a1 6) (
    zb (f_X8_spell (40 + 2 * a1.toNatClampNeg) a1 w1) fun w2 =>
    zb2 (f_X1_find w2) fun x8 w3 =>
    if x8 = nI 0 then
      zb2 (f_X11_error (nI 2) w3) fun x13 w4 =>
      some (x13, w4)
    else
      zb (f_X1_firstNotSaid 39 24 x1 w3) fun x11 =>
      some (x11 + (nI 1), w3))
theorem c_X11_check {G : zG} {l : Launch} (hG : zgood G) {w : zW} {re : Int32} {we : zW} {a1 : Int32}  (h : f_X11_check a1 w = some (re, we)) : zMet G l yX11_check cX11_check 3 (some .int) 4 [.ref (zα G 0), .int a1] w (some (.int re)) we := by
  refine zMet_of (L0 := [some (.ref (zα G 0)), some (.int a1), none]) hG zplX11 (Nat.le_of_ble_eq_true rfl) rfl rfl (fun X hl hX hEI hEV hEA => ?_)
  subst hl
  have hX : zOk G X cX11_check 3 RX11 4 := hX
  have hE := hEI _ _ rfl rfl
  rw [f_X11_check] at h
  refine z_aload_n 0 hX dX11_check_0 rfl <|
    zgX11_12 1 hX dX11_check_1 (rfl : shp 0 = (11, 0)) <|
    zgX11_315 4 hX dX11_check_4 (rfl : shp 1 = (8, 0)) <|
    z_top h fun x1 h =>
    z_istore_n 7 [some (.ref (zα G 0)), some (.int a1), some (.int x1)] hX dX11_check_7 (Nat.le_of_ble_eq_true rfl) rfl rfl <|
    z_aload_n 8 hX dX11_check_8 rfl <|
    zgX11_12 9 hX dX11_check_9 (rfl : shp 0 = (11, 0)) <|
    z_iconst 12 hX dX11_check_12 zki0 <|
    zpX11_315 13 hX dX11_check_13 (rfl : shp 1 = (8, 0)) <|
    z_w h fun w1 h =>
    z_aload_n 16 hX dX11_check_16 rfl <|
    zgX11_12 17 hX dX11_check_17 (rfl : shp 0 = (11, 0)) <|
    z_iload_n 20 hX dX11_check_20 rfl <|
    zb1 h fun x3 r2 h => zcX11_88 21 [.int a1] [] hX dX11_check_21 (c_X8_hasWall (zgd0 hX) r2) (rfl : shp 1 = (8, 0)) rfl rfl rfl (Nat.le_of_ble_eq_true rfl) (Nat.le_of_ble_eq_true rfl) <|
    z_if_ne 24 33 hX dX11_check_24 rfl h (fun q4 h => ?_) (fun q4 h => ?_)
  · refine z_aload_n 33 hX dX11_check_33 rfl <|
      zgX11_12 34 hX dX11_check_34 (rfl : shp 0 = (11, 0)) <|
      z_aload_n 37 hX dX11_check_37 rfl <|
      zgX11_12 38 hX dX11_check_38 (rfl : shp 0 = (11, 0)) <|
      zgX11_80 41 hX dX11_check_41 (rfl : shp 1 = (8, 0)) <|
      z_iload_n 44 hX dX11_check_44 rfl <|
      z_aald 45 hX dX11_check_45 (rfl : shp 2 = (21, 6)) (by decide) h fun q5 h =>
      z_iload_n 46 hX dX11_check_46 rfl <|
      z_aload_n 47 hX dX11_check_47 rfl <|
      zgX11_36 48 hX dX11_check_48 (rfl : shp 0 = (11, 0)) <|
      zb1 h fun w2 r6 h => zcX11_92 51 [.ref (zα G (40 + 2 * a1.toNatClampNeg)), .int a1, .ref (zα G 116)] [] hX dX11_check_51 (c_X8_spell (zgd0 hX) (ze21 _ (rfl : shp 2 = (21, 6)) _ q5) r6) (rfl : shp 1 = (8, 0)) rfl rfl rfl (Nat.le_of_ble_eq_true rfl) (Nat.le_of_ble_eq_true rfl) <|
      z_aload_n 54 hX dX11_check_54 rfl <|
      zgX11_29 55 hX dX11_check_55 (rfl : shp 0 = (11, 0)) <|
      z_aload_n 58 hX dX11_check_58 rfl <|
      zgX11_12 59 hX dX11_check_59 (rfl : shp 0 = (11, 0)) <|
      zgX11_106 62 hX dX11_check_62 (rfl : shp 1 = (8, 0)) <|
      z_aload_n 65 hX dX11_check_65 rfl <|
      zgX11_36 66 hX dX11_check_66 (rfl : shp 0 = (11, 0)) <|
      zb12 h fun x8 w3 r7 h => zcX11_190 69 [.ref (zα G 3), .ref (zα G 116)] [] hX dX11_check_69 (c_X1_find (zgd0 hX) r7) (rfl : shp 112 = (1, 0)) rfl rfl rfl (Nat.le_of_ble_eq_true rfl) (Nat.le_of_ble_eq_true rfl) <|
      z_if_ne 72 81 hX dX11_check_72 rfl h (fun q9 h => ?_) (fun q9 h => ?_)
    · refine z_aload_n 81 hX dX11_check_81 rfl <|
        zgX11_29 82 hX dX11_check_82 (rfl : shp 0 = (11, 0)) <|
        z_aload_n 85 hX dX11_check_85 rfl <|
        zgX11_12 86 hX dX11_check_86 (rfl : shp 0 = (11, 0)) <|
        zgX11_318 89 hX dX11_check_89 (rfl : shp 1 = (8, 0)) <|
        z_iload_n 92 hX dX11_check_92 rfl <|
        zb1 h fun x11 r10 h => zcX11_321 93 [.ref (zα G 39), .int x1] [] hX dX11_check_93 (c_X1_firstNotSaid (zgd0 hX) (rfl : shp 39 = (20, 24)) r10) (rfl : shp 112 = (1, 0)) rfl rfl rfl (Nat.le_of_ble_eq_true rfl) (Nat.le_of_ble_eq_true rfl) <|
        z_iconst 96 hX dX11_check_96 zki1 <|
        z_iadd 97 hX dX11_check_97 <|
        z_endI2 98 hE rfl h dX11_check_98
    · refine z_aload_n 75 hX dX11_check_75 rfl <|
        z_iconst 76 hX dX11_check_76 zki2 <|
        zb12 h fun x13 w4 r12 h => zcX11_72 77 [.int (nI 2)] [] hX dX11_check_77 (c_X11_error (zgd0 hX) r12) (rfl : shp 0 = (11, 0)) rfl rfl rfl (Nat.le_of_ble_eq_true rfl) (Nat.le_of_ble_eq_true rfl) <|
        z_endI2 80 hE rfl h dX11_check_80
  · refine z_aload_n 27 hX dX11_check_27 rfl <|
      z_iconst 28 hX dX11_check_28 zki1 <|
      zb12 h fun x15 w5 r14 h => zcX11_72 29 [.int (nI 1)] [] hX dX11_check_29 (c_X11_error (zgd0 hX) r14) (rfl : shp 0 = (11, 0)) rfl rfl rfl (Nat.le_of_ble_eq_true rfl) (Nat.le_of_ble_eq_true rfl) <|
      z_endI2 32 hE rfl h dX11_check_32
def f_X11_count (a1 : Int32) (w : zW) : Option (Int32 × zW) :=
  if a1 = nI 0 then
    some (w 1 7, w)
  else
  if a1 = nI 1 then
    some (w 3 1, w)
  else
  if a1 = nI 2 then
    zb (f_X8_countHeap w) fun x5 =>
    some (x5, w)
  else
  if a1 = nI 3 then
    some (w 1 8, w)
  else
  if a1 = nI 4 then
    some (w 1 9, w)
  else
  if a1 = nI 5 then
    some (w 125 1, w)
  else
  if a1 = nI 6 then
    some (w 1 12, w)
  else
    zb2 (f_X11_error (nI 1) w) fun x11 w1 =>
    some (x11, w1)
theorem c_X11_count {G : zG} {l : Launch} (hG : zgood G) {w : zW} {re : Int32} {we : zW} {a1 : Int32}  (h : f_X11_count a1 w = some (re, we)) : zMet G l yX11_count cX11_count 2 (some .int) 1 [.ref (zα G 0), .int a1] w (some (.int re)) we := by
  refine zMet_of (L0 := [some (.ref (zα G 0)), some (.int a1)]) hG zplX11 (Nat.le_of_ble_eq_true rfl) rfl rfl (fun X hl hX hEI hEV hEA => ?_)
  subst hl
  have hX : zOk G X cX11_count 2 RX11 1 := hX
  have hE := hEI _ _ rfl rfl
  rw [f_X11_count] at h
  refine z_iload_n 0 hX dX11_count_0 rfl <|
    ?_
  rcases zif h with ⟨q1, h⟩ | ⟨q1, h⟩
  · refine z_tsIn 1 44 (0) hX dX11_count_1 (zti 0 (by decide) q1) (by decide) (by decide) (by decide) rfl <|
      z_aload_n 44 hX dX11_count_44 rfl <|
      zgX11_12 45 hX dX11_count_45 (rfl : shp 0 = (11, 0)) <|
      zgX11_76 48 hX dX11_count_48 (rfl : shp 1 = (8, 0)) <|
      z_endI2 51 hE rfl h dX11_count_51
  rcases zif h with ⟨q2, h⟩ | ⟨q2, h⟩
  · refine z_tsIn 1 52 (1) hX dX11_count_1 (zti 1 (by decide) q2) (by decide) (by decide) (by decide) rfl <|
      z_aload_n 52 hX dX11_count_52 rfl <|
      zgX11_12 53 hX dX11_count_53 (rfl : shp 0 = (11, 0)) <|
      zgX11_106 56 hX dX11_count_56 (rfl : shp 1 = (8, 0)) <|
      zgX11_141 59 hX dX11_count_59 (rfl : shp 3 = (7, 0)) <|
      z_endI2 62 hE rfl h dX11_count_62
  rcases zif h with ⟨q3, h⟩ | ⟨q3, h⟩
  · refine z_tsIn 1 63 (2) hX dX11_count_1 (zti 2 (by decide) q3) (by decide) (by decide) (by decide) rfl <|
      z_aload_n 63 hX dX11_count_63 rfl <|
      zgX11_12 64 hX dX11_count_64 (rfl : shp 0 = (11, 0)) <|
      zb1 h fun x5 r4 h => zcX11_325 67 [] [] hX dX11_count_67 (c_X8_countHeap (zgd0 hX) r4) (rfl : shp 1 = (8, 0)) rfl rfl rfl (Nat.le_of_ble_eq_true rfl) (Nat.le_of_ble_eq_true rfl) <|
      z_endI2 70 hE rfl h dX11_count_70
  rcases zif h with ⟨q6, h⟩ | ⟨q6, h⟩
  · refine z_tsIn 1 71 (3) hX dX11_count_1 (zti 3 (by decide) q6) (by decide) (by decide) (by decide) rfl <|
      z_aload_n 71 hX dX11_count_71 rfl <|
      zgX11_12 72 hX dX11_count_72 (rfl : shp 0 = (11, 0)) <|
      zgX11_161 75 hX dX11_count_75 (rfl : shp 1 = (8, 0)) <|
      z_endI2 78 hE rfl h dX11_count_78
  rcases zif h with ⟨q7, h⟩ | ⟨q7, h⟩
  · refine z_tsIn 1 79 (4) hX dX11_count_1 (zti 4 (by decide) q7) (by decide) (by decide) (by decide) rfl <|
      z_aload_n 79 hX dX11_count_79 rfl <|
      zgX11_12 80 hX dX11_count_80 (rfl : shp 0 = (11, 0)) <|
      zgX11_315 83 hX dX11_count_83 (rfl : shp 1 = (8, 0)) <|
      z_endI2 86 hE rfl h dX11_count_86
  rcases zif h with ⟨q8, h⟩ | ⟨q8, h⟩
  · refine z_tsIn 1 87 (5) hX dX11_count_1 (zti 5 (by decide) q8) (by decide) (by decide) (by decide) rfl <|
      z_aload_n 87 hX dX11_count_87 rfl <|
      zgX11_64 88 hX dX11_count_88 (rfl : shp 0 = (11, 0)) <|
      zgX11_282 91 hX dX11_count_91 (rfl : shp 125 = (5, 0)) <|
      z_endI2 94 hE rfl h dX11_count_94
  rcases zif h with ⟨q9, h⟩ | ⟨q9, h⟩
  · refine z_tsIn 1 95 (6) hX dX11_count_1 (zti 6 (by decide) q9) (by decide) (by decide) (by decide) rfl <|
      z_aload_n 95 hX dX11_count_95 rfl <|
      zgX11_12 96 hX dX11_count_96 (rfl : shp 0 = (11, 0)) <|
      zgX11_271 99 hX dX11_count_99 (rfl : shp 1 = (8, 0)) <|
      z_endI2 102 hE rfl h dX11_count_102
  refine z_tsOut 1 103 hX dX11_count_1 (by have e0 := zne 0 (by decide) q1; have e1 := zne 1 (by decide) q2; have e2 := zne 2 (by decide) q3; have e3 := zne 3 (by decide) q6; have e4 := zne 4 (by decide) q7; have e5 := zne 5 (by decide) q8; have e6 := zne 6 (by decide) q9; omega) rfl <|
    z_aload_n 103 hX dX11_count_103 rfl <|
    z_iconst 104 hX dX11_count_104 zki1 <|
    zb12 h fun x11 w1 r10 h => zcX11_72 105 [.int (nI 1)] [] hX dX11_count_105 (c_X11_error (zgd0 hX) r10) (rfl : shp 0 = (11, 0)) rfl rfl rfl (Nat.le_of_ble_eq_true rfl) (Nat.le_of_ble_eq_true rfl) <|
    z_endI2 108 hE rfl h dX11_count_108
def j_X11_told_20  (w : zW) : Option (Int32 × zW) :=
  zb2 (f_X11_error (nI 1) w) fun x2 w1 =>
  some (x2, w1)
theorem j_X11_told_20z {G : zG} {X : zX} {w : zW} {re : Int32} {we : zW}  (hX : zOk G X cX11_told 2 RX11 1) (hE : zEI G X cX11_told .int re we)  (h : j_X11_told_20 w = some (re, we)) : zZ G X w 20 [some (.ref (zα G 0)), none] [] := by
  rw [j_X11_told_20] at h
  refine z_aload_n 20 hX dX11_told_20 rfl <|
    z_iconst 21 hX dX11_told_21 zki1 <|
    zb12 h fun x2 w1 r1 h => zcX11_72 22 [.int (nI 1)] [] hX dX11_told_22 (c_X11_error (zgd0 hX) r1) (rfl : shp 0 = (11, 0)) rfl rfl rfl (Nat.le_of_ble_eq_true rfl) (Nat.le_of_ble_eq_true rfl) <|
    z_endI2 25 hE rfl h dX11_told_25
def f_X11_told (a1 : Int32) (w : zW) : Option (Int32 × zW) :=
  if a1 < (nI 1) then
    j_X11_told_20 w
  else
  if (nI 6) < a1 then
    j_X11_told_20 w
  else
    zld w 127 7 a1 fun x3 =>
    some (x3, w)
theorem c_X11_told {G : zG} {l : Launch} (hG : zgood G) {w : zW} {re : Int32} {we : zW} {a1 : Int32}  (h : f_X11_told a1 w = some (re, we)) : zMet G l yX11_told cX11_told 2 (some .int) 1 [.ref (zα G 0), .int a1] w (some (.int re)) we := by
  refine zMet_of (L0 := [some (.ref (zα G 0)), some (.int a1)]) hG zplX11 (Nat.le_of_ble_eq_true rfl) rfl rfl (fun X hl hX hEI hEV hEA => ?_)
  subst hl
  have hX : zOk G X cX11_told 2 RX11 1 := hX
  have hE := hEI _ _ rfl rfl
  rw [f_X11_told] at h
  refine z_iload_n 0 hX dX11_told_0 rfl <|
    z_iconst 1 hX dX11_told_1 zki1 <|
    z_icmp_lt 2 20 hX dX11_told_2 rfl h (fun q1 h => ?_) (fun q1 h => ?_)
  · refine z_weak (L' := [some (.ref (zα G 0)), none]) (zsub_s (zsub_n zsub_0)) <|
      j_X11_told_20z hX hE h
  · refine z_iload_n 5 hX dX11_told_5 rfl <|
      z_bipush 6 hX dX11_told_6 zkb6 <|
      z_icmp_gt 8 20 hX dX11_told_8 rfl h (fun q2 h => ?_) (fun q2 h => ?_)
    · refine z_weak (L' := [some (.ref (zα G 0)), none]) (zsub_s (zsub_n zsub_0)) <|
        j_X11_told_20z hX hE h
    · refine z_aload_n 11 hX dX11_told_11 rfl <|
        zgX11_68 12 hX dX11_told_12 (rfl : shp 0 = (11, 0)) <|
        z_iload_n 15 hX dX11_told_15 rfl <|
        z_iald 16 hX dX11_told_16 (rfl : shp 127 = (20, 7)) h fun x3 _ h =>
        z_goto 17 25 hX dX11_told_17 rfl <|
        z_endI2 25 hE rfl h dX11_told_25
