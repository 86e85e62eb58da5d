def j_X11_wordIs_75  (w : zW) : Option (Int32 × zW) :=
  zb2 (f_X11_error (nI 1) w) fun x2 w1 =>
  some (x2, w1)
theorem j_X11_wordIs_75z {G : zG} {X : zX} {w : zW} {re : Int32} {we : zW}  (hX : zOk G X cX11_wordIs 4 RX11 1) (hE : zEI G X cX11_wordIs .int re we)  (h : j_X11_wordIs_75 w = some (re, we)) : zZ G X w 75 [some (.ref (zα G 0)), none, none, none] [] := by
  rw [j_X11_wordIs_75] at h
  refine z_aload_n 75 hX dX11_wordIs_75 rfl <|
    z_iconst 76 hX dX11_wordIs_76 zki1 <|
    zb12 h fun x2 w1 r1 h => zcX11_72 77 [.int (nI 1)] [] hX dX11_wordIs_77 (c_X11_error (zgd0 hX) r1) (rfl : shp 0 = (11, 0)) rfl rfl rfl (Nat.le_of_ble_eq_true rfl) (Nat.le_of_ble_eq_true rfl) <|
    z_endI2 80 hE rfl h dX11_wordIs_80
def f_X11_wordIs (a1 : Int32) (a2 : Int32) (w : zW) : Option (Int32 × zW) :=
  zb (f_X7_has a1 w) fun x2 =>
  if x2 = nI 0 then
    zb2 (f_X11_error (nI 1) w) fun x11 w1 =>
    some (x11, w1)
  else
    zguard (zin a1 12) (
    if a2 = (mI 1) then
      some (w (5 + 2 * a1.toNatClampNeg) 1, w)
    else
    if a2 = (mI 2) then
      some (w (5 + 2 * a1.toNatClampNeg) 2, w)
    else
    if a2 < nI 0 then
      j_X11_wordIs_75 w
    else
    if a2 < (w (5 + 2 * a1.toNatClampNeg) 2) then
      zld w ((5 + 2 * a1.toNatClampNeg) + 1) 6 a2 fun x9 =>
      some (x9, w)
    else
      j_X11_wordIs_75 w)
theorem c_X11_wordIs {G : zG} {l : Launch} (hG : zgood G) {w : zW} {re : Int32} {we : zW} {a1 : Int32} {a2 : Int32}  (h : f_X11_wordIs a1 a2 w = some (re, we)) : zMet G l yX11_wordIs cX11_wordIs 4 (some .int) 1 [.ref (zα G 0), .int a1, .int a2] w (some (.int re)) we := by
  refine zMet_of (L0 := [some (.ref (zα G 0)), some (.int a1), some (.int a2), none]) hG zplX11 (Nat.le_of_ble_eq_true rfl) rfl rfl (fun X hl hX hEI hEV hEA => ?_)
  subst hl
  have hX : zOk G X cX11_wordIs 4 RX11 1 := hX
  have hE := hEI _ _ rfl rfl
  rw [f_X11_wordIs] at h
  refine z_aload_n 0 hX dX11_wordIs_0 rfl <|
    zgX11_12 1 hX dX11_wordIs_1 (rfl : shp 0 = (11, 0)) <|
    zgX11_106 4 hX dX11_wordIs_4 (rfl : shp 1 = (8, 0)) <|
    z_iload_n 7 hX dX11_wordIs_7 rfl <|
    zb1 h fun x2 r1 h => zcX11_153 8 [.int a1] [] hX dX11_wordIs_8 (c_X7_has (zgd0 hX) r1) (rfl : shp 3 = (7, 0)) rfl rfl rfl (Nat.le_of_ble_eq_true rfl) (Nat.le_of_ble_eq_true rfl) <|
    z_if_ne 11 20 hX dX11_wordIs_11 rfl h (fun q3 h => ?_) (fun q3 h => ?_)
  · refine z_aload_n 20 hX dX11_wordIs_20 rfl <|
      zgX11_12 21 hX dX11_wordIs_21 (rfl : shp 0 = (11, 0)) <|
      zgX11_106 24 hX dX11_wordIs_24 (rfl : shp 1 = (8, 0)) <|
      zgX11_144 27 hX dX11_wordIs_27 (rfl : shp 3 = (7, 0)) <|
      z_iload_n 30 hX dX11_wordIs_30 rfl <|
      z_aald 31 hX dX11_wordIs_31 (rfl : shp 4 = (22, 12)) (by decide) h fun q4 h =>
      z_astore_n 32 [some (.ref (zα G 0)), some (.int a1), some (.int a2), some (.ref (zα G (5 + 2 * a1.toNatClampNeg)))] hX dX11_wordIs_32 (Nat.le_of_ble_eq_true rfl) rfl rfl <|
      z_iload_n 33 hX dX11_wordIs_33 rfl <|
      z_iconst 34 hX dX11_wordIs_34 zkim1 <|
      z_icmp_ne 35 43 hX dX11_wordIs_35 rfl h (fun q5 h => ?_) (fun q5 h => ?_)
    · refine z_iload_n 43 hX dX11_wordIs_43 rfl <|
        z_bipush 44 hX dX11_wordIs_44 zkbm2 <|
        z_icmp_ne 46 54 hX dX11_wordIs_46 rfl h (fun q6 h => ?_) (fun q6 h => ?_)
      · refine z_iload_n 54 hX dX11_wordIs_54 rfl <|
          z_if_lt 55 75 hX dX11_wordIs_55 rfl h (fun q7 h => ?_) (fun q7 h => ?_)
        · refine z_weak (L' := [some (.ref (zα G 0)), none, none, none]) (zsub_s (zsub_n (zsub_n (zsub_n zsub_0)))) <|
            j_X11_wordIs_75z hX hE h
        · refine z_iload_n 58 hX dX11_wordIs_58 rfl <|
            z_aload_n 59 hX dX11_wordIs_59 rfl <|
            zgX11_156 60 hX dX11_wordIs_60 (ze22 _ (rfl : shp 4 = (22, 12)) _ q4) <|
            z_icmp_ge 63 75 hX dX11_wordIs_63 rfl h (fun q8 h => ?_) (fun q8 h => ?_)
          · refine z_weak (L' := [some (.ref (zα G 0)), none, none, none]) (zsub_s (zsub_n (zsub_n (zsub_n zsub_0)))) <|
              j_X11_wordIs_75z hX hE h
          · refine z_aload_n 66 hX dX11_wordIs_66 rfl <|
              zgX11_157 67 hX dX11_wordIs_67 (ze22 _ (rfl : shp 4 = (22, 12)) _ q4) <|
              z_iload_n 70 hX dX11_wordIs_70 rfl <|
              z_iald 71 hX dX11_wordIs_71 (zr10_letters _ (ze22 _ (rfl : shp 4 = (22, 12)) _ q4)) h fun x9 _ h =>
              z_goto 72 80 hX dX11_wordIs_72 rfl <|
              z_endI2 80 hE rfl h dX11_wordIs_80
      · refine z_aload_n 49 hX dX11_wordIs_49 rfl <|
          zgX11_156 50 hX dX11_wordIs_50 (ze22 _ (rfl : shp 4 = (22, 12)) _ q4) <|
          z_endI2 53 hE rfl h dX11_wordIs_53
    · refine z_aload_n 38 hX dX11_wordIs_38 rfl <|
        zgX11_158 39 hX dX11_wordIs_39 (ze22 _ (rfl : shp 4 = (22, 12)) _ q4) <|
        z_endI2 42 hE rfl h dX11_wordIs_42
  · refine z_aload_n 14 hX dX11_wordIs_14 rfl <|
      z_iconst 15 hX dX11_wordIs_15 zki1 <|
      zb12 h fun x11 w1 r10 h => zcX11_72 16 [.int (nI 1)] [] hX dX11_wordIs_16 (c_X11_error (zgd0 hX) r10) (rfl : shp 0 = (11, 0)) rfl rfl rfl (Nat.le_of_ble_eq_true rfl) (Nat.le_of_ble_eq_true rfl) <|
      z_endI2 19 hE rfl h dX11_wordIs_19
def j_X11_feed_11  (w : zW) : Option (Int32 × zW) :=
  zb2 (f_X11_error (nI 1) w) fun x2 w1 =>
  some (x2, w1)
theorem j_X11_feed_11z {G : zG} {X : zX} {w : zW} {re : Int32} {we : zW}  (hX : zOk G X cX11_feed 5 RX11 1) (hE : zEI G X cX11_feed .int re we)  (h : j_X11_feed_11 w = some (re, we)) : zZ G X w 11 [some (.ref (zα G 0)), none, none, none, none] [] := by
  rw [j_X11_feed_11] at h
  refine z_aload_n 11 hX dX11_feed_11 rfl <|
    z_iconst 12 hX dX11_feed_12 zki1 <|
    zb12 h fun x2 w1 r1 h => zcX11_72 13 [.int (nI 1)] [] hX dX11_feed_13 (c_X11_error (zgd0 hX) r1) (rfl : shp 0 = (11, 0)) rfl rfl rfl (Nat.le_of_ble_eq_true rfl) (Nat.le_of_ble_eq_true rfl) <|
    z_endI2 16 hE rfl h dX11_feed_16
def l_X11_feed_40 (K82 : Int32 → zW → Option (Int32 × zW)) : Nat → Int64 → Int32 → Int32 → zW → Option (Int32 × zW)
  | 0, _, _, _, _ => none
  | n + 1, a1, a3, a4, w =>
    if a4 < a3 then
      zsto w 37 60 ((w 1 8) + a4) ((((a1.toUInt64 >>> (((nI 8) * a4).toInt64.toUInt64 &&& Int64.toUInt64 63)).toInt64).toInt32) &&& (nI 255)) fun w1 =>
      zlet (a4 + nI 1) fun x2 =>
      (l_X11_feed_40 K82 n) a1 a3 x2 w1
    else
      K82 a3 w
theorem l_X11_feed_40z {K82 : Int32 → zW → Option (Int32 × zW)} {G : zG} {X : zX} {re : Int32} {we : zW} (hX : zOk G X cX11_feed 5 RX11 1) (hE : zEI G X cX11_feed .int re we) (hK82 : ∀ (a3 : Int32) (w3 : zW) , K82 a3 w3 = some (re, we) → zZ G X w3 82 [some (.ref (zα G 0)), none, none, some (.int a3), none] []) : ∀ (n : Nat) (a1 : Int64) (a3 : Int32) (a4 : Int32) (w : zW) , l_X11_feed_40 K82 n a1 a3 a4 w = some (re, we) → zZ G X w 40 [some (.ref (zα G 0)), some (.long a1), none, some (.int a3), some (.int a4)] [] := by
  intro n
  induction n with
  | zero =>
    intro a1 a3 a4 w  h
    rw [l_X11_feed_40.eq_1] at h
    cases h
  | succ n ih =>
    intro a1 a3 a4 w  h
    rw [l_X11_feed_40.eq_2] at h
    refine z_iload 40 hX dX11_feed_40 rfl <|
      z_iload_n 42 hX dX11_feed_42 rfl <|
      z_icmp_ge 43 82 hX dX11_feed_43 rfl h (fun q1 h => ?_) (fun q1 h => ?_)
    · refine z_weak (L' := [some (.ref (zα G 0)), none, none, some (.int a3), none]) (zsub_s (zsub_n (zsub_n (zsub_s (zsub_n zsub_0))))) <|
        hK82 _ _ h
    · refine z_aload_n 46 hX dX11_feed_46 rfl <|
        zgX11_12 47 hX dX11_feed_47 (rfl : shp 0 = (11, 0)) <|
        zgX11_164 50 hX dX11_feed_50 (rfl : shp 1 = (8, 0)) <|
        z_aload_n 53 hX dX11_feed_53 rfl <|
        zgX11_12 54 hX dX11_feed_54 (rfl : shp 0 = (11, 0)) <|
        zgX11_161 57 hX dX11_feed_57 (rfl : shp 1 = (8, 0)) <|
        z_iload 60 hX dX11_feed_60 rfl <|
        z_iadd 62 hX dX11_feed_62 <|
        z_lload_n 63 hX dX11_feed_63 rfl <|
        z_bipush 64 hX dX11_feed_64 zkb8 <|
        z_iload 66 hX dX11_feed_66 rfl <|
        z_imul 68 hX dX11_feed_68 <|
        z_lushr 69 hX dX11_feed_69 <|
        z_l2i 70 hX dX11_feed_70 <|
        z_sipush 71 hX dX11_feed_71 zks255 <|
        z_iand 74 hX dX11_feed_74 <|
        z_iast 75 hX dX11_feed_75 (rfl : shp 37 = (20, 60)) h fun w1 h =>
        z_iincG 76 (fun x2 => [some (.ref (zα G 0)), some (.long a1), none, some (.int a3), some (.int x2)]) hX dX11_feed_76 rfl zki1 rfl (fun _ => rfl) h fun x2 h =>
        z_goto 79 40 hX dX11_feed_79 rfl <|
        ih _ _ _ _ h
def f_X11_feed (a1 : Int64) (a3 : Int32) (w : zW) : Option (Int32 × zW) :=
  if a3 < (nI 1) then
    j_X11_feed_11 w
  else
  if (nI 8) < a3 then
    j_X11_feed_11 w
  else
  if (nI 60) < ((w 1 8) + a3) then
    zb2 (f_X11_error (nI 4) w) fun x5 w1 =>
    some (x5, w1)
  else
    l_X11_feed_40 (fun k82_a3 w11 =>
      zlet (zupd w11 1 8 ((w11 1 8) + k82_a3)) fun w12 =>
      some (w12 1 8, w12)) zfuel a1 a3 (nI 0) w
theorem c_X11_feed {G : zG} {l : Launch} (hG : zgood G) {w : zW} {re : Int32} {we : zW} {a1 : Int64} {a3 : Int32}  (h : f_X11_feed a1 a3 w = some (re, we)) : zMet G l yX11_feed cX11_feed 5 (some .int) 1 [.ref (zα G 0), .long a1, .int a3] w (some (.int re)) we := by
  refine zMet_of (L0 := [some (.ref (zα G 0)), some (.long a1), none, some (.int a3), none]) hG zplX11 (Nat.le_of_ble_eq_true rfl) rfl rfl (fun X hl hX hEI hEV hEA => ?_)
  subst hl
  have hX : zOk G X cX11_feed 5 RX11 1 := hX
  have hE := hEI _ _ rfl rfl
  rw [f_X11_feed] at h
  refine z_iload_n 0 hX dX11_feed_0 rfl <|
    z_iconst 1 hX dX11_feed_1 zki1 <|
    z_icmp_lt 2 11 hX dX11_feed_2 rfl h (fun q1 h => ?_) (fun q1 h => ?_)
  · refine z_weak (L' := [some (.ref (zα G 0)), none, none, none, none]) (zsub_s (zsub_n (zsub_n (zsub_n (zsub_n zsub_0))))) <|
      j_X11_feed_11z hX hE h
  · refine z_iload_n 5 hX dX11_feed_5 rfl <|
      z_bipush 6 hX dX11_feed_6 zkb8 <|
      z_icmp_le 8 17 hX dX11_feed_8 rfl h (fun q2 h => ?_) (fun q2 h => ?_)
    · refine z_aload_n 17 hX dX11_feed_17 rfl <|
        zgX11_12 18 hX dX11_feed_18 (rfl : shp 0 = (11, 0)) <|
        zgX11_161 21 hX dX11_feed_21 (rfl : shp 1 = (8, 0)) <|
        z_iload_n 24 hX dX11_feed_24 rfl <|
        z_iadd 25 hX dX11_feed_25 <|
        z_bipush 26 hX dX11_feed_26 zkb60 <|
        z_icmp_le 28 37 hX dX11_feed_28 rfl h (fun q3 h => ?_) (fun q3 h => ?_)
      · refine z_iconst 37 hX dX11_feed_37 zki0 <|
          z_istore 38 [some (.ref (zα G 0)), some (.long a1), none, some (.int a3), some (.int (nI 0))] hX dX11_feed_38 (Nat.le_of_ble_eq_true rfl) rfl rfl <|
          l_X11_feed_40z hX hE (fun k82_a3 w11 h => ?_) _ _ _ _ _ h
        · refine z_aload_n 82 hX dX11_feed_82 rfl <|
            zgX11_12 83 hX dX11_feed_83 (rfl : shp 0 = (11, 0)) <|
            z_dup 86 hX dX11_feed_86 rfl <|
            zgX11_161 87 hX dX11_feed_87 (rfl : shp 1 = (8, 0)) <|
            z_iload_n 90 hX dX11_feed_90 rfl <|
            z_iadd 91 hX dX11_feed_91 <|
            zpX11_161 92 hX dX11_feed_92 (rfl : shp 1 = (8, 0)) <|
            z_w h fun w12 h =>
            z_aload_n 95 hX dX11_feed_95 rfl <|
            zgX11_12 96 hX dX11_feed_96 (rfl : shp 0 = (11, 0)) <|
            zgX11_161 99 hX dX11_feed_99 (rfl : shp 1 = (8, 0)) <|
            z_endI2 102 hE rfl h dX11_feed_102
      · refine z_aload_n 31 hX dX11_feed_31 rfl <|
          z_iconst 32 hX dX11_feed_32 zki4 <|
          zb12 h fun x5 w1 r4 h => zcX11_72 33 [.int (nI 4)] [] hX dX11_feed_33 (c_X11_error (zgd0 hX) r4) (rfl : shp 0 = (11, 0)) rfl rfl rfl (Nat.le_of_ble_eq_true rfl) (Nat.le_of_ble_eq_true rfl) <|
          z_endI2 36 hE rfl h dX11_feed_36
    · refine z_weak (L' := [some (.ref (zα G 0)), none, none, none, none]) (zsub_s (zsub_n (zsub_n (zsub_n (zsub_n zsub_0))))) <|
        j_X11_feed_11z hX hE h
def j_X11_text_9  (w : zW) : Option (Int32 × zW) :=
  zb2 (f_X11_error (nI 1) w) fun x2 w1 =>
  some (x2, w1)
theorem j_X11_text_9z {G : zG} {X : zX} {w : zW} {re : Int32} {we : zW}  (hX : zOk G X cX11_text 3 RX11 106) (hE : zEI G X cX11_text .int re we)  (h : j_X11_text_9 w = some (re, we)) : zZ G X w 9 [some (.ref (zα G 0)), none, none] [] := by
  rw [j_X11_text_9] at h
  refine z_aload_n 9 hX dX11_text_9 rfl <|
    z_iconst 10 hX dX11_text_10 zki1 <|
    zb12 h fun x2 w1 r1 h => zcX11_72 11 [.int (nI 1)] [] hX dX11_text_11 (c_X11_error (zgd0 hX) r1) (rfl : shp 0 = (11, 0)) rfl rfl rfl (Nat.le_of_ble_eq_true rfl) (Nat.le_of_ble_eq_true rfl) <|
    z_endI2 14 hE rfl h dX11_text_14
def j_X11_text_44 (a1 : Int32) (b2 : Int32) (b3 : Int32) (w : zW) : Option (Int32 × zW) :=
  zb2 (f_X2_faultOf 37 60 b2 b3 w) fun x2 w1 =>
  zlet (zupd w1 1 8 (nI 0)) fun w2 =>
  if x2 < nI 0 then
    zb (f_X8_textOf a1 w2) fun x5 =>
    zb (f_X2_handTo x5 w2) fun w3 =>
    some (nI 1, w3)
  else
    some ((mI 10) - x2, w2)
theorem j_X11_text_44z {G : zG} {X : zX} {w : zW} {re : Int32} {we : zW} {a1 : Int32} {b2 : Int32} {b3 : Int32} (hX : zOk G X cX11_text 3 RX11 106) (hE : zEI G X cX11_text .int re we)  (h : j_X11_text_44 a1 b2 b3 w = some (re, we)) : zZ G X w 44 [some (.ref (zα G 0)), some (.int a1), none] [.ref (zstr G b3), .int b2, .ref (zα G 37), .ref (zα G 120)] := by
  rw [j_X11_text_44] at h
  refine zb12 h fun x2 w1 r1 h => zcX11_171 44 [.ref (zα G 37), .int b2, .ref (zstr G b3)] [] hX dX11_text_44 (c_X2_faultOf (zgd0 hX) (rfl : shp 37 = (20, 60)) r1) (rfl : shp 120 = (2, 0)) rfl rfl rfl (Nat.le_of_ble_eq_true rfl) (Nat.le_of_ble_eq_true rfl) <|
    z_istore_n 47 [some (.ref (zα G 0)), some (.int a1), some (.int x2)] hX dX11_text_47 (Nat.le_of_ble_eq_true rfl) rfl rfl <|
    z_aload_n 48 hX dX11_text_48 rfl <|
    zgX11_12 49 hX dX11_text_49 (rfl : shp 0 = (11, 0)) <|
    z_iconst 52 hX dX11_text_52 zki0 <|
    zpX11_161 53 hX dX11_text_53 (rfl : shp 1 = (8, 0)) <|
    z_w h fun w2 h =>
    z_iload_n 56 hX dX11_text_56 rfl <|
    z_if_lt 57 65 hX dX11_text_57 rfl h (fun q3 h => ?_) (fun q3 h => ?_)
  · refine z_aload_n 65 hX dX11_text_65 rfl <|
      zgX11_50 66 hX dX11_text_66 (rfl : shp 0 = (11, 0)) <|
      z_aload_n 69 hX dX11_text_69 rfl <|
      zgX11_12 70 hX dX11_text_70 (rfl : shp 0 = (11, 0)) <|
      z_iload_n 73 hX dX11_text_73 rfl <|
      zb1 h fun x5 r4 h => zcX11_175 74 [.int a1] [.ref (zα G 120)] hX dX11_text_74 (c_X8_textOf (zgd0 hX) r4) (rfl : shp 1 = (8, 0)) rfl rfl rfl (Nat.le_of_ble_eq_true rfl) (Nat.le_of_ble_eq_true rfl) <|
      zb1 h fun w3 r6 h => zcX11_179 77 [.ref (zα G x5)] [] hX dX11_text_77 (c_X2_handTo (zgd0 hX) (s_X8_textOf r4) r6) (rfl : shp 120 = (2, 0)) rfl rfl rfl (Nat.le_of_ble_eq_true rfl) (Nat.le_of_ble_eq_true rfl) <|
      z_iconst 80 hX dX11_text_80 zki1 <|
      z_endI2 81 hE rfl h dX11_text_81
  · refine z_bipush 60 hX dX11_text_60 zkbm10 <|
      z_iload_n 62 hX dX11_text_62 rfl <|
      z_isub 63 hX dX11_text_63 <|
      z_endI2 64 hE rfl h dX11_text_64
def f_X11_text (a1 : Int32) (w : zW) : Option (Int32 × zW) :=
  if a1 < nI 0 then
    j_X11_text_9 w
  else
  if a1 < (nI 2) then
    if a1 = nI 0 then
      j_X11_text_44 a1 (w 1 8) (nI 1) w
    else
      j_X11_text_44 a1 (w 1 8) (nI 2) w
  else
    j_X11_text_9 w
theorem c_X11_text {G : zG} {l : Launch} (hG : zgood G) {w : zW} {re : Int32} {we : zW} {a1 : Int32}  (h : f_X11_text a1 w = some (re, we)) : zMet G l yX11_text cX11_text 3 (some .int) 106 [.ref (zα G 0), .int a1] w (some (.int re)) we := by
  refine zMet_of (L0 := [some (.ref (zα G 0)), some (.int a1), none]) hG zplX11 (Nat.le_of_ble_eq_true rfl) rfl rfl (fun X hl hX hEI hEV hEA => ?_)
  subst hl
  have hX : zOk G X cX11_text 3 RX11 106 := hX
  have hE := hEI _ _ rfl rfl
  rw [f_X11_text] at h
  refine z_iload_n 0 hX dX11_text_0 rfl <|
    z_if_lt 1 9 hX dX11_text_1 rfl h (fun q1 h => ?_) (fun q1 h => ?_)
  · refine z_weak (L' := [some (.ref (zα G 0)), none, none]) (zsub_s (zsub_n (zsub_n zsub_0))) <|
      j_X11_text_9z hX hE h
  · refine z_iload_n 4 hX dX11_text_4 rfl <|
      z_iconst 5 hX dX11_text_5 zki2 <|
      z_icmp_lt 6 15 hX dX11_text_6 rfl h (fun q2 h => ?_) (fun q2 h => ?_)
    · refine z_aload_n 15 hX dX11_text_15 rfl <|
        zgX11_50 16 hX dX11_text_16 (rfl : shp 0 = (11, 0)) <|
        z_aload_n 19 hX dX11_text_19 rfl <|
        zgX11_12 20 hX dX11_text_20 (rfl : shp 0 = (11, 0)) <|
        zgX11_164 23 hX dX11_text_23 (rfl : shp 1 = (8, 0)) <|
        z_aload_n 26 hX dX11_text_26 rfl <|
        zgX11_12 27 hX dX11_text_27 (rfl : shp 0 = (11, 0)) <|
        zgX11_161 30 hX dX11_text_30 (rfl : shp 1 = (8, 0)) <|
        z_iload_n 33 hX dX11_text_33 rfl <|
        z_if_ne 34 42 hX dX11_text_34 rfl h (fun q3 h => ?_) (fun q3 h => ?_)
      · refine zldS2 42 hX dX11_text_42 <|
          j_X11_text_44z hX hE h
      · refine zldS1 37 hX dX11_text_37 <|
          z_goto 39 44 hX dX11_text_39 rfl <|
          j_X11_text_44z hX hE h
    · refine z_weak (L' := [some (.ref (zα G 0)), none, none]) (zsub_s (zsub_n (zsub_n zsub_0))) <|
        j_X11_text_9z hX hE h
def j_X11_untell_9  (w : zW) : Option (Int32 × zW) :=
  zb2 (f_X11_error (nI 1) w) fun x2 w1 =>
  some (x2, w1)
theorem j_X11_untell_9z {G : zG} {X : zX} {w : zW} {re : Int32} {we : zW}  (hX : zOk G X cX11_untell 4 RX11 1) (hE : zEI G X cX11_untell .int re we)  (h : j_X11_untell_9 w = some (re, we)) : zZ G X w 9 [some (.ref (zα G 0)), none, none, none] [] := by
  rw [j_X11_untell_9] at h
  refine z_aload_n 9 hX dX11_untell_9 rfl <|
    z_iconst 10 hX dX11_untell_10 zki1 <|
    zb12 h fun x2 w1 r1 h => zcX11_72 11 [.int (nI 1)] [] hX dX11_untell_11 (c_X11_error (zgd0 hX) r1) (rfl : shp 0 = (11, 0)) rfl rfl rfl (Nat.le_of_ble_eq_true rfl) (Nat.le_of_ble_eq_true rfl) <|
    z_endI2 14 hE rfl h dX11_untell_14
def j_X11_untell_36 (a2 : Nat) (b0 : Int32) (w : zW) : Option (Int32 × zW) :=
  zlet (zupd w a2 3 (nI 0)) fun w1 =>
  some (b0, w1)
theorem j_X11_untell_36z {G : zG} {X : zX} {w : zW} {re : Int32} {we : zW} {a2 : Nat} {b0 : Int32} (hX : zOk G X cX11_untell 4 RX11 1) (hE : zEI G X cX11_untell .int re we) (ha2 : shp a2 = (6, 0)) (h : j_X11_untell_36 a2 b0 w = some (re, we)) : zZ G X w 36 [none, none, some (.ref (zα G a2)), none] [.int b0] := by
  rw [j_X11_untell_36] at h
  refine z_istore_n 36 [none, none, some (.ref (zα G a2)), some (.int b0)] hX dX11_untell_36 (Nat.le_of_ble_eq_true rfl) rfl rfl <|
    z_aload_n 37 hX dX11_untell_37 rfl <|
    z_iconst 38 hX dX11_untell_38 zki0 <|
    zpX11_189 39 hX dX11_untell_39 ha2 <|
    z_w h fun w1 h =>
    z_iload_n 42 hX dX11_untell_42 rfl <|
    z_endI2 43 hE rfl h dX11_untell_43
def f_X11_untell (a1 : Int32) (w : zW) : Option (Int32 × zW) :=
  if a1 < nI 0 then
    j_X11_untell_9 w
  else
  if a1 < (nI 2) then
    zb (f_X8_textOf a1 w) fun x4 =>
    zb (f_X6_isTold x4 w) fun x6 =>
    if x6 = nI 0 then
      j_X11_untell_36 x4 (nI 0) w
    else
      j_X11_untell_36 x4 (nI 1) w
  else
    j_X11_untell_9 w
theorem c_X11_untell {G : zG} {l : Launch} (hG : zgood G) {w : zW} {re : Int32} {we : zW} {a1 : Int32}  (h : f_X11_untell a1 w = some (re, we)) : zMet G l yX11_untell cX11_untell 4 (some .int) 1 [.ref (zα G 0), .int a1] w (some (.int re)) we := by
  refine zMet_of (L0 := [some (.ref (zα G 0)), some (.int a1), none, none]) hG zplX11 (Nat.le_of_ble_eq_true rfl) rfl rfl (fun X hl hX hEI hEV hEA => ?_)
  subst hl
  have hX : zOk G X cX11_untell 4 RX11 1 := hX
  have hE := hEI _ _ rfl rfl
  rw [f_X11_untell] at h
  refine z_iload_n 0 hX dX11_untell_0 rfl <|
    z_if_lt 1 9 hX dX11_untell_1 rfl h (fun q1 h => ?_) (fun q1 h => ?_)
  · refine z_weak (L' := [some (.ref (zα G 0)), none, none, none]) (zsub_s (zsub_n (zsub_n (zsub_n zsub_0)))) <|
      j_X11_untell_9z hX hE h
  · refine z_iload_n 4 hX dX11_untell_4 rfl <|
      z_iconst 5 hX dX11_untell_5 zki2 <|
      z_icmp_lt 6 15 hX dX11_untell_6 rfl h (fun q2 h => ?_) (fun q2 h => ?_)
    · refine z_aload_n 15 hX dX11_untell_15 rfl <|
        zgX11_12 16 hX dX11_untell_16 (rfl : shp 0 = (11, 0)) <|
        z_iload_n 19 hX dX11_untell_19 rfl <|
        zb1 h fun x4 r3 h => zcX11_175 20 [.int a1] [] hX dX11_untell_20 (c_X8_textOf (zgd0 hX) r3) (rfl : shp 1 = (8, 0)) rfl rfl rfl (Nat.le_of_ble_eq_true rfl) (Nat.le_of_ble_eq_true rfl) <|
        z_astore_n 23 [some (.ref (zα G 0)), some (.int a1), some (.ref (zα G x4)), none] hX dX11_untell_23 (Nat.le_of_ble_eq_true rfl) rfl rfl <|
        z_aload_n 24 hX dX11_untell_24 rfl <|
        zb1 h fun x6 r5 h => zcX11_183 25 [] [] hX dX11_untell_25 (c_X6_isTold (zgd0 hX) (s_X8_textOf r3) r5) (s_X8_textOf r3) rfl rfl rfl (Nat.le_of_ble_eq_true rfl) (Nat.le_of_ble_eq_true rfl) <|
        z_if_eq 28 35 hX dX11_untell_28 rfl h (fun q7 h => ?_) (fun q7 h => ?_)
      · refine z_iconst 35 hX dX11_untell_35 zki0 <|
          z_weak (L' := [none, none, some (.ref (zα G x4)), none]) (zsub_n (zsub_n (zsub_s (zsub_n zsub_0)))) <|
          j_X11_untell_36z hX hE (s_X8_textOf r3) h
      · refine z_iconst 31 hX dX11_untell_31 zki1 <|
          z_goto 32 36 hX dX11_untell_32 rfl <|
          z_weak (L' := [none, none, some (.ref (zα G x4)), none]) (zsub_n (zsub_n (zsub_s (zsub_n zsub_0)))) <|
          j_X11_untell_36z hX hE (s_X8_textOf r3) h
    · refine z_weak (L' := [some (.ref (zα G 0)), none, none, none]) (zsub_s (zsub_n (zsub_n (zsub_n zsub_0)))) <|
        j_X11_untell_9z hX hE h
def j_X11_says_16  (w : zW) : Option (Int32 × zW) :=
  zb2 (f_X11_error (nI 1) w) fun x2 w1 =>
  some (x2, w1)
theorem j_X11_says_16z {G : zG} {X : zX} {w : zW} {re : Int32} {we : zW}  (hX : zOk G X cX11_says 3 RX11 4) (hE : zEI G X cX11_says .int re we)  (h : j_X11_says_16 w = some (re, we)) : zZ G X w 16 [some (.ref (zα G 0)), none, none] [] := by
  rw [j_X11_says_16] at h
  refine z_aload_n 16 hX dX11_says_16 rfl <|
    z_iconst 17 hX dX11_says_17 zki1 <|
    zb12 h fun x2 w1 r1 h => zcX11_72 18 [.int (nI 1)] [] hX dX11_says_18 (c_X11_error (zgd0 hX) r1) (rfl : shp 0 = (11, 0)) rfl rfl rfl (Nat.le_of_ble_eq_true rfl) (Nat.le_of_ble_eq_true rfl) <|
    z_endI2 21 hE rfl h dX11_says_21
def f_X11_says (a1 : Int32) (a2 : Int32) (w : zW) : Option (Int32 × zW) :=
  zb (f_X8_hasWall a1 w) fun x2 =>
  if x2 = nI 0 then
    j_X11_says_16 w
  else
  if a2 < (mI 1) then
    j_X11_says_16 w
  else
    zguard (zin a1 6) (
    zb (f_X8_spell (40 + 2 * a1.toNatClampNeg) a1 w) fun w1 =>
    zb2 (f_X1_find w1) fun x8 w2 =>
    if x8 = nI 0 then
      zb2 (f_X11_error (nI 2) w2) fun x16 w4 =>
      some (x16, w4)
    else
    if a2 = (mI 1) then
      some (w2 112 3, w2)
    else
    if a2 < (w2 112 3) then
      zld w2 115 48 a2 fun x14 =>
      some (x14, w2)
    else
      zb2 (f_X11_error (nI 1) w2) fun x13 w3 =>
      some (x13, w3))
theorem c_X11_says {G : zG} {l : Launch} (hG : zgood G) {w : zW} {re : Int32} {we : zW} {a1 : Int32} {a2 : Int32}  (h : f_X11_says a1 a2 w = some (re, we)) : zMet G l yX11_says cX11_says 3 (some .int) 4 [.ref (zα G 0), .int a1, .int a2] w (some (.int re)) we := by
  refine zMet_of (L0 := [some (.ref (zα G 0)), some (.int a1), some (.int a2)]) hG zplX11 (Nat.le_of_ble_eq_true rfl) rfl rfl (fun X hl hX hEI hEV hEA => ?_)
  subst hl
  have hX : zOk G X cX11_says 3 RX11 4 := hX
  have hE := hEI _ _ rfl rfl
  rw [f_X11_says] at h
  refine z_aload_n 0 hX dX11_says_0 rfl <|
    zgX11_12 1 hX dX11_says_1 (rfl : shp 0 = (11, 0)) <|
    z_iload_n 4 hX dX11_says_4 rfl <|
    zb1 h fun x2 r1 h => zcX11_88 5 [.int a1] [] hX dX11_says_5 (c_X8_hasWall (zgd0 hX) r1) (rfl : shp 1 = (8, 0)) rfl rfl rfl (Nat.le_of_ble_eq_true rfl) (Nat.le_of_ble_eq_true rfl) <|
    z_if_eq 8 16 hX dX11_says_8 rfl h (fun q3 h => ?_) (fun q3 h => ?_)
  · refine z_weak (L' := [some (.ref (zα G 0)), none, none]) (zsub_s (zsub_n (zsub_n zsub_0))) <|
      j_X11_says_16z hX hE h
  · refine z_iload_n 11 hX dX11_says_11 rfl <|
      z_iconst 12 hX dX11_says_12 zkim1 <|
      z_icmp_ge 13 22 hX dX11_says_13 rfl h (fun q4 h => ?_) (fun q4 h => ?_)
    · refine z_aload_n 22 hX dX11_says_22 rfl <|
        zgX11_12 23 hX dX11_says_23 (rfl : shp 0 = (11, 0)) <|
        z_aload_n 26 hX dX11_says_26 rfl <|
        zgX11_12 27 hX dX11_says_27 (rfl : shp 0 = (11, 0)) <|
        zgX11_80 30 hX dX11_says_30 (rfl : shp 1 = (8, 0)) <|
        z_iload_n 33 hX dX11_says_33 rfl <|
        z_aald 34 hX dX11_says_34 (rfl : shp 2 = (21, 6)) (by decide) h fun q5 h =>
        z_iload_n 35 hX dX11_says_35 rfl <|
        z_aload_n 36 hX dX11_says_36 rfl <|
        zgX11_36 37 hX dX11_says_37 (rfl : shp 0 = (11, 0)) <|
        zb1 h fun w1 r6 h => zcX11_92 40 [.ref (zα G (40 + 2 * a1.toNatClampNeg)), .int a1, .ref (zα G 116)] [] hX dX11_says_40 (c_X8_spell (zgd0 hX) (ze21 _ (rfl : shp 2 = (21, 6)) _ q5) r6) (rfl : shp 1 = (8, 0)) rfl rfl rfl (Nat.le_of_ble_eq_true rfl) (Nat.le_of_ble_eq_true rfl) <|
        z_aload_n 43 hX dX11_says_43 rfl <|
        zgX11_29 44 hX dX11_says_44 (rfl : shp 0 = (11, 0)) <|
        z_aload_n 47 hX dX11_says_47 rfl <|
        zgX11_12 48 hX dX11_says_48 (rfl : shp 0 = (11, 0)) <|
        zgX11_106 51 hX dX11_says_51 (rfl : shp 1 = (8, 0)) <|
        z_aload_n 54 hX dX11_says_54 rfl <|
        zgX11_36 55 hX dX11_says_55 (rfl : shp 0 = (11, 0)) <|
        zb12 h fun x8 w2 r7 h => zcX11_190 58 [.ref (zα G 3), .ref (zα G 116)] [] hX dX11_says_58 (c_X1_find (zgd0 hX) r7) (rfl : shp 112 = (1, 0)) rfl rfl rfl (Nat.le_of_ble_eq_true rfl) (Nat.le_of_ble_eq_true rfl) <|
        z_if_ne 61 70 hX dX11_says_61 rfl h (fun q9 h => ?_) (fun q9 h => ?_)
      · refine z_iload_n 70 hX dX11_says_70 rfl <|
          z_iconst 71 hX dX11_says_71 zkim1 <|
          z_icmp_ne 72 83 hX dX11_says_72 rfl h (fun q10 h => ?_) (fun q10 h => ?_)
        · refine z_iload_n 83 hX dX11_says_83 rfl <|
            z_aload_n 84 hX dX11_says_84 rfl <|
            zgX11_29 85 hX dX11_says_85 (rfl : shp 0 = (11, 0)) <|
            zgX11_193 88 hX dX11_says_88 (rfl : shp 112 = (1, 0)) <|
            z_icmp_ge 91 106 hX dX11_says_91 rfl h (fun q11 h => ?_) (fun q11 h => ?_)
          · refine z_aload_n 106 hX dX11_says_106 rfl <|
              z_iconst 107 hX dX11_says_107 zki1 <|
              zb12 h fun x13 w3 r12 h => zcX11_72 108 [.int (nI 1)] [] hX dX11_says_108 (c_X11_error (zgd0 hX) r12) (rfl : shp 0 = (11, 0)) rfl rfl rfl (Nat.le_of_ble_eq_true rfl) (Nat.le_of_ble_eq_true rfl) <|
              z_endI2 111 hE rfl h dX11_says_111
          · refine z_aload_n 94 hX dX11_says_94 rfl <|
              zgX11_29 95 hX dX11_says_95 (rfl : shp 0 = (11, 0)) <|
              zgX11_196 98 hX dX11_says_98 (rfl : shp 112 = (1, 0)) <|
              z_iload_n 101 hX dX11_says_101 rfl <|
              z_iald 102 hX dX11_says_102 (rfl : shp 115 = (20, 48)) h fun x14 _ h =>
              z_goto 103 111 hX dX11_says_103 rfl <|
              z_endI2 111 hE rfl h dX11_says_111
        · refine z_aload_n 75 hX dX11_says_75 rfl <|
            zgX11_29 76 hX dX11_says_76 (rfl : shp 0 = (11, 0)) <|
            zgX11_193 79 hX dX11_says_79 (rfl : shp 112 = (1, 0)) <|
            z_endI2 82 hE rfl h dX11_says_82
      · refine z_aload_n 64 hX dX11_says_64 rfl <|
          z_iconst 65 hX dX11_says_65 zki2 <|
          zb12 h fun x16 w4 r15 h => zcX11_72 66 [.int (nI 2)] [] hX dX11_says_66 (c_X11_error (zgd0 hX) r15) (rfl : shp 0 = (11, 0)) rfl rfl rfl (Nat.le_of_ble_eq_true rfl) (Nat.le_of_ble_eq_true rfl) <|
          z_endI2 69 hE rfl h dX11_says_69
    · refine z_weak (L' := [some (.ref (zα G 0)), none, none]) (zsub_s (zsub_n (zsub_n zsub_0))) <|
        j_X11_says_16z hX hE h
def j_X11_doors_22  (w : zW) : Option (Int32 × zW) :=
  zb2 (f_X11_error (nI 1) w) fun x2 w1 =>
  some (x2, w1)
theorem j_X11_doors_22z {G : zG} {X : zX} {w : zW} {re : Int32} {we : zW}  (hX : zOk G X cX11_doors 6 RX11 4) (hE : zEI G X cX11_doors .int re we)  (h : j_X11_doors_22 w = some (re, we)) : zZ G X w 22 [some (.ref (zα G 0)), none, none, none, none, none] [] := by
  rw [j_X11_doors_22] at h
  refine z_aload_n 22 hX dX11_doors_22 rfl <|
    z_iconst 23 hX dX11_doors_23 zki1 <|
    zb12 h fun x2 w1 r1 h => zcX11_72 24 [.int (nI 1)] [] hX dX11_doors_24 (c_X11_error (zgd0 hX) r1) (rfl : shp 0 = (11, 0)) rfl rfl rfl (Nat.le_of_ble_eq_true rfl) (Nat.le_of_ble_eq_true rfl) <|
    z_endI2 27 hE rfl h dX11_doors_27
def l_X11_doors_44 (K125 : Int32 → zW → Option (Int32 × zW)) : Nat → Int32 → Int32 → Nat → Int32 → Int32 → zW → Option (Int32 × zW)
  | 0, _, _, _, _, _, _ => none
  | n + 1, a1, a2, a3, a4, a5, w =>
    if (w a3 3) < (a5 + a2) then
      K125 a4 w
    else
      zb (f_X9_copyFrom 118 a3 w) fun w1 =>
      zb (f_X9_openFrom 118 a5 a2 w1) fun w2 =>
      zb (f_X8_spell 118 a1 w2) fun w3 =>
      zb2 (f_X1_hold w3) fun x6 w4 =>
      if x6 = nI 0 then
        zlet (a5 + nI 1) fun x8 =>
        (l_X11_doors_44 K125 n) a1 a2 a3 a4 x8 w4
      else
        zlet (a4 ||| ((nI 1) <<< (a5 &&& 31))) fun x9 =>
        zlet (a5 + nI 1) fun x10 =>
        (l_X11_doors_44 K125 n) a1 a2 a3 x9 x10 w4
theorem l_X11_doors_44z {K125 : Int32 → zW → Option (Int32 × zW)} {G : zG} {X : zX} {re : Int32} {we : zW} (hX : zOk G X cX11_doors 6 RX11 4) (hE : zEI G X cX11_doors .int re we) (hK125 : ∀ (a4 : Int32) (w3 : zW) , K125 a4 w3 = some (re, we) → zZ G X w3 125 [none, none, none, none, some (.int a4), none] []) : ∀ (n : Nat) (a1 : Int32) (a2 : Int32) (a3 : Nat) (a4 : Int32) (a5 : Int32) (w : zW) (ha3 : shp a3 = (9, 0)), l_X11_doors_44 K125 n a1 a2 a3 a4 a5 w = some (re, we) → zZ G X w 44 [some (.ref (zα G 0)), some (.int a1), some (.int a2), some (.ref (zα G a3)), some (.int a4), some (.int a5)] [] := by
  intro n
  induction n with
  | zero =>
    intro a1 a2 a3 a4 a5 w ha3 h
    rw [l_X11_doors_44.eq_1] at h
    cases h
  | succ n ih =>
    intro a1 a2 a3 a4 a5 w ha3 h
    rw [l_X11_doors_44.eq_2] at h
    refine z_iload 44 hX dX11_doors_44 rfl <|
      z_iload_n 46 hX dX11_doors_46 rfl <|
      z_iadd 47 hX dX11_doors_47 <|
      z_aload_n 48 hX dX11_doors_48 rfl <|
      zgX11_102 49 hX dX11_doors_49 ha3 <|
      z_icmp_gt 52 125 hX dX11_doors_52 rfl h (fun q1 h => ?_) (fun q1 h => ?_)
    · refine z_weak (L' := [none, none, none, none, some (.int a4), none]) (zsub_n (zsub_n (zsub_n (zsub_n (zsub_s (zsub_n zsub_0)))))) <|
        hK125 _ _ h
    · refine z_aload_n 55 hX dX11_doors_55 rfl <|
        zgX11_43 56 hX dX11_doors_56 (rfl : shp 0 = (11, 0)) <|
        z_aload_n 59 hX dX11_doors_59 rfl <|
        zb1 h fun w1 r2 h => zcX11_199 60 [.ref (zα G a3)] [] hX dX11_doors_60 (c_X9_copyFrom (zgd0 hX) (rfl : shp 118 = (9, 0)) ha3 r2) (rfl : shp 118 = (9, 0)) rfl rfl rfl (Nat.le_of_ble_eq_true rfl) (Nat.le_of_ble_eq_true rfl) <|
        z_aload_n 63 hX dX11_doors_63 rfl <|
        zgX11_43 64 hX dX11_doors_64 (rfl : shp 0 = (11, 0)) <|
        z_iload 67 hX dX11_doors_67 rfl <|
        z_iload_n 69 hX dX11_doors_69 rfl <|
        zb1 h fun w2 r3 h => zcX11_203 70 [.int a5, .int a2] [] hX dX11_doors_70 (c_X9_openFrom (zgd0 hX) (rfl : shp 118 = (9, 0)) r3) (rfl : shp 118 = (9, 0)) rfl rfl rfl (Nat.le_of_ble_eq_true rfl) (Nat.le_of_ble_eq_true rfl) <|
        z_aload_n 73 hX dX11_doors_73 rfl <|
        zgX11_12 74 hX dX11_doors_74 (rfl : shp 0 = (11, 0)) <|
        z_aload_n 77 hX dX11_doors_77 rfl <|
        zgX11_43 78 hX dX11_doors_78 (rfl : shp 0 = (11, 0)) <|
        z_iload_n 81 hX dX11_doors_81 rfl <|
        z_aload_n 82 hX dX11_doors_82 rfl <|
        zgX11_36 83 hX dX11_doors_83 (rfl : shp 0 = (11, 0)) <|
        zb1 h fun w3 r4 h => zcX11_92 86 [.ref (zα G 118), .int a1, .ref (zα G 116)] [] hX dX11_doors_86 (c_X8_spell (zgd0 hX) (rfl : shp 118 = (9, 0)) r4) (rfl : shp 1 = (8, 0)) rfl rfl rfl (Nat.le_of_ble_eq_true rfl) (Nat.le_of_ble_eq_true rfl) <|
        z_aload_n 89 hX dX11_doors_89 rfl <|
        zgX11_29 90 hX dX11_doors_90 (rfl : shp 0 = (11, 0)) <|
        z_aload_n 93 hX dX11_doors_93 rfl <|
        zgX11_12 94 hX dX11_doors_94 (rfl : shp 0 = (11, 0)) <|
        zgX11_106 97 hX dX11_doors_97 (rfl : shp 1 = (8, 0)) <|
        z_aload_n 100 hX dX11_doors_100 rfl <|
        zgX11_36 101 hX dX11_doors_101 (rfl : shp 0 = (11, 0)) <|
        zb12 h fun x6 w4 r5 h => zcX11_110 104 [.ref (zα G 3), .ref (zα G 116)] [] hX dX11_doors_104 (c_X1_hold (zgd0 hX) r5) (rfl : shp 112 = (1, 0)) rfl rfl rfl (Nat.le_of_ble_eq_true rfl) (Nat.le_of_ble_eq_true rfl) <|
        z_if_eq 107 119 hX dX11_doors_107 rfl h (fun q7 h => ?_) (fun q7 h => ?_)
      · refine z_iincG 119 (fun x8 => [some (.ref (zα G 0)), some (.int a1), some (.int a2), some (.ref (zα G a3)), some (.int a4), some (.int x8)]) hX dX11_doors_119 rfl zki1 rfl (fun _ => rfl) h fun x8 h =>
          z_goto 122 44 hX dX11_doors_122 rfl <|
          ih _ _ _ _ _ _ ha3 h
      · refine z_iload 110 hX dX11_doors_110 rfl <|
          z_iconst 112 hX dX11_doors_112 zki1 <|
          z_iload 113 hX dX11_doors_113 rfl <|
          z_ishl 115 hX dX11_doors_115 <|
          z_ior 116 hX dX11_doors_116 <|
          z_top h fun x9 h =>
          z_istore 117 [some (.ref (zα G 0)), some (.int a1), some (.int a2), some (.ref (zα G a3)), some (.int x9), some (.int a5)] hX dX11_doors_117 (Nat.le_of_ble_eq_true rfl) rfl rfl <|
          z_iincG 119 (fun x10 => [some (.ref (zα G 0)), some (.int a1), some (.int a2), some (.ref (zα G a3)), some (.int x9), some (.int x10)]) hX dX11_doors_119 rfl zki1 rfl (fun _ => rfl) h fun x10 h =>
          z_goto 122 44 hX dX11_doors_122 rfl <|
          ih _ _ _ _ _ _ ha3 h
def f_X11_doors (a1 : Int32) (a2 : Int32) (w : zW) : Option (Int32 × zW) :=
  zb (f_X8_hasWall a1 w) fun x2 =>
  if x2 = nI 0 then
    j_X11_doors_22 w
  else
  if a2 < (nI 1) then
    j_X11_doors_22 w
  else
  if (nI 12) < a2 then
    j_X11_doors_22 w
  else
    zguard (zin a1 6) (
    l_X11_doors_44 (fun k125_a4 w11 =>
      some (k125_a4, w11)) zfuel a1 a2 (40 + 2 * a1.toNatClampNeg) (nI 0) (nI 0) w)
theorem c_X11_doors {G : zG} {l : Launch} (hG : zgood G) {w : zW} {re : Int32} {we : zW} {a1 : Int32} {a2 : Int32}  (h : f_X11_doors a1 a2 w = some (re, we)) : zMet G l yX11_doors cX11_doors 6 (some .int) 4 [.ref (zα G 0), .int a1, .int a2] w (some (.int re)) we := by
  refine zMet_of (L0 := [some (.ref (zα G 0)), some (.int a1), some (.int a2), none, none, none]) hG zplX11 (Nat.le_of_ble_eq_true rfl) rfl rfl (fun X hl hX hEI hEV hEA => ?_)
  subst hl
  have hX : zOk G X cX11_doors 6 RX11 4 := hX
  have hE := hEI _ _ rfl rfl
  rw [f_X11_doors] at h
  refine z_aload_n 0 hX dX11_doors_0 rfl <|
    zgX11_12 1 hX dX11_doors_1 (rfl : shp 0 = (11, 0)) <|
    z_iload_n 4 hX dX11_doors_4 rfl <|
    zb1 h fun x2 r1 h => zcX11_88 5 [.int a1] [] hX dX11_doors_5 (c_X8_hasWall (zgd0 hX) r1) (rfl : shp 1 = (8, 0)) rfl rfl rfl (Nat.le_of_ble_eq_true rfl) (Nat.le_of_ble_eq_true rfl) <|
    z_if_eq 8 22 hX dX11_doors_8 rfl h (fun q3 h => ?_) (fun q3 h => ?_)
  · refine z_weak (L' := [some (.ref (zα G 0)), none, none, none, none, none]) (zsub_s (zsub_n (zsub_n (zsub_n (zsub_n (zsub_n zsub_0)))))) <|
      j_X11_doors_22z hX hE h
  · refine z_iload_n 11 hX dX11_doors_11 rfl <|
      z_iconst 12 hX dX11_doors_12 zki1 <|
      z_icmp_lt 13 22 hX dX11_doors_13 rfl h (fun q4 h => ?_) (fun q4 h => ?_)
    · refine z_weak (L' := [some (.ref (zα G 0)), none, none, none, none, none]) (zsub_s (zsub_n (zsub_n (zsub_n (zsub_n (zsub_n zsub_0)))))) <|
        j_X11_doors_22z hX hE h
    · refine z_iload_n 16 hX dX11_doors_16 rfl <|
        z_bipush 17 hX dX11_doors_17 zkb12 <|
        z_icmp_le 19 28 hX dX11_doors_19 rfl h (fun q5 h => ?_) (fun q5 h => ?_)
      · refine z_aload_n 28 hX dX11_doors_28 rfl <|
          zgX11_12 29 hX dX11_doors_29 (rfl : shp 0 = (11, 0)) <|
          zgX11_80 32 hX dX11_doors_32 (rfl : shp 1 = (8, 0)) <|
          z_iload_n 35 hX dX11_doors_35 rfl <|
          z_aald 36 hX dX11_doors_36 (rfl : shp 2 = (21, 6)) (by decide) h fun q6 h =>
          z_astore_n 37 [some (.ref (zα G 0)), some (.int a1), some (.int a2), some (.ref (zα G (40 + 2 * a1.toNatClampNeg))), none, none] hX dX11_doors_37 (Nat.le_of_ble_eq_true rfl) rfl rfl <|
          z_iconst 38 hX dX11_doors_38 zki0 <|
          z_istore 39 [some (.ref (zα G 0)), some (.int a1), some (.int a2), some (.ref (zα G (40 + 2 * a1.toNatClampNeg))), some (.int (nI 0)), none] hX dX11_doors_39 (Nat.le_of_ble_eq_true rfl) rfl rfl <|
          z_iconst 41 hX dX11_doors_41 zki0 <|
          z_istore 42 [some (.ref (zα G 0)), some (.int a1), some (.int a2), some (.ref (zα G (40 + 2 * a1.toNatClampNeg))), some (.int (nI 0)), some (.int (nI 0))] hX dX11_doors_42 (Nat.le_of_ble_eq_true rfl) rfl rfl <|
          l_X11_doors_44z hX hE (fun k125_a4 w11 h => ?_) _ _ _ _ _ _ _ (ze21 _ (rfl : shp 2 = (21, 6)) _ q6) h
        · refine z_iload 125 hX dX11_doors_125 rfl <|
            z_endI2 127 hE rfl h dX11_doors_127
      · refine z_weak (L' := [some (.ref (zα G 0)), none, none, none, none, none]) (zsub_s (zsub_n (zsub_n (zsub_n (zsub_n (zsub_n zsub_0)))))) <|
          j_X11_doors_22z hX hE h
def f_X11_readsWith (a1 : Int32) (a2 : Int32) (a3 : Int32) (w : zW) : Option (Int32 × zW) :=
  zguard (zin a1 6) (
  zb (f_X9_copyFrom 118 (40 + 2 * a1.toNatClampNeg) w) fun w1 =>
  zsto w1 119 24 a2 a3 fun w2 =>
  zb (f_X8_spell 118 a1 w2) fun w3 =>
  zb2 (f_X1_hold w3) fun x5 w4 =>
  zguard (zbool x5) (
  some (x5, w4)))
theorem c_X11_readsWith {G : zG} {l : Launch} (hG : zgood G) {w : zW} {re : Int32} {we : zW} {a1 : Int32} {a2 : Int32} {a3 : Int32}  (h : f_X11_readsWith a1 a2 a3 w = some (re, we)) : zMet G l yX11_readsWith cX11_readsWith 4 (some .boolean) 4 [.ref (zα G 0), .int a1, .int a2, .int a3] w (some (.int re)) we := by
  refine zMet_of (L0 := [some (.ref (zα G 0)), some (.int a1), some (.int a2), some (.int a3)]) hG zplX11 (Nat.le_of_ble_eq_true rfl) rfl rfl (fun X hl hX hEI hEV hEA => ?_)
  subst hl
  have hX : zOk G X cX11_readsWith 4 RX11 4 := hX
  have hE := hEI _ _ rfl rfl
  rw [f_X11_readsWith] at h
  refine z_aload_n 0 hX dX11_readsWith_0 rfl <|
    zgX11_43 1 hX dX11_readsWith_1 (rfl : shp 0 = (11, 0)) <|
    z_aload_n 4 hX dX11_readsWith_4 rfl <|
    zgX11_12 5 hX dX11_readsWith_5 (rfl : shp 0 = (11, 0)) <|
    zgX11_80 8 hX dX11_readsWith_8 (rfl : shp 1 = (8, 0)) <|
    z_iload_n 11 hX dX11_readsWith_11 rfl <|
    z_aald 12 hX dX11_readsWith_12 (rfl : shp 2 = (21, 6)) (by decide) h fun q1 h =>
    zb1 h fun w1 r2 h => zcX11_199 13 [.ref (zα G (40 + 2 * a1.toNatClampNeg))] [] hX dX11_readsWith_13 (c_X9_copyFrom (zgd0 hX) (rfl : shp 118 = (9, 0)) (ze21 _ (rfl : shp 2 = (21, 6)) _ q1) r2) (rfl : shp 118 = (9, 0)) rfl rfl rfl (Nat.le_of_ble_eq_true rfl) (Nat.le_of_ble_eq_true rfl) <|
    z_aload_n 16 hX dX11_readsWith_16 rfl <|
    zgX11_43 17 hX dX11_readsWith_17 (rfl : shp 0 = (11, 0)) <|
    zgX11_132 20 hX dX11_readsWith_20 (rfl : shp 118 = (9, 0)) <|
    z_iload_n 23 hX dX11_readsWith_23 rfl <|
    z_iload_n 24 hX dX11_readsWith_24 rfl <|
    z_iast 25 hX dX11_readsWith_25 (rfl : shp 119 = (20, 24)) h fun w2 h =>
    z_aload_n 26 hX dX11_readsWith_26 rfl <|
    zgX11_12 27 hX dX11_readsWith_27 (rfl : shp 0 = (11, 0)) <|
    z_aload_n 30 hX dX11_readsWith_30 rfl <|
    zgX11_43 31 hX dX11_readsWith_31 (rfl : shp 0 = (11, 0)) <|
    z_iload_n 34 hX dX11_readsWith_34 rfl <|
    z_aload_n 35 hX dX11_readsWith_35 rfl <|
    zgX11_36 36 hX dX11_readsWith_36 (rfl : shp 0 = (11, 0)) <|
    zb1 h fun w3 r3 h => zcX11_92 39 [.ref (zα G 118), .int a1, .ref (zα G 116)] [] hX dX11_readsWith_39 (c_X8_spell (zgd0 hX) (rfl : shp 118 = (9, 0)) r3) (rfl : shp 1 = (8, 0)) rfl rfl rfl (Nat.le_of_ble_eq_true rfl) (Nat.le_of_ble_eq_true rfl) <|
    z_aload_n 42 hX dX11_readsWith_42 rfl <|
    zgX11_29 43 hX dX11_readsWith_43 (rfl : shp 0 = (11, 0)) <|
    z_aload_n 46 hX dX11_readsWith_46 rfl <|
    zgX11_12 47 hX dX11_readsWith_47 (rfl : shp 0 = (11, 0)) <|
    zgX11_106 50 hX dX11_readsWith_50 (rfl : shp 1 = (8, 0)) <|
    z_aload_n 53 hX dX11_readsWith_53 rfl <|
    zgX11_36 54 hX dX11_readsWith_54 (rfl : shp 0 = (11, 0)) <|
    zb12 h fun x5 w4 r4 h => zcX11_110 57 [.ref (zα G 3), .ref (zα G 116)] [] hX dX11_readsWith_57 (c_X1_hold (zgd0 hX) r4) (rfl : shp 112 = (1, 0)) rfl rfl rfl (Nat.le_of_ble_eq_true rfl) (Nat.le_of_ble_eq_true rfl) <|
    zgd2 h fun q6 h =>
    z_endI2 60 hE (znar_bool q6) h dX11_readsWith_60
def l_X11_spare_32 (K75 : Int32 → zW → Option (Int32 × zW)) : Nat → Int32 → Nat → Int32 → Int32 → zW → Option (Int32 × zW)
  | 0, _, _, _, _, _ => none
  | n + 1, a1, a2, a3, a4, w =>
    if a4 < (w a2 3) then
      zld w (a2 + 1) 24 a4 fun x2 =>
      if x2 = nI 0 then
        zlet (a4 + nI 1) fun x4 =>
        (l_X11_spare_32 K75 n) a1 a2 a3 x4 w
      else
        zb2 (f_X11_readsWith a1 a4 (nI 0) w) fun x6 w1 =>
        if x6 = nI 0 then
          zlet (a4 + nI 1) fun x8 =>
          (l_X11_spare_32 K75 n) a1 a2 a3 x8 w1
        else
          zlet (a3 ||| ((nI 1) <<< (a4 &&& 31))) fun x9 =>
          zlet (a4 + nI 1) fun x10 =>
          (l_X11_spare_32 K75 n) a1 a2 x9 x10 w1
    else
      K75 a3 w
theorem l_X11_spare_32z {K75 : Int32 → zW → Option (Int32 × zW)} {G : zG} {X : zX} {re : Int32} {we : zW} (hX : zOk G X cX11_spare 5 RX11 5) (hE : zEI G X cX11_spare .int re we) (hK75 : ∀ (a3 : Int32) (w3 : zW) , K75 a3 w3 = some (re, we) → zZ G X w3 75 [none, none, none, some (.int a3), none] []) : ∀ (n : Nat) (a1 : Int32) (a2 : Nat) (a3 : Int32) (a4 : Int32) (w : zW) (ha2 : shp a2 = (9, 0)), l_X11_spare_32 K75 n a1 a2 a3 a4 w = some (re, we) → zZ G X w 32 [some (.ref (zα G 0)), some (.int a1), some (.ref (zα G a2)), some (.int a3), some (.int a4)] [] := by
  intro n
  induction n with
  | zero =>
    intro a1 a2 a3 a4 w ha2 h
    rw [l_X11_spare_32.eq_1] at h
    cases h
  | succ n ih =>
    intro a1 a2 a3 a4 w ha2 h
    rw [l_X11_spare_32.eq_2] at h
    refine z_iload 32 hX dX11_spare_32 rfl <|
      z_aload_n 34 hX dX11_spare_34 rfl <|
      zgX11_102 35 hX dX11_spare_35 ha2 <|
      z_icmp_ge 38 75 hX dX11_spare_38 rfl h (fun q1 h => ?_) (fun q1 h => ?_)
    · refine z_weak (L' := [none, none, none, some (.int a3), none]) (zsub_n (zsub_n (zsub_n (zsub_s (zsub_n zsub_0))))) <|
        hK75 _ _ h
    · refine z_aload_n 41 hX dX11_spare_41 rfl <|
        zgX11_132 42 hX dX11_spare_42 ha2 <|
        z_iload 45 hX dX11_spare_45 rfl <|
        z_iald 47 hX dX11_spare_47 (zr9_stones _ ha2) h fun x2 _ h =>
        z_if_eq 48 69 hX dX11_spare_48 rfl h (fun q3 h => ?_) (fun q3 h => ?_)
      · refine z_iincG 69 (fun x4 => [some (.ref (zα G 0)), some (.int a1), some (.ref (zα G a2)), some (.int a3), some (.int x4)]) hX dX11_spare_69 rfl zki1 rfl (fun _ => rfl) h fun x4 h =>
          z_goto 72 32 hX dX11_spare_72 rfl <|
          ih _ _ _ _ _ ha2 h
      · refine z_aload_n 51 hX dX11_spare_51 rfl <|
          z_iload_n 52 hX dX11_spare_52 rfl <|
          z_iload 53 hX dX11_spare_53 rfl <|
          z_iconst 55 hX dX11_spare_55 zki0 <|
          zb12 h fun x6 w1 r5 h => zcX11_206 56 [.int a1, .int a4, .int (nI 0)] [] hX dX11_spare_56 (c_X11_readsWith (zgd0 hX) r5) (rfl : shp 0 = (11, 0)) rfl rfl rfl (Nat.le_of_ble_eq_true rfl) (Nat.le_of_ble_eq_true rfl) <|
          z_if_eq 59 69 hX dX11_spare_59 rfl h (fun q7 h => ?_) (fun q7 h => ?_)
        · refine z_iincG 69 (fun x8 => [some (.ref (zα G 0)), some (.int a1), some (.ref (zα G a2)), some (.int a3), some (.int x8)]) hX dX11_spare_69 rfl zki1 rfl (fun _ => rfl) h fun x8 h =>
            z_goto 72 32 hX dX11_spare_72 rfl <|
            ih _ _ _ _ _ ha2 h
        · refine z_iload_n 62 hX dX11_spare_62 rfl <|
            z_iconst 63 hX dX11_spare_63 zki1 <|
            z_iload 64 hX dX11_spare_64 rfl <|
            z_ishl 66 hX dX11_spare_66 <|
            z_ior 67 hX dX11_spare_67 <|
            z_top h fun x9 h =>
            z_istore_n 68 [some (.ref (zα G 0)), some (.int a1), some (.ref (zα G a2)), some (.int x9), some (.int a4)] hX dX11_spare_68 (Nat.le_of_ble_eq_true rfl) rfl rfl <|
            z_iincG 69 (fun x10 => [some (.ref (zα G 0)), some (.int a1), some (.ref (zα G a2)), some (.int x9), some (.int x10)]) hX dX11_spare_69 rfl zki1 rfl (fun _ => rfl) h fun x10 h =>
            z_goto 72 32 hX dX11_spare_72 rfl <|
            ih _ _ _ _ _ ha2 h
def f_X11_spare (a1 : Int32) (w : zW) : Option (Int32 × zW) :=
  zb (f_X8_hasWall a1 w) fun x2 =>
  if x2 = nI 0 then
    zb2 (f_X11_error (nI 1) w) fun x6 w1 =>
    some (x6, w1)
  else
    zguard (zin a1 6) (
    l_X11_spare_32 (fun k75_a3 w11 =>
      some (k75_a3, w11)) zfuel a1 (40 + 2 * a1.toNatClampNeg) (nI 0) (nI 0) w)
theorem c_X11_spare {G : zG} {l : Launch} (hG : zgood G) {w : zW} {re : Int32} {we : zW} {a1 : Int32}  (h : f_X11_spare a1 w = some (re, we)) : zMet G l yX11_spare cX11_spare 5 (some .int) 5 [.ref (zα G 0), .int a1] w (some (.int re)) we := by
  refine zMet_of (L0 := [some (.ref (zα G 0)), some (.int a1), none, none, none]) hG zplX11 (Nat.le_of_ble_eq_true rfl) rfl rfl (fun X hl hX hEI hEV hEA => ?_)
  subst hl
  have hX : zOk G X cX11_spare 5 RX11 5 := hX
  have hE := hEI _ _ rfl rfl
  rw [f_X11_spare] at h
  refine z_aload_n 0 hX dX11_spare_0 rfl <|
    zgX11_12 1 hX dX11_spare_1 (rfl : shp 0 = (11, 0)) <|
    z_iload_n 4 hX dX11_spare_4 rfl <|
    zb1 h fun x2 r1 h => zcX11_88 5 [.int a1] [] hX dX11_spare_5 (c_X8_hasWall (zgd0 hX) r1) (rfl : shp 1 = (8, 0)) rfl rfl rfl (Nat.le_of_ble_eq_true rfl) (Nat.le_of_ble_eq_true rfl) <|
    z_if_ne 8 17 hX dX11_spare_8 rfl h (fun q3 h => ?_) (fun q3 h => ?_)
  · refine z_aload_n 17 hX dX11_spare_17 rfl <|
      zgX11_12 18 hX dX11_spare_18 (rfl : shp 0 = (11, 0)) <|
      zgX11_80 21 hX dX11_spare_21 (rfl : shp 1 = (8, 0)) <|
      z_iload_n 24 hX dX11_spare_24 rfl <|
      z_aald 25 hX dX11_spare_25 (rfl : shp 2 = (21, 6)) (by decide) h fun q4 h =>
      z_astore_n 26 [some (.ref (zα G 0)), some (.int a1), some (.ref (zα G (40 + 2 * a1.toNatClampNeg))), none, none] hX dX11_spare_26 (Nat.le_of_ble_eq_true rfl) rfl rfl <|
      z_iconst 27 hX dX11_spare_27 zki0 <|
      z_istore_n 28 [some (.ref (zα G 0)), some (.int a1), some (.ref (zα G (40 + 2 * a1.toNatClampNeg))), some (.int (nI 0)), none] hX dX11_spare_28 (Nat.le_of_ble_eq_true rfl) rfl rfl <|
      z_iconst 29 hX dX11_spare_29 zki0 <|
      z_istore 30 [some (.ref (zα G 0)), some (.int a1), some (.ref (zα G (40 + 2 * a1.toNatClampNeg))), some (.int (nI 0)), some (.int (nI 0))] hX dX11_spare_30 (Nat.le_of_ble_eq_true rfl) rfl rfl <|
      l_X11_spare_32z hX hE (fun k75_a3 w11 h => ?_) _ _ _ _ _ _ (ze21 _ (rfl : shp 2 = (21, 6)) _ q4) h
    · refine z_iload_n 75 hX dX11_spare_75 rfl <|
        z_endI2 76 hE rfl h dX11_spare_76
  · refine z_aload_n 11 hX dX11_spare_11 rfl <|
      z_iconst 12 hX dX11_spare_12 zki1 <|
      zb12 h fun x6 w1 r5 h => zcX11_72 13 [.int (nI 1)] [] hX dX11_spare_13 (c_X11_error (zgd0 hX) r5) (rfl : shp 0 = (11, 0)) rfl rfl rfl (Nat.le_of_ble_eq_true rfl) (Nat.le_of_ble_eq_true rfl) <|
      z_endI2 16 hE rfl h dX11_spare_16
def l_X11_othersAt_21 (K60 : Int32 → zW → Option (Int32 × zW)) : Nat → Int32 → Int32 → Int32 → Int32 → Int32 → zW → Option (Int32 × zW)
  | 0, _, _, _, _, _, _ => none
  | n + 1, a1, a2, a3, a4, a5, w =>
    if (nI 26) < a5 then
      K60 a4 w
    else
    if a5 = a3 then
      zlet (a5 + nI 1) fun x3 =>
      (l_X11_othersAt_21 K60 n) a1 a2 a3 a4 x3 w
    else
      zb2 (f_X11_readsWith a1 a2 a5 w) fun x5 w1 =>
      if x5 = nI 0 then
        zlet (a5 + nI 1) fun x7 =>
        (l_X11_othersAt_21 K60 n) a1 a2 a3 a4 x7 w1
      else
        zlet (a4 ||| ((nI 1) <<< (a5 &&& 31))) fun x8 =>
        zlet (a5 + nI 1) fun x9 =>
        (l_X11_othersAt_21 K60 n) a1 a2 a3 x8 x9 w1
theorem l_X11_othersAt_21z {K60 : Int32 → zW → Option (Int32 × zW)} {G : zG} {X : zX} {re : Int32} {we : zW} (hX : zOk G X cX11_othersAt 6 RX11 5) (hE : zEI G X cX11_othersAt .int re we) (hK60 : ∀ (a4 : Int32) (w3 : zW) , K60 a4 w3 = some (re, we) → zZ G X w3 60 [none, none, none, none, some (.int a4), none] []) : ∀ (n : Nat) (a1 : Int32) (a2 : Int32) (a3 : Int32) (a4 : Int32) (a5 : Int32) (w : zW) , l_X11_othersAt_21 K60 n a1 a2 a3 a4 a5 w = some (re, we) → zZ G X w 21 [some (.ref (zα G 0)), some (.int a1), some (.int a2), some (.int a3), some (.int a4), some (.int a5)] [] := by
  intro n
  induction n with
  | zero =>
    intro a1 a2 a3 a4 a5 w  h
    rw [l_X11_othersAt_21.eq_1] at h
    cases h
  | succ n ih =>
    intro a1 a2 a3 a4 a5 w  h
    rw [l_X11_othersAt_21.eq_2] at h
    refine z_iload 21 hX dX11_othersAt_21 rfl <|
      z_bipush 23 hX dX11_othersAt_23 zkb26 <|
      z_icmp_gt 25 60 hX dX11_othersAt_25 rfl h (fun q1 h => ?_) (fun q1 h => ?_)
    · refine z_weak (L' := [none, none, none, none, some (.int a4), none]) (zsub_n (zsub_n (zsub_n (zsub_n (zsub_s (zsub_n zsub_0)))))) <|
        hK60 _ _ h
    · refine z_iload 28 hX dX11_othersAt_28 rfl <|
        z_iload_n 30 hX dX11_othersAt_30 rfl <|
        z_icmp_eq 31 54 hX dX11_othersAt_31 rfl h (fun q2 h => ?_) (fun q2 h => ?_)
      · refine z_iincG 54 (fun x3 => [some (.ref (zα G 0)), some (.int a1), some (.int a2), some (.int a3), some (.int a4), some (.int x3)]) hX dX11_othersAt_54 rfl zki1 rfl (fun _ => rfl) h fun x3 h =>
          z_goto 57 21 hX dX11_othersAt_57 rfl <|
          ih _ _ _ _ _ _ h
      · refine z_aload_n 34 hX dX11_othersAt_34 rfl <|
          z_iload_n 35 hX dX11_othersAt_35 rfl <|
          z_iload_n 36 hX dX11_othersAt_36 rfl <|
          z_iload 37 hX dX11_othersAt_37 rfl <|
          zb12 h fun x5 w1 r4 h => zcX11_206 39 [.int a1, .int a2, .int a5] [] hX dX11_othersAt_39 (c_X11_readsWith (zgd0 hX) r4) (rfl : shp 0 = (11, 0)) rfl rfl rfl (Nat.le_of_ble_eq_true rfl) (Nat.le_of_ble_eq_true rfl) <|
          z_if_eq 42 54 hX dX11_othersAt_42 rfl h (fun q6 h => ?_) (fun q6 h => ?_)
        · refine z_iincG 54 (fun x7 => [some (.ref (zα G 0)), some (.int a1), some (.int a2), some (.int a3), some (.int a4), some (.int x7)]) hX dX11_othersAt_54 rfl zki1 rfl (fun _ => rfl) h fun x7 h =>
            z_goto 57 21 hX dX11_othersAt_57 rfl <|
            ih _ _ _ _ _ _ h
        · refine z_iload 45 hX dX11_othersAt_45 rfl <|
            z_iconst 47 hX dX11_othersAt_47 zki1 <|
            z_iload 48 hX dX11_othersAt_48 rfl <|
            z_ishl 50 hX dX11_othersAt_50 <|
            z_ior 51 hX dX11_othersAt_51 <|
            z_top h fun x8 h =>
            z_istore 52 [some (.ref (zα G 0)), some (.int a1), some (.int a2), some (.int a3), some (.int x8), some (.int a5)] hX dX11_othersAt_52 (Nat.le_of_ble_eq_true rfl) rfl rfl <|
            z_iincG 54 (fun x9 => [some (.ref (zα G 0)), some (.int a1), some (.int a2), some (.int a3), some (.int x8), some (.int x9)]) hX dX11_othersAt_54 rfl zki1 rfl (fun _ => rfl) h fun x9 h =>
            z_goto 57 21 hX dX11_othersAt_57 rfl <|
            ih _ _ _ _ _ _ h
def f_X11_othersAt (a1 : Int32) (a2 : Int32) (w : zW) : Option (Int32 × zW) :=
  zguard (zin a1 6) (
  zld w ((40 + 2 * a1.toNatClampNeg) + 1) 24 a2 fun x2 =>
  l_X11_othersAt_21 (fun k60_a4 w11 =>
    some (k60_a4, w11)) zfuel a1 a2 x2 (nI 0) (nI 1) w)
theorem c_X11_othersAt {G : zG} {l : Launch} (hG : zgood G) {w : zW} {re : Int32} {we : zW} {a1 : Int32} {a2 : Int32}  (h : f_X11_othersAt a1 a2 w = some (re, we)) : zMet G l yX11_othersAt cX11_othersAt 6 (some .int) 5 [.ref (zα G 0), .int a1, .int a2] w (some (.int re)) we := by
  refine zMet_of (L0 := [some (.ref (zα G 0)), some (.int a1), some (.int a2), none, none, none]) hG zplX11 (Nat.le_of_ble_eq_true rfl) rfl rfl (fun X hl hX hEI hEV hEA => ?_)
  subst hl
  have hX : zOk G X cX11_othersAt 6 RX11 5 := hX
  have hE := hEI _ _ rfl rfl
  rw [f_X11_othersAt] at h
  refine z_aload_n 0 hX dX11_othersAt_0 rfl <|
    zgX11_12 1 hX dX11_othersAt_1 (rfl : shp 0 = (11, 0)) <|
    zgX11_80 4 hX dX11_othersAt_4 (rfl : shp 1 = (8, 0)) <|
    z_iload_n 7 hX dX11_othersAt_7 rfl <|
    z_aald 8 hX dX11_othersAt_8 (rfl : shp 2 = (21, 6)) (by decide) h fun q1 h =>
    zgX11_132 9 hX dX11_othersAt_9 (ze21 _ (rfl : shp 2 = (21, 6)) _ q1) <|
    z_iload_n 12 hX dX11_othersAt_12 rfl <|
    z_iald 13 hX dX11_othersAt_13 (zr9_stones _ (ze21 _ (rfl : shp 2 = (21, 6)) _ q1)) h fun x2 _ h =>
    z_istore_n 14 [some (.ref (zα G 0)), some (.int a1), some (.int a2), some (.int x2), none, none] hX dX11_othersAt_14 (Nat.le_of_ble_eq_true rfl) rfl rfl <|
    z_iconst 15 hX dX11_othersAt_15 zki0 <|
    z_istore 16 [some (.ref (zα G 0)), some (.int a1), some (.int a2), some (.int x2), some (.int (nI 0)), none] hX dX11_othersAt_16 (Nat.le_of_ble_eq_true rfl) rfl rfl <|
    z_iconst 18 hX dX11_othersAt_18 zki1 <|
    z_istore 19 [some (.ref (zα G 0)), some (.int a1), some (.int a2), some (.int x2), some (.int (nI 0)), some (.int (nI 1))] hX dX11_othersAt_19 (Nat.le_of_ble_eq_true rfl) rfl rfl <|
    l_X11_othersAt_21z hX hE (fun k60_a4 w11 h => ?_) _ _ _ _ _ _ _ h
  · refine z_iload 60 hX dX11_othersAt_60 rfl <|
      z_endI2 62 hE rfl h dX11_othersAt_62
def f_X11_others (a1 : Int32) (a2 : Int32) (w : zW) : Option (Int32 × zW) :=
  zb (f_X8_hasPlace a1 a2 w) fun x2 =>
  if x2 = nI 0 then
    zb2 (f_X11_error (nI 1) w) fun x5 w1 =>
    some (x5, w1)
  else
    zb2 (f_X11_othersAt a1 a2 w) fun x7 w2 =>
    some (x7, w2)
theorem c_X11_others {G : zG} {l : Launch} (hG : zgood G) {w : zW} {re : Int32} {we : zW} {a1 : Int32} {a2 : Int32}  (h : f_X11_others a1 a2 w = some (re, we)) : zMet G l yX11_others cX11_others 3 (some .int) 6 [.ref (zα G 0), .int a1, .int a2] w (some (.int re)) we := by
  refine zMet_of (L0 := [some (.ref (zα G 0)), some (.int a1), some (.int a2)]) hG zplX11 (Nat.le_of_ble_eq_true rfl) rfl rfl (fun X hl hX hEI hEV hEA => ?_)
  subst hl
  have hX : zOk G X cX11_others 3 RX11 6 := hX
  have hE := hEI _ _ rfl rfl
  rw [f_X11_others] at h
  refine z_aload_n 0 hX dX11_others_0 rfl <|
    zgX11_12 1 hX dX11_others_1 (rfl : shp 0 = (11, 0)) <|
    z_iload_n 4 hX dX11_others_4 rfl <|
    z_iload_n 5 hX dX11_others_5 rfl <|
    zb1 h fun x2 r1 h => zcX11_129 6 [.int a1, .int a2] [] hX dX11_others_6 (c_X8_hasPlace (zgd0 hX) r1) (rfl : shp 1 = (8, 0)) rfl rfl rfl (Nat.le_of_ble_eq_true rfl) (Nat.le_of_ble_eq_true rfl) <|
    z_if_eq 9 21 hX dX11_others_9 rfl h (fun q3 h => ?_) (fun q3 h => ?_)
  · refine z_aload_n 21 hX dX11_others_21 rfl <|
      z_iconst 22 hX dX11_others_22 zki1 <|
      zb12 h fun x5 w1 r4 h => zcX11_72 23 [.int (nI 1)] [] hX dX11_others_23 (c_X11_error (zgd0 hX) r4) (rfl : shp 0 = (11, 0)) rfl rfl rfl (Nat.le_of_ble_eq_true rfl) (Nat.le_of_ble_eq_true rfl) <|
      z_endI2 26 hE rfl h dX11_others_26
  · refine z_aload_n 12 hX dX11_others_12 rfl <|
      z_iload_n 13 hX dX11_others_13 rfl <|
      z_iload_n 14 hX dX11_others_14 rfl <|
      zb12 h fun x7 w2 r6 h => zcX11_210 15 [.int a1, .int a2] [] hX dX11_others_15 (c_X11_othersAt (zgd0 hX) r6) (rfl : shp 0 = (11, 0)) rfl rfl rfl (Nat.le_of_ble_eq_true rfl) (Nat.le_of_ble_eq_true rfl) <|
      z_goto 18 26 hX dX11_others_18 rfl <|
      z_endI2 26 hE rfl h dX11_others_26
def f_J6_bitCount_0f7a4 (a0 : Int32)  : Option Int32 :=
  zlet (a0 - (((a0.toUInt32 >>> ((nI 1).toUInt32 &&& Int32.toUInt32 31)).toInt32) &&& (nI 1431655765))) fun x1 =>
  zlet ((x1 &&& (nI 858993459)) + (((x1.toUInt32 >>> ((nI 2).toUInt32 &&& Int32.toUInt32 31)).toInt32) &&& (nI 858993459))) fun x2 =>
  zlet ((x2 + ((x2.toUInt32 >>> ((nI 4).toUInt32 &&& Int32.toUInt32 31)).toInt32)) &&& (nI 252645135)) fun x3 =>
  zlet (x3 + ((x3.toUInt32 >>> ((nI 8).toUInt32 &&& Int32.toUInt32 31)).toInt32)) fun x4 =>
  zlet (x4 + ((x4.toUInt32 >>> ((nI 16).toUInt32 &&& Int32.toUInt32 31)).toInt32)) fun x5 =>
  some (x5 &&& (nI 63))
theorem c_J6_bitCount_0f7a4 {G : zG} {l : Launch} (hG : zgood G) {w : zW} {re : Int32} {a0 : Int32}  (h : f_J6_bitCount_0f7a4 a0 = some re) : zMet G l yJ6_bitCount_0f7a4 cJ6_bitCount_0f7a4 1 (some .int) 0 [.int a0] w (some (.int re)) w := by
  refine zMet_of (L0 := [some (.int a0)]) hG zplJ6 (Nat.le_of_ble_eq_true rfl) rfl rfl (fun X hl hX hEI hEV hEA => ?_)
  subst hl
  have hX : zOk G X cJ6_bitCount_0f7a4 1 RJ6 0 := hX
  have hE := hEI _ _ rfl rfl
  rw [f_J6_bitCount_0f7a4] at h
  refine z_iload_n 0 hX dJ6_bitCount_0f7a4_0 rfl <|
    z_iload_n 1 hX dJ6_bitCount_0f7a4_1 rfl <|
    z_iconst 2 hX dJ6_bitCount_0f7a4_2 zki1 <|
    z_iushr 3 hX dJ6_bitCount_0f7a4_3 <|
    z_ldc_w 4 hX dJ6_bitCount_0f7a4_4 zw800 zkl1431655765 <|
    z_iand 7 hX dJ6_bitCount_0f7a4_7 <|
    z_isub 8 hX dJ6_bitCount_0f7a4_8 <|
    z_top h fun x1 h =>
    z_istore_n 9 [some (.int x1)] hX dJ6_bitCount_0f7a4_9 (Nat.le_of_ble_eq_true rfl) rfl rfl <|
    z_iload_n 10 hX dJ6_bitCount_0f7a4_10 rfl <|
    z_ldc_w 11 hX dJ6_bitCount_0f7a4_11 zw801 zkl858993459 <|
    z_iand 14 hX dJ6_bitCount_0f7a4_14 <|
    z_iload_n 15 hX dJ6_bitCount_0f7a4_15 rfl <|
    z_iconst 16 hX dJ6_bitCount_0f7a4_16 zki2 <|
    z_iushr 17 hX dJ6_bitCount_0f7a4_17 <|
    z_ldc_w 18 hX dJ6_bitCount_0f7a4_18 zw801 zkl858993459 <|
    z_iand 21 hX dJ6_bitCount_0f7a4_21 <|
    z_iadd 22 hX dJ6_bitCount_0f7a4_22 <|
    z_top h fun x2 h =>
    z_istore_n 23 [some (.int x2)] hX dJ6_bitCount_0f7a4_23 (Nat.le_of_ble_eq_true rfl) rfl rfl <|
    z_iload_n 24 hX dJ6_bitCount_0f7a4_24 rfl <|
    z_iload_n 25 hX dJ6_bitCount_0f7a4_25 rfl <|
    z_iconst 26 hX dJ6_bitCount_0f7a4_26 zki4 <|
    z_iushr 27 hX dJ6_bitCount_0f7a4_27 <|
    z_iadd 28 hX dJ6_bitCount_0f7a4_28 <|
    z_ldc_w 29 hX dJ6_bitCount_0f7a4_29 zw802 zkl252645135 <|
    z_iand 32 hX dJ6_bitCount_0f7a4_32 <|
    z_top h fun x3 h =>
    z_istore_n 33 [some (.int x3)] hX dJ6_bitCount_0f7a4_33 (Nat.le_of_ble_eq_true rfl) rfl rfl <|
    z_iload_n 34 hX dJ6_bitCount_0f7a4_34 rfl <|
    z_iload_n 35 hX dJ6_bitCount_0f7a4_35 rfl <|
    z_bipush 36 hX dJ6_bitCount_0f7a4_36 zkb8 <|
    z_iushr 38 hX dJ6_bitCount_0f7a4_38 <|
    z_iadd 39 hX dJ6_bitCount_0f7a4_39 <|
    z_top h fun x4 h =>
    z_istore_n 40 [some (.int x4)] hX dJ6_bitCount_0f7a4_40 (Nat.le_of_ble_eq_true rfl) rfl rfl <|
    z_iload_n 41 hX dJ6_bitCount_0f7a4_41 rfl <|
    z_iload_n 42 hX dJ6_bitCount_0f7a4_42 rfl <|
    z_bipush 43 hX dJ6_bitCount_0f7a4_43 zkb16 <|
    z_iushr 45 hX dJ6_bitCount_0f7a4_45 <|
    z_iadd 46 hX dJ6_bitCount_0f7a4_46 <|
    z_top h fun x5 h =>
    z_istore_n 47 [some (.int x5)] hX dJ6_bitCount_0f7a4_47 (Nat.le_of_ble_eq_true rfl) rfl rfl <|
    z_iload_n 48 hX dJ6_bitCount_0f7a4_48 rfl <|
    z_bipush 49 hX dJ6_bitCount_0f7a4_49 zkb63 <|
    z_iand 51 hX dJ6_bitCount_0f7a4_51 <|
    z_endI 52 hE rfl h dJ6_bitCount_0f7a4_52
def l_X11_steps_32 (K70 : Int32 → zW → Option (Int32 × zW)) : Nat → Int32 → Nat → Int32 → Int32 → zW → Option (Int32 × zW)
  | 0, _, _, _, _, _ => none
  | n + 1, a1, a2, a3, a4, w =>
    if a4 < (w a2 3) then
      zld w (a2 + 1) 24 a4 fun x2 =>
      if x2 = nI 0 then
        zlet (a4 + nI 1) fun x4 =>
        (l_X11_steps_32 K70 n) a1 a2 a3 x4 w
      else
        zb2 (f_X11_othersAt a1 a4 w) fun x6 w1 =>
        zb (f_J6_bitCount_0f7a4 x6) fun x8 =>
        zlet (a3 + x8) fun x9 =>
        zlet (a4 + nI 1) fun x10 =>
        (l_X11_steps_32 K70 n) a1 a2 x9 x10 w1
    else
      K70 a3 w
theorem l_X11_steps_32z {K70 : Int32 → zW → Option (Int32 × zW)} {G : zG} {X : zX} {re : Int32} {we : zW} (hX : zOk G X cX11_steps 5 RX11 6) (hE : zEI G X cX11_steps .int re we) (hK70 : ∀ (a3 : Int32) (w3 : zW) , K70 a3 w3 = some (re, we) → zZ G X w3 70 [none, none, none, some (.int a3), none] []) : ∀ (n : Nat) (a1 : Int32) (a2 : Nat) (a3 : Int32) (a4 : Int32) (w : zW) (ha2 : shp a2 = (9, 0)), l_X11_steps_32 K70 n a1 a2 a3 a4 w = some (re, we) → zZ G X w 32 [some (.ref (zα G 0)), some (.int a1), some (.ref (zα G a2)), some (.int a3), some (.int a4)] [] := by
  intro n
  induction n with
  | zero =>
    intro a1 a2 a3 a4 w ha2 h
    rw [l_X11_steps_32.eq_1] at h
    cases h
  | succ n ih =>
    intro a1 a2 a3 a4 w ha2 h
    rw [l_X11_steps_32.eq_2] at h
    refine z_iload 32 hX dX11_steps_32 rfl <|
      z_aload_n 34 hX dX11_steps_34 rfl <|
      zgX11_102 35 hX dX11_steps_35 ha2 <|
      z_icmp_ge 38 70 hX dX11_steps_38 rfl h (fun q1 h => ?_) (fun q1 h => ?_)
    · refine z_weak (L' := [none, none, none, some (.int a3), none]) (zsub_n (zsub_n (zsub_n (zsub_s (zsub_n zsub_0))))) <|
        hK70 _ _ h
    · refine z_aload_n 41 hX dX11_steps_41 rfl <|
        zgX11_132 42 hX dX11_steps_42 ha2 <|
        z_iload 45 hX dX11_steps_45 rfl <|
        z_iald 47 hX dX11_steps_47 (zr9_stones _ ha2) h fun x2 _ h =>
        z_if_eq 48 64 hX dX11_steps_48 rfl h (fun q3 h => ?_) (fun q3 h => ?_)
      · refine z_iincG 64 (fun x4 => [some (.ref (zα G 0)), some (.int a1), some (.ref (zα G a2)), some (.int a3), some (.int x4)]) hX dX11_steps_64 rfl zki1 rfl (fun _ => rfl) h fun x4 h =>
          z_goto 67 32 hX dX11_steps_67 rfl <|
          ih _ _ _ _ _ ha2 h
      · refine z_iload_n 51 hX dX11_steps_51 rfl <|
          z_aload_n 52 hX dX11_steps_52 rfl <|
          z_iload_n 53 hX dX11_steps_53 rfl <|
          z_iload 54 hX dX11_steps_54 rfl <|
          zb12 h fun x6 w1 r5 h => zcX11_210 56 [.int a1, .int a4] [.int a3] hX dX11_steps_56 (c_X11_othersAt (zgd0 hX) r5) (rfl : shp 0 = (11, 0)) rfl rfl rfl (Nat.le_of_ble_eq_true rfl) (Nat.le_of_ble_eq_true rfl) <|
          zb1 h fun x8 r7 h => zcX11_214 59 [.int x6] [.int a3] hX dX11_steps_59 (c_J6_bitCount_0f7a4 (zgd0 hX) r7) rfl rfl rfl (Nat.le_of_ble_eq_true rfl) (Nat.le_of_ble_eq_true rfl) <|
          z_iadd 62 hX dX11_steps_62 <|
          z_top h fun x9 h =>
          z_istore_n 63 [some (.ref (zα G 0)), some (.int a1), some (.ref (zα G a2)), some (.int x9), some (.int a4)] hX dX11_steps_63 (Nat.le_of_ble_eq_true rfl) rfl rfl <|
          z_iincG 64 (fun x10 => [some (.ref (zα G 0)), some (.int a1), some (.ref (zα G a2)), some (.int x9), some (.int x10)]) hX dX11_steps_64 rfl zki1 rfl (fun _ => rfl) h fun x10 h =>
          z_goto 67 32 hX dX11_steps_67 rfl <|
          ih _ _ _ _ _ ha2 h
def f_X11_steps (a1 : Int32) (w : zW) : Option (Int32 × zW) :=
  zb (f_X8_hasWall a1 w) fun x2 =>
  if x2 = nI 0 then
    zb2 (f_X11_error (nI 1) w) fun x6 w1 =>
    some (x6, w1)
  else
    zguard (zin a1 6) (
    l_X11_steps_32 (fun k70_a3 w11 =>
      some (k70_a3, w11)) zfuel a1 (40 + 2 * a1.toNatClampNeg) (nI 0) (nI 0) w)
theorem c_X11_steps {G : zG} {l : Launch} (hG : zgood G) {w : zW} {re : Int32} {we : zW} {a1 : Int32}  (h : f_X11_steps a1 w = some (re, we)) : zMet G l yX11_steps cX11_steps 5 (some .int) 6 [.ref (zα G 0), .int a1] w (some (.int re)) we := by
  refine zMet_of (L0 := [some (.ref (zα G 0)), some (.int a1), none, none, none]) hG zplX11 (Nat.le_of_ble_eq_true rfl) rfl rfl (fun X hl hX hEI hEV hEA => ?_)
  subst hl
  have hX : zOk G X cX11_steps 5 RX11 6 := hX
  have hE := hEI _ _ rfl rfl
  rw [f_X11_steps] at h
  refine z_aload_n 0 hX dX11_steps_0 rfl <|
    zgX11_12 1 hX dX11_steps_1 (rfl : shp 0 = (11, 0)) <|
    z_iload_n 4 hX dX11_steps_4 rfl <|
    zb1 h fun x2 r1 h => zcX11_88 5 [.int a1] [] hX dX11_steps_5 (c_X8_hasWall (zgd0 hX) r1) (rfl : shp 1 = (8, 0)) rfl rfl rfl (Nat.le_of_ble_eq_true rfl) (Nat.le_of_ble_eq_true rfl) <|
    z_if_ne 8 17 hX dX11_steps_8 rfl h (fun q3 h => ?_) (fun q3 h => ?_)
  · refine z_aload_n 17 hX dX11_steps_17 rfl <|
      zgX11_12 18 hX dX11_steps_18 (rfl : shp 0 = (11, 0)) <|
      zgX11_80 21 hX dX11_steps_21 (rfl : shp 1 = (8, 0)) <|
      z_iload_n 24 hX dX11_steps_24 rfl <|
      z_aald 25 hX dX11_steps_25 (rfl : shp 2 = (21, 6)) (by decide) h fun q4 h =>
      z_astore_n 26 [some (.ref (zα G 0)), some (.int a1), some (.ref (zα G (40 + 2 * a1.toNatClampNeg))), none, none] hX dX11_steps_26 (Nat.le_of_ble_eq_true rfl) rfl rfl <|
      z_iconst 27 hX dX11_steps_27 zki0 <|
      z_istore_n 28 [some (.ref (zα G 0)), some (.int a1), some (.ref (zα G (40 + 2 * a1.toNatClampNeg))), some (.int (nI 0)), none] hX dX11_steps_28 (Nat.le_of_ble_eq_true rfl) rfl rfl <|
      z_iconst 29 hX dX11_steps_29 zki0 <|
      z_istore 30 [some (.ref (zα G 0)), some (.int a1), some (.ref (zα G (40 + 2 * a1.toNatClampNeg))), some (.int (nI 0)), some (.int (nI 0))] hX dX11_steps_30 (Nat.le_of_ble_eq_true rfl) rfl rfl <|
      l_X11_steps_32z hX hE (fun k70_a3 w11 h => ?_) _ _ _ _ _ _ (ze21 _ (rfl : shp 2 = (21, 6)) _ q4) h
    · refine z_iload_n 70 hX dX11_steps_70 rfl <|
        z_endI2 71 hE rfl h dX11_steps_71
  · refine z_aload_n 11 hX dX11_steps_11 rfl <|
      z_iconst 12 hX dX11_steps_12 zki1 <|
      zb12 h fun x6 w1 r5 h => zcX11_72 13 [.int (nI 1)] [] hX dX11_steps_13 (c_X11_error (zgd0 hX) r5) (rfl : shp 0 = (11, 0)) rfl rfl rfl (Nat.le_of_ble_eq_true rfl) (Nat.le_of_ble_eq_true rfl) <|
      z_endI2 16 hE rfl h dX11_steps_16
def f_X11_mends (a1 : Int32) (w : zW) : Option (Int32 × zW) :=
  zb (f_X8_hasWall a1 w) fun x2 =>
  if x2 = nI 0 then
    zb2 (f_X11_error (nI 1) w) fun x12 w4 =>
    some (x12, w4)
  else
    zguard (zin a1 6) (
    zb (f_X8_spell (40 + 2 * a1.toNatClampNeg) a1 w) fun w1 =>
    zb2 (f_X1_fewestUnlike w1) fun x7 w2 =>
    if x7 < (nI 1000000) then
      some (x7, w2)
    else
      zb2 (f_X11_error (nI 2) w2) fun x10 w3 =>
      some (x10, w3))
theorem c_X11_mends {G : zG} {l : Launch} (hG : zgood G) {w : zW} {re : Int32} {we : zW} {a1 : Int32}  (h : f_X11_mends a1 w = some (re, we)) : zMet G l yX11_mends cX11_mends 3 (some .int) 4 [.ref (zα G 0), .int a1] w (some (.int re)) we := by
  refine zMet_of (L0 := [some (.ref (zα G 0)), some (.int a1), none]) hG zplX11 (Nat.le_of_ble_eq_true rfl) rfl rfl (fun X hl hX hEI hEV hEA => ?_)
  subst hl
  have hX : zOk G X cX11_mends 3 RX11 4 := hX
  have hE := hEI _ _ rfl rfl
  rw [f_X11_mends] at h
  refine z_aload_n 0 hX dX11_mends_0 rfl <|
    zgX11_12 1 hX dX11_mends_1 (rfl : shp 0 = (11, 0)) <|
    z_iload_n 4 hX dX11_mends_4 rfl <|
    zb1 h fun x2 r1 h => zcX11_88 5 [.int a1] [] hX dX11_mends_5 (c_X8_hasWall (zgd0 hX) r1) (rfl : shp 1 = (8, 0)) rfl rfl rfl (Nat.le_of_ble_eq_true rfl) (Nat.le_of_ble_eq_true rfl) <|
    z_if_ne 8 17 hX dX11_mends_8 rfl h (fun q3 h => ?_) (fun q3 h => ?_)
  · refine z_aload_n 17 hX dX11_mends_17 rfl <|
      zgX11_12 18 hX dX11_mends_18 (rfl : shp 0 = (11, 0)) <|
      z_aload_n 21 hX dX11_mends_21 rfl <|
      zgX11_12 22 hX dX11_mends_22 (rfl : shp 0 = (11, 0)) <|
      zgX11_80 25 hX dX11_mends_25 (rfl : shp 1 = (8, 0)) <|
      z_iload_n 28 hX dX11_mends_28 rfl <|
      z_aald 29 hX dX11_mends_29 (rfl : shp 2 = (21, 6)) (by decide) h fun q4 h =>
      z_iload_n 30 hX dX11_mends_30 rfl <|
      z_aload_n 31 hX dX11_mends_31 rfl <|
      zgX11_36 32 hX dX11_mends_32 (rfl : shp 0 = (11, 0)) <|
      zb1 h fun w1 r5 h => zcX11_92 35 [.ref (zα G (40 + 2 * a1.toNatClampNeg)), .int a1, .ref (zα G 116)] [] hX dX11_mends_35 (c_X8_spell (zgd0 hX) (ze21 _ (rfl : shp 2 = (21, 6)) _ q4) r5) (rfl : shp 1 = (8, 0)) rfl rfl rfl (Nat.le_of_ble_eq_true rfl) (Nat.le_of_ble_eq_true rfl) <|
      z_aload_n 38 hX dX11_mends_38 rfl <|
      zgX11_29 39 hX dX11_mends_39 (rfl : shp 0 = (11, 0)) <|
      z_aload_n 42 hX dX11_mends_42 rfl <|
      zgX11_12 43 hX dX11_mends_43 (rfl : shp 0 = (11, 0)) <|
      zgX11_106 46 hX dX11_mends_46 (rfl : shp 1 = (8, 0)) <|
      z_aload_n 49 hX dX11_mends_49 rfl <|
      zgX11_36 50 hX dX11_mends_50 (rfl : shp 0 = (11, 0)) <|
      zb12 h fun x7 w2 r6 h => zcX11_219 53 [.ref (zα G 3), .ref (zα G 116)] [] hX dX11_mends_53 (c_X1_fewestUnlike (zgd0 hX) r6) (rfl : shp 112 = (1, 0)) rfl rfl rfl (Nat.le_of_ble_eq_true rfl) (Nat.le_of_ble_eq_true rfl) <|
      z_istore_n 56 [some (.ref (zα G 0)), some (.int a1), some (.int x7)] hX dX11_mends_56 (Nat.le_of_ble_eq_true rfl) rfl rfl <|
      z_iload_n 57 hX dX11_mends_57 rfl <|
      z_ldc 58 hX dX11_mends_58 zw821 zkl1000000 <|
      z_icmp_ge 60 67 hX dX11_mends_60 rfl h (fun q8 h => ?_) (fun q8 h => ?_)
    · refine z_aload_n 67 hX dX11_mends_67 rfl <|
        z_iconst 68 hX dX11_mends_68 zki2 <|
        zb12 h fun x10 w3 r9 h => zcX11_72 69 [.int (nI 2)] [] hX dX11_mends_69 (c_X11_error (zgd0 hX) r9) (rfl : shp 0 = (11, 0)) rfl rfl rfl (Nat.le_of_ble_eq_true rfl) (Nat.le_of_ble_eq_true rfl) <|
        z_endI2 72 hE rfl h dX11_mends_72
    · refine z_iload_n 63 hX dX11_mends_63 rfl <|
        z_goto 64 72 hX dX11_mends_64 rfl <|
        z_endI2 72 hE rfl h dX11_mends_72
  · refine z_aload_n 11 hX dX11_mends_11 rfl <|
      z_iconst 12 hX dX11_mends_12 zki1 <|
      zb12 h fun x12 w4 r11 h => zcX11_72 13 [.int (nI 1)] [] hX dX11_mends_13 (c_X11_error (zgd0 hX) r11) (rfl : shp 0 = (11, 0)) rfl rfl rfl (Nat.le_of_ble_eq_true rfl) (Nat.le_of_ble_eq_true rfl) <|
      z_endI2 16 hE rfl h dX11_mends_16
def f_X11_isSheet (a0 : Int32)  : Option Int32 :=
  if a0 < nI 0 then
    some (nI 0)
  else
  if a0 < (nI 4) then
    some (nI 1)
  else
    some (nI 0)
theorem c_X11_isSheet {G : zG} {l : Launch} (hG : zgood G) {w : zW} {re : Int32} {a0 : Int32}  (h : f_X11_isSheet a0 = some re) : zMet G l yX11_isSheet cX11_isSheet 1 (some .boolean) 0 [.int a0] w (some (.int re)) w := by
  refine zMet_of (L0 := [some (.int a0)]) hG zplX11 (Nat.le_of_ble_eq_true rfl) rfl rfl (fun X hl hX hEI hEV hEA => ?_)
  subst hl
  have hX : zOk G X cX11_isSheet 1 RX11 0 := hX
  have hE := hEI _ _ rfl rfl
  rw [f_X11_isSheet] at h
  refine z_iload_n 0 hX dX11_isSheet_0 rfl <|
    z_if_lt 1 13 hX dX11_isSheet_1 rfl h (fun q1 h => ?_) (fun q1 h => ?_)
  · refine z_iconst 13 hX dX11_isSheet_13 zki0 <|
      z_endI 14 hE (znar_bool (by decide)) h dX11_isSheet_14
  · refine z_iload_n 4 hX dX11_isSheet_4 rfl <|
      z_iconst 5 hX dX11_isSheet_5 zki4 <|
      z_icmp_ge 6 13 hX dX11_isSheet_6 rfl h (fun q2 h => ?_) (fun q2 h => ?_)
    · refine z_iconst 13 hX dX11_isSheet_13 zki0 <|
        z_endI 14 hE (znar_bool (by decide)) h dX11_isSheet_14
    · refine z_iconst 9 hX dX11_isSheet_9 zki1 <|
        z_goto 10 14 hX dX11_isSheet_10 rfl <|
        z_endI 14 hE (znar_bool (by decide)) h dX11_isSheet_14
def l_X11_unlikeWish_7 (w : zW) (K40 : Option Int32) (K75 : Option Int32) (K105 : Int32 → Int32 → Option Int32) : Nat → Nat → Int32 → Int32 → Int32 → Option Int32
  | 0, _, _, _, _ => none
  | n + 1, a1, a2, a3, a4 =>
    if a4 < (w a1 2) then
      zld w (a1 + 1) 24 a4 fun x2 =>
      zb (f_X7_has x2 w) fun x4 =>
      if x4 = nI 0 then
        K40
      else
        zguard (zin x2 12) (
        if ((w 116 1) - a2) < (w (5 + 2 * x2.toNatClampNeg) 2) then
          K75
        else
          zb (f_X10_unlikeAt (5 + 2 * x2.toNatClampNeg) a2 w) fun x9 =>
          zlet (a3 + x9) fun x10 =>
          zlet (a2 + (w (5 + 2 * x2.toNatClampNeg) 2)) fun x11 =>
          zlet (a4 + nI 1) fun x12 =>
          (l_X11_unlikeWish_7 w K40 K75 K105 n) a1 x11 x10 x12)
    else
      K105 a2 a3
theorem l_X11_unlikeWish_7z {K40 : Option Int32} {K75 : Option Int32} {K105 : Int32 → Int32 → Option Int32} {G : zG} {X : zX} {w : zW} {re : Int32} (hX : zOk G X cX11_unlikeWish 7 RX11 1) (hE : zEI G X cX11_unlikeWish .int re w) (hK40 : K40 = some re → zZ G X w 40 [none, none, none, none, none, none, none] []) (hK75 : K75 = some re → zZ G X w 75 [none, none, none, none, none, none, none] []) (hK105 : ∀ (a2 : Int32) (a3 : Int32) , K105 a2 a3 = some re → zZ G X w 105 [some (.ref (zα G 0)), none, some (.int a2), some (.int a3), none, none, none] []) : ∀ (n : Nat) (a1 : Nat) (a2 : Int32) (a3 : Int32) (a4 : Int32) (ha1 : shp a1 = (4, 0)), l_X11_unlikeWish_7 w K40 K75 K105 n a1 a2 a3 a4 = some re → zZ G X w 7 [some (.ref (zα G 0)), some (.ref (zα G a1)), some (.int a2), some (.int a3), some (.int a4), none, none] [] := by
  intro n
  induction n with
  | zero =>
    intro a1 a2 a3 a4 ha1 h
    rw [l_X11_unlikeWish_7.eq_1] at h
    cases h
  | succ n ih =>
    intro a1 a2 a3 a4 ha1 h
    rw [l_X11_unlikeWish_7.eq_2] at h
    refine z_iload 7 hX dX11_unlikeWish_7 rfl <|
      z_aload_n 9 hX dX11_unlikeWish_9 rfl <|
      zgX11_229 10 hX dX11_unlikeWish_10 ha1 <|
      z_icmp_ge 13 105 hX dX11_unlikeWish_13 rfl h (fun q1 h => ?_) (fun q1 h => ?_)
    · refine z_weak (L' := [some (.ref (zα G 0)), none, some (.int a2), some (.int a3), none, none, none]) (zsub_s (zsub_n (zsub_s (zsub_s (zsub_n (zsub_n (zsub_n zsub_0))))))) <|
        hK105 _ _ h
    · refine z_aload_n 16 hX dX11_unlikeWish_16 rfl <|
        zgX11_230 17 hX dX11_unlikeWish_17 ha1 <|
        z_iload 20 hX dX11_unlikeWish_20 rfl <|
        z_iald 22 hX dX11_unlikeWish_22 (zr4_numbers _ ha1) h fun x2 _ h =>
        z_istore 23 [some (.ref (zα G 0)), some (.ref (zα G a1)), some (.int a2), some (.int a3), some (.int a4), some (.int x2), none] hX dX11_unlikeWish_23 (Nat.le_of_ble_eq_true rfl) rfl rfl <|
        z_aload_n 25 hX dX11_unlikeWish_25 rfl <|
        zgX11_12 26 hX dX11_unlikeWish_26 (rfl : shp 0 = (11, 0)) <|
        zgX11_106 29 hX dX11_unlikeWish_29 (rfl : shp 1 = (8, 0)) <|
        z_iload 32 hX dX11_unlikeWish_32 rfl <|
        zb1 h fun x4 r3 h => zcX11_153 34 [.int x2] [] hX dX11_unlikeWish_34 (c_X7_has (zgd0 hX) r3) (rfl : shp 3 = (7, 0)) rfl rfl rfl (Nat.le_of_ble_eq_true rfl) (Nat.le_of_ble_eq_true rfl) <|
        z_if_ne 37 43 hX dX11_unlikeWish_37 rfl h (fun q5 h => ?_) (fun q5 h => ?_)
      · refine z_aload_n 43 hX dX11_unlikeWish_43 rfl <|
          zgX11_12 44 hX dX11_unlikeWish_44 (rfl : shp 0 = (11, 0)) <|
          zgX11_106 47 hX dX11_unlikeWish_47 (rfl : shp 1 = (8, 0)) <|
          zgX11_144 50 hX dX11_unlikeWish_50 (rfl : shp 3 = (7, 0)) <|
          z_iload 53 hX dX11_unlikeWish_53 rfl <|
          z_aald 55 hX dX11_unlikeWish_55 (rfl : shp 4 = (22, 12)) (by decide) h fun q6 h =>
          z_astore 56 [some (.ref (zα G 0)), some (.ref (zα G a1)), some (.int a2), some (.int a3), some (.int a4), some (.int x2), some (.ref (zα G (5 + 2 * x2.toNatClampNeg)))] hX dX11_unlikeWish_56 (Nat.le_of_ble_eq_true rfl) rfl rfl <|
          z_aload 58 hX dX11_unlikeWish_58 rfl <|
          zgX11_156 60 hX dX11_unlikeWish_60 (ze22 _ (rfl : shp 4 = (22, 12)) _ q6) <|
          z_aload_n 63 hX dX11_unlikeWish_63 rfl <|
          zgX11_36 64 hX dX11_unlikeWish_64 (rfl : shp 0 = (11, 0)) <|
          zgX11_105 67 hX dX11_unlikeWish_67 (rfl : shp 116 = (3, 0)) <|
          z_iload_n 70 hX dX11_unlikeWish_70 rfl <|
          z_isub 71 hX dX11_unlikeWish_71 <|
          z_icmp_le 72 78 hX dX11_unlikeWish_72 rfl h (fun q7 h => ?_) (fun q7 h => ?_)
        · refine z_iload_n 78 hX dX11_unlikeWish_78 rfl <|
            z_aload 79 hX dX11_unlikeWish_79 rfl <|
            z_aload_n 81 hX dX11_unlikeWish_81 rfl <|
            zgX11_36 82 hX dX11_unlikeWish_82 (rfl : shp 0 = (11, 0)) <|
            z_iload_n 85 hX dX11_unlikeWish_85 rfl <|
            zb1 h fun x9 r8 h => zcX11_332 86 [.ref (zα G 116), .int a2] [.int a3] hX dX11_unlikeWish_86 (c_X10_unlikeAt (zgd0 hX) (ze22 _ (rfl : shp 4 = (22, 12)) _ q6) r8) (ze22 _ (rfl : shp 4 = (22, 12)) _ q6) rfl rfl rfl (Nat.le_of_ble_eq_true rfl) (Nat.le_of_ble_eq_true rfl) <|
            z_iadd 89 hX dX11_unlikeWish_89 <|
            z_top h fun x10 h =>
            z_istore_n 90 [some (.ref (zα G 0)), some (.ref (zα G a1)), some (.int a2), some (.int x10), some (.int a4), some (.int x2), some (.ref (zα G (5 + 2 * x2.toNatClampNeg)))] hX dX11_unlikeWish_90 (Nat.le_of_ble_eq_true rfl) rfl rfl <|
            z_iload_n 91 hX dX11_unlikeWish_91 rfl <|
            z_aload 92 hX dX11_unlikeWish_92 rfl <|
            zgX11_156 94 hX dX11_unlikeWish_94 (ze22 _ (rfl : shp 4 = (22, 12)) _ q6) <|
            z_iadd 97 hX dX11_unlikeWish_97 <|
            z_top h fun x11 h =>
            z_istore_n 98 [some (.ref (zα G 0)), some (.ref (zα G a1)), some (.int x11), some (.int x10), some (.int a4), some (.int x2), some (.ref (zα G (5 + 2 * x2.toNatClampNeg)))] hX dX11_unlikeWish_98 (Nat.le_of_ble_eq_true rfl) rfl rfl <|
            z_iincG 99 (fun x12 => [some (.ref (zα G 0)), some (.ref (zα G a1)), some (.int x11), some (.int x10), some (.int x12), some (.int x2), some (.ref (zα G (5 + 2 * x2.toNatClampNeg)))]) hX dX11_unlikeWish_99 rfl zki1 rfl (fun _ => rfl) h fun x12 h =>
            z_goto 102 7 hX dX11_unlikeWish_102 rfl <|
            z_weak (L' := [some (.ref (zα G 0)), some (.ref (zα G a1)), some (.int x11), some (.int x10), some (.int x12), none, none]) (zsub_s (zsub_s (zsub_s (zsub_s (zsub_s (zsub_n (zsub_n zsub_0))))))) <|
            ih _ _ _ _ ha1 h
        · refine z_weak (L' := [none, none, none, none, none, none, none]) (zsub_n (zsub_n (zsub_n (zsub_n (zsub_n (zsub_n (zsub_n zsub_0))))))) <|
            hK75 h
      · refine z_weak (L' := [none, none, none, none, none, none, none]) (zsub_n (zsub_n (zsub_n (zsub_n (zsub_n (zsub_n (zsub_n zsub_0))))))) <|
          hK40 h
def f_X11_unlikeWish (a1 : Nat) (w : zW) : Option Int32 :=
  l_X11_unlikeWish_7 w (
    some (nI 1000000)) (
    some (nI 1000000)) (fun k105_a2 k105_a3 =>
    if k105_a2 = (w 116 1) then
      some k105_a3
    else
      some (nI 1000000)) zfuel a1 (nI 0) (nI 0) (nI 0)
theorem c_X11_unlikeWish {G : zG} {l : Launch} (hG : zgood G) {w : zW} {re : Int32} {a1 : Nat} (ha1 : shp a1 = (4, 0)) (h : f_X11_unlikeWish a1 w = some re) : zMet G l yX11_unlikeWish cX11_unlikeWish 7 (some .int) 1 [.ref (zα G 0), .ref (zα G a1)] w (some (.int re)) w := by
  refine zMet_of (L0 := [some (.ref (zα G 0)), some (.ref (zα G a1)), none, none, none, none, none]) hG zplX11 (Nat.le_of_ble_eq_true rfl) rfl rfl (fun X hl hX hEI hEV hEA => ?_)
  subst hl
  have hX : zOk G X cX11_unlikeWish 7 RX11 1 := hX
  have hE := hEI _ _ rfl rfl
  rw [f_X11_unlikeWish] at h
  refine z_iconst 0 hX dX11_unlikeWish_0 zki0 <|
    z_istore_n 1 [some (.ref (zα G 0)), some (.ref (zα G a1)), some (.int (nI 0)), none, none, none, none] hX dX11_unlikeWish_1 (Nat.le_of_ble_eq_true rfl) rfl rfl <|
    z_iconst 2 hX dX11_unlikeWish_2 zki0 <|
    z_istore_n 3 [some (.ref (zα G 0)), some (.ref (zα G a1)), some (.int (nI 0)), some (.int (nI 0)), none, none, none] hX dX11_unlikeWish_3 (Nat.le_of_ble_eq_true rfl) rfl rfl <|
    z_iconst 4 hX dX11_unlikeWish_4 zki0 <|
    z_istore 5 [some (.ref (zα G 0)), some (.ref (zα G a1)), some (.int (nI 0)), some (.int (nI 0)), some (.int (nI 0)), none, none] hX dX11_unlikeWish_5 (Nat.le_of_ble_eq_true rfl) rfl rfl <|
    l_X11_unlikeWish_7z hX hE (fun h => ?_) (fun h => ?_) (fun k105_a2 k105_a3 h => ?_) _ _ _ _ _ ha1 h
  · refine z_ldc 40 hX dX11_unlikeWish_40 zw821 zkl1000000 <|
      z_endI 42 hE rfl h dX11_unlikeWish_42
  · refine z_ldc 75 hX dX11_unlikeWish_75 zw821 zkl1000000 <|
      z_endI 77 hE rfl h dX11_unlikeWish_77
  · refine z_iload_n 105 hX dX11_unlikeWish_105 rfl <|
      z_aload_n 106 hX dX11_unlikeWish_106 rfl <|
      zgX11_36 107 hX dX11_unlikeWish_107 (rfl : shp 0 = (11, 0)) <|
      zgX11_105 110 hX dX11_unlikeWish_110 (rfl : shp 116 = (3, 0)) <|
      z_icmp_ne 113 120 hX dX11_unlikeWish_113 rfl h (fun q301 h => ?_) (fun q301 h => ?_)
    · refine z_ldc 120 hX dX11_unlikeWish_120 zw821 zkl1000000 <|
        z_endI 122 hE rfl h dX11_unlikeWish_122
    · refine z_iload_n 116 hX dX11_unlikeWish_116 rfl <|
        z_goto 117 122 hX dX11_unlikeWish_117 rfl <|
        z_endI 122 hE rfl h dX11_unlikeWish_122
def j_X11_wish_18  (w : zW) : Option (Int32 × zW) :=
  zb2 (f_X11_error (nI 1) w) fun x2 w1 =>
  some (x2, w1)
theorem j_X11_wish_18z {G : zG} {X : zX} {w : zW} {re : Int32} {we : zW}  (hX : zOk G X cX11_wish 5 RX11 4) (hE : zEI G X cX11_wish .int re we)  (h : j_X11_wish_18 w = some (re, we)) : zZ G X w 18 [some (.ref (zα G 0)), none, none, none, none] [] := by
  rw [j_X11_wish_18] at h
  refine z_aload_n 18 hX dX11_wish_18 rfl <|
    z_iconst 19 hX dX11_wish_19 zki1 <|
    zb12 h fun x2 w1 r1 h => zcX11_72 20 [.int (nI 1)] [] hX dX11_wish_20 (c_X11_error (zgd0 hX) r1) (rfl : shp 0 = (11, 0)) rfl rfl rfl (Nat.le_of_ble_eq_true rfl) (Nat.le_of_ble_eq_true rfl) <|
    z_endI2 23 hE rfl h dX11_wish_23
def l_X11_wish_47 (K76 : zW → Option (Int32 × zW)) (K88 : Int32 → Nat → zW → Option (Int32 × zW)) : Nat → Int32 → Nat → Int32 → zW → Option (Int32 × zW)
  | 0, _, _, _, _ => none
  | n + 1, a1, a3, a4, w =>
    if a4 < (w a3 2) then
      zld w (a3 + 1) 24 a4 fun x2 =>
      zb (f_X7_has x2 w) fun x4 =>
      if x4 = nI 0 then
        K76 w
      else
        zlet (a4 + nI 1) fun x6 =>
        (l_X11_wish_47 K76 K88 n) a1 a3 x6 w
    else
      K88 a1 a3 w
theorem l_X11_wish_47z {K76 : zW → Option (Int32 × zW)} {K88 : Int32 → Nat → zW → Option (Int32 × zW)} {G : zG} {X : zX} {re : Int32} {we : zW} (hX : zOk G X cX11_wish 5 RX11 4) (hE : zEI G X cX11_wish .int re we) (hK76 : ∀ (w3 : zW) , K76 w3 = some (re, we) → zZ G X w3 76 [some (.ref (zα G 0)), none, none, none, none] []) (hK88 : ∀ (a1 : Int32) (a3 : Nat) (w3 : zW) (ha3 : shp a3 = (4, 0)), K88 a1 a3 w3 = some (re, we) → zZ G X w3 88 [some (.ref (zα G 0)), some (.int a1), none, some (.ref (zα G a3)), none] []) : ∀ (n : Nat) (a1 : Int32) (a3 : Nat) (a4 : Int32) (w : zW) (ha3 : shp a3 = (4, 0)), l_X11_wish_47 K76 K88 n a1 a3 a4 w = some (re, we) → zZ G X w 47 [some (.ref (zα G 0)), some (.int a1), none, some (.ref (zα G a3)), some (.int a4)] [] := by
  intro n
  induction n with
  | zero =>
    intro a1 a3 a4 w ha3 h
    rw [l_X11_wish_47.eq_1] at h
    cases h
  | succ n ih =>
    intro a1 a3 a4 w ha3 h
    rw [l_X11_wish_47.eq_2] at h
    refine z_iload 47 hX dX11_wish_47 rfl <|
      z_aload_n 49 hX dX11_wish_49 rfl <|
      zgX11_229 50 hX dX11_wish_50 ha3 <|
      z_icmp_ge 53 88 hX dX11_wish_53 rfl h (fun q1 h => ?_) (fun q1 h => ?_)
    · refine z_weak (L' := [some (.ref (zα G 0)), some (.int a1), none, some (.ref (zα G a3)), none]) (zsub_s (zsub_s (zsub_n (zsub_s (zsub_n zsub_0))))) <|
        hK88 _ _ _ ha3 h
    · refine z_aload_n 56 hX dX11_wish_56 rfl <|
        zgX11_12 57 hX dX11_wish_57 (rfl : shp 0 = (11, 0)) <|
        zgX11_106 60 hX dX11_wish_60 (rfl : shp 1 = (8, 0)) <|
        z_aload_n 63 hX dX11_wish_63 rfl <|
        zgX11_230 64 hX dX11_wish_64 ha3 <|
        z_iload 67 hX dX11_wish_67 rfl <|
        z_iald 69 hX dX11_wish_69 (zr4_numbers _ ha3) h fun x2 _ h =>
        zb1 h fun x4 r3 h => zcX11_153 70 [.int x2] [] hX dX11_wish_70 (c_X7_has (zgd0 hX) r3) (rfl : shp 3 = (7, 0)) rfl rfl rfl (Nat.le_of_ble_eq_true rfl) (Nat.le_of_ble_eq_true rfl) <|
        z_if_ne 73 82 hX dX11_wish_73 rfl h (fun q5 h => ?_) (fun q5 h => ?_)
      · refine z_iincG 82 (fun x6 => [some (.ref (zα G 0)), some (.int a1), none, some (.ref (zα G a3)), some (.int x6)]) hX dX11_wish_82 rfl zki1 rfl (fun _ => rfl) h fun x6 h =>
          z_goto 85 47 hX dX11_wish_85 rfl <|
          ih _ _ _ _ ha3 h
      · refine z_weak (L' := [some (.ref (zα G 0)), none, none, none, none]) (zsub_s (zsub_n (zsub_n (zsub_n (zsub_n zsub_0))))) <|
          hK76 _ h
def f_X11_wish (a1 : Int32) (a2 : Int32) (w : zW) : Option (Int32 × zW) :=
  zb (f_X8_hasWall a1 w) fun x2 =>
  if x2 = nI 0 then
    j_X11_wish_18 w
  else
    zb (f_X11_isSheet a2) fun x5 =>
    if x5 = nI 0 then
      j_X11_wish_18 w
    else
      zguard (zin a2 4) (
      zb (f_X4_isMissing (104 + 2 * a2.toNatClampNeg) w) fun x9 =>
      if x9 = nI 0 then
        l_X11_wish_47 (fun w11 =>
          zb2 (f_X11_error (nI 1) w11) fun x112 w12 =>
          some (x112, w12)) (fun k88_a1 k88_a3 w21 =>
          zguard (zin k88_a1 6) (
          zb (f_X8_spell (40 + 2 * k88_a1.toNatClampNeg) k88_a1 w21) fun w22 =>
          zb (f_X11_unlikeWish k88_a3 w22) fun x214 =>
          if x214 < (nI 1000000) then
            some (x214, w22)
          else
            zb2 (f_X11_error (nI 2) w22) fun x217 w23 =>
            some (x217, w23))) zfuel a1 (104 + 2 * a2.toNatClampNeg) (nI 0) w
      else
        zb2 (f_X11_error (nI 2) w) fun x12 w1 =>
        some (x12, w1))
theorem c_X11_wish {G : zG} {l : Launch} (hG : zgood G) {w : zW} {re : Int32} {we : zW} {a1 : Int32} {a2 : Int32}  (h : f_X11_wish a1 a2 w = some (re, we)) : zMet G l yX11_wish cX11_wish 5 (some .int) 4 [.ref (zα G 0), .int a1, .int a2] w (some (.int re)) we := by
  refine zMet_of (L0 := [some (.ref (zα G 0)), some (.int a1), some (.int a2), none, none]) hG zplX11 (Nat.le_of_ble_eq_true rfl) rfl rfl (fun X hl hX hEI hEV hEA => ?_)
  subst hl
  have hX : zOk G X cX11_wish 5 RX11 4 := hX
  have hE := hEI _ _ rfl rfl
  rw [f_X11_wish] at h
  refine z_aload_n 0 hX dX11_wish_0 rfl <|
    zgX11_12 1 hX dX11_wish_1 (rfl : shp 0 = (11, 0)) <|
    z_iload_n 4 hX dX11_wish_4 rfl <|
    zb1 h fun x2 r1 h => zcX11_88 5 [.int a1] [] hX dX11_wish_5 (c_X8_hasWall (zgd0 hX) r1) (rfl : shp 1 = (8, 0)) rfl rfl rfl (Nat.le_of_ble_eq_true rfl) (Nat.le_of_ble_eq_true rfl) <|
    z_if_eq 8 18 hX dX11_wish_8 rfl h (fun q3 h => ?_) (fun q3 h => ?_)
  · refine z_weak (L' := [some (.ref (zα G 0)), none, none, none, none]) (zsub_s (zsub_n (zsub_n (zsub_n (zsub_n zsub_0))))) <|
      j_X11_wish_18z hX hE h
  · refine z_iload_n 11 hX dX11_wish_11 rfl <|
      zb1 h fun x5 r4 h => zcX11_223 12 [.int a2] [] hX dX11_wish_12 (c_X11_isSheet (zgd0 hX) r4) rfl rfl rfl (Nat.le_of_ble_eq_true rfl) (Nat.le_of_ble_eq_true rfl) <|
      z_if_ne 15 24 hX dX11_wish_15 rfl h (fun q6 h => ?_) (fun q6 h => ?_)
    · refine z_aload_n 24 hX dX11_wish_24 rfl <|
        zgX11_21 25 hX dX11_wish_25 (rfl : shp 0 = (11, 0)) <|
        z_iload_n 28 hX dX11_wish_28 rfl <|
        z_aald 29 hX dX11_wish_29 (rfl : shp 103 = (23, 4)) (by decide) h fun q7 h =>
        z_astore_n 30 [some (.ref (zα G 0)), some (.int a1), some (.int a2), some (.ref (zα G (104 + 2 * a2.toNatClampNeg))), none] hX dX11_wish_30 (Nat.le_of_ble_eq_true rfl) rfl rfl <|
        z_aload_n 31 hX dX11_wish_31 rfl <|
        zb1 h fun x9 r8 h => zcX11_226 32 [] [] hX dX11_wish_32 (c_X4_isMissing (zgd0 hX) (ze23 _ (rfl : shp 103 = (23, 4)) _ q7) r8) (ze23 _ (rfl : shp 103 = (23, 4)) _ q7) rfl rfl rfl (Nat.le_of_ble_eq_true rfl) (Nat.le_of_ble_eq_true rfl) <|
        z_if_eq 35 44 hX dX11_wish_35 rfl h (fun q10 h => ?_) (fun q10 h => ?_)
      · refine z_iconst 44 hX dX11_wish_44 zki0 <|
          z_istore 45 [some (.ref (zα G 0)), some (.int a1), some (.int a2), some (.ref (zα G (104 + 2 * a2.toNatClampNeg))), some (.int (nI 0))] hX dX11_wish_45 (Nat.le_of_ble_eq_true rfl) rfl rfl <|
          z_weak (L' := [some (.ref (zα G 0)), some (.int a1), none, some (.ref (zα G (104 + 2 * a2.toNatClampNeg))), some (.int (nI 0))]) (zsub_s (zsub_s (zsub_n (zsub_s (zsub_s zsub_0))))) <|
          l_X11_wish_47z hX hE (fun w11 h => ?_) (fun k88_a1 k88_a3 w21 hk88_a3 h => ?_) _ _ _ _ _ (ze23 _ (rfl : shp 103 = (23, 4)) _ q7) h
        · refine z_aload_n 76 hX dX11_wish_76 rfl <|
            z_iconst 77 hX dX11_wish_77 zki1 <|
            zb12 h fun x112 w12 r111 h => zcX11_72 78 [.int (nI 1)] [] hX dX11_wish_78 (c_X11_error (zgd0 hX) r111) (rfl : shp 0 = (11, 0)) rfl rfl rfl (Nat.le_of_ble_eq_true rfl) (Nat.le_of_ble_eq_true rfl) <|
            z_endI2 81 hE rfl h dX11_wish_81
        · refine z_aload_n 88 hX dX11_wish_88 rfl <|
            zgX11_12 89 hX dX11_wish_89 (rfl : shp 0 = (11, 0)) <|
            z_aload_n 92 hX dX11_wish_92 rfl <|
            zgX11_12 93 hX dX11_wish_93 (rfl : shp 0 = (11, 0)) <|
            zgX11_80 96 hX dX11_wish_96 (rfl : shp 1 = (8, 0)) <|
            z_iload_n 99 hX dX11_wish_99 rfl <|
            z_aald 100 hX dX11_wish_100 (rfl : shp 2 = (21, 6)) (by decide) h fun q211 h =>
            z_iload_n 101 hX dX11_wish_101 rfl <|
            z_aload_n 102 hX dX11_wish_102 rfl <|
            zgX11_36 103 hX dX11_wish_103 (rfl : shp 0 = (11, 0)) <|
            zb1 h fun w22 r212 h => zcX11_92 106 [.ref (zα G (40 + 2 * k88_a1.toNatClampNeg)), .int k88_a1, .ref (zα G 116)] [] hX dX11_wish_106 (c_X8_spell (zgd0 hX) (ze21 _ (rfl : shp 2 = (21, 6)) _ q211) r212) (rfl : shp 1 = (8, 0)) rfl rfl rfl (Nat.le_of_ble_eq_true rfl) (Nat.le_of_ble_eq_true rfl) <|
            z_aload_n 109 hX dX11_wish_109 rfl <|
            z_aload_n 110 hX dX11_wish_110 rfl <|
            zb1 h fun x214 r213 h => zcX11_233 111 [.ref (zα G k88_a3)] [] hX dX11_wish_111 (c_X11_unlikeWish (zgd0 hX) hk88_a3 r213) (rfl : shp 0 = (11, 0)) rfl rfl rfl (Nat.le_of_ble_eq_true rfl) (Nat.le_of_ble_eq_true rfl) <|
            z_istore 114 [some (.ref (zα G 0)), some (.int k88_a1), none, some (.ref (zα G k88_a3)), some (.int x214)] hX dX11_wish_114 (Nat.le_of_ble_eq_true rfl) rfl rfl <|
            z_iload 116 hX dX11_wish_116 rfl <|
            z_ldc 118 hX dX11_wish_118 zw821 zkl1000000 <|
            z_icmp_ge 120 128 hX dX11_wish_120 rfl h (fun q215 h => ?_) (fun q215 h => ?_)
          · refine z_aload_n 128 hX dX11_wish_128 rfl <|
              z_iconst 129 hX dX11_wish_129 zki2 <|
              zb12 h fun x217 w23 r216 h => zcX11_72 130 [.int (nI 2)] [] hX dX11_wish_130 (c_X11_error (zgd0 hX) r216) (rfl : shp 0 = (11, 0)) rfl rfl rfl (Nat.le_of_ble_eq_true rfl) (Nat.le_of_ble_eq_true rfl) <|
              z_endI2 133 hE rfl h dX11_wish_133
          · refine z_iload 123 hX dX11_wish_123 rfl <|
              z_goto 125 133 hX dX11_wish_125 rfl <|
              z_endI2 133 hE rfl h dX11_wish_133
      · refine z_aload_n 38 hX dX11_wish_38 rfl <|
          z_iconst 39 hX dX11_wish_39 zki2 <|
          zb12 h fun x12 w1 r11 h => zcX11_72 40 [.int (nI 2)] [] hX dX11_wish_40 (c_X11_error (zgd0 hX) r11) (rfl : shp 0 = (11, 0)) rfl rfl rfl (Nat.le_of_ble_eq_true rfl) (Nat.le_of_ble_eq_true rfl) <|
          z_endI2 43 hE rfl h dX11_wish_43
    · refine z_weak (L' := [some (.ref (zα G 0)), none, none, none, none]) (zsub_s (zsub_n (zsub_n (zsub_n (zsub_n zsub_0))))) <|
        j_X11_wish_18z hX hE h
def j_X11_heap_18  (w : zW) : Option (Int32 × zW) :=
  zb2 (f_X11_error (nI 1) w) fun x2 w1 =>
  some (x2, w1)
theorem j_X11_heap_18z {G : zG} {X : zX} {w : zW} {re : Int32} {we : zW}  (hX : zOk G X cX11_heap 4 RX11 1) (hE : zEI G X cX11_heap .int re we)  (h : j_X11_heap_18 w = some (re, we)) : zZ G X w 18 [some (.ref (zα G 0)), none, none, none] [] := by
  rw [j_X11_heap_18] at h
  refine z_aload_n 18 hX dX11_heap_18 rfl <|
    z_iconst 19 hX dX11_heap_19 zki1 <|
    zb12 h fun x2 w1 r1 h => zcX11_72 20 [.int (nI 1)] [] hX dX11_heap_20 (c_X11_error (zgd0 hX) r1) (rfl : shp 0 = (11, 0)) rfl rfl rfl (Nat.le_of_ble_eq_true rfl) (Nat.le_of_ble_eq_true rfl) <|
    z_endI2 23 hE rfl h dX11_heap_23
def f_X11_heap (a1 : Int32) (a2 : Int32) (w : zW) : Option (Int32 × zW) :=
  zb (f_X11_isLetter a1) fun x2 =>
  if x2 = nI 0 then
    j_X11_heap_18 w
  else
  if a2 < (mI 1) then
    j_X11_heap_18 w
  else
  if (nI 99) < a2 then
    j_X11_heap_18 w
  else
    zld w 38 27 a1 fun x6 =>
    if a2 < nI 0 then
      some (x6, w)
    else
      zsto w 38 27 a1 a2 fun w1 =>
      some (x6, w1)
theorem c_X11_heap {G : zG} {l : Launch} (hG : zgood G) {w : zW} {re : Int32} {we : zW} {a1 : Int32} {a2 : Int32}  (h : f_X11_heap a1 a2 w = some (re, we)) : zMet G l yX11_heap cX11_heap 4 (some .int) 1 [.ref (zα G 0), .int a1, .int a2] w (some (.int re)) we := by
  refine zMet_of (L0 := [some (.ref (zα G 0)), some (.int a1), some (.int a2), none]) hG zplX11 (Nat.le_of_ble_eq_true rfl) rfl rfl (fun X hl hX hEI hEV hEA => ?_)
  subst hl
  have hX : zOk G X cX11_heap 4 RX11 1 := hX
  have hE := hEI _ _ rfl rfl
  rw [f_X11_heap] at h
  refine z_iload_n 0 hX dX11_heap_0 rfl <|
    zb1 h fun x2 r1 h => zcX11_138 1 [.int a1] [] hX dX11_heap_1 (c_X11_isLetter (zgd0 hX) r1) rfl rfl rfl (Nat.le_of_ble_eq_true rfl) (Nat.le_of_ble_eq_true rfl) <|
    z_if_eq 4 18 hX dX11_heap_4 rfl h (fun q3 h => ?_) (fun q3 h => ?_)
  · refine z_weak (L' := [some (.ref (zα G 0)), none, none, none]) (zsub_s (zsub_n (zsub_n (zsub_n zsub_0)))) <|
      j_X11_heap_18z hX hE h
  · refine z_iload_n 7 hX dX11_heap_7 rfl <|
      z_iconst 8 hX dX11_heap_8 zkim1 <|
      z_icmp_lt 9 18 hX dX11_heap_9 rfl h (fun q4 h => ?_) (fun q4 h => ?_)
    · refine z_weak (L' := [some (.ref (zα G 0)), none, none, none]) (zsub_s (zsub_n (zsub_n (zsub_n zsub_0)))) <|
        j_X11_heap_18z hX hE h
    · refine z_iload_n 12 hX dX11_heap_12 rfl <|
        z_bipush 13 hX dX11_heap_13 zkb99 <|
        z_icmp_le 15 24 hX dX11_heap_15 rfl h (fun q5 h => ?_) (fun q5 h => ?_)
      · refine z_aload_n 24 hX dX11_heap_24 rfl <|
          zgX11_12 25 hX dX11_heap_25 (rfl : shp 0 = (11, 0)) <|
          zgX11_237 28 hX dX11_heap_28 (rfl : shp 1 = (8, 0)) <|
          z_iload_n 31 hX dX11_heap_31 rfl <|
          z_iald 32 hX dX11_heap_32 (rfl : shp 38 = (20, 27)) h fun x6 _ h =>
          z_istore_n 33 [some (.ref (zα G 0)), some (.int a1), some (.int a2), some (.int x6)] hX dX11_heap_33 (Nat.le_of_ble_eq_true rfl) rfl rfl <|
          z_iload_n 34 hX dX11_heap_34 rfl <|
          z_if_lt 35 48 hX dX11_heap_35 rfl h (fun q7 h => ?_) (fun q7 h => ?_)
        · refine z_iload_n 48 hX dX11_heap_48 rfl <|
            z_endI2 49 hE rfl h dX11_heap_49
        · refine z_aload_n 38 hX dX11_heap_38 rfl <|
            zgX11_12 39 hX dX11_heap_39 (rfl : shp 0 = (11, 0)) <|
            zgX11_237 42 hX dX11_heap_42 (rfl : shp 1 = (8, 0)) <|
            z_iload_n 45 hX dX11_heap_45 rfl <|
            z_iload_n 46 hX dX11_heap_46 rfl <|
            z_iast 47 hX dX11_heap_47 (rfl : shp 38 = (20, 27)) h fun w1 h =>
            z_iload_n 48 hX dX11_heap_48 rfl <|
            z_endI2 49 hE rfl h dX11_heap_49
      · refine z_weak (L' := [some (.ref (zα G 0)), none, none, none]) (zsub_s (zsub_n (zsub_n (zsub_n zsub_0)))) <|
          j_X11_heap_18z hX hE h
def f_X11_price (a1 : Int32) (w : zW) : Option (Int32 × zW) :=
  zb (f_X11_isLetter a1) fun x2 =>
  if x2 = nI 0 then
    zb2 (f_X11_error (nI 1) w) fun x5 w1 =>
    some (x5, w1)
  else
    zb2 (f_X8_priceOf a1 w) fun x7 w2 =>
    some (x7, w2)
theorem c_X11_price {G : zG} {l : Launch} (hG : zgood G) {w : zW} {re : Int32} {we : zW} {a1 : Int32}  (h : f_X11_price a1 w = some (re, we)) : zMet G l yX11_price cX11_price 2 (some .int) 3 [.ref (zα G 0), .int a1] w (some (.int re)) we := by
  refine zMet_of (L0 := [some (.ref (zα G 0)), some (.int a1)]) hG zplX11 (Nat.le_of_ble_eq_true rfl) rfl rfl (fun X hl hX hEI hEV hEA => ?_)
  subst hl
  have hX : zOk G X cX11_price 2 RX11 3 := hX
  have hE := hEI _ _ rfl rfl
  rw [f_X11_price] at h
  refine z_iload_n 0 hX dX11_price_0 rfl <|
    zb1 h fun x2 r1 h => zcX11_138 1 [.int a1] [] hX dX11_price_1 (c_X11_isLetter (zgd0 hX) r1) rfl rfl rfl (Nat.le_of_ble_eq_true rfl) (Nat.le_of_ble_eq_true rfl) <|
    z_if_eq 4 18 hX dX11_price_4 rfl h (fun q3 h => ?_) (fun q3 h => ?_)
  · refine z_aload_n 18 hX dX11_price_18 rfl <|
      z_iconst 19 hX dX11_price_19 zki1 <|
      zb12 h fun x5 w1 r4 h => zcX11_72 20 [.int (nI 1)] [] hX dX11_price_20 (c_X11_error (zgd0 hX) r4) (rfl : shp 0 = (11, 0)) rfl rfl rfl (Nat.le_of_ble_eq_true rfl) (Nat.le_of_ble_eq_true rfl) <|
      z_endI2 23 hE rfl h dX11_price_23
  · refine z_aload_n 7 hX dX11_price_7 rfl <|
      zgX11_12 8 hX dX11_price_8 (rfl : shp 0 = (11, 0)) <|
      z_iload_n 11 hX dX11_price_11 rfl <|
      zb12 h fun x7 w2 r6 h => zcX11_240 12 [.int a1] [] hX dX11_price_12 (c_X8_priceOf (zgd0 hX) r6) (rfl : shp 1 = (8, 0)) rfl rfl rfl (Nat.le_of_ble_eq_true rfl) (Nat.le_of_ble_eq_true rfl) <|
      z_goto 15 23 hX dX11_price_15 rfl <|
      z_endI2 23 hE rfl h dX11_price_23
def j_X11_have_27  (w : zW) : Option (Int32 × zW) :=
  zb2 (f_X11_error (nI 1) w) fun x2 w1 =>
  some (x2, w1)
theorem j_X11_have_27z {G : zG} {X : zX} {w : zW} {re : Int32} {we : zW}  (hX : zOk G X cX11_have 4 RX11 1) (hE : zEI G X cX11_have .int re we)  (h : j_X11_have_27 w = some (re, we)) : zZ G X w 27 [some (.ref (zα G 0)), none, none, none] [] := by
  rw [j_X11_have_27] at h
  refine z_aload_n 27 hX dX11_have_27 rfl <|
    z_iconst 28 hX dX11_have_28 zki1 <|
    zb12 h fun x2 w1 r1 h => zcX11_72 29 [.int (nI 1)] [] hX dX11_have_29 (c_X11_error (zgd0 hX) r1) (rfl : shp 0 = (11, 0)) rfl rfl rfl (Nat.le_of_ble_eq_true rfl) (Nat.le_of_ble_eq_true rfl) <|
    z_endI2 32 hE rfl h dX11_have_32
def j_X11_have_54 (a1 : Int32) (a2 : Int32) (b0 : Int32) (w : zW) : Option (Int32 × zW) :=
  if a1 = nI 0 then
    zlet (zupd w 1 10 a2) fun w2 =>
    some (b0, w2)
  else
    zlet (zupd w 1 11 a2) fun w1 =>
    some (b0, w1)
theorem j_X11_have_54z {G : zG} {X : zX} {w : zW} {re : Int32} {we : zW} {a1 : Int32} {a2 : Int32} {b0 : Int32} (hX : zOk G X cX11_have 4 RX11 1) (hE : zEI G X cX11_have .int re we)  (h : j_X11_have_54 a1 a2 b0 w = some (re, we)) : zZ G X w 54 [some (.ref (zα G 0)), some (.int a1), some (.int a2), none] [.int b0] := by
  rw [j_X11_have_54] at h
  refine z_istore_n 54 [some (.ref (zα G 0)), some (.int a1), some (.int a2), some (.int b0)] hX dX11_have_54 (Nat.le_of_ble_eq_true rfl) rfl rfl <|
    z_iload_n 55 hX dX11_have_55 rfl <|
    z_if_ne 56 70 hX dX11_have_56 rfl h (fun q1 h => ?_) (fun q1 h => ?_)
  · refine z_aload_n 70 hX dX11_have_70 rfl <|
      zgX11_12 71 hX dX11_have_71 (rfl : shp 0 = (11, 0)) <|
      z_iload_n 74 hX dX11_have_74 rfl <|
      zpX11_247 75 hX dX11_have_75 (rfl : shp 1 = (8, 0)) <|
      z_w h fun w1 h =>
      z_iload_n 78 hX dX11_have_78 rfl <|
      z_endI2 79 hE rfl h dX11_have_79
  · refine z_aload_n 59 hX dX11_have_59 rfl <|
      zgX11_12 60 hX dX11_have_60 (rfl : shp 0 = (11, 0)) <|
      z_iload_n 63 hX dX11_have_63 rfl <|
      zpX11_244 64 hX dX11_have_64 (rfl : shp 1 = (8, 0)) <|
      z_w h fun w2 h =>
      z_goto 67 78 hX dX11_have_67 rfl <|
      z_iload_n 78 hX dX11_have_78 rfl <|
      z_endI2 79 hE rfl h dX11_have_79
def j_X11_have_24 (a1 : Int32) (a2 : Int32) (b0 : Int32) (b1 : Int32) (w : zW) : Option (Int32 × zW) :=
  if b1 < b0 then
    j_X11_have_27 w
  else
  if a1 = nI 0 then
    j_X11_have_54 a1 a2 (w 1 10) w
  else
    j_X11_have_54 a1 a2 (w 1 11) w
theorem j_X11_have_24z {G : zG} {X : zX} {w : zW} {re : Int32} {we : zW} {a1 : Int32} {a2 : Int32} {b0 : Int32} {b1 : Int32} (hX : zOk G X cX11_have 4 RX11 1) (hE : zEI G X cX11_have .int re we)  (h : j_X11_have_24 a1 a2 b0 b1 w = some (re, we)) : zZ G X w 24 [some (.ref (zα G 0)), some (.int a1), some (.int a2), none] [.int b1, .int b0] := by
  rw [j_X11_have_24] at h
  refine z_icmp_le 24 33 hX dX11_have_24 rfl h (fun q1 h => ?_) (fun q1 h => ?_)
  · refine z_iload_n 33 hX dX11_have_33 rfl <|
      z_if_ne 34 47 hX dX11_have_34 rfl h (fun q2 h => ?_) (fun q2 h => ?_)
    · refine z_aload_n 47 hX dX11_have_47 rfl <|
        zgX11_12 48 hX dX11_have_48 (rfl : shp 0 = (11, 0)) <|
        zgX11_247 51 hX dX11_have_51 (rfl : shp 1 = (8, 0)) <|
        j_X11_have_54z hX hE h
    · refine z_aload_n 37 hX dX11_have_37 rfl <|
        zgX11_12 38 hX dX11_have_38 (rfl : shp 0 = (11, 0)) <|
        zgX11_244 41 hX dX11_have_41 (rfl : shp 1 = (8, 0)) <|
        z_goto 44 54 hX dX11_have_44 rfl <|
        j_X11_have_54z hX hE h
  · refine z_weak (L' := [some (.ref (zα G 0)), none, none, none]) (zsub_s (zsub_n (zsub_n (zsub_n zsub_0)))) <|
      j_X11_have_27z hX hE h
def f_X11_have (a1 : Int32) (a2 : Int32) (w : zW) : Option (Int32 × zW) :=
  if a1 < nI 0 then
    j_X11_have_27 w
  else
  if (nI 1) < a1 then
    j_X11_have_27 w
  else
  if a2 < nI 0 then
    j_X11_have_27 w
  else
  if a1 = nI 0 then
    j_X11_have_24 a1 a2 a2 (nI 3) w
  else
    j_X11_have_24 a1 a2 a2 (nI 99999) w
theorem c_X11_have {G : zG} {l : Launch} (hG : zgood G) {w : zW} {re : Int32} {we : zW} {a1 : Int32} {a2 : Int32}  (h : f_X11_have a1 a2 w = some (re, we)) : zMet G l yX11_have cX11_have 4 (some .int) 1 [.ref (zα G 0), .int a1, .int a2] w (some (.int re)) we := by
  refine zMet_of (L0 := [some (.ref (zα G 0)), some (.int a1), some (.int a2), none]) hG zplX11 (Nat.le_of_ble_eq_true rfl) rfl rfl (fun X hl hX hEI hEV hEA => ?_)
  subst hl
  have hX : zOk G X cX11_have 4 RX11 1 := hX
  have hE := hEI _ _ rfl rfl
  rw [f_X11_have] at h
  refine z_iload_n 0 hX dX11_have_0 rfl <|
    z_if_lt 1 27 hX dX11_have_1 rfl h (fun q1 h => ?_) (fun q1 h => ?_)
  · refine z_weak (L' := [some (.ref (zα G 0)), none, none, none]) (zsub_s (zsub_n (zsub_n (zsub_n zsub_0)))) <|
      j_X11_have_27z hX hE h
  · refine z_iload_n 4 hX dX11_have_4 rfl <|
      z_iconst 5 hX dX11_have_5 zki1 <|
      z_icmp_gt 6 27 hX dX11_have_6 rfl h (fun q2 h => ?_) (fun q2 h => ?_)
    · refine z_weak (L' := [some (.ref (zα G 0)), none, none, none]) (zsub_s (zsub_n (zsub_n (zsub_n zsub_0)))) <|
        j_X11_have_27z hX hE h
    · refine z_iload_n 9 hX dX11_have_9 rfl <|
        z_if_lt 10 27 hX dX11_have_10 rfl h (fun q3 h => ?_) (fun q3 h => ?_)
      · refine z_weak (L' := [some (.ref (zα G 0)), none, none, none]) (zsub_s (zsub_n (zsub_n (zsub_n zsub_0)))) <|
          j_X11_have_27z hX hE h
      · refine z_iload_n 13 hX dX11_have_13 rfl <|
          z_iload_n 14 hX dX11_have_14 rfl <|
          z_if_ne 15 22 hX dX11_have_15 rfl h (fun q4 h => ?_) (fun q4 h => ?_)
        · refine z_ldc 22 hX dX11_have_22 zw851 zkl99999 <|
            j_X11_have_24z hX hE h
        · refine z_iconst 18 hX dX11_have_18 zki3 <|
            z_goto 19 24 hX dX11_have_19 rfl <|
            j_X11_have_24z hX hE h
