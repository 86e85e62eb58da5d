def f_X11_isLetter (a0 : Int32)  : Option Int32 :=
  if a0 < (nI 1) then
    some (nI 0)
  else
  if (nI 26) < a0 then
    some (nI 0)
  else
    some (nI 1)
theorem c_X11_isLetter {G : zG} {l : Launch} (hG : zgood G) {w : zW} {re : Int32} {a0 : Int32}  (h : f_X11_isLetter a0 = some re) : zMet G l yX11_isLetter cX11_isLetter 1 (some .boolean) 0 [.int a0] w (some (.int re)) w := by
  refine zMet_of (L0 := [some (.int a0)]) hG zplX11 (Nat.le_of_ble_eq_true rfl) rfl rfl (fun X hl hX hEI hEV hEA => ?_)
  subst hl
  have hX : zOk G X cX11_isLetter 1 RX11 0 := hX
  have hE := hEI _ _ rfl rfl
  rw [f_X11_isLetter] at h
  refine z_iload_n 0 hX dX11_isLetter_0 rfl <|
    z_iconst 1 hX dX11_isLetter_1 zki1 <|
    z_icmp_lt 2 15 hX dX11_isLetter_2 rfl h (fun q1 h => ?_) (fun q1 h => ?_)
  · refine z_iconst 15 hX dX11_isLetter_15 zki0 <|
      z_endI 16 hE (znar_bool (by decide)) h dX11_isLetter_16
  · refine z_iload_n 5 hX dX11_isLetter_5 rfl <|
      z_bipush 6 hX dX11_isLetter_6 zkb26 <|
      z_icmp_gt 8 15 hX dX11_isLetter_8 rfl h (fun q2 h => ?_) (fun q2 h => ?_)
    · refine z_iconst 15 hX dX11_isLetter_15 zki0 <|
        z_endI 16 hE (znar_bool (by decide)) h dX11_isLetter_16
    · refine z_iconst 11 hX dX11_isLetter_11 zki1 <|
        z_goto 12 16 hX dX11_isLetter_12 rfl <|
        z_endI 16 hE (znar_bool (by decide)) h dX11_isLetter_16
def l_X11_isUnder_4 (K19 : Option Int32) (K33 : Option Int32) : Nat → Int32 → Int32 → Int32 → Option Int32
  | 0, _, _, _ => none
  | n + 1, a1, a2, a3 =>
    if a3 < (nI 7) then
      if a2 < nI 0 then
        K33
      else
      if a2 = a1 then
        K19
      else
        ztld 0 7 a2 fun x4 =>
        zlet (a3 + nI 1) fun x5 =>
        (l_X11_isUnder_4 K19 K33 n) a1 x4 x5
    else
      K33
theorem l_X11_isUnder_4z {K19 : Option Int32} {K33 : Option Int32} {G : zG} {X : zX} {w : zW} {re : Int32} (hX : zOk G X cX11_isUnder 4 RX11 0) (hE : zEI G X cX11_isUnder .boolean re w) (hK19 : K19 = some re → zZ G X w 19 [none, none, none, none] []) (hK33 : K33 = some re → zZ G X w 33 [none, none, none, none] []) : ∀ (n : Nat) (a1 : Int32) (a2 : Int32) (a3 : Int32) , l_X11_isUnder_4 K19 K33 n a1 a2 a3 = some re → zZ G X w 4 [none, some (.int a1), some (.int a2), some (.int a3)] [] := by
  intro n
  induction n with
  | zero =>
    intro a1 a2 a3  h
    rw [l_X11_isUnder_4.eq_1] at h
    cases h
  | succ n ih =>
    intro a1 a2 a3  h
    rw [l_X11_isUnder_4.eq_2] at h
    refine z_iload_n 4 hX dX11_isUnder_4 rfl <|
      z_bipush 5 hX dX11_isUnder_5 zkb7 <|
      z_icmp_ge 7 33 hX dX11_isUnder_7 rfl h (fun q1 h => ?_) (fun q1 h => ?_)
    · refine z_weak (L' := [none, none, none, none]) (zsub_n (zsub_n (zsub_n (zsub_n zsub_0)))) <|
        hK33 h
    · refine z_iload_n 10 hX dX11_isUnder_10 rfl <|
        z_if_lt 11 33 hX dX11_isUnder_11 rfl h (fun q2 h => ?_) (fun q2 h => ?_)
      · refine z_weak (L' := [none, none, none, none]) (zsub_n (zsub_n (zsub_n (zsub_n zsub_0)))) <|
          hK33 h
      · refine z_iload_n 14 hX dX11_isUnder_14 rfl <|
          z_iload_n 15 hX dX11_isUnder_15 rfl <|
          z_icmp_ne 16 21 hX dX11_isUnder_16 rfl h (fun q3 h => ?_) (fun q3 h => ?_)
        · refine z_gets (C := RX11) 21 hX dX11_isUnder_21 zSz0 (Or.inl zw474) <|
            z_iload_n 24 hX dX11_isUnder_24 rfl <|
            z_sald 25 hX dX11_isUnder_25 zSt0 h fun x4 h =>
            z_istore_n 26 [none, some (.int a1), some (.int x4), some (.int a3)] hX dX11_isUnder_26 (Nat.le_of_ble_eq_true rfl) rfl rfl <|
            z_iincG 27 (fun x5 => [none, some (.int a1), some (.int x4), some (.int x5)]) hX dX11_isUnder_27 rfl zki1 rfl (fun _ => rfl) h fun x5 h =>
            z_goto 30 4 hX dX11_isUnder_30 rfl <|
            ih _ _ _ h
        · refine z_weak (L' := [none, none, none, none]) (zsub_n (zsub_n (zsub_n (zsub_n zsub_0)))) <|
            hK19 h
def f_X11_isUnder (a0 : Int32) (a1 : Int32)  : Option Int32 :=
  l_X11_isUnder_4 (
    some (nI 1)) (
    some (nI 0)) zfuel a1 a0 (nI 0)
theorem c_X11_isUnder {G : zG} {l : Launch} (hG : zgood G) {w : zW} {re : Int32} {a0 : Int32} {a1 : Int32}  (h : f_X11_isUnder a0 a1 = some re) : zMet G l yX11_isUnder cX11_isUnder 4 (some .boolean) 0 [.int a0, .int a1] w (some (.int re)) w := by
  refine zMet_of (L0 := [some (.int a0), some (.int a1), none, none]) hG zplX11 (Nat.le_of_ble_eq_true rfl) rfl rfl (fun X hl hX hEI hEV hEA => ?_)
  subst hl
  have hX : zOk G X cX11_isUnder 4 RX11 0 := hX
  have hE := hEI _ _ rfl rfl
  rw [f_X11_isUnder] at h
  refine z_iload_n 0 hX dX11_isUnder_0 rfl <|
    z_istore_n 1 [some (.int a0), some (.int a1), some (.int a0), none] hX dX11_isUnder_1 (Nat.le_of_ble_eq_true rfl) rfl rfl <|
    z_iconst 2 hX dX11_isUnder_2 zki0 <|
    z_istore_n 3 [some (.int a0), some (.int a1), some (.int a0), some (.int (nI 0))] hX dX11_isUnder_3 (Nat.le_of_ble_eq_true rfl) rfl rfl <|
    z_weak (L' := [none, some (.int a1), some (.int a0), some (.int (nI 0))]) (zsub_n (zsub_s (zsub_s (zsub_s zsub_0)))) <|
    l_X11_isUnder_4z hX hE (fun h => ?_) (fun h => ?_) _ _ _ _ h
  · refine z_iconst 19 hX dX11_isUnder_19 zki1 <|
      z_endI 20 hE (znar_bool (by decide)) h dX11_isUnder_20
  · refine z_iconst 33 hX dX11_isUnder_33 zki0 <|
      z_endI 34 hE (znar_bool (by decide)) h dX11_isUnder_34
def f_X11_error (a1 : Int32) (w : zW) : Option (Int32 × zW) :=
  zld w 127 7 a1 fun x1 =>
  zsto w 127 7 a1 (x1 + (nI 1)) fun w1 =>
  some ((mI 1000000) - a1, w1)
theorem c_X11_error {G : zG} {l : Launch} (hG : zgood G) {w : zW} {re : Int32} {we : zW} {a1 : Int32}  (h : f_X11_error a1 w = some (re, we)) : zMet G l yX11_error cX11_error 2 (some .int) 0 [.ref (zα G 0), .int a1] w (some (.int re)) we := by
  refine zMet_of (L0 := [some (.ref (zα G 0)), some (.int a1)]) hG zplX11 (Nat.le_of_ble_eq_true rfl) rfl rfl (fun X hl hX hEI hEV hEA => ?_)
  subst hl
  have hX : zOk G X cX11_error 2 RX11 0 := hX
  have hE := hEI _ _ rfl rfl
  rw [f_X11_error] at h
  refine z_aload_n 0 hX dX11_error_0 rfl <|
    zgX11_68 1 hX dX11_error_1 (rfl : shp 0 = (11, 0)) <|
    z_iload_n 4 hX dX11_error_4 rfl <|
    z_dup2 5 hX dX11_error_5 rfl rfl <|
    z_iald 6 hX dX11_error_6 (rfl : shp 127 = (20, 7)) h fun x1 _ h =>
    z_iconst 7 hX dX11_error_7 zki1 <|
    z_iadd 8 hX dX11_error_8 <|
    z_iast 9 hX dX11_error_9 (rfl : shp 127 = (20, 7)) h fun w1 h =>
    z_ldc_w 10 hX dX11_error_10 zw447 zklm1000000 <|
    z_iload_n 13 hX dX11_error_13 rfl <|
    z_isub 14 hX dX11_error_14 <|
    z_endI2 15 hE rfl h dX11_error_15
def j_X11_wall_20  (w : zW) : Option (Int32 × zW) :=
  zb2 (f_X11_error (nI 1) w) fun x2 w1 =>
  some (x2, w1)
theorem j_X11_wall_20z {G : zG} {X : zX} {w : zW} {re : Int32} {we : zW}  (hX : zOk G X cX11_wall 3 RX11 2) (hE : zEI G X cX11_wall .int re we)  (h : j_X11_wall_20 w = some (re, we)) : zZ G X w 20 [some (.ref (zα G 0)), none, none] [] := by
  rw [j_X11_wall_20] at h
  refine z_aload_n 20 hX dX11_wall_20 rfl <|
    z_iconst 21 hX dX11_wall_21 zki1 <|
    zb12 h fun x2 w1 r1 h => zcX11_72 22 [.int (nI 1)] [] hX dX11_wall_22 (c_X11_error (zgd0 hX) r1) (rfl : shp 0 = (11, 0)) rfl rfl rfl (Nat.le_of_ble_eq_true rfl) (Nat.le_of_ble_eq_true rfl) <|
    z_endI2 25 hE rfl h dX11_wall_25
def f_X11_wall (a1 : Int32) (a2 : Int32) (w : zW) : Option (Int32 × zW) :=
  if a1 < nI 0 then
    j_X11_wall_20 w
  else
  if a1 < (nI 70) then
    if a2 < nI 0 then
      j_X11_wall_20 w
    else
    if (nI 24) < a2 then
      j_X11_wall_20 w
    else
    if (w 1 7) < (nI 6) then
      zguard (zin (w 1 7) 6) (
      zb (f_X9_begin (40 + 2 * (w 1 7).toNatClampNeg) (a1 / (nI 10)) (a1 - a1 / (nI 10) * (nI 10)) a2 w) fun w1 =>
      zlet (zupd w1 1 7 ((w1 1 7) + (nI 1))) fun w2 =>
      some ((w2 1 7) - (nI 1), w2))
    else
      zb2 (f_X11_error (nI 4) w) fun x9 w3 =>
      some (x9, w3)
  else
    j_X11_wall_20 w
theorem c_X11_wall {G : zG} {l : Launch} (hG : zgood G) {w : zW} {re : Int32} {we : zW} {a1 : Int32} {a2 : Int32}  (h : f_X11_wall a1 a2 w = some (re, we)) : zMet G l yX11_wall cX11_wall 3 (some .int) 2 [.ref (zα G 0), .int a1, .int a2] w (some (.int re)) we := by
  refine zMet_of (L0 := [some (.ref (zα G 0)), some (.int a1), some (.int a2)]) hG zplX11 (Nat.le_of_ble_eq_true rfl) rfl rfl (fun X hl hX hEI hEV hEA => ?_)
  subst hl
  have hX : zOk G X cX11_wall 3 RX11 2 := hX
  have hE := hEI _ _ rfl rfl
  rw [f_X11_wall] at h
  refine z_iload_n 0 hX dX11_wall_0 rfl <|
    z_if_lt 1 20 hX dX11_wall_1 rfl h (fun q1 h => ?_) (fun q1 h => ?_)
  · refine z_weak (L' := [some (.ref (zα G 0)), none, none]) (zsub_s (zsub_n (zsub_n zsub_0))) <|
      j_X11_wall_20z hX hE h
  · refine z_iload_n 4 hX dX11_wall_4 rfl <|
      z_bipush 5 hX dX11_wall_5 zkb70 <|
      z_icmp_ge 7 20 hX dX11_wall_7 rfl h (fun q2 h => ?_) (fun q2 h => ?_)
    · refine z_weak (L' := [some (.ref (zα G 0)), none, none]) (zsub_s (zsub_n (zsub_n zsub_0))) <|
        j_X11_wall_20z hX hE h
    · refine z_iload_n 10 hX dX11_wall_10 rfl <|
        z_if_lt 11 20 hX dX11_wall_11 rfl h (fun q3 h => ?_) (fun q3 h => ?_)
      · refine z_weak (L' := [some (.ref (zα G 0)), none, none]) (zsub_s (zsub_n (zsub_n zsub_0))) <|
          j_X11_wall_20z hX hE h
      · refine z_iload_n 14 hX dX11_wall_14 rfl <|
          z_bipush 15 hX dX11_wall_15 zkb24 <|
          z_icmp_le 17 26 hX dX11_wall_17 rfl h (fun q4 h => ?_) (fun q4 h => ?_)
        · refine z_aload_n 26 hX dX11_wall_26 rfl <|
            zgX11_12 27 hX dX11_wall_27 (rfl : shp 0 = (11, 0)) <|
            zgX11_76 30 hX dX11_wall_30 (rfl : shp 1 = (8, 0)) <|
            z_bipush 33 hX dX11_wall_33 zkb6 <|
            z_icmp_lt 35 44 hX dX11_wall_35 rfl h (fun q5 h => ?_) (fun q5 h => ?_)
          · refine z_aload_n 44 hX dX11_wall_44 rfl <|
              zgX11_12 45 hX dX11_wall_45 (rfl : shp 0 = (11, 0)) <|
              zgX11_80 48 hX dX11_wall_48 (rfl : shp 1 = (8, 0)) <|
              z_aload_n 51 hX dX11_wall_51 rfl <|
              zgX11_12 52 hX dX11_wall_52 (rfl : shp 0 = (11, 0)) <|
              zgX11_76 55 hX dX11_wall_55 (rfl : shp 1 = (8, 0)) <|
              z_aald 58 hX dX11_wall_58 (rfl : shp 2 = (21, 6)) (by decide) h fun q6 h =>
              z_iload_n 59 hX dX11_wall_59 rfl <|
              z_bipush 60 hX dX11_wall_60 zkb10 <|
              z_idivc 62 hX dX11_wall_62 (by decide) <|
              z_iload_n 63 hX dX11_wall_63 rfl <|
              z_bipush 64 hX dX11_wall_64 zkb10 <|
              z_iremc 66 hX dX11_wall_66 (by decide) <|
              z_iload_n 67 hX dX11_wall_67 rfl <|
              zb1 h fun w1 r7 h => zcX11_84 68 [.int (a1 / (nI 10)), .int (a1 - a1 / (nI 10) * (nI 10)), .int a2] [] hX dX11_wall_68 (c_X9_begin (zgd0 hX) (ze21 _ (rfl : shp 2 = (21, 6)) _ q6) r7) (ze21 _ (rfl : shp 2 = (21, 6)) _ q6) rfl rfl rfl (Nat.le_of_ble_eq_true rfl) (Nat.le_of_ble_eq_true rfl) <|
              z_aload_n 71 hX dX11_wall_71 rfl <|
              zgX11_12 72 hX dX11_wall_72 (rfl : shp 0 = (11, 0)) <|
              z_dup 75 hX dX11_wall_75 rfl <|
              zgX11_76 76 hX dX11_wall_76 (rfl : shp 1 = (8, 0)) <|
              z_iconst 79 hX dX11_wall_79 zki1 <|
              z_iadd 80 hX dX11_wall_80 <|
              zpX11_76 81 hX dX11_wall_81 (rfl : shp 1 = (8, 0)) <|
              z_w h fun w2 h =>
              z_aload_n 84 hX dX11_wall_84 rfl <|
              zgX11_12 85 hX dX11_wall_85 (rfl : shp 0 = (11, 0)) <|
              zgX11_76 88 hX dX11_wall_88 (rfl : shp 1 = (8, 0)) <|
              z_iconst 91 hX dX11_wall_91 zki1 <|
              z_isub 92 hX dX11_wall_92 <|
              z_endI2 93 hE rfl h dX11_wall_93
          · refine z_aload_n 38 hX dX11_wall_38 rfl <|
              z_iconst 39 hX dX11_wall_39 zki4 <|
              zb12 h fun x9 w3 r8 h => zcX11_72 40 [.int (nI 4)] [] hX dX11_wall_40 (c_X11_error (zgd0 hX) r8) (rfl : shp 0 = (11, 0)) rfl rfl rfl (Nat.le_of_ble_eq_true rfl) (Nat.le_of_ble_eq_true rfl) <|
              z_endI2 43 hE rfl h dX11_wall_43
        · refine z_weak (L' := [some (.ref (zα G 0)), none, none]) (zsub_s (zsub_n (zsub_n zsub_0))) <|
            j_X11_wall_20z hX hE h
def j_X11_wallIs_21  (w : zW) : Option (Int32 × zW) :=
  zb2 (f_X11_error (nI 1) w) fun x2 w1 =>
  some (x2, w1)
theorem j_X11_wallIs_21z {G : zG} {X : zX} {w : zW} {re : Int32} {we : zW}  (hX : zOk G X cX11_wallIs 4 RX11 4) (hE : zEI G X cX11_wallIs .int re we)  (h : j_X11_wallIs_21 w = some (re, we)) : zZ G X w 21 [some (.ref (zα G 0)), none, none, none] [] := by
  rw [j_X11_wallIs_21] at h
  refine z_aload_n 21 hX dX11_wallIs_21 rfl <|
    z_iconst 22 hX dX11_wallIs_22 zki1 <|
    zb12 h fun x2 w1 r1 h => zcX11_72 23 [.int (nI 1)] [] hX dX11_wallIs_23 (c_X11_error (zgd0 hX) r1) (rfl : shp 0 = (11, 0)) rfl rfl rfl (Nat.le_of_ble_eq_true rfl) (Nat.le_of_ble_eq_true rfl) <|
    z_endI2 26 hE rfl h dX11_wallIs_26
def f_X11_wallIs (a1 : Int32) (a2 : Int32) (w : zW) : Option (Int32 × zW) :=
  zb (f_X8_hasWall a1 w) fun x2 =>
  if x2 = nI 0 then
    j_X11_wallIs_21 w
  else
  if a2 < nI 0 then
    j_X11_wallIs_21 w
  else
  if (nI 7) < a2 then
    j_X11_wallIs_21 w
  else
    zguard (zin a1 6) (
    zb (f_X8_spell (40 + 2 * a1.toNatClampNeg) a1 w) fun w1 =>
    if a2 = nI 0 then
      some (w1 (40 + 2 * a1.toNatClampNeg) 1, w1)
    else
    if a2 = nI 1 then
      some (w1 (40 + 2 * a1.toNatClampNeg) 2, w1)
    else
    if a2 = nI 2 then
      some (w1 (40 + 2 * a1.toNatClampNeg) 3, w1)
    else
    if a2 = nI 3 then
      some (w1 116 1, w1)
    else
    if a2 = nI 4 then
      zb2 (f_X1_hold w1) fun x14 w2 =>
      if x14 = nI 0 then
        some (nI 0, w2)
      else
        some (nI 1, w2)
    else
    if a2 = nI 5 then
      zb2 (f_X1_countWays w1) fun x18 w3 =>
      some (x18, w3)
    else
    if a2 = nI 6 then
      zb2 (f_X1_stuckAt w1) fun x21 w4 =>
      some (x21, w4)
    else
      zb2 (f_X8_costOf (40 + 2 * a1.toNatClampNeg) w1) fun x23 w5 =>
      some (x23, w5))
theorem c_X11_wallIs {G : zG} {l : Launch} (hG : zgood G) {w : zW} {re : Int32} {we : zW} {a1 : Int32} {a2 : Int32}  (h : f_X11_wallIs a1 a2 w = some (re, we)) : zMet G l yX11_wallIs cX11_wallIs 4 (some .int) 4 [.ref (zα G 0), .int a1, .int a2] w (some (.int re)) we := by
  refine zMet_of (L0 := [some (.ref (zα G 0)), some (.int a1), some (.int a2), none]) hG zplX11 (Nat.le_of_ble_eq_true rfl) rfl rfl (fun X hl hX hEI hEV hEA => ?_)
  subst hl
  have hX : zOk G X cX11_wallIs 4 RX11 4 := hX
  have hE := hEI _ _ rfl rfl
  rw [f_X11_wallIs] at h
  refine z_aload_n 0 hX dX11_wallIs_0 rfl <|
    zgX11_12 1 hX dX11_wallIs_1 (rfl : shp 0 = (11, 0)) <|
    z_iload_n 4 hX dX11_wallIs_4 rfl <|
    zb1 h fun x2 r1 h => zcX11_88 5 [.int a1] [] hX dX11_wallIs_5 (c_X8_hasWall (zgd0 hX) r1) (rfl : shp 1 = (8, 0)) rfl rfl rfl (Nat.le_of_ble_eq_true rfl) (Nat.le_of_ble_eq_true rfl) <|
    z_if_eq 8 21 hX dX11_wallIs_8 rfl h (fun q3 h => ?_) (fun q3 h => ?_)
  · refine z_weak (L' := [some (.ref (zα G 0)), none, none, none]) (zsub_s (zsub_n (zsub_n (zsub_n zsub_0)))) <|
      j_X11_wallIs_21z hX hE h
  · refine z_iload_n 11 hX dX11_wallIs_11 rfl <|
      z_if_lt 12 21 hX dX11_wallIs_12 rfl h (fun q4 h => ?_) (fun q4 h => ?_)
    · refine z_weak (L' := [some (.ref (zα G 0)), none, none, none]) (zsub_s (zsub_n (zsub_n (zsub_n zsub_0)))) <|
        j_X11_wallIs_21z hX hE h
    · refine z_iload_n 15 hX dX11_wallIs_15 rfl <|
        z_bipush 16 hX dX11_wallIs_16 zkb7 <|
        z_icmp_le 18 27 hX dX11_wallIs_18 rfl h (fun q5 h => ?_) (fun q5 h => ?_)
      · refine z_aload_n 27 hX dX11_wallIs_27 rfl <|
          zgX11_12 28 hX dX11_wallIs_28 (rfl : shp 0 = (11, 0)) <|
          zgX11_80 31 hX dX11_wallIs_31 (rfl : shp 1 = (8, 0)) <|
          z_iload_n 34 hX dX11_wallIs_34 rfl <|
          z_aald 35 hX dX11_wallIs_35 (rfl : shp 2 = (21, 6)) (by decide) h fun q6 h =>
          z_astore_n 36 [some (.ref (zα G 0)), some (.int a1), some (.int a2), some (.ref (zα G (40 + 2 * a1.toNatClampNeg)))] hX dX11_wallIs_36 (Nat.le_of_ble_eq_true rfl) rfl rfl <|
          z_aload_n 37 hX dX11_wallIs_37 rfl <|
          zgX11_12 38 hX dX11_wallIs_38 (rfl : shp 0 = (11, 0)) <|
          z_aload_n 41 hX dX11_wallIs_41 rfl <|
          z_iload_n 42 hX dX11_wallIs_42 rfl <|
          z_aload_n 43 hX dX11_wallIs_43 rfl <|
          zgX11_36 44 hX dX11_wallIs_44 (rfl : shp 0 = (11, 0)) <|
          zb1 h fun w1 r7 h => zcX11_92 47 [.ref (zα G (40 + 2 * a1.toNatClampNeg)), .int a1, .ref (zα G 116)] [] hX dX11_wallIs_47 (c_X8_spell (zgd0 hX) (ze21 _ (rfl : shp 2 = (21, 6)) _ q6) r7) (rfl : shp 1 = (8, 0)) rfl rfl rfl (Nat.le_of_ble_eq_true rfl) (Nat.le_of_ble_eq_true rfl) <|
          z_iload_n 50 hX dX11_wallIs_50 rfl <|
          ?_
        rcases zif h with ⟨q8, h⟩ | ⟨q8, h⟩
        · refine z_tsIn 51 92 (0) hX dX11_wallIs_51 (zti 0 (by decide) q8) (by decide) (by decide) (by decide) rfl <|
            z_aload_n 92 hX dX11_wallIs_92 rfl <|
            zgX11_96 93 hX dX11_wallIs_93 (ze21 _ (rfl : shp 2 = (21, 6)) _ q6) <|
            z_endI2 96 hE rfl h dX11_wallIs_96
        rcases zif h with ⟨q9, h⟩ | ⟨q9, h⟩
        · refine z_tsIn 51 97 (1) hX dX11_wallIs_51 (zti 1 (by decide) q9) (by decide) (by decide) (by decide) rfl <|
            z_aload_n 97 hX dX11_wallIs_97 rfl <|
            zgX11_99 98 hX dX11_wallIs_98 (ze21 _ (rfl : shp 2 = (21, 6)) _ q6) <|
            z_endI2 101 hE rfl h dX11_wallIs_101
        rcases zif h with ⟨q10, h⟩ | ⟨q10, h⟩
        · refine z_tsIn 51 102 (2) hX dX11_wallIs_51 (zti 2 (by decide) q10) (by decide) (by decide) (by decide) rfl <|
            z_aload_n 102 hX dX11_wallIs_102 rfl <|
            zgX11_102 103 hX dX11_wallIs_103 (ze21 _ (rfl : shp 2 = (21, 6)) _ q6) <|
            z_endI2 106 hE rfl h dX11_wallIs_106
        rcases zif h with ⟨q11, h⟩ | ⟨q11, h⟩
        · refine z_tsIn 51 107 (3) hX dX11_wallIs_51 (zti 3 (by decide) q11) (by decide) (by decide) (by decide) rfl <|
            z_aload_n 107 hX dX11_wallIs_107 rfl <|
            zgX11_36 108 hX dX11_wallIs_108 (rfl : shp 0 = (11, 0)) <|
            zgX11_105 111 hX dX11_wallIs_111 (rfl : shp 116 = (3, 0)) <|
            z_endI2 114 hE rfl h dX11_wallIs_114
        rcases zif h with ⟨q12, h⟩ | ⟨q12, h⟩
        · refine z_tsIn 51 115 (4) hX dX11_wallIs_51 (zti 4 (by decide) q12) (by decide) (by decide) (by decide) rfl <|
            z_aload_n 115 hX dX11_wallIs_115 rfl <|
            zgX11_29 116 hX dX11_wallIs_116 (rfl : shp 0 = (11, 0)) <|
            z_aload_n 119 hX dX11_wallIs_119 rfl <|
            zgX11_12 120 hX dX11_wallIs_120 (rfl : shp 0 = (11, 0)) <|
            zgX11_106 123 hX dX11_wallIs_123 (rfl : shp 1 = (8, 0)) <|
            z_aload_n 126 hX dX11_wallIs_126 rfl <|
            zgX11_36 127 hX dX11_wallIs_127 (rfl : shp 0 = (11, 0)) <|
            zb12 h fun x14 w2 r13 h => zcX11_110 130 [.ref (zα G 3), .ref (zα G 116)] [] hX dX11_wallIs_130 (c_X1_hold (zgd0 hX) r13) (rfl : shp 112 = (1, 0)) rfl rfl rfl (Nat.le_of_ble_eq_true rfl) (Nat.le_of_ble_eq_true rfl) <|
            z_if_eq 133 140 hX dX11_wallIs_133 rfl h (fun q15 h => ?_) (fun q15 h => ?_)
          · refine z_iconst 140 hX dX11_wallIs_140 zki0 <|
              z_endI2 141 hE rfl h dX11_wallIs_141
          · refine z_iconst 136 hX dX11_wallIs_136 zki1 <|
              z_goto 137 141 hX dX11_wallIs_137 rfl <|
              z_endI2 141 hE rfl h dX11_wallIs_141
        rcases zif h with ⟨q16, h⟩ | ⟨q16, h⟩
        · refine z_tsIn 51 142 (5) hX dX11_wallIs_51 (zti 5 (by decide) q16) (by decide) (by decide) (by decide) rfl <|
            z_aload_n 142 hX dX11_wallIs_142 rfl <|
            zgX11_29 143 hX dX11_wallIs_143 (rfl : shp 0 = (11, 0)) <|
            z_aload_n 146 hX dX11_wallIs_146 rfl <|
            zgX11_12 147 hX dX11_wallIs_147 (rfl : shp 0 = (11, 0)) <|
            zgX11_106 150 hX dX11_wallIs_150 (rfl : shp 1 = (8, 0)) <|
            z_aload_n 153 hX dX11_wallIs_153 rfl <|
            zgX11_36 154 hX dX11_wallIs_154 (rfl : shp 0 = (11, 0)) <|
            zb12 h fun x18 w3 r17 h => zcX11_114 157 [.ref (zα G 3), .ref (zα G 116)] [] hX dX11_wallIs_157 (c_X1_countWays (zgd0 hX) r17) (rfl : shp 112 = (1, 0)) rfl rfl rfl (Nat.le_of_ble_eq_true rfl) (Nat.le_of_ble_eq_true rfl) <|
            z_endI2 160 hE rfl h dX11_wallIs_160
        rcases zif h with ⟨q19, h⟩ | ⟨q19, h⟩
        · refine z_tsIn 51 161 (6) hX dX11_wallIs_51 (zti 6 (by decide) q19) (by decide) (by decide) (by decide) rfl <|
            z_aload_n 161 hX dX11_wallIs_161 rfl <|
            zgX11_29 162 hX dX11_wallIs_162 (rfl : shp 0 = (11, 0)) <|
            z_aload_n 165 hX dX11_wallIs_165 rfl <|
            zgX11_12 166 hX dX11_wallIs_166 (rfl : shp 0 = (11, 0)) <|
            zgX11_106 169 hX dX11_wallIs_169 (rfl : shp 1 = (8, 0)) <|
            z_aload_n 172 hX dX11_wallIs_172 rfl <|
            zgX11_36 173 hX dX11_wallIs_173 (rfl : shp 0 = (11, 0)) <|
            zb12 h fun x21 w4 r20 h => zcX11_118 176 [.ref (zα G 3), .ref (zα G 116)] [] hX dX11_wallIs_176 (c_X1_stuckAt (zgd0 hX) r20) (rfl : shp 112 = (1, 0)) rfl rfl rfl (Nat.le_of_ble_eq_true rfl) (Nat.le_of_ble_eq_true rfl) <|
            z_endI2 179 hE rfl h dX11_wallIs_179
        refine z_tsOut 51 180 hX dX11_wallIs_51 (by have e0 := zne 0 (by decide) q8; have e1 := zne 1 (by decide) q9; have e2 := zne 2 (by decide) q10; have e3 := zne 3 (by decide) q11; have e4 := zne 4 (by decide) q12; have e5 := zne 5 (by decide) q16; have e6 := zne 6 (by decide) q19; omega) rfl <|
          z_aload_n 180 hX dX11_wallIs_180 rfl <|
          zgX11_12 181 hX dX11_wallIs_181 (rfl : shp 0 = (11, 0)) <|
          z_aload_n 184 hX dX11_wallIs_184 rfl <|
          zb12 h fun x23 w5 r22 h => zcX11_121 185 [.ref (zα G (40 + 2 * a1.toNatClampNeg))] [] hX dX11_wallIs_185 (c_X8_costOf (zgd0 hX) (ze21 _ (rfl : shp 2 = (21, 6)) _ q6) r22) (rfl : shp 1 = (8, 0)) rfl rfl rfl (Nat.le_of_ble_eq_true rfl) (Nat.le_of_ble_eq_true rfl) <|
          z_endI2 188 hE rfl h dX11_wallIs_188
      · refine z_weak (L' := [some (.ref (zα G 0)), none, none, none]) (zsub_s (zsub_n (zsub_n (zsub_n zsub_0)))) <|
          j_X11_wallIs_21z hX hE h
def j_X11_as_21  (w : zW) : Option (Int32 × zW) :=
  zb2 (f_X11_error (nI 1) w) fun x2 w1 =>
  some (x2, w1)
theorem j_X11_as_21z {G : zG} {X : zX} {w : zW} {re : Int32} {we : zW}  (hX : zOk G X cX11_as 4 RX11 1) (hE : zEI G X cX11_as .int re we)  (h : j_X11_as_21 w = some (re, we)) : zZ G X w 21 [some (.ref (zα G 0)), none, none, none] [] := by
  rw [j_X11_as_21] at h
  refine z_aload_n 21 hX dX11_as_21 rfl <|
    z_iconst 22 hX dX11_as_22 zki1 <|
    zb12 h fun x2 w1 r1 h => zcX11_72 23 [.int (nI 1)] [] hX dX11_as_23 (c_X11_error (zgd0 hX) r1) (rfl : shp 0 = (11, 0)) rfl rfl rfl (Nat.le_of_ble_eq_true rfl) (Nat.le_of_ble_eq_true rfl) <|
    z_endI2 26 hE rfl h dX11_as_26
def f_X11_as (a1 : Int32) (a2 : Int32) (w : zW) : Option (Int32 × zW) :=
  zb (f_X8_hasWall a1 w) fun x2 =>
  if x2 = nI 0 then
    j_X11_as_21 w
  else
  if a2 < nI 0 then
    j_X11_as_21 w
  else
  if a2 < (nI 7) then
    zguard (zin a1 6) (
    zb (f_X11_isUnder (w (40 + 2 * a1.toNatClampNeg) 1) a2) fun x8 =>
    if x8 = nI 0 then
      zb2 (f_X11_error (nI 5) w) fun x11 w1 =>
      some (x11, w1)
    else
      some (w (40 + 2 * a1.toNatClampNeg) 3, w))
  else
    j_X11_as_21 w
theorem c_X11_as {G : zG} {l : Launch} (hG : zgood G) {w : zW} {re : Int32} {we : zW} {a1 : Int32} {a2 : Int32}  (h : f_X11_as a1 a2 w = some (re, we)) : zMet G l yX11_as cX11_as 4 (some .int) 1 [.ref (zα G 0), .int a1, .int a2] w (some (.int re)) we := by
  refine zMet_of (L0 := [some (.ref (zα G 0)), some (.int a1), some (.int a2), none]) hG zplX11 (Nat.le_of_ble_eq_true rfl) rfl rfl (fun X hl hX hEI hEV hEA => ?_)
  subst hl
  have hX : zOk G X cX11_as 4 RX11 1 := hX
  have hE := hEI _ _ rfl rfl
  rw [f_X11_as] at h
  refine z_aload_n 0 hX dX11_as_0 rfl <|
    zgX11_12 1 hX dX11_as_1 (rfl : shp 0 = (11, 0)) <|
    z_iload_n 4 hX dX11_as_4 rfl <|
    zb1 h fun x2 r1 h => zcX11_88 5 [.int a1] [] hX dX11_as_5 (c_X8_hasWall (zgd0 hX) r1) (rfl : shp 1 = (8, 0)) rfl rfl rfl (Nat.le_of_ble_eq_true rfl) (Nat.le_of_ble_eq_true rfl) <|
    z_if_eq 8 21 hX dX11_as_8 rfl h (fun q3 h => ?_) (fun q3 h => ?_)
  · refine z_weak (L' := [some (.ref (zα G 0)), none, none, none]) (zsub_s (zsub_n (zsub_n (zsub_n zsub_0)))) <|
      j_X11_as_21z hX hE h
  · refine z_iload_n 11 hX dX11_as_11 rfl <|
      z_if_lt 12 21 hX dX11_as_12 rfl h (fun q4 h => ?_) (fun q4 h => ?_)
    · refine z_weak (L' := [some (.ref (zα G 0)), none, none, none]) (zsub_s (zsub_n (zsub_n (zsub_n zsub_0)))) <|
        j_X11_as_21z hX hE h
    · refine z_iload_n 15 hX dX11_as_15 rfl <|
        z_bipush 16 hX dX11_as_16 zkb7 <|
        z_icmp_lt 18 27 hX dX11_as_18 rfl h (fun q5 h => ?_) (fun q5 h => ?_)
      · refine z_aload_n 27 hX dX11_as_27 rfl <|
          zgX11_12 28 hX dX11_as_28 (rfl : shp 0 = (11, 0)) <|
          zgX11_80 31 hX dX11_as_31 (rfl : shp 1 = (8, 0)) <|
          z_iload_n 34 hX dX11_as_34 rfl <|
          z_aald 35 hX dX11_as_35 (rfl : shp 2 = (21, 6)) (by decide) h fun q6 h =>
          z_astore_n 36 [some (.ref (zα G 0)), some (.int a1), some (.int a2), some (.ref (zα G (40 + 2 * a1.toNatClampNeg)))] hX dX11_as_36 (Nat.le_of_ble_eq_true rfl) rfl rfl <|
          z_aload_n 37 hX dX11_as_37 rfl <|
          zgX11_96 38 hX dX11_as_38 (ze21 _ (rfl : shp 2 = (21, 6)) _ q6) <|
          z_iload_n 41 hX dX11_as_41 rfl <|
          zb1 h fun x8 r7 h => zcX11_125 42 [.int (w (40 + 2 * a1.toNatClampNeg) 1), .int a2] [] hX dX11_as_42 (c_X11_isUnder (zgd0 hX) r7) rfl rfl rfl (Nat.le_of_ble_eq_true rfl) (Nat.le_of_ble_eq_true rfl) <|
          z_if_eq 45 55 hX dX11_as_45 rfl h (fun q9 h => ?_) (fun q9 h => ?_)
        · refine z_aload_n 55 hX dX11_as_55 rfl <|
            z_iconst 56 hX dX11_as_56 zki5 <|
            zb12 h fun x11 w1 r10 h => zcX11_72 57 [.int (nI 5)] [] hX dX11_as_57 (c_X11_error (zgd0 hX) r10) (rfl : shp 0 = (11, 0)) rfl rfl rfl (Nat.le_of_ble_eq_true rfl) (Nat.le_of_ble_eq_true rfl) <|
            z_endI2 60 hE rfl h dX11_as_60
        · refine z_aload_n 48 hX dX11_as_48 rfl <|
            zgX11_102 49 hX dX11_as_49 (ze21 _ (rfl : shp 2 = (21, 6)) _ q6) <|
            z_goto 52 60 hX dX11_as_52 rfl <|
            z_endI2 60 hE rfl h dX11_as_60
      · refine z_weak (L' := [some (.ref (zα G 0)), none, none, none]) (zsub_s (zsub_n (zsub_n (zsub_n zsub_0)))) <|
          j_X11_as_21z hX hE h
def j_X11_set_24  (w : zW) : Option (Int32 × zW) :=
  zb2 (f_X11_error (nI 1) w) fun x2 w1 =>
  some (x2, w1)
theorem j_X11_set_24z {G : zG} {X : zX} {w : zW} {re : Int32} {we : zW}  (hX : zOk G X cX11_set 6 RX11 1) (hE : zEI G X cX11_set .int re we)  (h : j_X11_set_24 w = some (re, we)) : zZ G X w 24 [some (.ref (zα G 0)), none, none, none, none, none] [] := by
  rw [j_X11_set_24] at h
  refine z_aload_n 24 hX dX11_set_24 rfl <|
    z_iconst 25 hX dX11_set_25 zki1 <|
    zb12 h fun x2 w1 r1 h => zcX11_72 26 [.int (nI 1)] [] hX dX11_set_26 (c_X11_error (zgd0 hX) r1) (rfl : shp 0 = (11, 0)) rfl rfl rfl (Nat.le_of_ble_eq_true rfl) (Nat.le_of_ble_eq_true rfl) <|
    z_endI2 29 hE rfl h dX11_set_29
def j_X11_set_79 (a2 : Int32) (a3 : Int32) (a4 : Nat) (b0 : Int32) (w : zW) : Option (Int32 × zW) :=
  if a2 = nI 0 then
    zlet (zupd w a4 1 a3) fun w2 =>
    some (b0, w2)
  else
    zlet (zupd w a4 2 a3) fun w1 =>
    some (b0, w1)
theorem j_X11_set_79z {G : zG} {X : zX} {w : zW} {re : Int32} {we : zW} {a2 : Int32} {a3 : Int32} {a4 : Nat} {b0 : Int32} (hX : zOk G X cX11_set 6 RX11 1) (hE : zEI G X cX11_set .int re we) (ha4 : shp a4 = (9, 0)) (h : j_X11_set_79 a2 a3 a4 b0 w = some (re, we)) : zZ G X w 79 [none, none, some (.int a2), some (.int a3), some (.ref (zα G a4)), none] [.int b0] := by
  rw [j_X11_set_79] at h
  refine z_istore 79 [none, none, some (.int a2), some (.int a3), some (.ref (zα G a4)), some (.int b0)] hX dX11_set_79 (Nat.le_of_ble_eq_true rfl) rfl rfl <|
    z_iload_n 81 hX dX11_set_81 rfl <|
    z_if_ne 82 94 hX dX11_set_82 rfl h (fun q1 h => ?_) (fun q1 h => ?_)
  · refine z_aload 94 hX dX11_set_94 rfl <|
      z_iload_n 96 hX dX11_set_96 rfl <|
      zpX11_99 97 hX dX11_set_97 ha4 <|
      z_w h fun w1 h =>
      z_iload 100 hX dX11_set_100 rfl <|
      z_endI2 102 hE rfl h dX11_set_102
  · refine z_aload 85 hX dX11_set_85 rfl <|
      z_iload_n 87 hX dX11_set_87 rfl <|
      zpX11_96 88 hX dX11_set_88 ha4 <|
      z_w h fun w2 h =>
      z_goto 91 100 hX dX11_set_91 rfl <|
      z_iload 100 hX dX11_set_100 rfl <|
      z_endI2 102 hE rfl h dX11_set_102
def j_X11_set_42 (a1 : Int32) (a2 : Int32) (a3 : Int32) (b0 : Int32) (b1 : Int32) (w : zW) : Option (Int32 × zW) :=
  if b1 < b0 then
    zb2 (f_X11_error (nI 1) w) fun x5 w1 =>
    some (x5, w1)
  else
    zguard (zin a1 6) (
    if a2 = nI 0 then
      j_X11_set_79 a2 a3 (40 + 2 * a1.toNatClampNeg) (w (40 + 2 * a1.toNatClampNeg) 1) w
    else
      j_X11_set_79 a2 a3 (40 + 2 * a1.toNatClampNeg) (w (40 + 2 * a1.toNatClampNeg) 2) w)
theorem j_X11_set_42z {G : zG} {X : zX} {w : zW} {re : Int32} {we : zW} {a1 : Int32} {a2 : Int32} {a3 : Int32} {b0 : Int32} {b1 : Int32} (hX : zOk G X cX11_set 6 RX11 1) (hE : zEI G X cX11_set .int re we)  (h : j_X11_set_42 a1 a2 a3 b0 b1 w = some (re, we)) : zZ G X w 42 [some (.ref (zα G 0)), some (.int a1), some (.int a2), some (.int a3), none, none] [.int b1, .int b0] := by
  rw [j_X11_set_42] at h
  refine z_icmp_le 42 51 hX dX11_set_42 rfl h (fun q1 h => ?_) (fun q1 h => ?_)
  · refine z_aload_n 51 hX dX11_set_51 rfl <|
      zgX11_12 52 hX dX11_set_52 (rfl : shp 0 = (11, 0)) <|
      zgX11_80 55 hX dX11_set_55 (rfl : shp 1 = (8, 0)) <|
      z_iload_n 58 hX dX11_set_58 rfl <|
      z_aald 59 hX dX11_set_59 (rfl : shp 2 = (21, 6)) (by decide) h fun q2 h =>
      z_astore 60 [some (.ref (zα G 0)), some (.int a1), some (.int a2), some (.int a3), some (.ref (zα G (40 + 2 * a1.toNatClampNeg))), none] hX dX11_set_60 (Nat.le_of_ble_eq_true rfl) rfl rfl <|
      z_iload_n 62 hX dX11_set_62 rfl <|
      z_if_ne 63 74 hX dX11_set_63 rfl h (fun q3 h => ?_) (fun q3 h => ?_)
    · refine z_aload 74 hX dX11_set_74 rfl <|
        zgX11_99 76 hX dX11_set_76 (ze21 _ (rfl : shp 2 = (21, 6)) _ q2) <|
        z_weak (L' := [none, none, some (.int a2), some (.int a3), some (.ref (zα G (40 + 2 * a1.toNatClampNeg))), none]) (zsub_n (zsub_n (zsub_s (zsub_s (zsub_s (zsub_n zsub_0)))))) <|
        j_X11_set_79z hX hE (ze21 _ (rfl : shp 2 = (21, 6)) _ q2) h
    · refine z_aload 66 hX dX11_set_66 rfl <|
        zgX11_96 68 hX dX11_set_68 (ze21 _ (rfl : shp 2 = (21, 6)) _ q2) <|
        z_goto 71 79 hX dX11_set_71 rfl <|
        z_weak (L' := [none, none, some (.int a2), some (.int a3), some (.ref (zα G (40 + 2 * a1.toNatClampNeg))), none]) (zsub_n (zsub_n (zsub_s (zsub_s (zsub_s (zsub_n zsub_0)))))) <|
        j_X11_set_79z hX hE (ze21 _ (rfl : shp 2 = (21, 6)) _ q2) h
  · refine z_aload_n 45 hX dX11_set_45 rfl <|
      z_iconst 46 hX dX11_set_46 zki1 <|
      zb12 h fun x5 w1 r4 h => zcX11_72 47 [.int (nI 1)] [] hX dX11_set_47 (c_X11_error (zgd0 hX) r4) (rfl : shp 0 = (11, 0)) rfl rfl rfl (Nat.le_of_ble_eq_true rfl) (Nat.le_of_ble_eq_true rfl) <|
      z_endI2 50 hE rfl h dX11_set_50
def f_X11_set (a1 : Int32) (a2 : Int32) (a3 : Int32) (w : zW) : Option (Int32 × zW) :=
  zb (f_X8_hasWall a1 w) fun x2 =>
  if x2 = nI 0 then
    j_X11_set_24 w
  else
  if a2 < nI 0 then
    j_X11_set_24 w
  else
  if (nI 1) < a2 then
    j_X11_set_24 w
  else
  if a3 < nI 0 then
    j_X11_set_24 w
  else
  if a2 = nI 0 then
    j_X11_set_42 a1 a2 a3 a3 (nI 6) w
  else
    j_X11_set_42 a1 a2 a3 a3 (nI 9) w
theorem c_X11_set {G : zG} {l : Launch} (hG : zgood G) {w : zW} {re : Int32} {we : zW} {a1 : Int32} {a2 : Int32} {a3 : Int32}  (h : f_X11_set a1 a2 a3 w = some (re, we)) : zMet G l yX11_set cX11_set 6 (some .int) 1 [.ref (zα G 0), .int a1, .int a2, .int a3] w (some (.int re)) we := by
  refine zMet_of (L0 := [some (.ref (zα G 0)), some (.int a1), some (.int a2), some (.int a3), none, none]) hG zplX11 (Nat.le_of_ble_eq_true rfl) rfl rfl (fun X hl hX hEI hEV hEA => ?_)
  subst hl
  have hX : zOk G X cX11_set 6 RX11 1 := hX
  have hE := hEI _ _ rfl rfl
  rw [f_X11_set] at h
  refine z_aload_n 0 hX dX11_set_0 rfl <|
    zgX11_12 1 hX dX11_set_1 (rfl : shp 0 = (11, 0)) <|
    z_iload_n 4 hX dX11_set_4 rfl <|
    zb1 h fun x2 r1 h => zcX11_88 5 [.int a1] [] hX dX11_set_5 (c_X8_hasWall (zgd0 hX) r1) (rfl : shp 1 = (8, 0)) rfl rfl rfl (Nat.le_of_ble_eq_true rfl) (Nat.le_of_ble_eq_true rfl) <|
    z_if_eq 8 24 hX dX11_set_8 rfl h (fun q3 h => ?_) (fun q3 h => ?_)
  · refine z_weak (L' := [some (.ref (zα G 0)), none, none, none, none, none]) (zsub_s (zsub_n (zsub_n (zsub_n (zsub_n (zsub_n zsub_0)))))) <|
      j_X11_set_24z hX hE h
  · refine z_iload_n 11 hX dX11_set_11 rfl <|
      z_if_lt 12 24 hX dX11_set_12 rfl h (fun q4 h => ?_) (fun q4 h => ?_)
    · refine z_weak (L' := [some (.ref (zα G 0)), none, none, none, none, none]) (zsub_s (zsub_n (zsub_n (zsub_n (zsub_n (zsub_n zsub_0)))))) <|
        j_X11_set_24z hX hE h
    · refine z_iload_n 15 hX dX11_set_15 rfl <|
        z_iconst 16 hX dX11_set_16 zki1 <|
        z_icmp_gt 17 24 hX dX11_set_17 rfl h (fun q5 h => ?_) (fun q5 h => ?_)
      · refine z_weak (L' := [some (.ref (zα G 0)), none, none, none, none, none]) (zsub_s (zsub_n (zsub_n (zsub_n (zsub_n (zsub_n zsub_0)))))) <|
          j_X11_set_24z hX hE h
      · refine z_iload_n 20 hX dX11_set_20 rfl <|
          z_if_ge 21 30 hX dX11_set_21 rfl h (fun q6 h => ?_) (fun q6 h => ?_)
        · refine z_iload_n 30 hX dX11_set_30 rfl <|
            z_iload_n 31 hX dX11_set_31 rfl <|
            z_if_ne 32 40 hX dX11_set_32 rfl h (fun q7 h => ?_) (fun q7 h => ?_)
          · refine z_bipush 40 hX dX11_set_40 zkb9 <|
              j_X11_set_42z hX hE h
          · refine z_bipush 35 hX dX11_set_35 zkb6 <|
              z_goto 37 42 hX dX11_set_37 rfl <|
              j_X11_set_42z hX hE h
        · refine z_weak (L' := [some (.ref (zα G 0)), none, none, none, none, none]) (zsub_s (zsub_n (zsub_n (zsub_n (zsub_n (zsub_n zsub_0)))))) <|
            j_X11_set_24z hX hE h
def j_X11_brick_22  (w : zW) : Option (Int32 × zW) :=
  zb2 (f_X11_error (nI 1) w) fun x2 w1 =>
  some (x2, w1)
theorem j_X11_brick_22z {G : zG} {X : zX} {w : zW} {re : Int32} {we : zW}  (hX : zOk G X cX11_brick 5 RX11 2) (hE : zEI G X cX11_brick .int re we)  (h : j_X11_brick_22 w = some (re, we)) : zZ G X w 22 [some (.ref (zα G 0)), none, none, none, none] [] := by
  rw [j_X11_brick_22] at h
  refine z_aload_n 22 hX dX11_brick_22 rfl <|
    z_iconst 23 hX dX11_brick_23 zki1 <|
    zb12 h fun x2 w1 r1 h => zcX11_72 24 [.int (nI 1)] [] hX dX11_brick_24 (c_X11_error (zgd0 hX) r1) (rfl : shp 0 = (11, 0)) rfl rfl rfl (Nat.le_of_ble_eq_true rfl) (Nat.le_of_ble_eq_true rfl) <|
    z_endI2 27 hE rfl h dX11_brick_27
def f_X11_brick (a1 : Int32) (a2 : Int32) (a3 : Int32) (w : zW) : Option (Int32 × zW) :=
  zb (f_X8_hasPlace a1 a2 w) fun x2 =>
  if x2 = nI 0 then
    j_X11_brick_22 w
  else
  if a3 < nI 0 then
    j_X11_brick_22 w
  else
  if (nI 26) < a3 then
    j_X11_brick_22 w
  else
    zguard (zin a1 6) (
    zld w ((40 + 2 * a1.toNatClampNeg) + 1) 24 a2 fun x7 =>
    zguard (zin a1 6) (
    zsto w ((40 + 2 * a1.toNatClampNeg) + 1) 24 a2 a3 fun w1 =>
    some (x7, w1)))
theorem c_X11_brick {G : zG} {l : Launch} (hG : zgood G) {w : zW} {re : Int32} {we : zW} {a1 : Int32} {a2 : Int32} {a3 : Int32}  (h : f_X11_brick a1 a2 a3 w = some (re, we)) : zMet G l yX11_brick cX11_brick 5 (some .int) 2 [.ref (zα G 0), .int a1, .int a2, .int a3] w (some (.int re)) we := by
  refine zMet_of (L0 := [some (.ref (zα G 0)), some (.int a1), some (.int a2), some (.int a3), none]) hG zplX11 (Nat.le_of_ble_eq_true rfl) rfl rfl (fun X hl hX hEI hEV hEA => ?_)
  subst hl
  have hX : zOk G X cX11_brick 5 RX11 2 := hX
  have hE := hEI _ _ rfl rfl
  rw [f_X11_brick] at h
  refine z_aload_n 0 hX dX11_brick_0 rfl <|
    zgX11_12 1 hX dX11_brick_1 (rfl : shp 0 = (11, 0)) <|
    z_iload_n 4 hX dX11_brick_4 rfl <|
    z_iload_n 5 hX dX11_brick_5 rfl <|
    zb1 h fun x2 r1 h => zcX11_129 6 [.int a1, .int a2] [] hX dX11_brick_6 (c_X8_hasPlace (zgd0 hX) r1) (rfl : shp 1 = (8, 0)) rfl rfl rfl (Nat.le_of_ble_eq_true rfl) (Nat.le_of_ble_eq_true rfl) <|
    z_if_eq 9 22 hX dX11_brick_9 rfl h (fun q3 h => ?_) (fun q3 h => ?_)
  · refine z_weak (L' := [some (.ref (zα G 0)), none, none, none, none]) (zsub_s (zsub_n (zsub_n (zsub_n (zsub_n zsub_0))))) <|
      j_X11_brick_22z hX hE h
  · refine z_iload_n 12 hX dX11_brick_12 rfl <|
      z_if_lt 13 22 hX dX11_brick_13 rfl h (fun q4 h => ?_) (fun q4 h => ?_)
    · refine z_weak (L' := [some (.ref (zα G 0)), none, none, none, none]) (zsub_s (zsub_n (zsub_n (zsub_n (zsub_n zsub_0))))) <|
        j_X11_brick_22z hX hE h
    · refine z_iload_n 16 hX dX11_brick_16 rfl <|
        z_bipush 17 hX dX11_brick_17 zkb26 <|
        z_icmp_le 19 28 hX dX11_brick_19 rfl h (fun q5 h => ?_) (fun q5 h => ?_)
      · refine z_aload_n 28 hX dX11_brick_28 rfl <|
          zgX11_12 29 hX dX11_brick_29 (rfl : shp 0 = (11, 0)) <|
          zgX11_80 32 hX dX11_brick_32 (rfl : shp 1 = (8, 0)) <|
          z_iload_n 35 hX dX11_brick_35 rfl <|
          z_aald 36 hX dX11_brick_36 (rfl : shp 2 = (21, 6)) (by decide) h fun q6 h =>
          zgX11_132 37 hX dX11_brick_37 (ze21 _ (rfl : shp 2 = (21, 6)) _ q6) <|
          z_iload_n 40 hX dX11_brick_40 rfl <|
          z_iald 41 hX dX11_brick_41 (zr9_stones _ (ze21 _ (rfl : shp 2 = (21, 6)) _ q6)) h fun x7 _ h =>
          z_istore 42 [some (.ref (zα G 0)), some (.int a1), some (.int a2), some (.int a3), some (.int x7)] hX dX11_brick_42 (Nat.le_of_ble_eq_true rfl) rfl rfl <|
          z_aload_n 44 hX dX11_brick_44 rfl <|
          zgX11_12 45 hX dX11_brick_45 (rfl : shp 0 = (11, 0)) <|
          zgX11_80 48 hX dX11_brick_48 (rfl : shp 1 = (8, 0)) <|
          z_iload_n 51 hX dX11_brick_51 rfl <|
          z_aald 52 hX dX11_brick_52 (rfl : shp 2 = (21, 6)) (by decide) h fun q8 h =>
          zgX11_132 53 hX dX11_brick_53 (ze21 _ (rfl : shp 2 = (21, 6)) _ q8) <|
          z_iload_n 56 hX dX11_brick_56 rfl <|
          z_iload_n 57 hX dX11_brick_57 rfl <|
          z_iast 58 hX dX11_brick_58 (zr9_stones _ (ze21 _ (rfl : shp 2 = (21, 6)) _ q8)) h fun w1 h =>
          z_iload 59 hX dX11_brick_59 rfl <|
          z_endI2 61 hE rfl h dX11_brick_61
      · refine z_weak (L' := [some (.ref (zα G 0)), none, none, none, none]) (zsub_s (zsub_n (zsub_n (zsub_n (zsub_n zsub_0))))) <|
          j_X11_brick_22z hX hE h
def f_X11_brickOf (a1 : Int32) (a2 : Int32) (w : zW) : Option (Int32 × zW) :=
  zb (f_X8_hasPlace a1 a2 w) fun x2 =>
  if x2 = nI 0 then
    zb2 (f_X11_error (nI 1) w) fun x5 w1 =>
    some (x5, w1)
  else
    zguard (zin a1 6) (
    zld w ((40 + 2 * a1.toNatClampNeg) + 1) 24 a2 fun x7 =>
    some (x7, w))
theorem c_X11_brickOf {G : zG} {l : Launch} (hG : zgood G) {w : zW} {re : Int32} {we : zW} {a1 : Int32} {a2 : Int32}  (h : f_X11_brickOf a1 a2 w = some (re, we)) : zMet G l yX11_brickOf cX11_brickOf 3 (some .int) 2 [.ref (zα G 0), .int a1, .int a2] w (some (.int re)) we := by
  refine zMet_of (L0 := [some (.ref (zα G 0)), some (.int a1), some (.int a2)]) hG zplX11 (Nat.le_of_ble_eq_true rfl) rfl rfl (fun X hl hX hEI hEV hEA => ?_)
  subst hl
  have hX : zOk G X cX11_brickOf 3 RX11 2 := hX
  have hE := hEI _ _ rfl rfl
  rw [f_X11_brickOf] at h
  refine z_aload_n 0 hX dX11_brickOf_0 rfl <|
    zgX11_12 1 hX dX11_brickOf_1 (rfl : shp 0 = (11, 0)) <|
    z_iload_n 4 hX dX11_brickOf_4 rfl <|
    z_iload_n 5 hX dX11_brickOf_5 rfl <|
    zb1 h fun x2 r1 h => zcX11_129 6 [.int a1, .int a2] [] hX dX11_brickOf_6 (c_X8_hasPlace (zgd0 hX) r1) (rfl : shp 1 = (8, 0)) rfl rfl rfl (Nat.le_of_ble_eq_true rfl) (Nat.le_of_ble_eq_true rfl) <|
    z_if_eq 9 29 hX dX11_brickOf_9 rfl h (fun q3 h => ?_) (fun q3 h => ?_)
  · refine z_aload_n 29 hX dX11_brickOf_29 rfl <|
      z_iconst 30 hX dX11_brickOf_30 zki1 <|
      zb12 h fun x5 w1 r4 h => zcX11_72 31 [.int (nI 1)] [] hX dX11_brickOf_31 (c_X11_error (zgd0 hX) r4) (rfl : shp 0 = (11, 0)) rfl rfl rfl (Nat.le_of_ble_eq_true rfl) (Nat.le_of_ble_eq_true rfl) <|
      z_endI2 34 hE rfl h dX11_brickOf_34
  · refine z_aload_n 12 hX dX11_brickOf_12 rfl <|
      zgX11_12 13 hX dX11_brickOf_13 (rfl : shp 0 = (11, 0)) <|
      zgX11_80 16 hX dX11_brickOf_16 (rfl : shp 1 = (8, 0)) <|
      z_iload_n 19 hX dX11_brickOf_19 rfl <|
      z_aald 20 hX dX11_brickOf_20 (rfl : shp 2 = (21, 6)) (by decide) h fun q6 h =>
      zgX11_132 21 hX dX11_brickOf_21 (ze21 _ (rfl : shp 2 = (21, 6)) _ q6) <|
      z_iload_n 24 hX dX11_brickOf_24 rfl <|
      z_iald 25 hX dX11_brickOf_25 (zr9_stones _ (ze21 _ (rfl : shp 2 = (21, 6)) _ q6)) h fun x7 _ h =>
      z_goto 26 34 hX dX11_brickOf_26 rfl <|
      z_endI2 34 hE rfl h dX11_brickOf_34
def j_X11_readAs_65  (w : zW) : Option (Int32 × zW) :=
  zb2 (f_X11_error (nI 1) w) fun x2 w1 =>
  some (x2, w1)
theorem j_X11_readAs_65z {G : zG} {X : zX} {w : zW} {re : Int32} {we : zW}  (hX : zOk G X cX11_readAs 3 RX11 4) (hE : zEI G X cX11_readAs .int re we)  (h : j_X11_readAs_65 w = some (re, we)) : zZ G X w 65 [some (.ref (zα G 0)), none, none] [] := by
  rw [j_X11_readAs_65] at h
  refine z_aload_n 65 hX dX11_readAs_65 rfl <|
    z_iconst 66 hX dX11_readAs_66 zki1 <|
    zb12 h fun x2 w1 r1 h => zcX11_72 67 [.int (nI 1)] [] hX dX11_readAs_67 (c_X11_error (zgd0 hX) r1) (rfl : shp 0 = (11, 0)) rfl rfl rfl (Nat.le_of_ble_eq_true rfl) (Nat.le_of_ble_eq_true rfl) <|
    z_endI2 70 hE rfl h dX11_readAs_70
def f_X11_readAs (a1 : Int32) (a2 : Int32) (w : zW) : Option (Int32 × zW) :=
  zb (f_X8_hasWall a1 w) fun x2 =>
  if x2 = nI 0 then
    zb2 (f_X11_error (nI 1) w) fun x10 w2 =>
    some (x10, w2)
  else
    zguard (zin a1 6) (
    zb (f_X8_spell (40 + 2 * a1.toNatClampNeg) a1 w) fun w1 =>
    if a2 < nI 0 then
      j_X11_readAs_65 w1
    else
    if a2 < (w1 116 1) then
      zld w1 117 48 a2 fun x8 =>
      some (x8, w1)
    else
      j_X11_readAs_65 w1)
theorem c_X11_readAs {G : zG} {l : Launch} (hG : zgood G) {w : zW} {re : Int32} {we : zW} {a1 : Int32} {a2 : Int32}  (h : f_X11_readAs a1 a2 w = some (re, we)) : zMet G l yX11_readAs cX11_readAs 3 (some .int) 4 [.ref (zα G 0), .int a1, .int a2] w (some (.int re)) we := by
  refine zMet_of (L0 := [some (.ref (zα G 0)), some (.int a1), some (.int a2)]) hG zplX11 (Nat.le_of_ble_eq_true rfl) rfl rfl (fun X hl hX hEI hEV hEA => ?_)
  subst hl
  have hX : zOk G X cX11_readAs 3 RX11 4 := hX
  have hE := hEI _ _ rfl rfl
  rw [f_X11_readAs] at h
  refine z_aload_n 0 hX dX11_readAs_0 rfl <|
    zgX11_12 1 hX dX11_readAs_1 (rfl : shp 0 = (11, 0)) <|
    z_iload_n 4 hX dX11_readAs_4 rfl <|
    zb1 h fun x2 r1 h => zcX11_88 5 [.int a1] [] hX dX11_readAs_5 (c_X8_hasWall (zgd0 hX) r1) (rfl : shp 1 = (8, 0)) rfl rfl rfl (Nat.le_of_ble_eq_true rfl) (Nat.le_of_ble_eq_true rfl) <|
    z_if_ne 8 17 hX dX11_readAs_8 rfl h (fun q3 h => ?_) (fun q3 h => ?_)
  · refine z_aload_n 17 hX dX11_readAs_17 rfl <|
      zgX11_12 18 hX dX11_readAs_18 (rfl : shp 0 = (11, 0)) <|
      z_aload_n 21 hX dX11_readAs_21 rfl <|
      zgX11_12 22 hX dX11_readAs_22 (rfl : shp 0 = (11, 0)) <|
      zgX11_80 25 hX dX11_readAs_25 (rfl : shp 1 = (8, 0)) <|
      z_iload_n 28 hX dX11_readAs_28 rfl <|
      z_aald 29 hX dX11_readAs_29 (rfl : shp 2 = (21, 6)) (by decide) h fun q4 h =>
      z_iload_n 30 hX dX11_readAs_30 rfl <|
      z_aload_n 31 hX dX11_readAs_31 rfl <|
      zgX11_36 32 hX dX11_readAs_32 (rfl : shp 0 = (11, 0)) <|
      zb1 h fun w1 r5 h => zcX11_92 35 [.ref (zα G (40 + 2 * a1.toNatClampNeg)), .int a1, .ref (zα G 116)] [] hX dX11_readAs_35 (c_X8_spell (zgd0 hX) (ze21 _ (rfl : shp 2 = (21, 6)) _ q4) r5) (rfl : shp 1 = (8, 0)) rfl rfl rfl (Nat.le_of_ble_eq_true rfl) (Nat.le_of_ble_eq_true rfl) <|
      z_iload_n 38 hX dX11_readAs_38 rfl <|
      z_if_lt 39 65 hX dX11_readAs_39 rfl h (fun q6 h => ?_) (fun q6 h => ?_)
    · refine z_weak (L' := [some (.ref (zα G 0)), none, none]) (zsub_s (zsub_n (zsub_n zsub_0))) <|
        j_X11_readAs_65z hX hE h
    · refine z_iload_n 42 hX dX11_readAs_42 rfl <|
        z_aload_n 43 hX dX11_readAs_43 rfl <|
        zgX11_36 44 hX dX11_readAs_44 (rfl : shp 0 = (11, 0)) <|
        zgX11_105 47 hX dX11_readAs_47 (rfl : shp 116 = (3, 0)) <|
        z_icmp_ge 50 65 hX dX11_readAs_50 rfl h (fun q7 h => ?_) (fun q7 h => ?_)
      · refine z_weak (L' := [some (.ref (zα G 0)), none, none]) (zsub_s (zsub_n (zsub_n zsub_0))) <|
          j_X11_readAs_65z hX hE h
      · refine z_aload_n 53 hX dX11_readAs_53 rfl <|
          zgX11_36 54 hX dX11_readAs_54 (rfl : shp 0 = (11, 0)) <|
          zgX11_135 57 hX dX11_readAs_57 (rfl : shp 116 = (3, 0)) <|
          z_iload_n 60 hX dX11_readAs_60 rfl <|
          z_iald 61 hX dX11_readAs_61 (rfl : shp 117 = (20, 48)) h fun x8 _ h =>
          z_goto 62 70 hX dX11_readAs_62 rfl <|
          z_endI2 70 hE rfl h dX11_readAs_70
  · refine z_aload_n 11 hX dX11_readAs_11 rfl <|
      z_iconst 12 hX dX11_readAs_12 zki1 <|
      zb12 h fun x10 w2 r9 h => zcX11_72 13 [.int (nI 1)] [] hX dX11_readAs_13 (c_X11_error (zgd0 hX) r9) (rfl : shp 0 = (11, 0)) rfl rfl rfl (Nat.le_of_ble_eq_true rfl) (Nat.le_of_ble_eq_true rfl) <|
      z_endI2 16 hE rfl h dX11_readAs_16
def j_X11_word_16  (w : zW) : Option (Int32 × zW) :=
  zb2 (f_X11_error (nI 1) w) fun x2 w1 =>
  some (x2, w1)
theorem j_X11_word_16z {G : zG} {X : zX} {w : zW} {re : Int32} {we : zW}  (hX : zOk G X cX11_word 3 RX11 1) (hE : zEI G X cX11_word .int re we)  (h : j_X11_word_16 w = some (re, we)) : zZ G X w 16 [some (.ref (zα G 0)), none, none] [] := by
  rw [j_X11_word_16] at h
  refine z_aload_n 16 hX dX11_word_16 rfl <|
    z_iconst 17 hX dX11_word_17 zki1 <|
    zb12 h fun x2 w1 r1 h => zcX11_72 18 [.int (nI 1)] [] hX dX11_word_18 (c_X11_error (zgd0 hX) r1) (rfl : shp 0 = (11, 0)) rfl rfl rfl (Nat.le_of_ble_eq_true rfl) (Nat.le_of_ble_eq_true rfl) <|
    z_endI2 21 hE rfl h dX11_word_21
def f_X11_word (a1 : Int32) (a2 : Int32) (w : zW) : Option (Int32 × zW) :=
  if a1 < nI 0 then
    j_X11_word_16 w
  else
  if a1 < (nI 5) then
    zb (f_X11_isLetter a2) fun x4 =>
    if x4 = nI 0 then
      j_X11_word_16 w
    else
    if (w 3 1) < (nI 12) then
      zguard (zin (w 3 1) 12) (
      zb (f_X10_begin (5 + 2 * (w 3 1).toNatClampNeg) a1 a2 w) fun w1 =>
      zlet (zupd w1 3 1 ((w1 3 1) + (nI 1))) fun w2 =>
      some ((w2 3 1) - (nI 1), w2))
    else
      zb2 (f_X11_error (nI 4) w) fun x10 w3 =>
      some (x10, w3)
  else
    j_X11_word_16 w
theorem c_X11_word {G : zG} {l : Launch} (hG : zgood G) {w : zW} {re : Int32} {we : zW} {a1 : Int32} {a2 : Int32}  (h : f_X11_word a1 a2 w = some (re, we)) : zMet G l yX11_word cX11_word 3 (some .int) 1 [.ref (zα G 0), .int a1, .int a2] w (some (.int re)) we := by
  refine zMet_of (L0 := [some (.ref (zα G 0)), some (.int a1), some (.int a2)]) hG zplX11 (Nat.le_of_ble_eq_true rfl) rfl rfl (fun X hl hX hEI hEV hEA => ?_)
  subst hl
  have hX : zOk G X cX11_word 3 RX11 1 := hX
  have hE := hEI _ _ rfl rfl
  rw [f_X11_word] at h
  refine z_iload_n 0 hX dX11_word_0 rfl <|
    z_if_lt 1 16 hX dX11_word_1 rfl h (fun q1 h => ?_) (fun q1 h => ?_)
  · refine z_weak (L' := [some (.ref (zα G 0)), none, none]) (zsub_s (zsub_n (zsub_n zsub_0))) <|
      j_X11_word_16z hX hE h
  · refine z_iload_n 4 hX dX11_word_4 rfl <|
      z_iconst 5 hX dX11_word_5 zki5 <|
      z_icmp_ge 6 16 hX dX11_word_6 rfl h (fun q2 h => ?_) (fun q2 h => ?_)
    · refine z_weak (L' := [some (.ref (zα G 0)), none, none]) (zsub_s (zsub_n (zsub_n zsub_0))) <|
        j_X11_word_16z hX hE h
    · refine z_iload_n 9 hX dX11_word_9 rfl <|
        zb1 h fun x4 r3 h => zcX11_138 10 [.int a2] [] hX dX11_word_10 (c_X11_isLetter (zgd0 hX) r3) rfl rfl rfl (Nat.le_of_ble_eq_true rfl) (Nat.le_of_ble_eq_true rfl) <|
        z_if_ne 13 22 hX dX11_word_13 rfl h (fun q5 h => ?_) (fun q5 h => ?_)
      · refine z_aload_n 22 hX dX11_word_22 rfl <|
          zgX11_12 23 hX dX11_word_23 (rfl : shp 0 = (11, 0)) <|
          zgX11_106 26 hX dX11_word_26 (rfl : shp 1 = (8, 0)) <|
          zgX11_141 29 hX dX11_word_29 (rfl : shp 3 = (7, 0)) <|
          z_bipush 32 hX dX11_word_32 zkb12 <|
          z_icmp_lt 34 43 hX dX11_word_34 rfl h (fun q6 h => ?_) (fun q6 h => ?_)
        · refine z_aload_n 43 hX dX11_word_43 rfl <|
            zgX11_12 44 hX dX11_word_44 (rfl : shp 0 = (11, 0)) <|
            zgX11_106 47 hX dX11_word_47 (rfl : shp 1 = (8, 0)) <|
            zgX11_144 50 hX dX11_word_50 (rfl : shp 3 = (7, 0)) <|
            z_aload_n 53 hX dX11_word_53 rfl <|
            zgX11_12 54 hX dX11_word_54 (rfl : shp 0 = (11, 0)) <|
            zgX11_106 57 hX dX11_word_57 (rfl : shp 1 = (8, 0)) <|
            zgX11_141 60 hX dX11_word_60 (rfl : shp 3 = (7, 0)) <|
            z_aald 63 hX dX11_word_63 (rfl : shp 4 = (22, 12)) (by decide) h fun q7 h =>
            z_iload_n 64 hX dX11_word_64 rfl <|
            z_iload_n 65 hX dX11_word_65 rfl <|
            zb1 h fun w1 r8 h => zcX11_148 66 [.int a1, .int a2] [] hX dX11_word_66 (c_X10_begin (zgd0 hX) (ze22 _ (rfl : shp 4 = (22, 12)) _ q7) r8) (ze22 _ (rfl : shp 4 = (22, 12)) _ q7) rfl rfl rfl (Nat.le_of_ble_eq_true rfl) (Nat.le_of_ble_eq_true rfl) <|
            z_aload_n 69 hX dX11_word_69 rfl <|
            zgX11_12 70 hX dX11_word_70 (rfl : shp 0 = (11, 0)) <|
            zgX11_106 73 hX dX11_word_73 (rfl : shp 1 = (8, 0)) <|
            z_dup 76 hX dX11_word_76 rfl <|
            zgX11_141 77 hX dX11_word_77 (rfl : shp 3 = (7, 0)) <|
            z_iconst 80 hX dX11_word_80 zki1 <|
            z_iadd 81 hX dX11_word_81 <|
            zpX11_141 82 hX dX11_word_82 (rfl : shp 3 = (7, 0)) <|
            z_w h fun w2 h =>
            z_aload_n 85 hX dX11_word_85 rfl <|
            zgX11_12 86 hX dX11_word_86 (rfl : shp 0 = (11, 0)) <|
            zgX11_106 89 hX dX11_word_89 (rfl : shp 1 = (8, 0)) <|
            zgX11_141 92 hX dX11_word_92 (rfl : shp 3 = (7, 0)) <|
            z_iconst 95 hX dX11_word_95 zki1 <|
            z_isub 96 hX dX11_word_96 <|
            z_endI2 97 hE rfl h dX11_word_97
        · refine z_aload_n 37 hX dX11_word_37 rfl <|
            z_iconst 38 hX dX11_word_38 zki4 <|
            zb12 h fun x10 w3 r9 h => zcX11_72 39 [.int (nI 4)] [] hX dX11_word_39 (c_X11_error (zgd0 hX) r9) (rfl : shp 0 = (11, 0)) rfl rfl rfl (Nat.le_of_ble_eq_true rfl) (Nat.le_of_ble_eq_true rfl) <|
            z_endI2 42 hE rfl h dX11_word_42
      · refine z_weak (L' := [some (.ref (zα G 0)), none, none]) (zsub_s (zsub_n (zsub_n zsub_0))) <|
          j_X11_word_16z hX hE h
def j_X11_letter_21  (w : zW) : Option (Int32 × zW) :=
  zb2 (f_X11_error (nI 1) w) fun x2 w1 =>
  some (x2, w1)
theorem j_X11_letter_21z {G : zG} {X : zX} {w : zW} {re : Int32} {we : zW}  (hX : zOk G X cX11_letter 4 RX11 1) (hE : zEI G X cX11_letter .int re we)  (h : j_X11_letter_21 w = some (re, we)) : zZ G X w 21 [some (.ref (zα G 0)), none, none, none] [] := by
  rw [j_X11_letter_21] at h
  refine z_aload_n 21 hX dX11_letter_21 rfl <|
    z_iconst 22 hX dX11_letter_22 zki1 <|
    zb12 h fun x2 w1 r1 h => zcX11_72 23 [.int (nI 1)] [] hX dX11_letter_23 (c_X11_error (zgd0 hX) r1) (rfl : shp 0 = (11, 0)) rfl rfl rfl (Nat.le_of_ble_eq_true rfl) (Nat.le_of_ble_eq_true rfl) <|
    z_endI2 26 hE rfl h dX11_letter_26
def f_X11_letter (a1 : Int32) (a2 : Int32) (w : zW) : Option (Int32 × zW) :=
  zb (f_X7_has a1 w) fun x2 =>
  if x2 = nI 0 then
    j_X11_letter_21 w
  else
    zb (f_X11_isLetter a2) fun x5 =>
    if x5 = nI 0 then
      j_X11_letter_21 w
    else
      zguard (zin a1 12) (
      if (w (5 + 2 * a1.toNatClampNeg) 2) < (nI 6) then
        zsto w ((5 + 2 * a1.toNatClampNeg) + 1) 6 (w (5 + 2 * a1.toNatClampNeg) 2) a2 fun w1 =>
        zlet (zupd w1 (5 + 2 * a1.toNatClampNeg) 2 ((w1 (5 + 2 * a1.toNatClampNeg) 2) + (nI 1))) fun w2 =>
        some (w2 (5 + 2 * a1.toNatClampNeg) 2, w2)
      else
        zb2 (f_X11_error (nI 4) w) fun x10 w3 =>
        some (x10, w3))
theorem c_X11_letter {G : zG} {l : Launch} (hG : zgood G) {w : zW} {re : Int32} {we : zW} {a1 : Int32} {a2 : Int32}  (h : f_X11_letter a1 a2 w = some (re, we)) : zMet G l yX11_letter cX11_letter 4 (some .int) 1 [.ref (zα G 0), .int a1, .int a2] w (some (.int re)) we := by
  refine zMet_of (L0 := [some (.ref (zα G 0)), some (.int a1), some (.int a2), none]) hG zplX11 (Nat.le_of_ble_eq_true rfl) rfl rfl (fun X hl hX hEI hEV hEA => ?_)
  subst hl
  have hX : zOk G X cX11_letter 4 RX11 1 := hX
  have hE := hEI _ _ rfl rfl
  rw [f_X11_letter] at h
  refine z_aload_n 0 hX dX11_letter_0 rfl <|
    zgX11_12 1 hX dX11_letter_1 (rfl : shp 0 = (11, 0)) <|
    zgX11_106 4 hX dX11_letter_4 (rfl : shp 1 = (8, 0)) <|
    z_iload_n 7 hX dX11_letter_7 rfl <|
    zb1 h fun x2 r1 h => zcX11_153 8 [.int a1] [] hX dX11_letter_8 (c_X7_has (zgd0 hX) r1) (rfl : shp 3 = (7, 0)) rfl rfl rfl (Nat.le_of_ble_eq_true rfl) (Nat.le_of_ble_eq_true rfl) <|
    z_if_eq 11 21 hX dX11_letter_11 rfl h (fun q3 h => ?_) (fun q3 h => ?_)
  · refine z_weak (L' := [some (.ref (zα G 0)), none, none, none]) (zsub_s (zsub_n (zsub_n (zsub_n zsub_0)))) <|
      j_X11_letter_21z hX hE h
  · refine z_iload_n 14 hX dX11_letter_14 rfl <|
      zb1 h fun x5 r4 h => zcX11_138 15 [.int a2] [] hX dX11_letter_15 (c_X11_isLetter (zgd0 hX) r4) rfl rfl rfl (Nat.le_of_ble_eq_true rfl) (Nat.le_of_ble_eq_true rfl) <|
      z_if_ne 18 27 hX dX11_letter_18 rfl h (fun q6 h => ?_) (fun q6 h => ?_)
    · refine z_aload_n 27 hX dX11_letter_27 rfl <|
        zgX11_12 28 hX dX11_letter_28 (rfl : shp 0 = (11, 0)) <|
        zgX11_106 31 hX dX11_letter_31 (rfl : shp 1 = (8, 0)) <|
        zgX11_144 34 hX dX11_letter_34 (rfl : shp 3 = (7, 0)) <|
        z_iload_n 37 hX dX11_letter_37 rfl <|
        z_aald 38 hX dX11_letter_38 (rfl : shp 4 = (22, 12)) (by decide) h fun q7 h =>
        z_astore_n 39 [some (.ref (zα G 0)), some (.int a1), some (.int a2), some (.ref (zα G (5 + 2 * a1.toNatClampNeg)))] hX dX11_letter_39 (Nat.le_of_ble_eq_true rfl) rfl rfl <|
        z_aload_n 40 hX dX11_letter_40 rfl <|
        zgX11_156 41 hX dX11_letter_41 (ze22 _ (rfl : shp 4 = (22, 12)) _ q7) <|
        z_bipush 44 hX dX11_letter_44 zkb6 <|
        z_icmp_lt 46 55 hX dX11_letter_46 rfl h (fun q8 h => ?_) (fun q8 h => ?_)
      · refine z_aload_n 55 hX dX11_letter_55 rfl <|
          zgX11_157 56 hX dX11_letter_56 (ze22 _ (rfl : shp 4 = (22, 12)) _ q7) <|
          z_aload_n 59 hX dX11_letter_59 rfl <|
          zgX11_156 60 hX dX11_letter_60 (ze22 _ (rfl : shp 4 = (22, 12)) _ q7) <|
          z_iload_n 63 hX dX11_letter_63 rfl <|
          z_iast 64 hX dX11_letter_64 (zr10_letters _ (ze22 _ (rfl : shp 4 = (22, 12)) _ q7)) h fun w1 h =>
          z_aload_n 65 hX dX11_letter_65 rfl <|
          z_dup 66 hX dX11_letter_66 rfl <|
          zgX11_156 67 hX dX11_letter_67 (ze22 _ (rfl : shp 4 = (22, 12)) _ q7) <|
          z_iconst 70 hX dX11_letter_70 zki1 <|
          z_iadd 71 hX dX11_letter_71 <|
          zpX11_156 72 hX dX11_letter_72 (ze22 _ (rfl : shp 4 = (22, 12)) _ q7) <|
          z_w h fun w2 h =>
          z_aload_n 75 hX dX11_letter_75 rfl <|
          zgX11_156 76 hX dX11_letter_76 (ze22 _ (rfl : shp 4 = (22, 12)) _ q7) <|
          z_endI2 79 hE rfl h dX11_letter_79
      · refine z_aload_n 49 hX dX11_letter_49 rfl <|
          z_iconst 50 hX dX11_letter_50 zki4 <|
          zb12 h fun x10 w3 r9 h => zcX11_72 51 [.int (nI 4)] [] hX dX11_letter_51 (c_X11_error (zgd0 hX) r9) (rfl : shp 0 = (11, 0)) rfl rfl rfl (Nat.le_of_ble_eq_true rfl) (Nat.le_of_ble_eq_true rfl) <|
          z_endI2 54 hE rfl h dX11_letter_54
    · refine z_weak (L' := [some (.ref (zα G 0)), none, none, none]) (zsub_s (zsub_n (zsub_n (zsub_n zsub_0)))) <|
        j_X11_letter_21z hX hE h
def j_X11_wordIs_75  (w : zW) : Option (Int32 × zW) :=
  zb2 (f_X11_error (nI 1) w) fun x2 w1 =>
  some (x2, w1)
theorem j_X11_wordIs_75z {G : zG} {X : zX} {w : zW} {re : Int32} {we : zW}  (hX : zOk G X cX11_wordIs 4 RX11 1) (hE : zEI G X cX11_wordIs .int re we)  (h : j_X11_wordIs_75 w = some (re, we)) : zZ G X w 75 [some (.ref (zα G 0)), none, none, none] [] := by
  rw [j_X11_wordIs_75] at h
  refine z_aload_n 75 hX dX11_wordIs_75 rfl <|
    z_iconst 76 hX dX11_wordIs_76 zki1 <|
    zb12 h fun x2 w1 r1 h => zcX11_72 77 [.int (nI 1)] [] hX dX11_wordIs_77 (c_X11_error (zgd0 hX) r1) (rfl : shp 0 = (11, 0)) rfl rfl rfl (Nat.le_of_ble_eq_true rfl) (Nat.le_of_ble_eq_true rfl) <|
    z_endI2 80 hE rfl h dX11_wordIs_80
def f_X11_wordIs (a1 : Int32) (a2 : Int32) (w : zW) : Option (Int32 × zW) :=
  zb (f_X7_has a1 w) fun x2 =>
  if x2 = nI 0 then
    zb2 (f_X11_error (nI 1) w) fun x11 w1 =>
    some (x11, w1)
  else
    zguard (zin a1 12) (
    if a2 = (mI 1) then
      some (w (5 + 2 * a1.toNatClampNeg) 1, w)
    else
    if a2 = (mI 2) then
      some (w (5 + 2 * a1.toNatClampNeg) 2, w)
    else
    if a2 < nI 0 then
      j_X11_wordIs_75 w
    else
    if a2 < (w (5 + 2 * a1.toNatClampNeg) 2) then
      zld w ((5 + 2 * a1.toNatClampNeg) + 1) 6 a2 fun x9 =>
      some (x9, w)
    else
      j_X11_wordIs_75 w)
theorem c_X11_wordIs {G : zG} {l : Launch} (hG : zgood G) {w : zW} {re : Int32} {we : zW} {a1 : Int32} {a2 : Int32}  (h : f_X11_wordIs a1 a2 w = some (re, we)) : zMet G l yX11_wordIs cX11_wordIs 4 (some .int) 1 [.ref (zα G 0), .int a1, .int a2] w (some (.int re)) we := by
  refine zMet_of (L0 := [some (.ref (zα G 0)), some (.int a1), some (.int a2), none]) hG zplX11 (Nat.le_of_ble_eq_true rfl) rfl rfl (fun X hl hX hEI hEV hEA => ?_)
  subst hl
  have hX : zOk G X cX11_wordIs 4 RX11 1 := hX
  have hE := hEI _ _ rfl rfl
  rw [f_X11_wordIs] at h
  refine z_aload_n 0 hX dX11_wordIs_0 rfl <|
    zgX11_12 1 hX dX11_wordIs_1 (rfl : shp 0 = (11, 0)) <|
    zgX11_106 4 hX dX11_wordIs_4 (rfl : shp 1 = (8, 0)) <|
    z_iload_n 7 hX dX11_wordIs_7 rfl <|
    zb1 h fun x2 r1 h => zcX11_153 8 [.int a1] [] hX dX11_wordIs_8 (c_X7_has (zgd0 hX) r1) (rfl : shp 3 = (7, 0)) rfl rfl rfl (Nat.le_of_ble_eq_true rfl) (Nat.le_of_ble_eq_true rfl) <|
    z_if_ne 11 20 hX dX11_wordIs_11 rfl h (fun q3 h => ?_) (fun q3 h => ?_)
  · refine z_aload_n 20 hX dX11_wordIs_20 rfl <|
      zgX11_12 21 hX dX11_wordIs_21 (rfl : shp 0 = (11, 0)) <|
      zgX11_106 24 hX dX11_wordIs_24 (rfl : shp 1 = (8, 0)) <|
      zgX11_144 27 hX dX11_wordIs_27 (rfl : shp 3 = (7, 0)) <|
      z_iload_n 30 hX dX11_wordIs_30 rfl <|
      z_aald 31 hX dX11_wordIs_31 (rfl : shp 4 = (22, 12)) (by decide) h fun q4 h =>
      z_astore_n 32 [some (.ref (zα G 0)), some (.int a1), some (.int a2), some (.ref (zα G (5 + 2 * a1.toNatClampNeg)))] hX dX11_wordIs_32 (Nat.le_of_ble_eq_true rfl) rfl rfl <|
      z_iload_n 33 hX dX11_wordIs_33 rfl <|
      z_iconst 34 hX dX11_wordIs_34 zkim1 <|
      z_icmp_ne 35 43 hX dX11_wordIs_35 rfl h (fun q5 h => ?_) (fun q5 h => ?_)
    · refine z_iload_n 43 hX dX11_wordIs_43 rfl <|
        z_bipush 44 hX dX11_wordIs_44 zkbm2 <|
        z_icmp_ne 46 54 hX dX11_wordIs_46 rfl h (fun q6 h => ?_) (fun q6 h => ?_)
      · refine z_iload_n 54 hX dX11_wordIs_54 rfl <|
          z_if_lt 55 75 hX dX11_wordIs_55 rfl h (fun q7 h => ?_) (fun q7 h => ?_)
        · refine z_weak (L' := [some (.ref (zα G 0)), none, none, none]) (zsub_s (zsub_n (zsub_n (zsub_n zsub_0)))) <|
            j_X11_wordIs_75z hX hE h
        · refine z_iload_n 58 hX dX11_wordIs_58 rfl <|
            z_aload_n 59 hX dX11_wordIs_59 rfl <|
            zgX11_156 60 hX dX11_wordIs_60 (ze22 _ (rfl : shp 4 = (22, 12)) _ q4) <|
            z_icmp_ge 63 75 hX dX11_wordIs_63 rfl h (fun q8 h => ?_) (fun q8 h => ?_)
          · refine z_weak (L' := [some (.ref (zα G 0)), none, none, none]) (zsub_s (zsub_n (zsub_n (zsub_n zsub_0)))) <|
              j_X11_wordIs_75z hX hE h
          · refine z_aload_n 66 hX dX11_wordIs_66 rfl <|
              zgX11_157 67 hX dX11_wordIs_67 (ze22 _ (rfl : shp 4 = (22, 12)) _ q4) <|
              z_iload_n 70 hX dX11_wordIs_70 rfl <|
              z_iald 71 hX dX11_wordIs_71 (zr10_letters _ (ze22 _ (rfl : shp 4 = (22, 12)) _ q4)) h fun x9 _ h =>
              z_goto 72 80 hX dX11_wordIs_72 rfl <|
              z_endI2 80 hE rfl h dX11_wordIs_80
      · refine z_aload_n 49 hX dX11_wordIs_49 rfl <|
          zgX11_156 50 hX dX11_wordIs_50 (ze22 _ (rfl : shp 4 = (22, 12)) _ q4) <|
          z_endI2 53 hE rfl h dX11_wordIs_53
    · refine z_aload_n 38 hX dX11_wordIs_38 rfl <|
        zgX11_158 39 hX dX11_wordIs_39 (ze22 _ (rfl : shp 4 = (22, 12)) _ q4) <|
        z_endI2 42 hE rfl h dX11_wordIs_42
  · refine z_aload_n 14 hX dX11_wordIs_14 rfl <|
      z_iconst 15 hX dX11_wordIs_15 zki1 <|
      zb12 h fun x11 w1 r10 h => zcX11_72 16 [.int (nI 1)] [] hX dX11_wordIs_16 (c_X11_error (zgd0 hX) r10) (rfl : shp 0 = (11, 0)) rfl rfl rfl (Nat.le_of_ble_eq_true rfl) (Nat.le_of_ble_eq_true rfl) <|
      z_endI2 19 hE rfl h dX11_wordIs_19
def j_X11_feed_11  (w : zW) : Option (Int32 × zW) :=
  zb2 (f_X11_error (nI 1) w) fun x2 w1 =>
  some (x2, w1)
theorem j_X11_feed_11z {G : zG} {X : zX} {w : zW} {re : Int32} {we : zW}  (hX : zOk G X cX11_feed 5 RX11 1) (hE : zEI G X cX11_feed .int re we)  (h : j_X11_feed_11 w = some (re, we)) : zZ G X w 11 [some (.ref (zα G 0)), none, none, none, none] [] := by
  rw [j_X11_feed_11] at h
  refine z_aload_n 11 hX dX11_feed_11 rfl <|
    z_iconst 12 hX dX11_feed_12 zki1 <|
    zb12 h fun x2 w1 r1 h => zcX11_72 13 [.int (nI 1)] [] hX dX11_feed_13 (c_X11_error (zgd0 hX) r1) (rfl : shp 0 = (11, 0)) rfl rfl rfl (Nat.le_of_ble_eq_true rfl) (Nat.le_of_ble_eq_true rfl) <|
    z_endI2 16 hE rfl h dX11_feed_16
def l_X11_feed_40 (K82 : Int32 → zW → Option (Int32 × zW)) : Nat → Int64 → Int32 → Int32 → zW → Option (Int32 × zW)
  | 0, _, _, _, _ => none
  | n + 1, a1, a3, a4, w =>
    if a4 < a3 then
      zsto w 37 60 ((w 1 8) + a4) ((((a1.toUInt64 >>> (((nI 8) * a4).toInt64.toUInt64 &&& Int64.toUInt64 63)).toInt64).toInt32) &&& (nI 255)) fun w1 =>
      zlet (a4 + nI 1) fun x2 =>
      (l_X11_feed_40 K82 n) a1 a3 x2 w1
    else
      K82 a3 w
theorem l_X11_feed_40z {K82 : Int32 → zW → Option (Int32 × zW)} {G : zG} {X : zX} {re : Int32} {we : zW} (hX : zOk G X cX11_feed 5 RX11 1) (hE : zEI G X cX11_feed .int re we) (hK82 : ∀ (a3 : Int32) (w3 : zW) , K82 a3 w3 = some (re, we) → zZ G X w3 82 [some (.ref (zα G 0)), none, none, some (.int a3), none] []) : ∀ (n : Nat) (a1 : Int64) (a3 : Int32) (a4 : Int32) (w : zW) , l_X11_feed_40 K82 n a1 a3 a4 w = some (re, we) → zZ G X w 40 [some (.ref (zα G 0)), some (.long a1), none, some (.int a3), some (.int a4)] [] := by
  intro n
  induction n with
  | zero =>
    intro a1 a3 a4 w  h
    rw [l_X11_feed_40.eq_1] at h
    cases h
  | succ n ih =>
    intro a1 a3 a4 w  h
    rw [l_X11_feed_40.eq_2] at h
    refine z_iload 40 hX dX11_feed_40 rfl <|
      z_iload_n 42 hX dX11_feed_42 rfl <|
      z_icmp_ge 43 82 hX dX11_feed_43 rfl h (fun q1 h => ?_) (fun q1 h => ?_)
    · refine z_weak (L' := [some (.ref (zα G 0)), none, none, some (.int a3), none]) (zsub_s (zsub_n (zsub_n (zsub_s (zsub_n zsub_0))))) <|
        hK82 _ _ h
    · refine z_aload_n 46 hX dX11_feed_46 rfl <|
        zgX11_12 47 hX dX11_feed_47 (rfl : shp 0 = (11, 0)) <|
        zgX11_164 50 hX dX11_feed_50 (rfl : shp 1 = (8, 0)) <|
        z_aload_n 53 hX dX11_feed_53 rfl <|
        zgX11_12 54 hX dX11_feed_54 (rfl : shp 0 = (11, 0)) <|
        zgX11_161 57 hX dX11_feed_57 (rfl : shp 1 = (8, 0)) <|
        z_iload 60 hX dX11_feed_60 rfl <|
        z_iadd 62 hX dX11_feed_62 <|
        z_lload_n 63 hX dX11_feed_63 rfl <|
        z_bipush 64 hX dX11_feed_64 zkb8 <|
        z_iload 66 hX dX11_feed_66 rfl <|
        z_imul 68 hX dX11_feed_68 <|
        z_lushr 69 hX dX11_feed_69 <|
        z_l2i 70 hX dX11_feed_70 <|
        z_sipush 71 hX dX11_feed_71 zks255 <|
        z_iand 74 hX dX11_feed_74 <|
        z_iast 75 hX dX11_feed_75 (rfl : shp 37 = (20, 60)) h fun w1 h =>
        z_iincG 76 (fun x2 => [some (.ref (zα G 0)), some (.long a1), none, some (.int a3), some (.int x2)]) hX dX11_feed_76 rfl zki1 rfl (fun _ => rfl) h fun x2 h =>
        z_goto 79 40 hX dX11_feed_79 rfl <|
        ih _ _ _ _ h
def f_X11_feed (a1 : Int64) (a3 : Int32) (w : zW) : Option (Int32 × zW) :=
  if a3 < (nI 1) then
    j_X11_feed_11 w
  else
  if (nI 8) < a3 then
    j_X11_feed_11 w
  else
  if (nI 60) < ((w 1 8) + a3) then
    zb2 (f_X11_error (nI 4) w) fun x5 w1 =>
    some (x5, w1)
  else
    l_X11_feed_40 (fun k82_a3 w11 =>
      zlet (zupd w11 1 8 ((w11 1 8) + k82_a3)) fun w12 =>
      some (w12 1 8, w12)) zfuel a1 a3 (nI 0) w
theorem c_X11_feed {G : zG} {l : Launch} (hG : zgood G) {w : zW} {re : Int32} {we : zW} {a1 : Int64} {a3 : Int32}  (h : f_X11_feed a1 a3 w = some (re, we)) : zMet G l yX11_feed cX11_feed 5 (some .int) 1 [.ref (zα G 0), .long a1, .int a3] w (some (.int re)) we := by
  refine zMet_of (L0 := [some (.ref (zα G 0)), some (.long a1), none, some (.int a3), none]) hG zplX11 (Nat.le_of_ble_eq_true rfl) rfl rfl (fun X hl hX hEI hEV hEA => ?_)
  subst hl
  have hX : zOk G X cX11_feed 5 RX11 1 := hX
  have hE := hEI _ _ rfl rfl
  rw [f_X11_feed] at h
  refine z_iload_n 0 hX dX11_feed_0 rfl <|
    z_iconst 1 hX dX11_feed_1 zki1 <|
    z_icmp_lt 2 11 hX dX11_feed_2 rfl h (fun q1 h => ?_) (fun q1 h => ?_)
  · refine z_weak (L' := [some (.ref (zα G 0)), none, none, none, none]) (zsub_s (zsub_n (zsub_n (zsub_n (zsub_n zsub_0))))) <|
      j_X11_feed_11z hX hE h
  · refine z_iload_n 5 hX dX11_feed_5 rfl <|
      z_bipush 6 hX dX11_feed_6 zkb8 <|
      z_icmp_le 8 17 hX dX11_feed_8 rfl h (fun q2 h => ?_) (fun q2 h => ?_)
    · refine z_aload_n 17 hX dX11_feed_17 rfl <|
        zgX11_12 18 hX dX11_feed_18 (rfl : shp 0 = (11, 0)) <|
        zgX11_161 21 hX dX11_feed_21 (rfl : shp 1 = (8, 0)) <|
        z_iload_n 24 hX dX11_feed_24 rfl <|
        z_iadd 25 hX dX11_feed_25 <|
        z_bipush 26 hX dX11_feed_26 zkb60 <|
        z_icmp_le 28 37 hX dX11_feed_28 rfl h (fun q3 h => ?_) (fun q3 h => ?_)
      · refine z_iconst 37 hX dX11_feed_37 zki0 <|
          z_istore 38 [some (.ref (zα G 0)), some (.long a1), none, some (.int a3), some (.int (nI 0))] hX dX11_feed_38 (Nat.le_of_ble_eq_true rfl) rfl rfl <|
          l_X11_feed_40z hX hE (fun k82_a3 w11 h => ?_) _ _ _ _ _ h
        · refine z_aload_n 82 hX dX11_feed_82 rfl <|
            zgX11_12 83 hX dX11_feed_83 (rfl : shp 0 = (11, 0)) <|
            z_dup 86 hX dX11_feed_86 rfl <|
            zgX11_161 87 hX dX11_feed_87 (rfl : shp 1 = (8, 0)) <|
            z_iload_n 90 hX dX11_feed_90 rfl <|
            z_iadd 91 hX dX11_feed_91 <|
            zpX11_161 92 hX dX11_feed_92 (rfl : shp 1 = (8, 0)) <|
            z_w h fun w12 h =>
            z_aload_n 95 hX dX11_feed_95 rfl <|
            zgX11_12 96 hX dX11_feed_96 (rfl : shp 0 = (11, 0)) <|
            zgX11_161 99 hX dX11_feed_99 (rfl : shp 1 = (8, 0)) <|
            z_endI2 102 hE rfl h dX11_feed_102
      · refine z_aload_n 31 hX dX11_feed_31 rfl <|
          z_iconst 32 hX dX11_feed_32 zki4 <|
          zb12 h fun x5 w1 r4 h => zcX11_72 33 [.int (nI 4)] [] hX dX11_feed_33 (c_X11_error (zgd0 hX) r4) (rfl : shp 0 = (11, 0)) rfl rfl rfl (Nat.le_of_ble_eq_true rfl) (Nat.le_of_ble_eq_true rfl) <|
          z_endI2 36 hE rfl h dX11_feed_36
    · refine z_weak (L' := [some (.ref (zα G 0)), none, none, none, none]) (zsub_s (zsub_n (zsub_n (zsub_n (zsub_n zsub_0))))) <|
        j_X11_feed_11z hX hE h
def j_X11_text_9  (w : zW) : Option (Int32 × zW) :=
  zb2 (f_X11_error (nI 1) w) fun x2 w1 =>
  some (x2, w1)
theorem j_X11_text_9z {G : zG} {X : zX} {w : zW} {re : Int32} {we : zW}  (hX : zOk G X cX11_text 3 RX11 104) (hE : zEI G X cX11_text .int re we)  (h : j_X11_text_9 w = some (re, we)) : zZ G X w 9 [some (.ref (zα G 0)), none, none] [] := by
  rw [j_X11_text_9] at h
  refine z_aload_n 9 hX dX11_text_9 rfl <|
    z_iconst 10 hX dX11_text_10 zki1 <|
    zb12 h fun x2 w1 r1 h => zcX11_72 11 [.int (nI 1)] [] hX dX11_text_11 (c_X11_error (zgd0 hX) r1) (rfl : shp 0 = (11, 0)) rfl rfl rfl (Nat.le_of_ble_eq_true rfl) (Nat.le_of_ble_eq_true rfl) <|
    z_endI2 14 hE rfl h dX11_text_14
def j_X11_text_44 (a1 : Int32) (b2 : Int32) (b3 : Int32) (w : zW) : Option (Int32 × zW) :=
  zb2 (f_X2_faultOf 37 60 b2 b3 w) fun x2 w1 =>
  zlet (zupd w1 1 8 (nI 0)) fun w2 =>
  if x2 < nI 0 then
    zb (f_X8_textOf a1 w2) fun x5 =>
    zb (f_X2_handTo x5 w2) fun w3 =>
    some (nI 1, w3)
  else
    some ((mI 10) - x2, w2)
theorem j_X11_text_44z {G : zG} {X : zX} {w : zW} {re : Int32} {we : zW} {a1 : Int32} {b2 : Int32} {b3 : Int32} (hX : zOk G X cX11_text 3 RX11 104) (hE : zEI G X cX11_text .int re we)  (h : j_X11_text_44 a1 b2 b3 w = some (re, we)) : zZ G X w 44 [some (.ref (zα G 0)), some (.int a1), none] [.ref (zstr G b3), .int b2, .ref (zα G 37), .ref (zα G 120)] := by
  rw [j_X11_text_44] at h
  refine zb12 h fun x2 w1 r1 h => zcX11_171 44 [.ref (zα G 37), .int b2, .ref (zstr G b3)] [] hX dX11_text_44 (c_X2_faultOf (zgd0 hX) (rfl : shp 37 = (20, 60)) r1) (rfl : shp 120 = (2, 0)) rfl rfl rfl (Nat.le_of_ble_eq_true rfl) (Nat.le_of_ble_eq_true rfl) <|
    z_istore_n 47 [some (.ref (zα G 0)), some (.int a1), some (.int x2)] hX dX11_text_47 (Nat.le_of_ble_eq_true rfl) rfl rfl <|
    z_aload_n 48 hX dX11_text_48 rfl <|
    zgX11_12 49 hX dX11_text_49 (rfl : shp 0 = (11, 0)) <|
    z_iconst 52 hX dX11_text_52 zki0 <|
    zpX11_161 53 hX dX11_text_53 (rfl : shp 1 = (8, 0)) <|
    z_w h fun w2 h =>
    z_iload_n 56 hX dX11_text_56 rfl <|
    z_if_lt 57 65 hX dX11_text_57 rfl h (fun q3 h => ?_) (fun q3 h => ?_)
  · refine z_aload_n 65 hX dX11_text_65 rfl <|
      zgX11_50 66 hX dX11_text_66 (rfl : shp 0 = (11, 0)) <|
      z_aload_n 69 hX dX11_text_69 rfl <|
      zgX11_12 70 hX dX11_text_70 (rfl : shp 0 = (11, 0)) <|
      z_iload_n 73 hX dX11_text_73 rfl <|
      zb1 h fun x5 r4 h => zcX11_175 74 [.int a1] [.ref (zα G 120)] hX dX11_text_74 (c_X8_textOf (zgd0 hX) r4) (rfl : shp 1 = (8, 0)) rfl rfl rfl (Nat.le_of_ble_eq_true rfl) (Nat.le_of_ble_eq_true rfl) <|
      zb1 h fun w3 r6 h => zcX11_179 77 [.ref (zα G x5)] [] hX dX11_text_77 (c_X2_handTo (zgd0 hX) (s_X8_textOf r4) r6) (rfl : shp 120 = (2, 0)) rfl rfl rfl (Nat.le_of_ble_eq_true rfl) (Nat.le_of_ble_eq_true rfl) <|
      z_iconst 80 hX dX11_text_80 zki1 <|
      z_endI2 81 hE rfl h dX11_text_81
  · refine z_bipush 60 hX dX11_text_60 zkbm10 <|
      z_iload_n 62 hX dX11_text_62 rfl <|
      z_isub 63 hX dX11_text_63 <|
      z_endI2 64 hE rfl h dX11_text_64
def f_X11_text (a1 : Int32) (w : zW) : Option (Int32 × zW) :=
  if a1 < nI 0 then
    j_X11_text_9 w
  else
  if a1 < (nI 2) then
    if a1 = nI 0 then
      j_X11_text_44 a1 (w 1 8) (nI 1) w
    else
      j_X11_text_44 a1 (w 1 8) (nI 2) w
  else
    j_X11_text_9 w
theorem c_X11_text {G : zG} {l : Launch} (hG : zgood G) {w : zW} {re : Int32} {we : zW} {a1 : Int32}  (h : f_X11_text a1 w = some (re, we)) : zMet G l yX11_text cX11_text 3 (some .int) 104 [.ref (zα G 0), .int a1] w (some (.int re)) we := by
  refine zMet_of (L0 := [some (.ref (zα G 0)), some (.int a1), none]) hG zplX11 (Nat.le_of_ble_eq_true rfl) rfl rfl (fun X hl hX hEI hEV hEA => ?_)
  subst hl
  have hX : zOk G X cX11_text 3 RX11 104 := hX
  have hE := hEI _ _ rfl rfl
  rw [f_X11_text] at h
  refine z_iload_n 0 hX dX11_text_0 rfl <|
    z_if_lt 1 9 hX dX11_text_1 rfl h (fun q1 h => ?_) (fun q1 h => ?_)
  · refine z_weak (L' := [some (.ref (zα G 0)), none, none]) (zsub_s (zsub_n (zsub_n zsub_0))) <|
      j_X11_text_9z hX hE h
  · refine z_iload_n 4 hX dX11_text_4 rfl <|
      z_iconst 5 hX dX11_text_5 zki2 <|
      z_icmp_lt 6 15 hX dX11_text_6 rfl h (fun q2 h => ?_) (fun q2 h => ?_)
    · refine z_aload_n 15 hX dX11_text_15 rfl <|
        zgX11_50 16 hX dX11_text_16 (rfl : shp 0 = (11, 0)) <|
        z_aload_n 19 hX dX11_text_19 rfl <|
        zgX11_12 20 hX dX11_text_20 (rfl : shp 0 = (11, 0)) <|
        zgX11_164 23 hX dX11_text_23 (rfl : shp 1 = (8, 0)) <|
        z_aload_n 26 hX dX11_text_26 rfl <|
        zgX11_12 27 hX dX11_text_27 (rfl : shp 0 = (11, 0)) <|
        zgX11_161 30 hX dX11_text_30 (rfl : shp 1 = (8, 0)) <|
        z_iload_n 33 hX dX11_text_33 rfl <|
        z_if_ne 34 42 hX dX11_text_34 rfl h (fun q3 h => ?_) (fun q3 h => ?_)
      · refine zldS2 42 hX dX11_text_42 <|
          j_X11_text_44z hX hE h
      · refine zldS1 37 hX dX11_text_37 <|
          z_goto 39 44 hX dX11_text_39 rfl <|
          j_X11_text_44z hX hE h
    · refine z_weak (L' := [some (.ref (zα G 0)), none, none]) (zsub_s (zsub_n (zsub_n zsub_0))) <|
        j_X11_text_9z hX hE h
def j_X11_untell_9  (w : zW) : Option (Int32 × zW) :=
  zb2 (f_X11_error (nI 1) w) fun x2 w1 =>
  some (x2, w1)
theorem j_X11_untell_9z {G : zG} {X : zX} {w : zW} {re : Int32} {we : zW}  (hX : zOk G X cX11_untell 4 RX11 1) (hE : zEI G X cX11_untell .int re we)  (h : j_X11_untell_9 w = some (re, we)) : zZ G X w 9 [some (.ref (zα G 0)), none, none, none] [] := by
  rw [j_X11_untell_9] at h
  refine z_aload_n 9 hX dX11_untell_9 rfl <|
    z_iconst 10 hX dX11_untell_10 zki1 <|
    zb12 h fun x2 w1 r1 h => zcX11_72 11 [.int (nI 1)] [] hX dX11_untell_11 (c_X11_error (zgd0 hX) r1) (rfl : shp 0 = (11, 0)) rfl rfl rfl (Nat.le_of_ble_eq_true rfl) (Nat.le_of_ble_eq_true rfl) <|
    z_endI2 14 hE rfl h dX11_untell_14
def j_X11_untell_36 (a2 : Nat) (b0 : Int32) (w : zW) : Option (Int32 × zW) :=
  zlet (zupd w a2 3 (nI 0)) fun w1 =>
  some (b0, w1)
theorem j_X11_untell_36z {G : zG} {X : zX} {w : zW} {re : Int32} {we : zW} {a2 : Nat} {b0 : Int32} (hX : zOk G X cX11_untell 4 RX11 1) (hE : zEI G X cX11_untell .int re we) (ha2 : shp a2 = (6, 0)) (h : j_X11_untell_36 a2 b0 w = some (re, we)) : zZ G X w 36 [none, none, some (.ref (zα G a2)), none] [.int b0] := by
  rw [j_X11_untell_36] at h
  refine z_istore_n 36 [none, none, some (.ref (zα G a2)), some (.int b0)] hX dX11_untell_36 (Nat.le_of_ble_eq_true rfl) rfl rfl <|
    z_aload_n 37 hX dX11_untell_37 rfl <|
    z_iconst 38 hX dX11_untell_38 zki0 <|
    zpX11_189 39 hX dX11_untell_39 ha2 <|
    z_w h fun w1 h =>
    z_iload_n 42 hX dX11_untell_42 rfl <|
    z_endI2 43 hE rfl h dX11_untell_43
def f_X11_untell (a1 : Int32) (w : zW) : Option (Int32 × zW) :=
  if a1 < nI 0 then
    j_X11_untell_9 w
  else
  if a1 < (nI 2) then
    zb (f_X8_textOf a1 w) fun x4 =>
    zb (f_X6_isTold x4 w) fun x6 =>
    if x6 = nI 0 then
      j_X11_untell_36 x4 (nI 0) w
    else
      j_X11_untell_36 x4 (nI 1) w
  else
    j_X11_untell_9 w
theorem c_X11_untell {G : zG} {l : Launch} (hG : zgood G) {w : zW} {re : Int32} {we : zW} {a1 : Int32}  (h : f_X11_untell a1 w = some (re, we)) : zMet G l yX11_untell cX11_untell 4 (some .int) 1 [.ref (zα G 0), .int a1] w (some (.int re)) we := by
  refine zMet_of (L0 := [some (.ref (zα G 0)), some (.int a1), none, none]) hG zplX11 (Nat.le_of_ble_eq_true rfl) rfl rfl (fun X hl hX hEI hEV hEA => ?_)
  subst hl
  have hX : zOk G X cX11_untell 4 RX11 1 := hX
  have hE := hEI _ _ rfl rfl
  rw [f_X11_untell] at h
  refine z_iload_n 0 hX dX11_untell_0 rfl <|
    z_if_lt 1 9 hX dX11_untell_1 rfl h (fun q1 h => ?_) (fun q1 h => ?_)
  · refine z_weak (L' := [some (.ref (zα G 0)), none, none, none]) (zsub_s (zsub_n (zsub_n (zsub_n zsub_0)))) <|
      j_X11_untell_9z hX hE h
  · refine z_iload_n 4 hX dX11_untell_4 rfl <|
      z_iconst 5 hX dX11_untell_5 zki2 <|
      z_icmp_lt 6 15 hX dX11_untell_6 rfl h (fun q2 h => ?_) (fun q2 h => ?_)
    · refine z_aload_n 15 hX dX11_untell_15 rfl <|
        zgX11_12 16 hX dX11_untell_16 (rfl : shp 0 = (11, 0)) <|
        z_iload_n 19 hX dX11_untell_19 rfl <|
        zb1 h fun x4 r3 h => zcX11_175 20 [.int a1] [] hX dX11_untell_20 (c_X8_textOf (zgd0 hX) r3) (rfl : shp 1 = (8, 0)) rfl rfl rfl (Nat.le_of_ble_eq_true rfl) (Nat.le_of_ble_eq_true rfl) <|
        z_astore_n 23 [some (.ref (zα G 0)), some (.int a1), some (.ref (zα G x4)), none] hX dX11_untell_23 (Nat.le_of_ble_eq_true rfl) rfl rfl <|
        z_aload_n 24 hX dX11_untell_24 rfl <|
        zb1 h fun x6 r5 h => zcX11_183 25 [] [] hX dX11_untell_25 (c_X6_isTold (zgd0 hX) (s_X8_textOf r3) r5) (s_X8_textOf r3) rfl rfl rfl (Nat.le_of_ble_eq_true rfl) (Nat.le_of_ble_eq_true rfl) <|
        z_if_eq 28 35 hX dX11_untell_28 rfl h (fun q7 h => ?_) (fun q7 h => ?_)
      · refine z_iconst 35 hX dX11_untell_35 zki0 <|
          z_weak (L' := [none, none, some (.ref (zα G x4)), none]) (zsub_n (zsub_n (zsub_s (zsub_n zsub_0)))) <|
          j_X11_untell_36z hX hE (s_X8_textOf r3) h
      · refine z_iconst 31 hX dX11_untell_31 zki1 <|
          z_goto 32 36 hX dX11_untell_32 rfl <|
          z_weak (L' := [none, none, some (.ref (zα G x4)), none]) (zsub_n (zsub_n (zsub_s (zsub_n zsub_0)))) <|
          j_X11_untell_36z hX hE (s_X8_textOf r3) h
    · refine z_weak (L' := [some (.ref (zα G 0)), none, none, none]) (zsub_s (zsub_n (zsub_n (zsub_n zsub_0)))) <|
        j_X11_untell_9z hX hE h
def j_X11_says_16  (w : zW) : Option (Int32 × zW) :=
  zb2 (f_X11_error (nI 1) w) fun x2 w1 =>
  some (x2, w1)
theorem j_X11_says_16z {G : zG} {X : zX} {w : zW} {re : Int32} {we : zW}  (hX : zOk G X cX11_says 3 RX11 4) (hE : zEI G X cX11_says .int re we)  (h : j_X11_says_16 w = some (re, we)) : zZ G X w 16 [some (.ref (zα G 0)), none, none] [] := by
  rw [j_X11_says_16] at h
  refine z_aload_n 16 hX dX11_says_16 rfl <|
    z_iconst 17 hX dX11_says_17 zki1 <|
    zb12 h fun x2 w1 r1 h => zcX11_72 18 [.int (nI 1)] [] hX dX11_says_18 (c_X11_error (zgd0 hX) r1) (rfl : shp 0 = (11, 0)) rfl rfl rfl (Nat.le_of_ble_eq_true rfl) (Nat.le_of_ble_eq_true rfl) <|
    z_endI2 21 hE rfl h dX11_says_21
def f_X11_says (a1 : Int32) (a2 : Int32) (w : zW) : Option (Int32 × zW) :=
  zb (f_X8_hasWall a1 w) fun x2 =>
  if x2 = nI 0 then
    j_X11_says_16 w
  else
  if a2 < (mI 1) then
    j_X11_says_16 w
  else
    zguard (zin a1 6) (
    zb (f_X8_spell (40 + 2 * a1.toNatClampNeg) a1 w) fun w1 =>
    zb2 (f_X1_find w1) fun x8 w2 =>
    if x8 = nI 0 then
      zb2 (f_X11_error (nI 2) w2) fun x16 w4 =>
      some (x16, w4)
    else
    if a2 = (mI 1) then
      some (w2 112 3, w2)
    else
    if a2 < (w2 112 3) then
      zld w2 115 48 a2 fun x14 =>
      some (x14, w2)
    else
      zb2 (f_X11_error (nI 1) w2) fun x13 w3 =>
      some (x13, w3))
theorem c_X11_says {G : zG} {l : Launch} (hG : zgood G) {w : zW} {re : Int32} {we : zW} {a1 : Int32} {a2 : Int32}  (h : f_X11_says a1 a2 w = some (re, we)) : zMet G l yX11_says cX11_says 3 (some .int) 4 [.ref (zα G 0), .int a1, .int a2] w (some (.int re)) we := by
  refine zMet_of (L0 := [some (.ref (zα G 0)), some (.int a1), some (.int a2)]) hG zplX11 (Nat.le_of_ble_eq_true rfl) rfl rfl (fun X hl hX hEI hEV hEA => ?_)
  subst hl
  have hX : zOk G X cX11_says 3 RX11 4 := hX
  have hE := hEI _ _ rfl rfl
  rw [f_X11_says] at h
  refine z_aload_n 0 hX dX11_says_0 rfl <|
    zgX11_12 1 hX dX11_says_1 (rfl : shp 0 = (11, 0)) <|
    z_iload_n 4 hX dX11_says_4 rfl <|
    zb1 h fun x2 r1 h => zcX11_88 5 [.int a1] [] hX dX11_says_5 (c_X8_hasWall (zgd0 hX) r1) (rfl : shp 1 = (8, 0)) rfl rfl rfl (Nat.le_of_ble_eq_true rfl) (Nat.le_of_ble_eq_true rfl) <|
    z_if_eq 8 16 hX dX11_says_8 rfl h (fun q3 h => ?_) (fun q3 h => ?_)
  · refine z_weak (L' := [some (.ref (zα G 0)), none, none]) (zsub_s (zsub_n (zsub_n zsub_0))) <|
      j_X11_says_16z hX hE h
  · refine z_iload_n 11 hX dX11_says_11 rfl <|
      z_iconst 12 hX dX11_says_12 zkim1 <|
      z_icmp_ge 13 22 hX dX11_says_13 rfl h (fun q4 h => ?_) (fun q4 h => ?_)
    · refine z_aload_n 22 hX dX11_says_22 rfl <|
        zgX11_12 23 hX dX11_says_23 (rfl : shp 0 = (11, 0)) <|
        z_aload_n 26 hX dX11_says_26 rfl <|
        zgX11_12 27 hX dX11_says_27 (rfl : shp 0 = (11, 0)) <|
        zgX11_80 30 hX dX11_says_30 (rfl : shp 1 = (8, 0)) <|
        z_iload_n 33 hX dX11_says_33 rfl <|
        z_aald 34 hX dX11_says_34 (rfl : shp 2 = (21, 6)) (by decide) h fun q5 h =>
        z_iload_n 35 hX dX11_says_35 rfl <|
        z_aload_n 36 hX dX11_says_36 rfl <|
        zgX11_36 37 hX dX11_says_37 (rfl : shp 0 = (11, 0)) <|
        zb1 h fun w1 r6 h => zcX11_92 40 [.ref (zα G (40 + 2 * a1.toNatClampNeg)), .int a1, .ref (zα G 116)] [] hX dX11_says_40 (c_X8_spell (zgd0 hX) (ze21 _ (rfl : shp 2 = (21, 6)) _ q5) r6) (rfl : shp 1 = (8, 0)) rfl rfl rfl (Nat.le_of_ble_eq_true rfl) (Nat.le_of_ble_eq_true rfl) <|
        z_aload_n 43 hX dX11_says_43 rfl <|
        zgX11_29 44 hX dX11_says_44 (rfl : shp 0 = (11, 0)) <|
        z_aload_n 47 hX dX11_says_47 rfl <|
        zgX11_12 48 hX dX11_says_48 (rfl : shp 0 = (11, 0)) <|
        zgX11_106 51 hX dX11_says_51 (rfl : shp 1 = (8, 0)) <|
        z_aload_n 54 hX dX11_says_54 rfl <|
        zgX11_36 55 hX dX11_says_55 (rfl : shp 0 = (11, 0)) <|
        zb12 h fun x8 w2 r7 h => zcX11_190 58 [.ref (zα G 3), .ref (zα G 116)] [] hX dX11_says_58 (c_X1_find (zgd0 hX) r7) (rfl : shp 112 = (1, 0)) rfl rfl rfl (Nat.le_of_ble_eq_true rfl) (Nat.le_of_ble_eq_true rfl) <|
        z_if_ne 61 70 hX dX11_says_61 rfl h (fun q9 h => ?_) (fun q9 h => ?_)
      · refine z_iload_n 70 hX dX11_says_70 rfl <|
          z_iconst 71 hX dX11_says_71 zkim1 <|
          z_icmp_ne 72 83 hX dX11_says_72 rfl h (fun q10 h => ?_) (fun q10 h => ?_)
        · refine z_iload_n 83 hX dX11_says_83 rfl <|
            z_aload_n 84 hX dX11_says_84 rfl <|
            zgX11_29 85 hX dX11_says_85 (rfl : shp 0 = (11, 0)) <|
            zgX11_193 88 hX dX11_says_88 (rfl : shp 112 = (1, 0)) <|
            z_icmp_ge 91 106 hX dX11_says_91 rfl h (fun q11 h => ?_) (fun q11 h => ?_)
          · refine z_aload_n 106 hX dX11_says_106 rfl <|
              z_iconst 107 hX dX11_says_107 zki1 <|
              zb12 h fun x13 w3 r12 h => zcX11_72 108 [.int (nI 1)] [] hX dX11_says_108 (c_X11_error (zgd0 hX) r12) (rfl : shp 0 = (11, 0)) rfl rfl rfl (Nat.le_of_ble_eq_true rfl) (Nat.le_of_ble_eq_true rfl) <|
              z_endI2 111 hE rfl h dX11_says_111
          · refine z_aload_n 94 hX dX11_says_94 rfl <|
              zgX11_29 95 hX dX11_says_95 (rfl : shp 0 = (11, 0)) <|
              zgX11_196 98 hX dX11_says_98 (rfl : shp 112 = (1, 0)) <|
              z_iload_n 101 hX dX11_says_101 rfl <|
              z_iald 102 hX dX11_says_102 (rfl : shp 115 = (20, 48)) h fun x14 _ h =>
              z_goto 103 111 hX dX11_says_103 rfl <|
              z_endI2 111 hE rfl h dX11_says_111
        · refine z_aload_n 75 hX dX11_says_75 rfl <|
            zgX11_29 76 hX dX11_says_76 (rfl : shp 0 = (11, 0)) <|
            zgX11_193 79 hX dX11_says_79 (rfl : shp 112 = (1, 0)) <|
            z_endI2 82 hE rfl h dX11_says_82
      · refine z_aload_n 64 hX dX11_says_64 rfl <|
          z_iconst 65 hX dX11_says_65 zki2 <|
          zb12 h fun x16 w4 r15 h => zcX11_72 66 [.int (nI 2)] [] hX dX11_says_66 (c_X11_error (zgd0 hX) r15) (rfl : shp 0 = (11, 0)) rfl rfl rfl (Nat.le_of_ble_eq_true rfl) (Nat.le_of_ble_eq_true rfl) <|
          z_endI2 69 hE rfl h dX11_says_69
    · refine z_weak (L' := [some (.ref (zα G 0)), none, none]) (zsub_s (zsub_n (zsub_n zsub_0))) <|
        j_X11_says_16z hX hE h
def j_X11_doors_22  (w : zW) : Option (Int32 × zW) :=
  zb2 (f_X11_error (nI 1) w) fun x2 w1 =>
  some (x2, w1)
theorem j_X11_doors_22z {G : zG} {X : zX} {w : zW} {re : Int32} {we : zW}  (hX : zOk G X cX11_doors 6 RX11 4) (hE : zEI G X cX11_doors .int re we)  (h : j_X11_doors_22 w = some (re, we)) : zZ G X w 22 [some (.ref (zα G 0)), none, none, none, none, none] [] := by
  rw [j_X11_doors_22] at h
  refine z_aload_n 22 hX dX11_doors_22 rfl <|
    z_iconst 23 hX dX11_doors_23 zki1 <|
    zb12 h fun x2 w1 r1 h => zcX11_72 24 [.int (nI 1)] [] hX dX11_doors_24 (c_X11_error (zgd0 hX) r1) (rfl : shp 0 = (11, 0)) rfl rfl rfl (Nat.le_of_ble_eq_true rfl) (Nat.le_of_ble_eq_true rfl) <|
    z_endI2 27 hE rfl h dX11_doors_27
def l_X11_doors_44 (K125 : Int32 → zW → Option (Int32 × zW)) : Nat → Int32 → Int32 → Nat → Int32 → Int32 → zW → Option (Int32 × zW)
  | 0, _, _, _, _, _, _ => none
  | n + 1, a1, a2, a3, a4, a5, w =>
    if (w a3 3) < (a5 + a2) then
      K125 a4 w
    else
      zb (f_X9_copyFrom 118 a3 w) fun w1 =>
      zb (f_X9_openFrom 118 a5 a2 w1) fun w2 =>
      zb (f_X8_spell 118 a1 w2) fun w3 =>
      zb2 (f_X1_hold w3) fun x6 w4 =>
      if x6 = nI 0 then
        zlet (a5 + nI 1) fun x8 =>
        (l_X11_doors_44 K125 n) a1 a2 a3 a4 x8 w4
      else
        zlet (a4 ||| ((nI 1) <<< (a5 &&& 31))) fun x9 =>
        zlet (a5 + nI 1) fun x10 =>
        (l_X11_doors_44 K125 n) a1 a2 a3 x9 x10 w4
theorem l_X11_doors_44z {K125 : Int32 → zW → Option (Int32 × zW)} {G : zG} {X : zX} {re : Int32} {we : zW} (hX : zOk G X cX11_doors 6 RX11 4) (hE : zEI G X cX11_doors .int re we) (hK125 : ∀ (a4 : Int32) (w3 : zW) , K125 a4 w3 = some (re, we) → zZ G X w3 125 [none, none, none, none, some (.int a4), none] []) : ∀ (n : Nat) (a1 : Int32) (a2 : Int32) (a3 : Nat) (a4 : Int32) (a5 : Int32) (w : zW) (ha3 : shp a3 = (9, 0)), l_X11_doors_44 K125 n a1 a2 a3 a4 a5 w = some (re, we) → zZ G X w 44 [some (.ref (zα G 0)), some (.int a1), some (.int a2), some (.ref (zα G a3)), some (.int a4), some (.int a5)] [] := by
  intro n
  induction n with
  | zero =>
    intro a1 a2 a3 a4 a5 w ha3 h
    rw [l_X11_doors_44.eq_1] at h
    cases h
  | succ n ih =>
    intro a1 a2 a3 a4 a5 w ha3 h
    rw [l_X11_doors_44.eq_2] at h
    refine z_iload 44 hX dX11_doors_44 rfl <|
      z_iload_n 46 hX dX11_doors_46 rfl <|
      z_iadd 47 hX dX11_doors_47 <|
      z_aload_n 48 hX dX11_doors_48 rfl <|
      zgX11_102 49 hX dX11_doors_49 ha3 <|
      z_icmp_gt 52 125 hX dX11_doors_52 rfl h (fun q1 h => ?_) (fun q1 h => ?_)
    · refine z_weak (L' := [none, none, none, none, some (.int a4), none]) (zsub_n (zsub_n (zsub_n (zsub_n (zsub_s (zsub_n zsub_0)))))) <|
        hK125 _ _ h
    · refine z_aload_n 55 hX dX11_doors_55 rfl <|
        zgX11_43 56 hX dX11_doors_56 (rfl : shp 0 = (11, 0)) <|
        z_aload_n 59 hX dX11_doors_59 rfl <|
        zb1 h fun w1 r2 h => zcX11_199 60 [.ref (zα G a3)] [] hX dX11_doors_60 (c_X9_copyFrom (zgd0 hX) (rfl : shp 118 = (9, 0)) ha3 r2) (rfl : shp 118 = (9, 0)) rfl rfl rfl (Nat.le_of_ble_eq_true rfl) (Nat.le_of_ble_eq_true rfl) <|
        z_aload_n 63 hX dX11_doors_63 rfl <|
        zgX11_43 64 hX dX11_doors_64 (rfl : shp 0 = (11, 0)) <|
        z_iload 67 hX dX11_doors_67 rfl <|
        z_iload_n 69 hX dX11_doors_69 rfl <|
        zb1 h fun w2 r3 h => zcX11_203 70 [.int a5, .int a2] [] hX dX11_doors_70 (c_X9_openFrom (zgd0 hX) (rfl : shp 118 = (9, 0)) r3) (rfl : shp 118 = (9, 0)) rfl rfl rfl (Nat.le_of_ble_eq_true rfl) (Nat.le_of_ble_eq_true rfl) <|
        z_aload_n 73 hX dX11_doors_73 rfl <|
        zgX11_12 74 hX dX11_doors_74 (rfl : shp 0 = (11, 0)) <|
        z_aload_n 77 hX dX11_doors_77 rfl <|
        zgX11_43 78 hX dX11_doors_78 (rfl : shp 0 = (11, 0)) <|
        z_iload_n 81 hX dX11_doors_81 rfl <|
        z_aload_n 82 hX dX11_doors_82 rfl <|
        zgX11_36 83 hX dX11_doors_83 (rfl : shp 0 = (11, 0)) <|
        zb1 h fun w3 r4 h => zcX11_92 86 [.ref (zα G 118), .int a1, .ref (zα G 116)] [] hX dX11_doors_86 (c_X8_spell (zgd0 hX) (rfl : shp 118 = (9, 0)) r4) (rfl : shp 1 = (8, 0)) rfl rfl rfl (Nat.le_of_ble_eq_true rfl) (Nat.le_of_ble_eq_true rfl) <|
        z_aload_n 89 hX dX11_doors_89 rfl <|
        zgX11_29 90 hX dX11_doors_90 (rfl : shp 0 = (11, 0)) <|
        z_aload_n 93 hX dX11_doors_93 rfl <|
        zgX11_12 94 hX dX11_doors_94 (rfl : shp 0 = (11, 0)) <|
        zgX11_106 97 hX dX11_doors_97 (rfl : shp 1 = (8, 0)) <|
        z_aload_n 100 hX dX11_doors_100 rfl <|
        zgX11_36 101 hX dX11_doors_101 (rfl : shp 0 = (11, 0)) <|
        zb12 h fun x6 w4 r5 h => zcX11_110 104 [.ref (zα G 3), .ref (zα G 116)] [] hX dX11_doors_104 (c_X1_hold (zgd0 hX) r5) (rfl : shp 112 = (1, 0)) rfl rfl rfl (Nat.le_of_ble_eq_true rfl) (Nat.le_of_ble_eq_true rfl) <|
        z_if_eq 107 119 hX dX11_doors_107 rfl h (fun q7 h => ?_) (fun q7 h => ?_)
      · refine z_iincG 119 (fun x8 => [some (.ref (zα G 0)), some (.int a1), some (.int a2), some (.ref (zα G a3)), some (.int a4), some (.int x8)]) hX dX11_doors_119 rfl zki1 rfl (fun _ => rfl) h fun x8 h =>
          z_goto 122 44 hX dX11_doors_122 rfl <|
          ih _ _ _ _ _ _ ha3 h
      · refine z_iload 110 hX dX11_doors_110 rfl <|
          z_iconst 112 hX dX11_doors_112 zki1 <|
          z_iload 113 hX dX11_doors_113 rfl <|
          z_ishl 115 hX dX11_doors_115 <|
          z_ior 116 hX dX11_doors_116 <|
          z_top h fun x9 h =>
          z_istore 117 [some (.ref (zα G 0)), some (.int a1), some (.int a2), some (.ref (zα G a3)), some (.int x9), some (.int a5)] hX dX11_doors_117 (Nat.le_of_ble_eq_true rfl) rfl rfl <|
          z_iincG 119 (fun x10 => [some (.ref (zα G 0)), some (.int a1), some (.int a2), some (.ref (zα G a3)), some (.int x9), some (.int x10)]) hX dX11_doors_119 rfl zki1 rfl (fun _ => rfl) h fun x10 h =>
          z_goto 122 44 hX dX11_doors_122 rfl <|
          ih _ _ _ _ _ _ ha3 h
def f_X11_doors (a1 : Int32) (a2 : Int32) (w : zW) : Option (Int32 × zW) :=
  zb (f_X8_hasWall a1 w) fun x2 =>
  if x2 = nI 0 then
    j_X11_doors_22 w
  else
  if a2 < (nI 1) then
    j_X11_doors_22 w
  else
  if (nI 12) < a2 then
    j_X11_doors_22 w
  else
    zguard (zin a1 6) (
    l_X11_doors_44 (fun k125_a4 w11 =>
      some (k125_a4, w11)) zfuel a1 a2 (40 + 2 * a1.toNatClampNeg) (nI 0) (nI 0) w)
theorem c_X11_doors {G : zG} {l : Launch} (hG : zgood G) {w : zW} {re : Int32} {we : zW} {a1 : Int32} {a2 : Int32}  (h : f_X11_doors a1 a2 w = some (re, we)) : zMet G l yX11_doors cX11_doors 6 (some .int) 4 [.ref (zα G 0), .int a1, .int a2] w (some (.int re)) we := by
  refine zMet_of (L0 := [some (.ref (zα G 0)), some (.int a1), some (.int a2), none, none, none]) hG zplX11 (Nat.le_of_ble_eq_true rfl) rfl rfl (fun X hl hX hEI hEV hEA => ?_)
  subst hl
  have hX : zOk G X cX11_doors 6 RX11 4 := hX
  have hE := hEI _ _ rfl rfl
  rw [f_X11_doors] at h
  refine z_aload_n 0 hX dX11_doors_0 rfl <|
    zgX11_12 1 hX dX11_doors_1 (rfl : shp 0 = (11, 0)) <|
    z_iload_n 4 hX dX11_doors_4 rfl <|
    zb1 h fun x2 r1 h => zcX11_88 5 [.int a1] [] hX dX11_doors_5 (c_X8_hasWall (zgd0 hX) r1) (rfl : shp 1 = (8, 0)) rfl rfl rfl (Nat.le_of_ble_eq_true rfl) (Nat.le_of_ble_eq_true rfl) <|
    z_if_eq 8 22 hX dX11_doors_8 rfl h (fun q3 h => ?_) (fun q3 h => ?_)
  · refine z_weak (L' := [some (.ref (zα G 0)), none, none, none, none, none]) (zsub_s (zsub_n (zsub_n (zsub_n (zsub_n (zsub_n zsub_0)))))) <|
      j_X11_doors_22z hX hE h
  · refine z_iload_n 11 hX dX11_doors_11 rfl <|
      z_iconst 12 hX dX11_doors_12 zki1 <|
      z_icmp_lt 13 22 hX dX11_doors_13 rfl h (fun q4 h => ?_) (fun q4 h => ?_)
    · refine z_weak (L' := [some (.ref (zα G 0)), none, none, none, none, none]) (zsub_s (zsub_n (zsub_n (zsub_n (zsub_n (zsub_n zsub_0)))))) <|
        j_X11_doors_22z hX hE h
    · refine z_iload_n 16 hX dX11_doors_16 rfl <|
        z_bipush 17 hX dX11_doors_17 zkb12 <|
        z_icmp_le 19 28 hX dX11_doors_19 rfl h (fun q5 h => ?_) (fun q5 h => ?_)
      · refine z_aload_n 28 hX dX11_doors_28 rfl <|
          zgX11_12 29 hX dX11_doors_29 (rfl : shp 0 = (11, 0)) <|
          zgX11_80 32 hX dX11_doors_32 (rfl : shp 1 = (8, 0)) <|
          z_iload_n 35 hX dX11_doors_35 rfl <|
          z_aald 36 hX dX11_doors_36 (rfl : shp 2 = (21, 6)) (by decide) h fun q6 h =>
          z_astore_n 37 [some (.ref (zα G 0)), some (.int a1), some (.int a2), some (.ref (zα G (40 + 2 * a1.toNatClampNeg))), none, none] hX dX11_doors_37 (Nat.le_of_ble_eq_true rfl) rfl rfl <|
          z_iconst 38 hX dX11_doors_38 zki0 <|
          z_istore 39 [some (.ref (zα G 0)), some (.int a1), some (.int a2), some (.ref (zα G (40 + 2 * a1.toNatClampNeg))), some (.int (nI 0)), none] hX dX11_doors_39 (Nat.le_of_ble_eq_true rfl) rfl rfl <|
          z_iconst 41 hX dX11_doors_41 zki0 <|
          z_istore 42 [some (.ref (zα G 0)), some (.int a1), some (.int a2), some (.ref (zα G (40 + 2 * a1.toNatClampNeg))), some (.int (nI 0)), some (.int (nI 0))] hX dX11_doors_42 (Nat.le_of_ble_eq_true rfl) rfl rfl <|
          l_X11_doors_44z hX hE (fun k125_a4 w11 h => ?_) _ _ _ _ _ _ _ (ze21 _ (rfl : shp 2 = (21, 6)) _ q6) h
        · refine z_iload 125 hX dX11_doors_125 rfl <|
            z_endI2 127 hE rfl h dX11_doors_127
      · refine z_weak (L' := [some (.ref (zα G 0)), none, none, none, none, none]) (zsub_s (zsub_n (zsub_n (zsub_n (zsub_n (zsub_n zsub_0)))))) <|
          j_X11_doors_22z hX hE h
def f_X11_readsWith (a1 : Int32) (a2 : Int32) (a3 : Int32) (w : zW) : Option (Int32 × zW) :=
  zguard (zin a1 6) (
  zb (f_X9_copyFrom 118 (40 + 2 * a1.toNatClampNeg) w) fun w1 =>
  zsto w1 119 24 a2 a3 fun w2 =>
  zb (f_X8_spell 118 a1 w2) fun w3 =>
  zb2 (f_X1_hold w3) fun x5 w4 =>
  zguard (zbool x5) (
  some (x5, w4)))
theorem c_X11_readsWith {G : zG} {l : Launch} (hG : zgood G) {w : zW} {re : Int32} {we : zW} {a1 : Int32} {a2 : Int32} {a3 : Int32}  (h : f_X11_readsWith a1 a2 a3 w = some (re, we)) : zMet G l yX11_readsWith cX11_readsWith 4 (some .boolean) 4 [.ref (zα G 0), .int a1, .int a2, .int a3] w (some (.int re)) we := by
  refine zMet_of (L0 := [some (.ref (zα G 0)), some (.int a1), some (.int a2), some (.int a3)]) hG zplX11 (Nat.le_of_ble_eq_true rfl) rfl rfl (fun X hl hX hEI hEV hEA => ?_)
  subst hl
  have hX : zOk G X cX11_readsWith 4 RX11 4 := hX
  have hE := hEI _ _ rfl rfl
  rw [f_X11_readsWith] at h
  refine z_aload_n 0 hX dX11_readsWith_0 rfl <|
    zgX11_43 1 hX dX11_readsWith_1 (rfl : shp 0 = (11, 0)) <|
    z_aload_n 4 hX dX11_readsWith_4 rfl <|
    zgX11_12 5 hX dX11_readsWith_5 (rfl : shp 0 = (11, 0)) <|
    zgX11_80 8 hX dX11_readsWith_8 (rfl : shp 1 = (8, 0)) <|
    z_iload_n 11 hX dX11_readsWith_11 rfl <|
    z_aald 12 hX dX11_readsWith_12 (rfl : shp 2 = (21, 6)) (by decide) h fun q1 h =>
    zb1 h fun w1 r2 h => zcX11_199 13 [.ref (zα G (40 + 2 * a1.toNatClampNeg))] [] hX dX11_readsWith_13 (c_X9_copyFrom (zgd0 hX) (rfl : shp 118 = (9, 0)) (ze21 _ (rfl : shp 2 = (21, 6)) _ q1) r2) (rfl : shp 118 = (9, 0)) rfl rfl rfl (Nat.le_of_ble_eq_true rfl) (Nat.le_of_ble_eq_true rfl) <|
    z_aload_n 16 hX dX11_readsWith_16 rfl <|
    zgX11_43 17 hX dX11_readsWith_17 (rfl : shp 0 = (11, 0)) <|
    zgX11_132 20 hX dX11_readsWith_20 (rfl : shp 118 = (9, 0)) <|
    z_iload_n 23 hX dX11_readsWith_23 rfl <|
    z_iload_n 24 hX dX11_readsWith_24 rfl <|
    z_iast 25 hX dX11_readsWith_25 (rfl : shp 119 = (20, 24)) h fun w2 h =>
    z_aload_n 26 hX dX11_readsWith_26 rfl <|
    zgX11_12 27 hX dX11_readsWith_27 (rfl : shp 0 = (11, 0)) <|
    z_aload_n 30 hX dX11_readsWith_30 rfl <|
    zgX11_43 31 hX dX11_readsWith_31 (rfl : shp 0 = (11, 0)) <|
    z_iload_n 34 hX dX11_readsWith_34 rfl <|
    z_aload_n 35 hX dX11_readsWith_35 rfl <|
    zgX11_36 36 hX dX11_readsWith_36 (rfl : shp 0 = (11, 0)) <|
    zb1 h fun w3 r3 h => zcX11_92 39 [.ref (zα G 118), .int a1, .ref (zα G 116)] [] hX dX11_readsWith_39 (c_X8_spell (zgd0 hX) (rfl : shp 118 = (9, 0)) r3) (rfl : shp 1 = (8, 0)) rfl rfl rfl (Nat.le_of_ble_eq_true rfl) (Nat.le_of_ble_eq_true rfl) <|
    z_aload_n 42 hX dX11_readsWith_42 rfl <|
    zgX11_29 43 hX dX11_readsWith_43 (rfl : shp 0 = (11, 0)) <|
    z_aload_n 46 hX dX11_readsWith_46 rfl <|
    zgX11_12 47 hX dX11_readsWith_47 (rfl : shp 0 = (11, 0)) <|
    zgX11_106 50 hX dX11_readsWith_50 (rfl : shp 1 = (8, 0)) <|
    z_aload_n 53 hX dX11_readsWith_53 rfl <|
    zgX11_36 54 hX dX11_readsWith_54 (rfl : shp 0 = (11, 0)) <|
    zb12 h fun x5 w4 r4 h => zcX11_110 57 [.ref (zα G 3), .ref (zα G 116)] [] hX dX11_readsWith_57 (c_X1_hold (zgd0 hX) r4) (rfl : shp 112 = (1, 0)) rfl rfl rfl (Nat.le_of_ble_eq_true rfl) (Nat.le_of_ble_eq_true rfl) <|
    zgd2 h fun q6 h =>
    z_endI2 60 hE (znar_bool q6) h dX11_readsWith_60
def l_X11_spare_32 (K75 : Int32 → zW → Option (Int32 × zW)) : Nat → Int32 → Nat → Int32 → Int32 → zW → Option (Int32 × zW)
  | 0, _, _, _, _, _ => none
  | n + 1, a1, a2, a3, a4, w =>
    if a4 < (w a2 3) then
      zld w (a2 + 1) 24 a4 fun x2 =>
      if x2 = nI 0 then
        zlet (a4 + nI 1) fun x4 =>
        (l_X11_spare_32 K75 n) a1 a2 a3 x4 w
      else
        zb2 (f_X11_readsWith a1 a4 (nI 0) w) fun x6 w1 =>
        if x6 = nI 0 then
          zlet (a4 + nI 1) fun x8 =>
          (l_X11_spare_32 K75 n) a1 a2 a3 x8 w1
        else
          zlet (a3 ||| ((nI 1) <<< (a4 &&& 31))) fun x9 =>
          zlet (a4 + nI 1) fun x10 =>
          (l_X11_spare_32 K75 n) a1 a2 x9 x10 w1
    else
      K75 a3 w
