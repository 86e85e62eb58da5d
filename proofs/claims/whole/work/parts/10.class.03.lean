def f_X8_hasWall (a1 : Int32) (w : zW) : Option Int32 :=
  if a1 < nI 0 then
    some (nI 0)
  else
  if a1 < (w 1 7) then
    some (nI 1)
  else
    some (nI 0)
theorem c_X8_hasWall {G : zG} {l : Launch} (hG : zgood G) {w : zW} {re : Int32} {a1 : Int32}  (h : f_X8_hasWall a1 w = some re) : zMet G l yX8_hasWall cX8_hasWall 2 (some .boolean) 0 [.ref (zα G 1), .int a1] w (some (.int re)) w := by
  refine zMet_of (L0 := [some (.ref (zα G 1)), some (.int a1)]) hG zplX8 (Nat.le_of_ble_eq_true rfl) rfl rfl (fun X hl hX hEI hEV hEA => ?_)
  subst hl
  have hX : zOk G X cX8_hasWall 2 RX8 0 := hX
  have hE := hEI _ _ rfl rfl
  rw [f_X8_hasWall] at h
  refine z_iload_n 0 hX dX8_hasWall_0 rfl <|
    z_if_lt 1 16 hX dX8_hasWall_1 rfl h (fun q1 h => ?_) (fun q1 h => ?_)
  · refine z_iconst 16 hX dX8_hasWall_16 zki0 <|
      z_endI 17 hE (znar_bool (by decide)) h dX8_hasWall_17
  · refine z_iload_n 4 hX dX8_hasWall_4 rfl <|
      z_aload_n 5 hX dX8_hasWall_5 rfl <|
      zgX8_68 6 hX dX8_hasWall_6 (rfl : shp 1 = (8, 0)) <|
      z_icmp_ge 9 16 hX dX8_hasWall_9 rfl h (fun q2 h => ?_) (fun q2 h => ?_)
    · refine z_iconst 16 hX dX8_hasWall_16 zki0 <|
        z_endI 17 hE (znar_bool (by decide)) h dX8_hasWall_17
    · refine z_iconst 12 hX dX8_hasWall_12 zki1 <|
        z_goto 13 17 hX dX8_hasWall_13 rfl <|
        z_endI 17 hE (znar_bool (by decide)) h dX8_hasWall_17
def f_X8_hasPlace (a1 : Int32) (a2 : Int32) (w : zW) : Option Int32 :=
  zb (f_X8_hasWall a1 w) fun x2 =>
  if x2 = nI 0 then
    some (nI 0)
  else
  if a2 < nI 0 then
    some (nI 0)
  else
    zguard (zin a1 6) (
    if a2 < (w (40 + 2 * a1.toNatClampNeg) 3) then
      some (nI 1)
    else
      some (nI 0))
theorem c_X8_hasPlace {G : zG} {l : Launch} (hG : zgood G) {w : zW} {re : Int32} {a1 : Int32} {a2 : Int32}  (h : f_X8_hasPlace a1 a2 w = some re) : zMet G l yX8_hasPlace cX8_hasPlace 3 (some .boolean) 1 [.ref (zα G 1), .int a1, .int a2] w (some (.int re)) w := by
  refine zMet_of (L0 := [some (.ref (zα G 1)), some (.int a1), some (.int a2)]) hG zplX8 (Nat.le_of_ble_eq_true rfl) rfl rfl (fun X hl hX hEI hEV hEA => ?_)
  subst hl
  have hX : zOk G X cX8_hasPlace 3 RX8 1 := hX
  have hE := hEI _ _ rfl rfl
  rw [f_X8_hasPlace] at h
  refine z_aload_n 0 hX dX8_hasPlace_0 rfl <|
    z_iload_n 1 hX dX8_hasPlace_1 rfl <|
    zb1 h fun x2 r1 h => zcX8_80 2 [.int a1] [] hX dX8_hasPlace_2 (c_X8_hasWall (zgd0 hX) r1) (rfl : shp 1 = (8, 0)) rfl rfl rfl (Nat.le_of_ble_eq_true rfl) (Nat.le_of_ble_eq_true rfl) <|
    z_if_eq 5 29 hX dX8_hasPlace_5 rfl h (fun q3 h => ?_) (fun q3 h => ?_)
  · refine z_iconst 29 hX dX8_hasPlace_29 zki0 <|
      z_endI 30 hE (znar_bool (by decide)) h dX8_hasPlace_30
  · refine z_iload_n 8 hX dX8_hasPlace_8 rfl <|
      z_if_lt 9 29 hX dX8_hasPlace_9 rfl h (fun q4 h => ?_) (fun q4 h => ?_)
    · refine z_iconst 29 hX dX8_hasPlace_29 zki0 <|
        z_endI 30 hE (znar_bool (by decide)) h dX8_hasPlace_30
    · refine z_iload_n 12 hX dX8_hasPlace_12 rfl <|
        z_aload_n 13 hX dX8_hasPlace_13 rfl <|
        zgX8_11 14 hX dX8_hasPlace_14 (rfl : shp 1 = (8, 0)) <|
        z_iload_n 17 hX dX8_hasPlace_17 rfl <|
        z_aald 18 hX dX8_hasPlace_18 (rfl : shp 2 = (21, 6)) (by decide) h fun q5 h =>
        zgX8_84 19 hX dX8_hasPlace_19 (ze21 _ (rfl : shp 2 = (21, 6)) _ q5) <|
        z_icmp_ge 22 29 hX dX8_hasPlace_22 rfl h (fun q6 h => ?_) (fun q6 h => ?_)
      · refine z_iconst 29 hX dX8_hasPlace_29 zki0 <|
          z_endI 30 hE (znar_bool (by decide)) h dX8_hasPlace_30
      · refine z_iconst 25 hX dX8_hasPlace_25 zki1 <|
          z_goto 26 30 hX dX8_hasPlace_26 rfl <|
          z_endI 30 hE (znar_bool (by decide)) h dX8_hasPlace_30
def f_X8_textOf (a1 : Int32) (w : zW) : Option Nat :=
  if a1 = nI 0 then
    some 29
  else
    some 33
theorem c_X8_textOf {G : zG} {l : Launch} (hG : zgood G) {w : zW} {re : Nat} {a1 : Int32}  (h : f_X8_textOf a1 w = some re) : zMet G l yX8_textOf cX8_textOf 2 (some (.object "LetterWalls$Text")) 0 [.ref (zα G 1), .int a1] w (some (.ref (zα G re))) w := by
  refine zMet_of (L0 := [some (.ref (zα G 1)), some (.int a1)]) hG zplX8 (Nat.le_of_ble_eq_true rfl) rfl rfl (fun X hl hX hEI hEV hEA => ?_)
  subst hl
  have hX : zOk G X cX8_textOf 2 RX8 0 := hX
  have hE := hEA _ ⟨_, rfl⟩ rfl
  rw [f_X8_textOf] at h
  refine z_iload_n 0 hX dX8_textOf_0 rfl <|
    z_if_ne 1 11 hX dX8_textOf_1 rfl h (fun q1 h => ?_) (fun q1 h => ?_)
  · refine z_aload_n 11 hX dX8_textOf_11 rfl <|
      zgX8_31 12 hX dX8_textOf_12 (rfl : shp 1 = (8, 0)) <|
      z_endA 15 hE h dX8_textOf_15
  · refine z_aload_n 4 hX dX8_textOf_4 rfl <|
      zgX8_27 5 hX dX8_textOf_5 (rfl : shp 1 = (8, 0)) <|
      z_goto 8 15 hX dX8_textOf_8 rfl <|
      z_endA 15 hE h dX8_textOf_15
theorem s_X8_textOf {a1 : Int32} {w : zW} {r : Nat} (h : f_X8_textOf a1 w = some r) : shp r = (6, 0) := by
  rw [f_X8_textOf] at h
  split at h <;> (cases h; rfl)
def l_X11_isUnder_4 (K19 : Option Int32) (K33 : Option Int32) : Nat → Int32 → Int32 → Int32 → Option Int32
  | 0, _, _, _ => none
  | n + 1, a1, a2, a3 =>
    if a3 < (nI 7) then
      if a2 < nI 0 then
        K33
      else
      if a2 = a1 then
        K19
      else
        ztld 0 7 a2 fun x4 =>
        zlet (a3 + nI 1) fun x5 =>
        (l_X11_isUnder_4 K19 K33 n) a1 x4 x5
    else
      K33
theorem l_X11_isUnder_4z {K19 : Option Int32} {K33 : Option Int32} {G : zG} {X : zX} {w : zW} {re : Int32} (hX : zOk G X cX11_isUnder 4 RX11 0) (hE : zEI G X cX11_isUnder .boolean re w) (hK19 : K19 = some re → zZ G X w 19 [none, none, none, none] []) (hK33 : K33 = some re → zZ G X w 33 [none, none, none, none] []) : ∀ (n : Nat) (a1 : Int32) (a2 : Int32) (a3 : Int32) , l_X11_isUnder_4 K19 K33 n a1 a2 a3 = some re → zZ G X w 4 [none, some (.int a1), some (.int a2), some (.int a3)] [] := by
  intro n
  induction n with
  | zero =>
    intro a1 a2 a3  h
    rw [l_X11_isUnder_4.eq_1] at h
    cases h
  | succ n ih =>
    intro a1 a2 a3  h
    rw [l_X11_isUnder_4.eq_2] at h
    refine z_iload_n 4 hX dX11_isUnder_4 rfl <|
      z_bipush 5 hX dX11_isUnder_5 zkb7 <|
      z_icmp_ge 7 33 hX dX11_isUnder_7 rfl h (fun q1 h => ?_) (fun q1 h => ?_)
    · refine z_weak (L' := [none, none, none, none]) (zsub_n (zsub_n (zsub_n (zsub_n zsub_0)))) <|
        hK33 h
    · refine z_iload_n 10 hX dX11_isUnder_10 rfl <|
        z_if_lt 11 33 hX dX11_isUnder_11 rfl h (fun q2 h => ?_) (fun q2 h => ?_)
      · refine z_weak (L' := [none, none, none, none]) (zsub_n (zsub_n (zsub_n (zsub_n zsub_0)))) <|
          hK33 h
      · refine z_iload_n 14 hX dX11_isUnder_14 rfl <|
          z_iload_n 15 hX dX11_isUnder_15 rfl <|
          z_icmp_ne 16 21 hX dX11_isUnder_16 rfl h (fun q3 h => ?_) (fun q3 h => ?_)
        · refine z_gets (C := RX11) 21 hX dX11_isUnder_21 zSz0 (Or.inl zw474) <|
            z_iload_n 24 hX dX11_isUnder_24 rfl <|
            z_sald 25 hX dX11_isUnder_25 zSt0 h fun x4 h =>
            z_istore_n 26 [none, some (.int a1), some (.int x4), some (.int a3)] hX dX11_isUnder_26 (Nat.le_of_ble_eq_true rfl) rfl rfl <|
            z_iincG 27 (fun x5 => [none, some (.int a1), some (.int x4), some (.int x5)]) hX dX11_isUnder_27 rfl zki1 rfl (fun _ => rfl) h fun x5 h =>
            z_goto 30 4 hX dX11_isUnder_30 rfl <|
            ih _ _ _ h
        · refine z_weak (L' := [none, none, none, none]) (zsub_n (zsub_n (zsub_n (zsub_n zsub_0)))) <|
            hK19 h
def f_X11_isUnder (a0 : Int32) (a1 : Int32)  : Option Int32 :=
  l_X11_isUnder_4 (
    some (nI 1)) (
    some (nI 0)) zfuel a1 a0 (nI 0)
theorem c_X11_isUnder {G : zG} {l : Launch} (hG : zgood G) {w : zW} {re : Int32} {a0 : Int32} {a1 : Int32}  (h : f_X11_isUnder a0 a1 = some re) : zMet G l yX11_isUnder cX11_isUnder 4 (some .boolean) 0 [.int a0, .int a1] w (some (.int re)) w := by
  refine zMet_of (L0 := [some (.int a0), some (.int a1), none, none]) hG zplX11 (Nat.le_of_ble_eq_true rfl) rfl rfl (fun X hl hX hEI hEV hEA => ?_)
  subst hl
  have hX : zOk G X cX11_isUnder 4 RX11 0 := hX
  have hE := hEI _ _ rfl rfl
  rw [f_X11_isUnder] at h
  refine z_iload_n 0 hX dX11_isUnder_0 rfl <|
    z_istore_n 1 [some (.int a0), some (.int a1), some (.int a0), none] hX dX11_isUnder_1 (Nat.le_of_ble_eq_true rfl) rfl rfl <|
    z_iconst 2 hX dX11_isUnder_2 zki0 <|
    z_istore_n 3 [some (.int a0), some (.int a1), some (.int a0), some (.int (nI 0))] hX dX11_isUnder_3 (Nat.le_of_ble_eq_true rfl) rfl rfl <|
    z_weak (L' := [none, some (.int a1), some (.int a0), some (.int (nI 0))]) (zsub_n (zsub_s (zsub_s (zsub_s zsub_0)))) <|
    l_X11_isUnder_4z hX hE (fun h => ?_) (fun h => ?_) _ _ _ _ h
  · refine z_iconst 19 hX dX11_isUnder_19 zki1 <|
      z_endI 20 hE (znar_bool (by decide)) h dX11_isUnder_20
  · refine z_iconst 33 hX dX11_isUnder_33 zki0 <|
      z_endI 34 hE (znar_bool (by decide)) h dX11_isUnder_34
def j_X8_spell_76 (a1 : Nat) (w : zW) : Option zW :=
  if (w a1 1) = (nI 2) then
    zb (f_X3_leaveOutSeconds w) fun w3 =>
    some w3
  else
  if (w a1 1) = (nI 4) then
    zb (f_X3_mirrorLetters w) fun w2 =>
    some w2
  else
  if (w a1 1) = (nI 6) then
    zb (f_X6_isTold 29 w) fun x5 =>
    if x5 = nI 0 then
      some w
    else
      zb (f_X3_turnBy 29 (w a1 2) w) fun w1 =>
      some w1
  else
    some w
theorem j_X8_spell_76z {G : zG} {X : zX} {w : zW} {we : zW} {a1 : Nat} (hX : zOk G X cX8_spell 4 RX8 3) (hE : zEV G X cX8_spell we) (ha1 : shp a1 = (9, 0)) (h : j_X8_spell_76 a1 w = some we) : zZ G X w 76 [some (.ref (zα G 1)), some (.ref (zα G a1)), none, some (.ref (zα G 116))] [] := by
  rw [j_X8_spell_76] at h
  refine z_aload_n 76 hX dX8_spell_76 rfl <|
    zgX8_93 77 hX dX8_spell_77 ha1 <|
    z_iconst 80 hX dX8_spell_80 zki2 <|
    z_icmp_ne 81 91 hX dX8_spell_81 rfl h (fun q1 h => ?_) (fun q1 h => ?_)
  · refine z_aload_n 91 hX dX8_spell_91 rfl <|
      zgX8_93 92 hX dX8_spell_92 ha1 <|
      z_iconst 95 hX dX8_spell_95 zki4 <|
      z_icmp_ne 96 106 hX dX8_spell_96 rfl h (fun q2 h => ?_) (fun q2 h => ?_)
    · refine z_aload_n 106 hX dX8_spell_106 rfl <|
        zgX8_93 107 hX dX8_spell_107 ha1 <|
        z_bipush 110 hX dX8_spell_110 zkb6 <|
        z_icmp_ne 112 137 hX dX8_spell_112 rfl h (fun q3 h => ?_) (fun q3 h => ?_)
      · refine z_endV 137 hE h dX8_spell_137
      · refine z_aload_n 115 hX dX8_spell_115 rfl <|
          zgX8_27 116 hX dX8_spell_116 (rfl : shp 1 = (8, 0)) <|
          zb1 h fun x5 r4 h => zcX8_112 119 [] [] hX dX8_spell_119 (c_X6_isTold (zgd0 hX) (rfl : shp 29 = (6, 0)) r4) (rfl : shp 29 = (6, 0)) rfl rfl rfl (Nat.le_of_ble_eq_true rfl) (Nat.le_of_ble_eq_true rfl) <|
          z_if_eq 122 137 hX dX8_spell_122 rfl h (fun q6 h => ?_) (fun q6 h => ?_)
        · refine z_endV 137 hE h dX8_spell_137
        · refine z_aload_n 125 hX dX8_spell_125 rfl <|
            z_aload_n 126 hX dX8_spell_126 rfl <|
            zgX8_27 127 hX dX8_spell_127 (rfl : shp 1 = (8, 0)) <|
            z_aload_n 130 hX dX8_spell_130 rfl <|
            zgX8_100 131 hX dX8_spell_131 ha1 <|
            zb1 h fun w1 r7 h => zcX8_116 134 [.ref (zα G 29), .int (w a1 2)] [] hX dX8_spell_134 (c_X3_turnBy (zgd0 hX) (rfl : shp 29 = (6, 0)) r7) (rfl : shp 116 = (3, 0)) rfl rfl rfl (Nat.le_of_ble_eq_true rfl) (Nat.le_of_ble_eq_true rfl) <|
            z_endV 137 hE h dX8_spell_137
    · refine z_aload_n 99 hX dX8_spell_99 rfl <|
        zb1 h fun w2 r8 h => zcX8_109 100 [] [] hX dX8_spell_100 (c_X3_mirrorLetters (zgd0 hX) r8) (rfl : shp 116 = (3, 0)) rfl rfl rfl (Nat.le_of_ble_eq_true rfl) (Nat.le_of_ble_eq_true rfl) <|
        z_goto 103 137 hX dX8_spell_103 rfl <|
        z_endV 137 hE h dX8_spell_137
  · refine z_aload_n 84 hX dX8_spell_84 rfl <|
      zb1 h fun w3 r9 h => zcX8_106 85 [] [] hX dX8_spell_85 (c_X3_leaveOutSeconds (zgd0 hX) r9) (rfl : shp 116 = (3, 0)) rfl rfl rfl (Nat.le_of_ble_eq_true rfl) (Nat.le_of_ble_eq_true rfl) <|
      z_goto 88 137 hX dX8_spell_88 rfl <|
      z_endV 137 hE h dX8_spell_137
def j_X8_spell_72 (a1 : Nat) (w : zW) : Option zW :=
  zb (f_X3_reverse w) fun w1 =>
  j_X8_spell_76 a1 w1
theorem j_X8_spell_72z {G : zG} {X : zX} {w : zW} {we : zW} {a1 : Nat} (hX : zOk G X cX8_spell 4 RX8 3) (hE : zEV G X cX8_spell we) (ha1 : shp a1 = (9, 0)) (h : j_X8_spell_72 a1 w = some we) : zZ G X w 72 [some (.ref (zα G 1)), some (.ref (zα G a1)), none, some (.ref (zα G 116))] [] := by
  rw [j_X8_spell_72] at h
  refine z_aload_n 72 hX dX8_spell_72 rfl <|
    zb1 h fun w1 r1 h => zcX8_103 73 [] [] hX dX8_spell_73 (c_X3_reverse (zgd0 hX) r1) (rfl : shp 116 = (3, 0)) rfl rfl rfl (Nat.le_of_ble_eq_true rfl) (Nat.le_of_ble_eq_true rfl) <|
    j_X8_spell_76z hX hE ha1 h
def j_X8_spell_53 (a1 : Nat) (w : zW) : Option zW :=
  zb (f_X11_isUnder (w a1 1) (nI 1)) fun x2 =>
  if x2 = nI 0 then
    if (w a1 1) = (nI 5) then
      j_X8_spell_72 a1 w
    else
      j_X8_spell_76 a1 w
  else
    j_X8_spell_72 a1 w
theorem j_X8_spell_53z {G : zG} {X : zX} {w : zW} {we : zW} {a1 : Nat} (hX : zOk G X cX8_spell 4 RX8 3) (hE : zEV G X cX8_spell we) (ha1 : shp a1 = (9, 0)) (h : j_X8_spell_53 a1 w = some we) : zZ G X w 53 [some (.ref (zα G 1)), some (.ref (zα G a1)), none, some (.ref (zα G 116))] [] := by
  rw [j_X8_spell_53] at h
  refine z_aload_n 53 hX dX8_spell_53 rfl <|
    zgX8_93 54 hX dX8_spell_54 ha1 <|
    z_iconst 57 hX dX8_spell_57 zki1 <|
    zb1 h fun x2 r1 h => zcX8_96 58 [.int (w a1 1), .int (nI 1)] [] hX dX8_spell_58 (c_X11_isUnder (zgd0 hX) r1) rfl rfl rfl (Nat.le_of_ble_eq_true rfl) (Nat.le_of_ble_eq_true rfl) <|
    z_if_ne 61 72 hX dX8_spell_61 rfl h (fun q3 h => ?_) (fun q3 h => ?_)
  · refine j_X8_spell_72z hX hE ha1 h
  · refine z_aload_n 64 hX dX8_spell_64 rfl <|
      zgX8_93 65 hX dX8_spell_65 ha1 <|
      z_iconst 68 hX dX8_spell_68 zki5 <|
      z_icmp_ne 69 76 hX dX8_spell_69 rfl h (fun q4 h => ?_) (fun q4 h => ?_)
    · refine j_X8_spell_76z hX hE ha1 h
    · refine j_X8_spell_72z hX hE ha1 h
def f_X8_spell (a1 : Nat) (a2 : Int32) (w : zW) : Option zW :=
  zlet (zupd w 116 1 (nI 0)) fun w1 =>
  zb (f_X3_append a1 w1) fun w2 =>
  zb (f_X11_isUnder (w2 a1 1) (nI 3)) fun x3 =>
  if x3 = nI 0 then
    j_X8_spell_53 a1 w2
  else
  if (w2 a1 2) = a2 then
    j_X8_spell_53 a1 w2
  else
    zb (f_X8_hasWall (w2 a1 2) w2) fun x7 =>
    if x7 = nI 0 then
      j_X8_spell_53 a1 w2
    else
      zguard (zin (w2 a1 2) 6) (
      zb (f_X3_append (40 + 2 * (w2 a1 2).toNatClampNeg) w2) fun w3 =>
      j_X8_spell_53 a1 w3)
theorem c_X8_spell {G : zG} {l : Launch} (hG : zgood G) {w : zW} {we : zW} {a1 : Nat} {a2 : Int32} (ha1 : shp a1 = (9, 0)) (h : f_X8_spell a1 a2 w = some we) : zMet G l yX8_spell cX8_spell 4 none 3 [.ref (zα G 1), .ref (zα G a1), .int a2, .ref (zα G 116)] w none we := by
  refine zMet_of (L0 := [some (.ref (zα G 1)), some (.ref (zα G a1)), some (.int a2), some (.ref (zα G 116))]) hG zplX8 (Nat.le_of_ble_eq_true rfl) rfl rfl (fun X hl hX hEI hEV hEA => ?_)
  subst hl
  have hX : zOk G X cX8_spell 4 RX8 3 := hX
  have hE := hEV rfl rfl
  rw [f_X8_spell] at h
  refine z_aload_n 0 hX dX8_spell_0 rfl <|
    z_iconst 1 hX dX8_spell_1 zki0 <|
    zpX8_87 2 hX dX8_spell_2 (rfl : shp 116 = (3, 0)) <|
    z_w h fun w1 h =>
    z_aload_n 5 hX dX8_spell_5 rfl <|
    z_aload_n 6 hX dX8_spell_6 rfl <|
    zb1 h fun w2 r1 h => zcX8_90 7 [.ref (zα G a1)] [] hX dX8_spell_7 (c_X3_append (zgd0 hX) ha1 r1) (rfl : shp 116 = (3, 0)) rfl rfl rfl (Nat.le_of_ble_eq_true rfl) (Nat.le_of_ble_eq_true rfl) <|
    z_aload_n 10 hX dX8_spell_10 rfl <|
    zgX8_93 11 hX dX8_spell_11 ha1 <|
    z_iconst 14 hX dX8_spell_14 zki3 <|
    zb1 h fun x3 r2 h => zcX8_96 15 [.int (w2 a1 1), .int (nI 3)] [] hX dX8_spell_15 (c_X11_isUnder (zgd0 hX) r2) rfl rfl rfl (Nat.le_of_ble_eq_true rfl) (Nat.le_of_ble_eq_true rfl) <|
    z_if_eq 18 53 hX dX8_spell_18 rfl h (fun q4 h => ?_) (fun q4 h => ?_)
  · refine z_weak (L' := [some (.ref (zα G 1)), some (.ref (zα G a1)), none, some (.ref (zα G 116))]) (zsub_s (zsub_s (zsub_n (zsub_s zsub_0)))) <|
      j_X8_spell_53z hX hE ha1 h
  · refine z_aload_n 21 hX dX8_spell_21 rfl <|
      zgX8_100 22 hX dX8_spell_22 ha1 <|
      z_iload_n 25 hX dX8_spell_25 rfl <|
      z_icmp_eq 26 53 hX dX8_spell_26 rfl h (fun q5 h => ?_) (fun q5 h => ?_)
    · refine z_weak (L' := [some (.ref (zα G 1)), some (.ref (zα G a1)), none, some (.ref (zα G 116))]) (zsub_s (zsub_s (zsub_n (zsub_s zsub_0)))) <|
        j_X8_spell_53z hX hE ha1 h
    · refine z_aload_n 29 hX dX8_spell_29 rfl <|
        z_aload_n 30 hX dX8_spell_30 rfl <|
        zgX8_100 31 hX dX8_spell_31 ha1 <|
        zb1 h fun x7 r6 h => zcX8_80 34 [.int (w2 a1 2)] [] hX dX8_spell_34 (c_X8_hasWall (zgd0 hX) r6) (rfl : shp 1 = (8, 0)) rfl rfl rfl (Nat.le_of_ble_eq_true rfl) (Nat.le_of_ble_eq_true rfl) <|
        z_if_eq 37 53 hX dX8_spell_37 rfl h (fun q8 h => ?_) (fun q8 h => ?_)
      · refine z_weak (L' := [some (.ref (zα G 1)), some (.ref (zα G a1)), none, some (.ref (zα G 116))]) (zsub_s (zsub_s (zsub_n (zsub_s zsub_0)))) <|
          j_X8_spell_53z hX hE ha1 h
      · refine z_aload_n 40 hX dX8_spell_40 rfl <|
          z_aload_n 41 hX dX8_spell_41 rfl <|
          zgX8_11 42 hX dX8_spell_42 (rfl : shp 1 = (8, 0)) <|
          z_aload_n 45 hX dX8_spell_45 rfl <|
          zgX8_100 46 hX dX8_spell_46 ha1 <|
          z_aald 49 hX dX8_spell_49 (rfl : shp 2 = (21, 6)) (by decide) h fun q9 h =>
          zb1 h fun w3 r10 h => zcX8_90 50 [.ref (zα G (40 + 2 * (w2 a1 2).toNatClampNeg))] [] hX dX8_spell_50 (c_X3_append (zgd0 hX) (ze21 _ (rfl : shp 2 = (21, 6)) _ q9) r10) (rfl : shp 116 = (3, 0)) rfl rfl rfl (Nat.le_of_ble_eq_true rfl) (Nat.le_of_ble_eq_true rfl) <|
          z_weak (L' := [some (.ref (zα G 1)), some (.ref (zα G a1)), none, some (.ref (zα G 116))]) (zsub_s (zsub_s (zsub_n (zsub_s zsub_0)))) <|
          j_X8_spell_53z hX hE ha1 h
def f_X8_priceOf (a1 : Int32) (w : zW) : Option (Int32 × zW) :=
  zb (f_X6_isTold 33 w) fun x2 =>
  if x2 = nI 0 then
    if a1 = (nI 5) then
      some ((nI 1) + (w 1 10), w)
    else
      some (nI 1, w)
  else
    zld w 38 27 a1 fun x4 =>
    zb2 (f_X6_worth 33 a1 (w 1 10) x4 (nI 0) w) fun x6 w1 =>
    some (if (nI 0) < (if x6 < (nI 999) then x6 else (nI 999)) then (if x6 < (nI 999) then x6 else (nI 999)) else (nI 0), w1)
theorem c_X8_priceOf {G : zG} {l : Launch} (hG : zgood G) {w : zW} {re : Int32} {we : zW} {a1 : Int32}  (h : f_X8_priceOf a1 w = some (re, we)) : zMet G l yX8_priceOf cX8_priceOf 3 (some .int) 2 [.ref (zα G 1), .int a1] w (some (.int re)) we := by
  refine zMet_of (L0 := [some (.ref (zα G 1)), some (.int a1), none]) hG zplX8 (Nat.le_of_ble_eq_true rfl) rfl rfl (fun X hl hX hEI hEV hEA => ?_)
  subst hl
  have hX : zOk G X cX8_priceOf 3 RX8 2 := hX
  have hE := hEI _ _ rfl rfl
  rw [f_X8_priceOf] at h
  refine z_aload_n 0 hX dX8_priceOf_0 rfl <|
    zgX8_31 1 hX dX8_priceOf_1 (rfl : shp 1 = (8, 0)) <|
    zb1 h fun x2 r1 h => zcX8_112 4 [] [] hX dX8_priceOf_4 (c_X6_isTold (zgd0 hX) (rfl : shp 33 = (6, 0)) r1) (rfl : shp 33 = (6, 0)) rfl rfl rfl (Nat.le_of_ble_eq_true rfl) (Nat.le_of_ble_eq_true rfl) <|
    z_if_ne 7 26 hX dX8_priceOf_7 rfl h (fun q3 h => ?_) (fun q3 h => ?_)
  · refine z_aload_n 26 hX dX8_priceOf_26 rfl <|
      zgX8_31 27 hX dX8_priceOf_27 (rfl : shp 1 = (8, 0)) <|
      z_iload_n 30 hX dX8_priceOf_30 rfl <|
      z_aload_n 31 hX dX8_priceOf_31 rfl <|
      zgX8_77 32 hX dX8_priceOf_32 (rfl : shp 1 = (8, 0)) <|
      z_aload_n 35 hX dX8_priceOf_35 rfl <|
      zgX8_38 36 hX dX8_priceOf_36 (rfl : shp 1 = (8, 0)) <|
      z_iload_n 39 hX dX8_priceOf_39 rfl <|
      z_iald 40 hX dX8_priceOf_40 (rfl : shp 38 = (20, 27)) h fun x4 _ h =>
      z_iconst 41 hX dX8_priceOf_41 zki0 <|
      zb12 h fun x6 w1 r5 h => zcX8_120 42 [.int a1, .int (w 1 10), .int x4, .int (nI 0)] [] hX dX8_priceOf_42 (c_X6_worth (zgd0 hX) (rfl : shp 33 = (6, 0)) r5) (rfl : shp 33 = (6, 0)) rfl rfl rfl (Nat.le_of_ble_eq_true rfl) (Nat.le_of_ble_eq_true rfl) <|
      z_istore_n 45 [some (.ref (zα G 1)), some (.int a1), some (.int x6)] hX dX8_priceOf_45 (Nat.le_of_ble_eq_true rfl) rfl rfl <|
      z_iconst 46 hX dX8_priceOf_46 zki0 <|
      z_sipush 47 hX dX8_priceOf_47 zks999 <|
      z_iload_n 50 hX dX8_priceOf_50 rfl <|
      z_mmin 51 hX dX8_priceOf_51 zw553 zw538 zw86 zw539 rfl (Nat.le_of_ble_eq_true rfl) (Nat.le_of_ble_eq_true rfl) <|
      z_mmax 54 hX dX8_priceOf_54 zw554 zw555 zw86 zw556 rfl (Nat.le_of_ble_eq_true rfl) (Nat.le_of_ble_eq_true rfl) <|
      z_endI2 57 hE rfl h dX8_priceOf_57
  · refine z_iload_n 10 hX dX8_priceOf_10 rfl <|
      z_iconst 11 hX dX8_priceOf_11 zki5 <|
      z_icmp_ne 12 24 hX dX8_priceOf_12 rfl h (fun q7 h => ?_) (fun q7 h => ?_)
    · refine z_iconst 24 hX dX8_priceOf_24 zki1 <|
        z_endI2 25 hE rfl h dX8_priceOf_25
    · refine z_iconst 15 hX dX8_priceOf_15 zki1 <|
        z_aload_n 16 hX dX8_priceOf_16 rfl <|
        zgX8_77 17 hX dX8_priceOf_17 (rfl : shp 1 = (8, 0)) <|
        z_iadd 20 hX dX8_priceOf_20 <|
        z_goto 21 25 hX dX8_priceOf_21 rfl <|
        z_endI2 25 hE rfl h dX8_priceOf_25
def j_X8_costOf_36 (rc : Nat → Int32 → Int32 → zW → Option (Int32 × zW)) (K44 : Int32 → zW → Option (Int32 × zW)) (a1 : Nat) (a3 : Int32) (b0 : Int32) (b1 : Int32) (w : zW) : Option (Int32 × zW) :=
  zlet (b0 + b1) fun x1 =>
  zlet (a3 + nI 1) fun x2 =>
  rc a1 x1 x2 w
theorem j_X8_costOf_36z {rc : Nat → Int32 → Int32 → zW → Option (Int32 × zW)} {K44 : Int32 → zW → Option (Int32 × zW)} {G : zG} {X : zX} {w : zW} {re : Int32} {we : zW} {a1 : Nat} {a3 : Int32} {b0 : Int32} {b1 : Int32} (hX : zOk G X cX8_costOf 4 RX8 3) (hE : zEI G X cX8_costOf .int re we) (hrc : ∀ (a1 : Nat) (a2 : Int32) (a3 : Int32) (w3 : zW) (ha1 : shp a1 = (9, 0)), rc a1 a2 a3 w3 = some (re, we) → zZ G X w3 4 [some (.ref (zα G 1)), some (.ref (zα G a1)), some (.int a2), some (.int a3)] []) (hK44 : ∀ (a2 : Int32) (w3 : zW) , K44 a2 w3 = some (re, we) → zZ G X w3 44 [none, none, some (.int a2), none] []) (ha1 : shp a1 = (9, 0)) (h : j_X8_costOf_36 rc K44 a1 a3 b0 b1 w = some (re, we)) : zZ G X w 36 [some (.ref (zα G 1)), some (.ref (zα G a1)), none, some (.int a3)] [.int b1, .int b0] := by
  rw [j_X8_costOf_36] at h
  refine z_iadd 36 hX dX8_costOf_36 <|
    z_top h fun x1 h =>
    z_istore_n 37 [some (.ref (zα G 1)), some (.ref (zα G a1)), some (.int x1), some (.int a3)] hX dX8_costOf_37 (Nat.le_of_ble_eq_true rfl) rfl rfl <|
    z_iincG 38 (fun x2 => [some (.ref (zα G 1)), some (.ref (zα G a1)), some (.int x1), some (.int x2)]) hX dX8_costOf_38 rfl zki1 rfl (fun _ => rfl) h fun x2 h =>
    z_goto 41 4 hX dX8_costOf_41 rfl <|
    hrc _ _ _ _ ha1 h
def l_X8_costOf_4 (K44 : Int32 → zW → Option (Int32 × zW)) : Nat → Nat → Int32 → Int32 → zW → Option (Int32 × zW)
  | 0, _, _, _, _ => none
  | n + 1, a1, a2, a3, w =>
    if a3 < (w a1 3) then
      zld w (a1 + 1) 24 a3 fun x2 =>
      if x2 = nI 0 then
        j_X8_costOf_36 (l_X8_costOf_4 K44 n) K44 a1 a3 a2 (nI 0) w
      else
        zld w (a1 + 1) 24 a3 fun x4 =>
        zb2 (f_X8_priceOf x4 w) fun x6 w1 =>
        j_X8_costOf_36 (l_X8_costOf_4 K44 n) K44 a1 a3 a2 x6 w1
    else
      K44 a2 w
theorem l_X8_costOf_4z {K44 : Int32 → zW → Option (Int32 × zW)} {G : zG} {X : zX} {re : Int32} {we : zW} (hX : zOk G X cX8_costOf 4 RX8 3) (hE : zEI G X cX8_costOf .int re we) (hK44 : ∀ (a2 : Int32) (w3 : zW) , K44 a2 w3 = some (re, we) → zZ G X w3 44 [none, none, some (.int a2), none] []) : ∀ (n : Nat) (a1 : Nat) (a2 : Int32) (a3 : Int32) (w : zW) (ha1 : shp a1 = (9, 0)), l_X8_costOf_4 K44 n a1 a2 a3 w = some (re, we) → zZ G X w 4 [some (.ref (zα G 1)), some (.ref (zα G a1)), some (.int a2), some (.int a3)] [] := by
  intro n
  induction n with
  | zero =>
    intro a1 a2 a3 w ha1 h
    rw [l_X8_costOf_4.eq_1] at h
    cases h
  | succ n ih =>
    intro a1 a2 a3 w ha1 h
    rw [l_X8_costOf_4.eq_2] at h
    refine z_iload_n 4 hX dX8_costOf_4 rfl <|
      z_aload_n 5 hX dX8_costOf_5 rfl <|
      zgX8_84 6 hX dX8_costOf_6 ha1 <|
      z_icmp_ge 9 44 hX dX8_costOf_9 rfl h (fun q1 h => ?_) (fun q1 h => ?_)
    · refine z_weak (L' := [none, none, some (.int a2), none]) (zsub_n (zsub_n (zsub_s (zsub_n zsub_0)))) <|
        hK44 _ _ h
    · refine z_iload_n 12 hX dX8_costOf_12 rfl <|
        z_aload_n 13 hX dX8_costOf_13 rfl <|
        zgX8_133 14 hX dX8_costOf_14 ha1 <|
        z_iload_n 17 hX dX8_costOf_17 rfl <|
        z_iald 18 hX dX8_costOf_18 (zr9_stones _ ha1) h fun x2 _ h =>
        z_if_eq 19 35 hX dX8_costOf_19 rfl h (fun q3 h => ?_) (fun q3 h => ?_)
      · refine z_iconst 35 hX dX8_costOf_35 zki0 <|
          z_weak (L' := [some (.ref (zα G 1)), some (.ref (zα G a1)), none, some (.int a3)]) (zsub_s (zsub_s (zsub_n (zsub_s zsub_0)))) <|
          j_X8_costOf_36z hX hE ih hK44 ha1 h
      · refine z_aload_n 22 hX dX8_costOf_22 rfl <|
          z_aload_n 23 hX dX8_costOf_23 rfl <|
          zgX8_133 24 hX dX8_costOf_24 ha1 <|
          z_iload_n 27 hX dX8_costOf_27 rfl <|
          z_iald 28 hX dX8_costOf_28 (zr9_stones _ ha1) h fun x4 _ h =>
          zb12 h fun x6 w1 r5 h => zcX8_136 29 [.int x4] [.int a2] hX dX8_costOf_29 (c_X8_priceOf (zgd0 hX) r5) (rfl : shp 1 = (8, 0)) rfl rfl rfl (Nat.le_of_ble_eq_true rfl) (Nat.le_of_ble_eq_true rfl) <|
          z_goto 32 36 hX dX8_costOf_32 rfl <|
          z_weak (L' := [some (.ref (zα G 1)), some (.ref (zα G a1)), none, some (.int a3)]) (zsub_s (zsub_s (zsub_n (zsub_s zsub_0)))) <|
          j_X8_costOf_36z hX hE ih hK44 ha1 h
def f_X8_costOf (a1 : Nat) (w : zW) : Option (Int32 × zW) :=
  l_X8_costOf_4 (fun k44_a2 w11 =>
    some (k44_a2, w11)) zfuel a1 (nI 0) (nI 0) w
theorem c_X8_costOf {G : zG} {l : Launch} (hG : zgood G) {w : zW} {re : Int32} {we : zW} {a1 : Nat} (ha1 : shp a1 = (9, 0)) (h : f_X8_costOf a1 w = some (re, we)) : zMet G l yX8_costOf cX8_costOf 4 (some .int) 3 [.ref (zα G 1), .ref (zα G a1)] w (some (.int re)) we := by
  refine zMet_of (L0 := [some (.ref (zα G 1)), some (.ref (zα G a1)), none, none]) hG zplX8 (Nat.le_of_ble_eq_true rfl) rfl rfl (fun X hl hX hEI hEV hEA => ?_)
  subst hl
  have hX : zOk G X cX8_costOf 4 RX8 3 := hX
  have hE := hEI _ _ rfl rfl
  rw [f_X8_costOf] at h
  refine z_iconst 0 hX dX8_costOf_0 zki0 <|
    z_istore_n 1 [some (.ref (zα G 1)), some (.ref (zα G a1)), some (.int (nI 0)), none] hX dX8_costOf_1 (Nat.le_of_ble_eq_true rfl) rfl rfl <|
    z_iconst 2 hX dX8_costOf_2 zki0 <|
    z_istore_n 3 [some (.ref (zα G 1)), some (.ref (zα G a1)), some (.int (nI 0)), some (.int (nI 0))] hX dX8_costOf_3 (Nat.le_of_ble_eq_true rfl) rfl rfl <|
    l_X8_costOf_4z hX hE (fun k44_a2 w11 h => ?_) _ _ _ _ _ ha1 h
  · refine z_iload_n 44 hX dX8_costOf_44 rfl <|
      z_endI2 45 hE rfl h dX8_costOf_45
def l_X8_countHeap_4 (w : zW) (K25 : Int32 → Option Int32) : Nat → Int32 → Int32 → Option Int32
  | 0, _, _ => none
  | n + 1, a1, a2 =>
    if (nI 26) < a2 then
      K25 a1
    else
      zld w 38 27 a2 fun x2 =>
      zlet (a1 + x2) fun x3 =>
      zlet (a2 + nI 1) fun x4 =>
      (l_X8_countHeap_4 w K25 n) x3 x4
theorem l_X8_countHeap_4z {K25 : Int32 → Option Int32} {G : zG} {X : zX} {w : zW} {re : Int32} (hX : zOk G X cX8_countHeap 3 RX8 0) (hE : zEI G X cX8_countHeap .int re w) (hK25 : ∀ (a1 : Int32) , K25 a1 = some re → zZ G X w 25 [none, some (.int a1), none] []) : ∀ (n : Nat) (a1 : Int32) (a2 : Int32) , l_X8_countHeap_4 w K25 n a1 a2 = some re → zZ G X w 4 [some (.ref (zα G 1)), some (.int a1), some (.int a2)] [] := by
  intro n
  induction n with
  | zero =>
    intro a1 a2  h
    rw [l_X8_countHeap_4.eq_1] at h
    cases h
  | succ n ih =>
    intro a1 a2  h
    rw [l_X8_countHeap_4.eq_2] at h
    refine z_iload_n 4 hX dX8_countHeap_4 rfl <|
      z_bipush 5 hX dX8_countHeap_5 zkb26 <|
      z_icmp_gt 7 25 hX dX8_countHeap_7 rfl h (fun q1 h => ?_) (fun q1 h => ?_)
    · refine z_weak (L' := [none, some (.int a1), none]) (zsub_n (zsub_s (zsub_n zsub_0))) <|
        hK25 _ h
    · refine z_iload_n 10 hX dX8_countHeap_10 rfl <|
        z_aload_n 11 hX dX8_countHeap_11 rfl <|
        zgX8_38 12 hX dX8_countHeap_12 (rfl : shp 1 = (8, 0)) <|
        z_iload_n 15 hX dX8_countHeap_15 rfl <|
        z_iald 16 hX dX8_countHeap_16 (rfl : shp 38 = (20, 27)) h fun x2 _ h =>
        z_iadd 17 hX dX8_countHeap_17 <|
        z_top h fun x3 h =>
        z_istore_n 18 [some (.ref (zα G 1)), some (.int x3), some (.int a2)] hX dX8_countHeap_18 (Nat.le_of_ble_eq_true rfl) rfl rfl <|
        z_iincG 19 (fun x4 => [some (.ref (zα G 1)), some (.int x3), some (.int x4)]) hX dX8_countHeap_19 rfl zki1 rfl (fun _ => rfl) h fun x4 h =>
        z_goto 22 4 hX dX8_countHeap_22 rfl <|
        ih _ _ h
def f_X8_countHeap  (w : zW) : Option Int32 :=
  l_X8_countHeap_4 w (fun k25_a1 =>
    some k25_a1) zfuel (nI 0) (nI 1)
theorem c_X8_countHeap {G : zG} {l : Launch} (hG : zgood G) {w : zW} {re : Int32}   (h : f_X8_countHeap w = some re) : zMet G l yX8_countHeap cX8_countHeap 3 (some .int) 0 [.ref (zα G 1)] w (some (.int re)) w := by
  refine zMet_of (L0 := [some (.ref (zα G 1)), none, none]) hG zplX8 (Nat.le_of_ble_eq_true rfl) rfl rfl (fun X hl hX hEI hEV hEA => ?_)
  subst hl
  have hX : zOk G X cX8_countHeap 3 RX8 0 := hX
  have hE := hEI _ _ rfl rfl
  rw [f_X8_countHeap] at h
  refine z_iconst 0 hX dX8_countHeap_0 zki0 <|
    z_istore_n 1 [some (.ref (zα G 1)), some (.int (nI 0)), none] hX dX8_countHeap_1 (Nat.le_of_ble_eq_true rfl) rfl rfl <|
    z_iconst 2 hX dX8_countHeap_2 zki1 <|
    z_istore_n 3 [some (.ref (zα G 1)), some (.int (nI 0)), some (.int (nI 1))] hX dX8_countHeap_3 (Nat.le_of_ble_eq_true rfl) rfl rfl <|
    l_X8_countHeap_4z hX hE (fun k25_a1 h => ?_) _ _ _ h
  · refine z_iload_n 25 hX dX8_countHeap_25 rfl <|
      z_endI 26 hE rfl h dX8_countHeap_26
def f_X8_dropBrick (a1 : Nat) (a2 : Int32) (w : zW) : Option zW :=
  zld w (a1 + 1) 24 a2 fun x1 =>
  if x1 = nI 0 then
    some w
  else
    zld w 38 27 x1 fun x3 =>
    zsto w 38 27 x1 (if (x3 + (nI 1)) < (nI 99) then (x3 + (nI 1)) else (nI 99)) fun w1 =>
    zsto w1 (a1 + 1) 24 a2 (nI 0) fun w2 =>
    some w2
theorem c_X8_dropBrick {G : zG} {l : Launch} (hG : zgood G) {w : zW} {we : zW} {a1 : Nat} {a2 : Int32} (ha1 : shp a1 = (9, 0)) (h : f_X8_dropBrick a1 a2 w = some we) : zMet G l yX8_dropBrick cX8_dropBrick 4 none 1 [.ref (zα G 1), .ref (zα G a1), .int a2] w none we := by
  refine zMet_of (L0 := [some (.ref (zα G 1)), some (.ref (zα G a1)), some (.int a2), none]) hG zplX8 (Nat.le_of_ble_eq_true rfl) rfl rfl (fun X hl hX hEI hEV hEA => ?_)
  subst hl
  have hX : zOk G X cX8_dropBrick 4 RX8 1 := hX
  have hE := hEV rfl rfl
  rw [f_X8_dropBrick] at h
  refine z_aload_n 0 hX dX8_dropBrick_0 rfl <|
    zgX8_133 1 hX dX8_dropBrick_1 ha1 <|
    z_iload_n 4 hX dX8_dropBrick_4 rfl <|
    z_iald 5 hX dX8_dropBrick_5 (zr9_stones _ ha1) h fun x1 _ h =>
    z_istore_n 6 [some (.ref (zα G 1)), some (.ref (zα G a1)), some (.int a2), some (.int x1)] hX dX8_dropBrick_6 (Nat.le_of_ble_eq_true rfl) rfl rfl <|
    z_iload_n 7 hX dX8_dropBrick_7 rfl <|
    z_if_eq 8 37 hX dX8_dropBrick_8 rfl h (fun q2 h => ?_) (fun q2 h => ?_)
  · refine z_endV 37 hE h dX8_dropBrick_37
  · refine z_aload_n 11 hX dX8_dropBrick_11 rfl <|
      zgX8_38 12 hX dX8_dropBrick_12 (rfl : shp 1 = (8, 0)) <|
      z_iload_n 15 hX dX8_dropBrick_15 rfl <|
      z_bipush 16 hX dX8_dropBrick_16 zkb99 <|
      z_aload_n 18 hX dX8_dropBrick_18 rfl <|
      zgX8_38 19 hX dX8_dropBrick_19 (rfl : shp 1 = (8, 0)) <|
      z_iload_n 22 hX dX8_dropBrick_22 rfl <|
      z_iald 23 hX dX8_dropBrick_23 (rfl : shp 38 = (20, 27)) h fun x3 _ h =>
      z_iconst 24 hX dX8_dropBrick_24 zki1 <|
      z_iadd 25 hX dX8_dropBrick_25 <|
      z_mmin 26 hX dX8_dropBrick_26 zw553 zw538 zw86 zw539 rfl (Nat.le_of_ble_eq_true rfl) (Nat.le_of_ble_eq_true rfl) <|
      z_iast 29 hX dX8_dropBrick_29 (rfl : shp 38 = (20, 27)) h fun w1 h =>
      z_aload_n 30 hX dX8_dropBrick_30 rfl <|
      zgX8_133 31 hX dX8_dropBrick_31 ha1 <|
      z_iload_n 34 hX dX8_dropBrick_34 rfl <|
      z_iconst 35 hX dX8_dropBrick_35 zki0 <|
      z_iast 36 hX dX8_dropBrick_36 (zr9_stones _ ha1) h fun w2 h =>
      z_endV 37 hE h dX8_dropBrick_37
def f_X8_draw  (w : zW) : Option (Int32 × zW) :=
  zlet (zupd w 1 12 (((w 1 12) * (nI 1103515245)) + (nI 12345))) fun w1 =>
  some (((w1 1 12).toUInt32 >>> ((nI 8).toUInt32 &&& Int32.toUInt32 31)).toInt32, w1)
theorem c_X8_draw {G : zG} {l : Launch} (hG : zgood G) {w : zW} {re : Int32} {we : zW}   (h : f_X8_draw w = some (re, we)) : zMet G l yX8_draw cX8_draw 1 (some .int) 0 [.ref (zα G 1)] w (some (.int re)) we := by
  refine zMet_of (L0 := [some (.ref (zα G 1))]) hG zplX8 (Nat.le_of_ble_eq_true rfl) rfl rfl (fun X hl hX hEI hEV hEA => ?_)
  subst hl
  have hX : zOk G X cX8_draw 1 RX8 0 := hX
  have hE := hEI _ _ rfl rfl
  rw [f_X8_draw] at h
  refine z_aload_n 0 hX dX8_draw_0 rfl <|
    z_aload_n 1 hX dX8_draw_1 rfl <|
    zgX8_48 2 hX dX8_draw_2 (rfl : shp 1 = (8, 0)) <|
    z_ldc 5 hX dX8_draw_5 zw908 zkl1103515245 <|
    z_imul 7 hX dX8_draw_7 <|
    z_sipush 8 hX dX8_draw_8 zks12345 <|
    z_iadd 11 hX dX8_draw_11 <|
    zpX8_48 12 hX dX8_draw_12 (rfl : shp 1 = (8, 0)) <|
    z_w h fun w1 h =>
    z_aload_n 15 hX dX8_draw_15 rfl <|
    zgX8_48 16 hX dX8_draw_16 (rfl : shp 1 = (8, 0)) <|
    z_bipush 19 hX dX8_draw_19 zkb8 <|
    z_iushr 21 hX dX8_draw_21 <|
    z_endI2 22 hE rfl h dX8_draw_22
def f_X9_begin (a0 : Nat) (a1 : Int32) (a2 : Int32) (a3 : Int32) (w : zW) : Option zW :=
  zlet (zupd w a0 1 a1) fun w1 =>
  zlet (zupd w1 a0 2 a2) fun w2 =>
  zlet (zupd w2 a0 3 a3) fun w3 =>
  zb (f_J7_fill_53178 (a0 + 1) 24 (nI 0) w3) fun w4 =>
  some w4
theorem c_X9_begin {G : zG} {l : Launch} (hG : zgood G) {w : zW} {we : zW} {a0 : Nat} {a1 : Int32} {a2 : Int32} {a3 : Int32} (ha0 : shp a0 = (9, 0)) (h : f_X9_begin a0 a1 a2 a3 w = some we) : zMet G l yX9_begin cX9_begin 4 none 1 [.ref (zα G a0), .int a1, .int a2, .int a3] w none we := by
  refine zMet_of (L0 := [some (.ref (zα G a0)), some (.int a1), some (.int a2), some (.int a3)]) hG zplX9 (Nat.le_of_ble_eq_true rfl) rfl rfl (fun X hl hX hEI hEV hEA => ?_)
  subst hl
  have hX : zOk G X cX9_begin 4 RX9 1 := hX
  have hE := hEV rfl rfl
  rw [f_X9_begin] at h
  refine z_aload_n 0 hX dX9_begin_0 rfl <|
    z_iload_n 1 hX dX9_begin_1 rfl <|
    zpX9_15 2 hX dX9_begin_2 ha0 <|
    z_w h fun w1 h =>
    z_aload_n 5 hX dX9_begin_5 rfl <|
    z_iload_n 6 hX dX9_begin_6 rfl <|
    zpX9_19 7 hX dX9_begin_7 ha0 <|
    z_w h fun w2 h =>
    z_aload_n 10 hX dX9_begin_10 rfl <|
    z_iload_n 11 hX dX9_begin_11 rfl <|
    zpX9_22 12 hX dX9_begin_12 ha0 <|
    z_w h fun w3 h =>
    z_aload_n 15 hX dX9_begin_15 rfl <|
    zgX9_9 16 hX dX9_begin_16 ha0 <|
    z_iconst 19 hX dX9_begin_19 zki0 <|
    zb1 h fun w4 r1 h => zcX9_25 20 [.ref (zα G (a0 + 1)), .int (nI 0)] [] hX dX9_begin_20 (c_J7_fill_53178 (zgd0 hX) (zr9_stones _ ha0) r1) rfl rfl rfl (Nat.le_of_ble_eq_true rfl) (Nat.le_of_ble_eq_true rfl) <|
    z_endV 23 hE h dX9_begin_23
def l_X9_openFrom_18 (K38 : zW → Option zW) : Nat → Nat → Int32 → Int32 → zW → Option zW
  | 0, _, _, _, _ => none
  | n + 1, a0, a3, a4, w =>
    if a4 < a3 then
      zsto w (a0 + 1) 24 a4 (nI 0) fun w1 =>
      zlet (a4 + nI 1) fun x2 =>
      (l_X9_openFrom_18 K38 n) a0 a3 x2 w1
    else
      K38 w
theorem l_X9_openFrom_18z {K38 : zW → Option zW} {G : zG} {X : zX} {we : zW} (hX : zOk G X cX9_openFrom 5 RX9 1) (hE : zEV G X cX9_openFrom we) (hK38 : ∀ (w3 : zW) , K38 w3 = some we → zZ G X w3 38 [none, none, none, none, none] []) : ∀ (n : Nat) (a0 : Nat) (a3 : Int32) (a4 : Int32) (w : zW) (ha0 : shp a0 = (9, 0)), l_X9_openFrom_18 K38 n a0 a3 a4 w = some we → zZ G X w 18 [some (.ref (zα G a0)), none, none, some (.int a3), some (.int a4)] [] := by
  intro n
  induction n with
  | zero =>
    intro a0 a3 a4 w ha0 h
    rw [l_X9_openFrom_18.eq_1] at h
    cases h
  | succ n ih =>
    intro a0 a3 a4 w ha0 h
    rw [l_X9_openFrom_18.eq_2] at h
    refine z_iload 18 hX dX9_openFrom_18 rfl <|
      z_iload_n 20 hX dX9_openFrom_20 rfl <|
      z_icmp_ge 21 38 hX dX9_openFrom_21 rfl h (fun q1 h => ?_) (fun q1 h => ?_)
    · refine z_weak (L' := [none, none, none, none, none]) (zsub_n (zsub_n (zsub_n (zsub_n (zsub_n zsub_0))))) <|
        hK38 _ h
    · refine z_aload_n 24 hX dX9_openFrom_24 rfl <|
        zgX9_9 25 hX dX9_openFrom_25 ha0 <|
        z_iload 28 hX dX9_openFrom_28 rfl <|
        z_iconst 30 hX dX9_openFrom_30 zki0 <|
        z_iast 31 hX dX9_openFrom_31 (zr9_stones _ ha0) h fun w1 h =>
        z_iincG 32 (fun x2 => [some (.ref (zα G a0)), none, none, some (.int a3), some (.int x2)]) hX dX9_openFrom_32 rfl zki1 rfl (fun _ => rfl) h fun x2 h =>
        z_goto 35 18 hX dX9_openFrom_35 rfl <|
        ih _ _ _ _ ha0 h
def f_X9_openFrom (a0 : Nat) (a1 : Int32) (a2 : Int32) (w : zW) : Option zW :=
  zlet (if (a1 + a2) < (w a0 3) then (a1 + a2) else (w a0 3)) fun x1 =>
  zlet (if a1 < (nI 0) then (nI 0) else a1) fun x2 =>
  l_X9_openFrom_18 (fun w11 =>
    some w11) zfuel a0 x1 x2 w
theorem c_X9_openFrom {G : zG} {l : Launch} (hG : zgood G) {w : zW} {we : zW} {a0 : Nat} {a1 : Int32} {a2 : Int32} (ha0 : shp a0 = (9, 0)) (h : f_X9_openFrom a0 a1 a2 w = some we) : zMet G l yX9_openFrom cX9_openFrom 5 none 1 [.ref (zα G a0), .int a1, .int a2] w none we := by
  refine zMet_of (L0 := [some (.ref (zα G a0)), some (.int a1), some (.int a2), none, none]) hG zplX9 (Nat.le_of_ble_eq_true rfl) rfl rfl (fun X hl hX hEI hEV hEA => ?_)
  subst hl
  have hX : zOk G X cX9_openFrom 5 RX9 1 := hX
  have hE := hEV rfl rfl
  rw [f_X9_openFrom] at h
  refine z_aload_n 0 hX dX9_openFrom_0 rfl <|
    zgX9_22 1 hX dX9_openFrom_1 ha0 <|
    z_iload_n 4 hX dX9_openFrom_4 rfl <|
    z_iload_n 5 hX dX9_openFrom_5 rfl <|
    z_iadd 6 hX dX9_openFrom_6 <|
    z_mmin 7 hX dX9_openFrom_7 zw775 zw538 zw86 zw539 rfl (Nat.le_of_ble_eq_true rfl) (Nat.le_of_ble_eq_true rfl) <|
    z_top h fun x1 h =>
    z_istore_n 10 [some (.ref (zα G a0)), some (.int a1), some (.int a2), some (.int x1), none] hX dX9_openFrom_10 (Nat.le_of_ble_eq_true rfl) rfl rfl <|
    z_iload_n 11 hX dX9_openFrom_11 rfl <|
    z_iconst 12 hX dX9_openFrom_12 zki0 <|
    z_mmax 13 hX dX9_openFrom_13 zw776 zw555 zw86 zw556 rfl (Nat.le_of_ble_eq_true rfl) (Nat.le_of_ble_eq_true rfl) <|
    z_top h fun x2 h =>
    z_istore 16 [some (.ref (zα G a0)), some (.int a1), some (.int a2), some (.int x1), some (.int x2)] hX dX9_openFrom_16 (Nat.le_of_ble_eq_true rfl) rfl rfl <|
    z_weak (L' := [some (.ref (zα G a0)), none, none, some (.int x1), some (.int x2)]) (zsub_s (zsub_n (zsub_n (zsub_s (zsub_s zsub_0))))) <|
    l_X9_openFrom_18z hX hE (fun w11 h => ?_) _ _ _ _ _ ha0 h
  · refine z_endV 38 hE h dX9_openFrom_38
def j_X9_countLetters_27 (rc : Nat → Int32 → Int32 → Option Int32) (K35 : Int32 → Option Int32) (w : zW) (a0 : Nat) (a2 : Int32) (b0 : Int32) (b1 : Int32)  : Option Int32 :=
  zlet (b0 + b1) fun x1 =>
  zlet (a2 + nI 1) fun x2 =>
  rc a0 x1 x2
theorem j_X9_countLetters_27z {rc : Nat → Int32 → Int32 → Option Int32} {K35 : Int32 → Option Int32} {G : zG} {X : zX} {w : zW} {re : Int32} {a0 : Nat} {a2 : Int32} {b0 : Int32} {b1 : Int32} (hX : zOk G X cX9_countLetters 3 RX9 0) (hE : zEI G X cX9_countLetters .int re w) (hrc : ∀ (a0 : Nat) (a1 : Int32) (a2 : Int32) (ha0 : shp a0 = (9, 0)), rc a0 a1 a2 = some re → zZ G X w 4 [some (.ref (zα G a0)), some (.int a1), some (.int a2)] []) (hK35 : ∀ (a1 : Int32) , K35 a1 = some re → zZ G X w 35 [none, some (.int a1), none] []) (ha0 : shp a0 = (9, 0)) (h : j_X9_countLetters_27 rc K35 w a0 a2 b0 b1 = some re) : zZ G X w 27 [some (.ref (zα G a0)), none, some (.int a2)] [.int b1, .int b0] := by
  rw [j_X9_countLetters_27] at h
  refine z_iadd 27 hX dX9_countLetters_27 <|
    z_top h fun x1 h =>
    z_istore_n 28 [some (.ref (zα G a0)), some (.int x1), some (.int a2)] hX dX9_countLetters_28 (Nat.le_of_ble_eq_true rfl) rfl rfl <|
    z_iincG 29 (fun x2 => [some (.ref (zα G a0)), some (.int x1), some (.int x2)]) hX dX9_countLetters_29 rfl zki1 rfl (fun _ => rfl) h fun x2 h =>
    z_goto 32 4 hX dX9_countLetters_32 rfl <|
    hrc _ _ _ ha0 h
def l_X9_countLetters_4 (w : zW) (K35 : Int32 → Option Int32) : Nat → Nat → Int32 → Int32 → Option Int32
  | 0, _, _, _ => none
  | n + 1, a0, a1, a2 =>
    if a2 < (w a0 3) then
      zld w (a0 + 1) 24 a2 fun x2 =>
      if x2 = nI 0 then
        j_X9_countLetters_27 (l_X9_countLetters_4 w K35 n) K35 w a0 a2 a1 (nI 0)
      else
        j_X9_countLetters_27 (l_X9_countLetters_4 w K35 n) K35 w a0 a2 a1 (nI 1)
    else
      K35 a1
theorem l_X9_countLetters_4z {K35 : Int32 → Option Int32} {G : zG} {X : zX} {w : zW} {re : Int32} (hX : zOk G X cX9_countLetters 3 RX9 0) (hE : zEI G X cX9_countLetters .int re w) (hK35 : ∀ (a1 : Int32) , K35 a1 = some re → zZ G X w 35 [none, some (.int a1), none] []) : ∀ (n : Nat) (a0 : Nat) (a1 : Int32) (a2 : Int32) (ha0 : shp a0 = (9, 0)), l_X9_countLetters_4 w K35 n a0 a1 a2 = some re → zZ G X w 4 [some (.ref (zα G a0)), some (.int a1), some (.int a2)] [] := by
  intro n
  induction n with
  | zero =>
    intro a0 a1 a2 ha0 h
    rw [l_X9_countLetters_4.eq_1] at h
    cases h
  | succ n ih =>
    intro a0 a1 a2 ha0 h
    rw [l_X9_countLetters_4.eq_2] at h
    refine z_iload_n 4 hX dX9_countLetters_4 rfl <|
      z_aload_n 5 hX dX9_countLetters_5 rfl <|
      zgX9_22 6 hX dX9_countLetters_6 ha0 <|
      z_icmp_ge 9 35 hX dX9_countLetters_9 rfl h (fun q1 h => ?_) (fun q1 h => ?_)
    · refine z_weak (L' := [none, some (.int a1), none]) (zsub_n (zsub_s (zsub_n zsub_0))) <|
        hK35 _ h
    · refine z_iload_n 12 hX dX9_countLetters_12 rfl <|
        z_aload_n 13 hX dX9_countLetters_13 rfl <|
        zgX9_9 14 hX dX9_countLetters_14 ha0 <|
        z_iload_n 17 hX dX9_countLetters_17 rfl <|
        z_iald 18 hX dX9_countLetters_18 (zr9_stones _ ha0) h fun x2 _ h =>
        z_if_eq 19 26 hX dX9_countLetters_19 rfl h (fun q3 h => ?_) (fun q3 h => ?_)
      · refine z_iconst 26 hX dX9_countLetters_26 zki0 <|
          z_weak (L' := [some (.ref (zα G a0)), none, some (.int a2)]) (zsub_s (zsub_n (zsub_s zsub_0))) <|
          j_X9_countLetters_27z hX hE ih hK35 ha0 h
      · refine z_iconst 22 hX dX9_countLetters_22 zki1 <|
          z_goto 23 27 hX dX9_countLetters_23 rfl <|
          z_weak (L' := [some (.ref (zα G a0)), none, some (.int a2)]) (zsub_s (zsub_n (zsub_s zsub_0))) <|
          j_X9_countLetters_27z hX hE ih hK35 ha0 h
def f_X9_countLetters (a0 : Nat) (w : zW) : Option Int32 :=
  l_X9_countLetters_4 w (fun k35_a1 =>
    some k35_a1) zfuel a0 (nI 0) (nI 0)
theorem c_X9_countLetters {G : zG} {l : Launch} (hG : zgood G) {w : zW} {re : Int32} {a0 : Nat} (ha0 : shp a0 = (9, 0)) (h : f_X9_countLetters a0 w = some re) : zMet G l yX9_countLetters cX9_countLetters 3 (some .int) 0 [.ref (zα G a0)] w (some (.int re)) w := by
  refine zMet_of (L0 := [some (.ref (zα G a0)), none, none]) hG zplX9 (Nat.le_of_ble_eq_true rfl) rfl rfl (fun X hl hX hEI hEV hEA => ?_)
  subst hl
  have hX : zOk G X cX9_countLetters 3 RX9 0 := hX
  have hE := hEI _ _ rfl rfl
  rw [f_X9_countLetters] at h
  refine z_iconst 0 hX dX9_countLetters_0 zki0 <|
    z_istore_n 1 [some (.ref (zα G a0)), some (.int (nI 0)), none] hX dX9_countLetters_1 (Nat.le_of_ble_eq_true rfl) rfl rfl <|
    z_iconst 2 hX dX9_countLetters_2 zki0 <|
    z_istore_n 3 [some (.ref (zα G a0)), some (.int (nI 0)), some (.int (nI 0))] hX dX9_countLetters_3 (Nat.le_of_ble_eq_true rfl) rfl rfl <|
    l_X9_countLetters_4z hX hE (fun k35_a1 h => ?_) _ _ _ _ ha0 h
  · refine z_iload_n 35 hX dX9_countLetters_35 rfl <|
      z_endI 36 hE rfl h dX9_countLetters_36
def f_X10_begin (a0 : Nat) (a1 : Int32) (a2 : Int32) (w : zW) : Option zW :=
  zlet (zupd w a0 1 a1) fun w1 =>
  zlet (zupd w1 (a0 + 1) 0 a2) fun w2 =>
  zlet (zupd w2 a0 2 (nI 1)) fun w3 =>
  some w3
theorem c_X10_begin {G : zG} {l : Launch} (hG : zgood G) {w : zW} {we : zW} {a0 : Nat} {a1 : Int32} {a2 : Int32} (ha0 : shp a0 = (10, 0)) (h : f_X10_begin a0 a1 a2 w = some we) : zMet G l yX10_begin cX10_begin 3 none 0 [.ref (zα G a0), .int a1, .int a2] w none we := by
  refine zMet_of (L0 := [some (.ref (zα G a0)), some (.int a1), some (.int a2)]) hG zplX10 (Nat.le_of_ble_eq_true rfl) rfl rfl (fun X hl hX hEI hEV hEA => ?_)
  subst hl
  have hX : zOk G X cX10_begin 3 RX10 0 := hX
  have hE := hEV rfl rfl
  rw [f_X10_begin] at h
  refine z_aload_n 0 hX dX10_begin_0 rfl <|
    z_iload_n 1 hX dX10_begin_1 rfl <|
    zpX10_15 2 hX dX10_begin_2 ha0 <|
    z_w h fun w1 h =>
    z_aload_n 5 hX dX10_begin_5 rfl <|
    zgX10_9 6 hX dX10_begin_6 ha0 <|
    z_iconst 9 hX dX10_begin_9 zki0 <|
    z_iload_n 10 hX dX10_begin_10 rfl <|
    z_iastc (j := 0) 11 hX dX10_begin_11 (zr10_letters _ ha0) (zink 0 6 (by decide) (by decide)) (nI_clamp (by decide)) <|
    z_w h fun w2 h =>
    z_aload_n 12 hX dX10_begin_12 rfl <|
    z_iconst 13 hX dX10_begin_13 zki1 <|
    zpX10_19 14 hX dX10_begin_14 ha0 <|
    z_w h fun w3 h =>
    z_endV 17 hE h dX10_begin_17
def f_X11_error (a1 : Int32) (w : zW) : Option (Int32 × zW) :=
  zld w 127 7 a1 fun x1 =>
  zsto w 127 7 a1 (x1 + (nI 1)) fun w1 =>
  some ((mI 1000000) - a1, w1)
theorem c_X11_error {G : zG} {l : Launch} (hG : zgood G) {w : zW} {re : Int32} {we : zW} {a1 : Int32}  (h : f_X11_error a1 w = some (re, we)) : zMet G l yX11_error cX11_error 2 (some .int) 0 [.ref (zα G 0), .int a1] w (some (.int re)) we := by
  refine zMet_of (L0 := [some (.ref (zα G 0)), some (.int a1)]) hG zplX11 (Nat.le_of_ble_eq_true rfl) rfl rfl (fun X hl hX hEI hEV hEA => ?_)
  subst hl
  have hX : zOk G X cX11_error 2 RX11 0 := hX
  have hE := hEI _ _ rfl rfl
  rw [f_X11_error] at h
  refine z_aload_n 0 hX dX11_error_0 rfl <|
    zgX11_68 1 hX dX11_error_1 (rfl : shp 0 = (11, 0)) <|
    z_iload_n 4 hX dX11_error_4 rfl <|
    z_dup2 5 hX dX11_error_5 rfl rfl <|
    z_iald 6 hX dX11_error_6 (rfl : shp 127 = (20, 7)) h fun x1 _ h =>
    z_iconst 7 hX dX11_error_7 zki1 <|
    z_iadd 8 hX dX11_error_8 <|
    z_iast 9 hX dX11_error_9 (rfl : shp 127 = (20, 7)) h fun w1 h =>
    z_ldc_w 10 hX dX11_error_10 zw447 zklm1000000 <|
    z_iload_n 13 hX dX11_error_13 rfl <|
    z_isub 14 hX dX11_error_14 <|
    z_endI2 15 hE rfl h dX11_error_15
def j_X11_wall_20  (w : zW) : Option (Int32 × zW) :=
  zb2 (f_X11_error (nI 1) w) fun x2 w1 =>
  some (x2, w1)
theorem j_X11_wall_20z {G : zG} {X : zX} {w : zW} {re : Int32} {we : zW}  (hX : zOk G X cX11_wall 3 RX11 2) (hE : zEI G X cX11_wall .int re we)  (h : j_X11_wall_20 w = some (re, we)) : zZ G X w 20 [some (.ref (zα G 0)), none, none] [] := by
  rw [j_X11_wall_20] at h
  refine z_aload_n 20 hX dX11_wall_20 rfl <|
    z_iconst 21 hX dX11_wall_21 zki1 <|
    zb12 h fun x2 w1 r1 h => zcX11_72 22 [.int (nI 1)] [] hX dX11_wall_22 (c_X11_error (zgd0 hX) r1) (rfl : shp 0 = (11, 0)) rfl rfl rfl (Nat.le_of_ble_eq_true rfl) (Nat.le_of_ble_eq_true rfl) <|
    z_endI2 25 hE rfl h dX11_wall_25
def f_X11_wall (a1 : Int32) (a2 : Int32) (w : zW) : Option (Int32 × zW) :=
  if a1 < nI 0 then
    j_X11_wall_20 w
  else
  if a1 < (nI 70) then
    if a2 < nI 0 then
      j_X11_wall_20 w
    else
    if (nI 24) < a2 then
      j_X11_wall_20 w
    else
    if (w 1 7) < (nI 6) then
      zguard (zin (w 1 7) 6) (
      zb (f_X9_begin (40 + 2 * (w 1 7).toNatClampNeg) (a1 / (nI 10)) (a1 - a1 / (nI 10) * (nI 10)) a2 w) fun w1 =>
      zlet (zupd w1 1 7 ((w1 1 7) + (nI 1))) fun w2 =>
      some ((w2 1 7) - (nI 1), w2))
    else
      zb2 (f_X11_error (nI 4) w) fun x9 w3 =>
      some (x9, w3)
  else
    j_X11_wall_20 w
theorem c_X11_wall {G : zG} {l : Launch} (hG : zgood G) {w : zW} {re : Int32} {we : zW} {a1 : Int32} {a2 : Int32}  (h : f_X11_wall a1 a2 w = some (re, we)) : zMet G l yX11_wall cX11_wall 3 (some .int) 2 [.ref (zα G 0), .int a1, .int a2] w (some (.int re)) we := by
  refine zMet_of (L0 := [some (.ref (zα G 0)), some (.int a1), some (.int a2)]) hG zplX11 (Nat.le_of_ble_eq_true rfl) rfl rfl (fun X hl hX hEI hEV hEA => ?_)
  subst hl
  have hX : zOk G X cX11_wall 3 RX11 2 := hX
  have hE := hEI _ _ rfl rfl
  rw [f_X11_wall] at h
  refine z_iload_n 0 hX dX11_wall_0 rfl <|
    z_if_lt 1 20 hX dX11_wall_1 rfl h (fun q1 h => ?_) (fun q1 h => ?_)
  · refine z_weak (L' := [some (.ref (zα G 0)), none, none]) (zsub_s (zsub_n (zsub_n zsub_0))) <|
      j_X11_wall_20z hX hE h
  · refine z_iload_n 4 hX dX11_wall_4 rfl <|
      z_bipush 5 hX dX11_wall_5 zkb70 <|
      z_icmp_ge 7 20 hX dX11_wall_7 rfl h (fun q2 h => ?_) (fun q2 h => ?_)
    · refine z_weak (L' := [some (.ref (zα G 0)), none, none]) (zsub_s (zsub_n (zsub_n zsub_0))) <|
        j_X11_wall_20z hX hE h
    · refine z_iload_n 10 hX dX11_wall_10 rfl <|
        z_if_lt 11 20 hX dX11_wall_11 rfl h (fun q3 h => ?_) (fun q3 h => ?_)
      · refine z_weak (L' := [some (.ref (zα G 0)), none, none]) (zsub_s (zsub_n (zsub_n zsub_0))) <|
          j_X11_wall_20z hX hE h
      · refine z_iload_n 14 hX dX11_wall_14 rfl <|
          z_bipush 15 hX dX11_wall_15 zkb24 <|
          z_icmp_le 17 26 hX dX11_wall_17 rfl h (fun q4 h => ?_) (fun q4 h => ?_)
        · refine z_aload_n 26 hX dX11_wall_26 rfl <|
            zgX11_12 27 hX dX11_wall_27 (rfl : shp 0 = (11, 0)) <|
            zgX11_76 30 hX dX11_wall_30 (rfl : shp 1 = (8, 0)) <|
            z_bipush 33 hX dX11_wall_33 zkb6 <|
            z_icmp_lt 35 44 hX dX11_wall_35 rfl h (fun q5 h => ?_) (fun q5 h => ?_)
          · refine z_aload_n 44 hX dX11_wall_44 rfl <|
              zgX11_12 45 hX dX11_wall_45 (rfl : shp 0 = (11, 0)) <|
              zgX11_80 48 hX dX11_wall_48 (rfl : shp 1 = (8, 0)) <|
              z_aload_n 51 hX dX11_wall_51 rfl <|
              zgX11_12 52 hX dX11_wall_52 (rfl : shp 0 = (11, 0)) <|
              zgX11_76 55 hX dX11_wall_55 (rfl : shp 1 = (8, 0)) <|
              z_aald 58 hX dX11_wall_58 (rfl : shp 2 = (21, 6)) (by decide) h fun q6 h =>
              z_iload_n 59 hX dX11_wall_59 rfl <|
              z_bipush 60 hX dX11_wall_60 zkb10 <|
              z_idivc 62 hX dX11_wall_62 (by decide) <|
              z_iload_n 63 hX dX11_wall_63 rfl <|
              z_bipush 64 hX dX11_wall_64 zkb10 <|
              z_iremc 66 hX dX11_wall_66 (by decide) <|
              z_iload_n 67 hX dX11_wall_67 rfl <|
              zb1 h fun w1 r7 h => zcX11_84 68 [.int (a1 / (nI 10)), .int (a1 - a1 / (nI 10) * (nI 10)), .int a2] [] hX dX11_wall_68 (c_X9_begin (zgd0 hX) (ze21 _ (rfl : shp 2 = (21, 6)) _ q6) r7) (ze21 _ (rfl : shp 2 = (21, 6)) _ q6) rfl rfl rfl (Nat.le_of_ble_eq_true rfl) (Nat.le_of_ble_eq_true rfl) <|
              z_aload_n 71 hX dX11_wall_71 rfl <|
              zgX11_12 72 hX dX11_wall_72 (rfl : shp 0 = (11, 0)) <|
              z_dup 75 hX dX11_wall_75 rfl <|
              zgX11_76 76 hX dX11_wall_76 (rfl : shp 1 = (8, 0)) <|
              z_iconst 79 hX dX11_wall_79 zki1 <|
              z_iadd 80 hX dX11_wall_80 <|
              zpX11_76 81 hX dX11_wall_81 (rfl : shp 1 = (8, 0)) <|
              z_w h fun w2 h =>
              z_aload_n 84 hX dX11_wall_84 rfl <|
              zgX11_12 85 hX dX11_wall_85 (rfl : shp 0 = (11, 0)) <|
              zgX11_76 88 hX dX11_wall_88 (rfl : shp 1 = (8, 0)) <|
              z_iconst 91 hX dX11_wall_91 zki1 <|
              z_isub 92 hX dX11_wall_92 <|
              z_endI2 93 hE rfl h dX11_wall_93
          · refine z_aload_n 38 hX dX11_wall_38 rfl <|
              z_iconst 39 hX dX11_wall_39 zki4 <|
              zb12 h fun x9 w3 r8 h => zcX11_72 40 [.int (nI 4)] [] hX dX11_wall_40 (c_X11_error (zgd0 hX) r8) (rfl : shp 0 = (11, 0)) rfl rfl rfl (Nat.le_of_ble_eq_true rfl) (Nat.le_of_ble_eq_true rfl) <|
              z_endI2 43 hE rfl h dX11_wall_43
        · refine z_weak (L' := [some (.ref (zα G 0)), none, none]) (zsub_s (zsub_n (zsub_n zsub_0))) <|
            j_X11_wall_20z hX hE h
def j_X11_wallIs_21  (w : zW) : Option (Int32 × zW) :=
  zb2 (f_X11_error (nI 1) w) fun x2 w1 =>
  some (x2, w1)
theorem j_X11_wallIs_21z {G : zG} {X : zX} {w : zW} {re : Int32} {we : zW}  (hX : zOk G X cX11_wallIs 4 RX11 4) (hE : zEI G X cX11_wallIs .int re we)  (h : j_X11_wallIs_21 w = some (re, we)) : zZ G X w 21 [some (.ref (zα G 0)), none, none, none] [] := by
  rw [j_X11_wallIs_21] at h
  refine z_aload_n 21 hX dX11_wallIs_21 rfl <|
    z_iconst 22 hX dX11_wallIs_22 zki1 <|
    zb12 h fun x2 w1 r1 h => zcX11_72 23 [.int (nI 1)] [] hX dX11_wallIs_23 (c_X11_error (zgd0 hX) r1) (rfl : shp 0 = (11, 0)) rfl rfl rfl (Nat.le_of_ble_eq_true rfl) (Nat.le_of_ble_eq_true rfl) <|
    z_endI2 26 hE rfl h dX11_wallIs_26
def f_X11_wallIs (a1 : Int32) (a2 : Int32) (w : zW) : Option (Int32 × zW) :=
  zb (f_X8_hasWall a1 w) fun x2 =>
  if x2 = nI 0 then
    j_X11_wallIs_21 w
  else
  if a2 < nI 0 then
    j_X11_wallIs_21 w
  else
  if (nI 7) < a2 then
    j_X11_wallIs_21 w
  else
    zguard (zin a1 6) (
    zb (f_X8_spell (40 + 2 * a1.toNatClampNeg) a1 w) fun w1 =>
    if a2 = nI 0 then
      some (w1 (40 + 2 * a1.toNatClampNeg) 1, w1)
    else
    if a2 = nI 1 then
      some (w1 (40 + 2 * a1.toNatClampNeg) 2, w1)
    else
    if a2 = nI 2 then
      some (w1 (40 + 2 * a1.toNatClampNeg) 3, w1)
    else
    if a2 = nI 3 then
      some (w1 116 1, w1)
    else
    if a2 = nI 4 then
      zb2 (f_X1_hold w1) fun x14 w2 =>
      if x14 = nI 0 then
        some (nI 0, w2)
      else
        some (nI 1, w2)
    else
    if a2 = nI 5 then
      zb2 (f_X1_countWays w1) fun x18 w3 =>
      some (x18, w3)
    else
    if a2 = nI 6 then
      zb2 (f_X1_stuckAt w1) fun x21 w4 =>
      some (x21, w4)
    else
      zb2 (f_X8_costOf (40 + 2 * a1.toNatClampNeg) w1) fun x23 w5 =>
      some (x23, w5))
theorem c_X11_wallIs {G : zG} {l : Launch} (hG : zgood G) {w : zW} {re : Int32} {we : zW} {a1 : Int32} {a2 : Int32}  (h : f_X11_wallIs a1 a2 w = some (re, we)) : zMet G l yX11_wallIs cX11_wallIs 4 (some .int) 4 [.ref (zα G 0), .int a1, .int a2] w (some (.int re)) we := by
  refine zMet_of (L0 := [some (.ref (zα G 0)), some (.int a1), some (.int a2), none]) hG zplX11 (Nat.le_of_ble_eq_true rfl) rfl rfl (fun X hl hX hEI hEV hEA => ?_)
  subst hl
  have hX : zOk G X cX11_wallIs 4 RX11 4 := hX
  have hE := hEI _ _ rfl rfl
  rw [f_X11_wallIs] at h
  refine z_aload_n 0 hX dX11_wallIs_0 rfl <|
    zgX11_12 1 hX dX11_wallIs_1 (rfl : shp 0 = (11, 0)) <|
    z_iload_n 4 hX dX11_wallIs_4 rfl <|
    zb1 h fun x2 r1 h => zcX11_88 5 [.int a1] [] hX dX11_wallIs_5 (c_X8_hasWall (zgd0 hX) r1) (rfl : shp 1 = (8, 0)) rfl rfl rfl (Nat.le_of_ble_eq_true rfl) (Nat.le_of_ble_eq_true rfl) <|
    z_if_eq 8 21 hX dX11_wallIs_8 rfl h (fun q3 h => ?_) (fun q3 h => ?_)
  · refine z_weak (L' := [some (.ref (zα G 0)), none, none, none]) (zsub_s (zsub_n (zsub_n (zsub_n zsub_0)))) <|
      j_X11_wallIs_21z hX hE h
  · refine z_iload_n 11 hX dX11_wallIs_11 rfl <|
      z_if_lt 12 21 hX dX11_wallIs_12 rfl h (fun q4 h => ?_) (fun q4 h => ?_)
    · refine z_weak (L' := [some (.ref (zα G 0)), none, none, none]) (zsub_s (zsub_n (zsub_n (zsub_n zsub_0)))) <|
        j_X11_wallIs_21z hX hE h
    · refine z_iload_n 15 hX dX11_wallIs_15 rfl <|
        z_bipush 16 hX dX11_wallIs_16 zkb7 <|
        z_icmp_le 18 27 hX dX11_wallIs_18 rfl h (fun q5 h => ?_) (fun q5 h => ?_)
      · refine z_aload_n 27 hX dX11_wallIs_27 rfl <|
          zgX11_12 28 hX dX11_wallIs_28 (rfl : shp 0 = (11, 0)) <|
          zgX11_80 31 hX dX11_wallIs_31 (rfl : shp 1 = (8, 0)) <|
          z_iload_n 34 hX dX11_wallIs_34 rfl <|
          z_aald 35 hX dX11_wallIs_35 (rfl : shp 2 = (21, 6)) (by decide) h fun q6 h =>
          z_astore_n 36 [some (.ref (zα G 0)), some (.int a1), some (.int a2), some (.ref (zα G (40 + 2 * a1.toNatClampNeg)))] hX dX11_wallIs_36 (Nat.le_of_ble_eq_true rfl) rfl rfl <|
          z_aload_n 37 hX dX11_wallIs_37 rfl <|
          zgX11_12 38 hX dX11_wallIs_38 (rfl : shp 0 = (11, 0)) <|
          z_aload_n 41 hX dX11_wallIs_41 rfl <|
          z_iload_n 42 hX dX11_wallIs_42 rfl <|
          z_aload_n 43 hX dX11_wallIs_43 rfl <|
          zgX11_36 44 hX dX11_wallIs_44 (rfl : shp 0 = (11, 0)) <|
          zb1 h fun w1 r7 h => zcX11_92 47 [.ref (zα G (40 + 2 * a1.toNatClampNeg)), .int a1, .ref (zα G 116)] [] hX dX11_wallIs_47 (c_X8_spell (zgd0 hX) (ze21 _ (rfl : shp 2 = (21, 6)) _ q6) r7) (rfl : shp 1 = (8, 0)) rfl rfl rfl (Nat.le_of_ble_eq_true rfl) (Nat.le_of_ble_eq_true rfl) <|
          z_iload_n 50 hX dX11_wallIs_50 rfl <|
          ?_
        rcases zif h with ⟨q8, h⟩ | ⟨q8, h⟩
        · refine z_tsIn (off := 41) 51 92 (0) hX dX11_wallIs_51 (zti 0 (by decide) q8) (by decide) (by decide) (by decide) rfl <|
            z_aload_n 92 hX dX11_wallIs_92 rfl <|
            zgX11_96 93 hX dX11_wallIs_93 (ze21 _ (rfl : shp 2 = (21, 6)) _ q6) <|
            z_endI2 96 hE rfl h dX11_wallIs_96
        rcases zif h with ⟨q9, h⟩ | ⟨q9, h⟩
        · refine z_tsIn (off := 46) 51 97 (1) hX dX11_wallIs_51 (zti 1 (by decide) q9) (by decide) (by decide) (by decide) rfl <|
            z_aload_n 97 hX dX11_wallIs_97 rfl <|
            zgX11_99 98 hX dX11_wallIs_98 (ze21 _ (rfl : shp 2 = (21, 6)) _ q6) <|
            z_endI2 101 hE rfl h dX11_wallIs_101
        rcases zif h with ⟨q10, h⟩ | ⟨q10, h⟩
        · refine z_tsIn (off := 51) 51 102 (2) hX dX11_wallIs_51 (zti 2 (by decide) q10) (by decide) (by decide) (by decide) rfl <|
            z_aload_n 102 hX dX11_wallIs_102 rfl <|
            zgX11_102 103 hX dX11_wallIs_103 (ze21 _ (rfl : shp 2 = (21, 6)) _ q6) <|
            z_endI2 106 hE rfl h dX11_wallIs_106
        rcases zif h with ⟨q11, h⟩ | ⟨q11, h⟩
        · refine z_tsIn (off := 56) 51 107 (3) hX dX11_wallIs_51 (zti 3 (by decide) q11) (by decide) (by decide) (by decide) rfl <|
            z_aload_n 107 hX dX11_wallIs_107 rfl <|
            zgX11_36 108 hX dX11_wallIs_108 (rfl : shp 0 = (11, 0)) <|
            zgX11_105 111 hX dX11_wallIs_111 (rfl : shp 116 = (3, 0)) <|
            z_endI2 114 hE rfl h dX11_wallIs_114
        rcases zif h with ⟨q12, h⟩ | ⟨q12, h⟩
        · refine z_tsIn (off := 64) 51 115 (4) hX dX11_wallIs_51 (zti 4 (by decide) q12) (by decide) (by decide) (by decide) rfl <|
            z_aload_n 115 hX dX11_wallIs_115 rfl <|
            zgX11_29 116 hX dX11_wallIs_116 (rfl : shp 0 = (11, 0)) <|
            z_aload_n 119 hX dX11_wallIs_119 rfl <|
            zgX11_12 120 hX dX11_wallIs_120 (rfl : shp 0 = (11, 0)) <|
            zgX11_106 123 hX dX11_wallIs_123 (rfl : shp 1 = (8, 0)) <|
            z_aload_n 126 hX dX11_wallIs_126 rfl <|
            zgX11_36 127 hX dX11_wallIs_127 (rfl : shp 0 = (11, 0)) <|
            zb12 h fun x14 w2 r13 h => zcX11_110 130 [.ref (zα G 3), .ref (zα G 116)] [] hX dX11_wallIs_130 (c_X1_hold (zgd0 hX) r13) (rfl : shp 112 = (1, 0)) rfl rfl rfl (Nat.le_of_ble_eq_true rfl) (Nat.le_of_ble_eq_true rfl) <|
            z_if_eq 133 140 hX dX11_wallIs_133 rfl h (fun q15 h => ?_) (fun q15 h => ?_)
          · refine z_iconst 140 hX dX11_wallIs_140 zki0 <|
              z_endI2 141 hE rfl h dX11_wallIs_141
          · refine z_iconst 136 hX dX11_wallIs_136 zki1 <|
              z_goto 137 141 hX dX11_wallIs_137 rfl <|
              z_endI2 141 hE rfl h dX11_wallIs_141
        rcases zif h with ⟨q16, h⟩ | ⟨q16, h⟩
        · refine z_tsIn (off := 91) 51 142 (5) hX dX11_wallIs_51 (zti 5 (by decide) q16) (by decide) (by decide) (by decide) rfl <|
            z_aload_n 142 hX dX11_wallIs_142 rfl <|
            zgX11_29 143 hX dX11_wallIs_143 (rfl : shp 0 = (11, 0)) <|
            z_aload_n 146 hX dX11_wallIs_146 rfl <|
            zgX11_12 147 hX dX11_wallIs_147 (rfl : shp 0 = (11, 0)) <|
            zgX11_106 150 hX dX11_wallIs_150 (rfl : shp 1 = (8, 0)) <|
            z_aload_n 153 hX dX11_wallIs_153 rfl <|
            zgX11_36 154 hX dX11_wallIs_154 (rfl : shp 0 = (11, 0)) <|
            zb12 h fun x18 w3 r17 h => zcX11_114 157 [.ref (zα G 3), .ref (zα G 116)] [] hX dX11_wallIs_157 (c_X1_countWays (zgd0 hX) r17) (rfl : shp 112 = (1, 0)) rfl rfl rfl (Nat.le_of_ble_eq_true rfl) (Nat.le_of_ble_eq_true rfl) <|
            z_endI2 160 hE rfl h dX11_wallIs_160
        rcases zif h with ⟨q19, h⟩ | ⟨q19, h⟩
        · refine z_tsIn (off := 110) 51 161 (6) hX dX11_wallIs_51 (zti 6 (by decide) q19) (by decide) (by decide) (by decide) rfl <|
            z_aload_n 161 hX dX11_wallIs_161 rfl <|
            zgX11_29 162 hX dX11_wallIs_162 (rfl : shp 0 = (11, 0)) <|
            z_aload_n 165 hX dX11_wallIs_165 rfl <|
            zgX11_12 166 hX dX11_wallIs_166 (rfl : shp 0 = (11, 0)) <|
            zgX11_106 169 hX dX11_wallIs_169 (rfl : shp 1 = (8, 0)) <|
            z_aload_n 172 hX dX11_wallIs_172 rfl <|
            zgX11_36 173 hX dX11_wallIs_173 (rfl : shp 0 = (11, 0)) <|
            zb12 h fun x21 w4 r20 h => zcX11_118 176 [.ref (zα G 3), .ref (zα G 116)] [] hX dX11_wallIs_176 (c_X1_stuckAt (zgd0 hX) r20) (rfl : shp 112 = (1, 0)) rfl rfl rfl (Nat.le_of_ble_eq_true rfl) (Nat.le_of_ble_eq_true rfl) <|
            z_endI2 179 hE rfl h dX11_wallIs_179
        refine z_tsOut 51 180 hX dX11_wallIs_51 (by have e0 := zne 0 (by decide) q8; have e1 := zne 1 (by decide) q9; have e2 := zne 2 (by decide) q10; have e3 := zne 3 (by decide) q11; have e4 := zne 4 (by decide) q12; have e5 := zne 5 (by decide) q16; have e6 := zne 6 (by decide) q19; omega) rfl <|
          z_aload_n 180 hX dX11_wallIs_180 rfl <|
          zgX11_12 181 hX dX11_wallIs_181 (rfl : shp 0 = (11, 0)) <|
          z_aload_n 184 hX dX11_wallIs_184 rfl <|
          zb12 h fun x23 w5 r22 h => zcX11_121 185 [.ref (zα G (40 + 2 * a1.toNatClampNeg))] [] hX dX11_wallIs_185 (c_X8_costOf (zgd0 hX) (ze21 _ (rfl : shp 2 = (21, 6)) _ q6) r22) (rfl : shp 1 = (8, 0)) rfl rfl rfl (Nat.le_of_ble_eq_true rfl) (Nat.le_of_ble_eq_true rfl) <|
          z_endI2 188 hE rfl h dX11_wallIs_188
      · refine z_weak (L' := [some (.ref (zα G 0)), none, none, none]) (zsub_s (zsub_n (zsub_n (zsub_n zsub_0)))) <|
          j_X11_wallIs_21z hX hE h
def j_X11_as_21  (w : zW) : Option (Int32 × zW) :=
  zb2 (f_X11_error (nI 1) w) fun x2 w1 =>
  some (x2, w1)
theorem j_X11_as_21z {G : zG} {X : zX} {w : zW} {re : Int32} {we : zW}  (hX : zOk G X cX11_as 4 RX11 1) (hE : zEI G X cX11_as .int re we)  (h : j_X11_as_21 w = some (re, we)) : zZ G X w 21 [some (.ref (zα G 0)), none, none, none] [] := by
  rw [j_X11_as_21] at h
  refine z_aload_n 21 hX dX11_as_21 rfl <|
    z_iconst 22 hX dX11_as_22 zki1 <|
    zb12 h fun x2 w1 r1 h => zcX11_72 23 [.int (nI 1)] [] hX dX11_as_23 (c_X11_error (zgd0 hX) r1) (rfl : shp 0 = (11, 0)) rfl rfl rfl (Nat.le_of_ble_eq_true rfl) (Nat.le_of_ble_eq_true rfl) <|
    z_endI2 26 hE rfl h dX11_as_26
def f_X11_as (a1 : Int32) (a2 : Int32) (w : zW) : Option (Int32 × zW) :=
  zb (f_X8_hasWall a1 w) fun x2 =>
  if x2 = nI 0 then
    j_X11_as_21 w
  else
  if a2 < nI 0 then
    j_X11_as_21 w
  else
  if a2 < (nI 7) then
    zguard (zin a1 6) (
    zb (f_X11_isUnder (w (40 + 2 * a1.toNatClampNeg) 1) a2) fun x8 =>
    if x8 = nI 0 then
      zb2 (f_X11_error (nI 5) w) fun x11 w1 =>
      some (x11, w1)
    else
      some (w (40 + 2 * a1.toNatClampNeg) 3, w))
  else
    j_X11_as_21 w
theorem c_X11_as {G : zG} {l : Launch} (hG : zgood G) {w : zW} {re : Int32} {we : zW} {a1 : Int32} {a2 : Int32}  (h : f_X11_as a1 a2 w = some (re, we)) : zMet G l yX11_as cX11_as 4 (some .int) 1 [.ref (zα G 0), .int a1, .int a2] w (some (.int re)) we := by
  refine zMet_of (L0 := [some (.ref (zα G 0)), some (.int a1), some (.int a2), none]) hG zplX11 (Nat.le_of_ble_eq_true rfl) rfl rfl (fun X hl hX hEI hEV hEA => ?_)
  subst hl
  have hX : zOk G X cX11_as 4 RX11 1 := hX
  have hE := hEI _ _ rfl rfl
  rw [f_X11_as] at h
  refine z_aload_n 0 hX dX11_as_0 rfl <|
    zgX11_12 1 hX dX11_as_1 (rfl : shp 0 = (11, 0)) <|
    z_iload_n 4 hX dX11_as_4 rfl <|
    zb1 h fun x2 r1 h => zcX11_88 5 [.int a1] [] hX dX11_as_5 (c_X8_hasWall (zgd0 hX) r1) (rfl : shp 1 = (8, 0)) rfl rfl rfl (Nat.le_of_ble_eq_true rfl) (Nat.le_of_ble_eq_true rfl) <|
    z_if_eq 8 21 hX dX11_as_8 rfl h (fun q3 h => ?_) (fun q3 h => ?_)
  · refine z_weak (L' := [some (.ref (zα G 0)), none, none, none]) (zsub_s (zsub_n (zsub_n (zsub_n zsub_0)))) <|
      j_X11_as_21z hX hE h
  · refine z_iload_n 11 hX dX11_as_11 rfl <|
      z_if_lt 12 21 hX dX11_as_12 rfl h (fun q4 h => ?_) (fun q4 h => ?_)
    · refine z_weak (L' := [some (.ref (zα G 0)), none, none, none]) (zsub_s (zsub_n (zsub_n (zsub_n zsub_0)))) <|
        j_X11_as_21z hX hE h
    · refine z_iload_n 15 hX dX11_as_15 rfl <|
        z_bipush 16 hX dX11_as_16 zkb7 <|
        z_icmp_lt 18 27 hX dX11_as_18 rfl h (fun q5 h => ?_) (fun q5 h => ?_)
      · refine z_aload_n 27 hX dX11_as_27 rfl <|
          zgX11_12 28 hX dX11_as_28 (rfl : shp 0 = (11, 0)) <|
          zgX11_80 31 hX dX11_as_31 (rfl : shp 1 = (8, 0)) <|
          z_iload_n 34 hX dX11_as_34 rfl <|
          z_aald 35 hX dX11_as_35 (rfl : shp 2 = (21, 6)) (by decide) h fun q6 h =>
          z_astore_n 36 [some (.ref (zα G 0)), some (.int a1), some (.int a2), some (.ref (zα G (40 + 2 * a1.toNatClampNeg)))] hX dX11_as_36 (Nat.le_of_ble_eq_true rfl) rfl rfl <|
          z_aload_n 37 hX dX11_as_37 rfl <|
          zgX11_96 38 hX dX11_as_38 (ze21 _ (rfl : shp 2 = (21, 6)) _ q6) <|
          z_iload_n 41 hX dX11_as_41 rfl <|
          zb1 h fun x8 r7 h => zcX11_125 42 [.int (w (40 + 2 * a1.toNatClampNeg) 1), .int a2] [] hX dX11_as_42 (c_X11_isUnder (zgd0 hX) r7) rfl rfl rfl (Nat.le_of_ble_eq_true rfl) (Nat.le_of_ble_eq_true rfl) <|
          z_if_eq 45 55 hX dX11_as_45 rfl h (fun q9 h => ?_) (fun q9 h => ?_)
        · refine z_aload_n 55 hX dX11_as_55 rfl <|
            z_iconst 56 hX dX11_as_56 zki5 <|
            zb12 h fun x11 w1 r10 h => zcX11_72 57 [.int (nI 5)] [] hX dX11_as_57 (c_X11_error (zgd0 hX) r10) (rfl : shp 0 = (11, 0)) rfl rfl rfl (Nat.le_of_ble_eq_true rfl) (Nat.le_of_ble_eq_true rfl) <|
            z_endI2 60 hE rfl h dX11_as_60
        · refine z_aload_n 48 hX dX11_as_48 rfl <|
            zgX11_102 49 hX dX11_as_49 (ze21 _ (rfl : shp 2 = (21, 6)) _ q6) <|
            z_goto 52 60 hX dX11_as_52 rfl <|
            z_endI2 60 hE rfl h dX11_as_60
      · refine z_weak (L' := [some (.ref (zα G 0)), none, none, none]) (zsub_s (zsub_n (zsub_n (zsub_n zsub_0)))) <|
          j_X11_as_21z hX hE h
def j_X11_set_24  (w : zW) : Option (Int32 × zW) :=
  zb2 (f_X11_error (nI 1) w) fun x2 w1 =>
  some (x2, w1)
theorem j_X11_set_24z {G : zG} {X : zX} {w : zW} {re : Int32} {we : zW}  (hX : zOk G X cX11_set 6 RX11 1) (hE : zEI G X cX11_set .int re we)  (h : j_X11_set_24 w = some (re, we)) : zZ G X w 24 [some (.ref (zα G 0)), none, none, none, none, none] [] := by
  rw [j_X11_set_24] at h
  refine z_aload_n 24 hX dX11_set_24 rfl <|
    z_iconst 25 hX dX11_set_25 zki1 <|
    zb12 h fun x2 w1 r1 h => zcX11_72 26 [.int (nI 1)] [] hX dX11_set_26 (c_X11_error (zgd0 hX) r1) (rfl : shp 0 = (11, 0)) rfl rfl rfl (Nat.le_of_ble_eq_true rfl) (Nat.le_of_ble_eq_true rfl) <|
    z_endI2 29 hE rfl h dX11_set_29
def j_X11_set_79 (a2 : Int32) (a3 : Int32) (a4 : Nat) (b0 : Int32) (w : zW) : Option (Int32 × zW) :=
  if a2 = nI 0 then
    zlet (zupd w a4 1 a3) fun w2 =>
    some (b0, w2)
  else
    zlet (zupd w a4 2 a3) fun w1 =>
    some (b0, w1)
theorem j_X11_set_79z {G : zG} {X : zX} {w : zW} {re : Int32} {we : zW} {a2 : Int32} {a3 : Int32} {a4 : Nat} {b0 : Int32} (hX : zOk G X cX11_set 6 RX11 1) (hE : zEI G X cX11_set .int re we) (ha4 : shp a4 = (9, 0)) (h : j_X11_set_79 a2 a3 a4 b0 w = some (re, we)) : zZ G X w 79 [none, none, some (.int a2), some (.int a3), some (.ref (zα G a4)), none] [.int b0] := by
  rw [j_X11_set_79] at h
  refine z_istore 79 [none, none, some (.int a2), some (.int a3), some (.ref (zα G a4)), some (.int b0)] hX dX11_set_79 (Nat.le_of_ble_eq_true rfl) rfl rfl <|
    z_iload_n 81 hX dX11_set_81 rfl <|
    z_if_ne 82 94 hX dX11_set_82 rfl h (fun q1 h => ?_) (fun q1 h => ?_)
  · refine z_aload 94 hX dX11_set_94 rfl <|
      z_iload_n 96 hX dX11_set_96 rfl <|
      zpX11_99 97 hX dX11_set_97 ha4 <|
      z_w h fun w1 h =>
      z_iload 100 hX dX11_set_100 rfl <|
      z_endI2 102 hE rfl h dX11_set_102
  · refine z_aload 85 hX dX11_set_85 rfl <|
      z_iload_n 87 hX dX11_set_87 rfl <|
      zpX11_96 88 hX dX11_set_88 ha4 <|
      z_w h fun w2 h =>
      z_goto 91 100 hX dX11_set_91 rfl <|
      z_iload 100 hX dX11_set_100 rfl <|
      z_endI2 102 hE rfl h dX11_set_102
def j_X11_set_42 (a1 : Int32) (a2 : Int32) (a3 : Int32) (b0 : Int32) (b1 : Int32) (w : zW) : Option (Int32 × zW) :=
  if b1 < b0 then
    zb2 (f_X11_error (nI 1) w) fun x5 w1 =>
    some (x5, w1)
  else
    zguard (zin a1 6) (
    if a2 = nI 0 then
      j_X11_set_79 a2 a3 (40 + 2 * a1.toNatClampNeg) (w (40 + 2 * a1.toNatClampNeg) 1) w
    else
      j_X11_set_79 a2 a3 (40 + 2 * a1.toNatClampNeg) (w (40 + 2 * a1.toNatClampNeg) 2) w)
theorem j_X11_set_42z {G : zG} {X : zX} {w : zW} {re : Int32} {we : zW} {a1 : Int32} {a2 : Int32} {a3 : Int32} {b0 : Int32} {b1 : Int32} (hX : zOk G X cX11_set 6 RX11 1) (hE : zEI G X cX11_set .int re we)  (h : j_X11_set_42 a1 a2 a3 b0 b1 w = some (re, we)) : zZ G X w 42 [some (.ref (zα G 0)), some (.int a1), some (.int a2), some (.int a3), none, none] [.int b1, .int b0] := by
  rw [j_X11_set_42] at h
  refine z_icmp_le 42 51 hX dX11_set_42 rfl h (fun q1 h => ?_) (fun q1 h => ?_)
  · refine z_aload_n 51 hX dX11_set_51 rfl <|
      zgX11_12 52 hX dX11_set_52 (rfl : shp 0 = (11, 0)) <|
      zgX11_80 55 hX dX11_set_55 (rfl : shp 1 = (8, 0)) <|
      z_iload_n 58 hX dX11_set_58 rfl <|
      z_aald 59 hX dX11_set_59 (rfl : shp 2 = (21, 6)) (by decide) h fun q2 h =>
      z_astore 60 [some (.ref (zα G 0)), some (.int a1), some (.int a2), some (.int a3), some (.ref (zα G (40 + 2 * a1.toNatClampNeg))), none] hX dX11_set_60 (Nat.le_of_ble_eq_true rfl) rfl rfl <|
      z_iload_n 62 hX dX11_set_62 rfl <|
      z_if_ne 63 74 hX dX11_set_63 rfl h (fun q3 h => ?_) (fun q3 h => ?_)
    · refine z_aload 74 hX dX11_set_74 rfl <|
        zgX11_99 76 hX dX11_set_76 (ze21 _ (rfl : shp 2 = (21, 6)) _ q2) <|
        z_weak (L' := [none, none, some (.int a2), some (.int a3), some (.ref (zα G (40 + 2 * a1.toNatClampNeg))), none]) (zsub_n (zsub_n (zsub_s (zsub_s (zsub_s (zsub_n zsub_0)))))) <|
        j_X11_set_79z hX hE (ze21 _ (rfl : shp 2 = (21, 6)) _ q2) h
    · refine z_aload 66 hX dX11_set_66 rfl <|
        zgX11_96 68 hX dX11_set_68 (ze21 _ (rfl : shp 2 = (21, 6)) _ q2) <|
        z_goto 71 79 hX dX11_set_71 rfl <|
        z_weak (L' := [none, none, some (.int a2), some (.int a3), some (.ref (zα G (40 + 2 * a1.toNatClampNeg))), none]) (zsub_n (zsub_n (zsub_s (zsub_s (zsub_s (zsub_n zsub_0)))))) <|
        j_X11_set_79z hX hE (ze21 _ (rfl : shp 2 = (21, 6)) _ q2) h
  · refine z_aload_n 45 hX dX11_set_45 rfl <|
      z_iconst 46 hX dX11_set_46 zki1 <|
      zb12 h fun x5 w1 r4 h => zcX11_72 47 [.int (nI 1)] [] hX dX11_set_47 (c_X11_error (zgd0 hX) r4) (rfl : shp 0 = (11, 0)) rfl rfl rfl (Nat.le_of_ble_eq_true rfl) (Nat.le_of_ble_eq_true rfl) <|
      z_endI2 50 hE rfl h dX11_set_50
def f_X11_set (a1 : Int32) (a2 : Int32) (a3 : Int32) (w : zW) : Option (Int32 × zW) :=
  zb (f_X8_hasWall a1 w) fun x2 =>
  if x2 = nI 0 then
    j_X11_set_24 w
  else
  if a2 < nI 0 then
    j_X11_set_24 w
  else
  if (nI 1) < a2 then
    j_X11_set_24 w
  else
  if a3 < nI 0 then
    j_X11_set_24 w
  else
  if a2 = nI 0 then
    j_X11_set_42 a1 a2 a3 a3 (nI 6) w
  else
    j_X11_set_42 a1 a2 a3 a3 (nI 9) w
theorem c_X11_set {G : zG} {l : Launch} (hG : zgood G) {w : zW} {re : Int32} {we : zW} {a1 : Int32} {a2 : Int32} {a3 : Int32}  (h : f_X11_set a1 a2 a3 w = some (re, we)) : zMet G l yX11_set cX11_set 6 (some .int) 1 [.ref (zα G 0), .int a1, .int a2, .int a3] w (some (.int re)) we := by
  refine zMet_of (L0 := [some (.ref (zα G 0)), some (.int a1), some (.int a2), some (.int a3), none, none]) hG zplX11 (Nat.le_of_ble_eq_true rfl) rfl rfl (fun X hl hX hEI hEV hEA => ?_)
  subst hl
  have hX : zOk G X cX11_set 6 RX11 1 := hX
  have hE := hEI _ _ rfl rfl
  rw [f_X11_set] at h
  refine z_aload_n 0 hX dX11_set_0 rfl <|
    zgX11_12 1 hX dX11_set_1 (rfl : shp 0 = (11, 0)) <|
    z_iload_n 4 hX dX11_set_4 rfl <|
    zb1 h fun x2 r1 h => zcX11_88 5 [.int a1] [] hX dX11_set_5 (c_X8_hasWall (zgd0 hX) r1) (rfl : shp 1 = (8, 0)) rfl rfl rfl (Nat.le_of_ble_eq_true rfl) (Nat.le_of_ble_eq_true rfl) <|
    z_if_eq 8 24 hX dX11_set_8 rfl h (fun q3 h => ?_) (fun q3 h => ?_)
  · refine z_weak (L' := [some (.ref (zα G 0)), none, none, none, none, none]) (zsub_s (zsub_n (zsub_n (zsub_n (zsub_n (zsub_n zsub_0)))))) <|
      j_X11_set_24z hX hE h
  · refine z_iload_n 11 hX dX11_set_11 rfl <|
      z_if_lt 12 24 hX dX11_set_12 rfl h (fun q4 h => ?_) (fun q4 h => ?_)
    · refine z_weak (L' := [some (.ref (zα G 0)), none, none, none, none, none]) (zsub_s (zsub_n (zsub_n (zsub_n (zsub_n (zsub_n zsub_0)))))) <|
        j_X11_set_24z hX hE h
    · refine z_iload_n 15 hX dX11_set_15 rfl <|
        z_iconst 16 hX dX11_set_16 zki1 <|
        z_icmp_gt 17 24 hX dX11_set_17 rfl h (fun q5 h => ?_) (fun q5 h => ?_)
      · refine z_weak (L' := [some (.ref (zα G 0)), none, none, none, none, none]) (zsub_s (zsub_n (zsub_n (zsub_n (zsub_n (zsub_n zsub_0)))))) <|
          j_X11_set_24z hX hE h
      · refine z_iload_n 20 hX dX11_set_20 rfl <|
          z_if_ge 21 30 hX dX11_set_21 rfl h (fun q6 h => ?_) (fun q6 h => ?_)
        · refine z_iload_n 30 hX dX11_set_30 rfl <|
            z_iload_n 31 hX dX11_set_31 rfl <|
            z_if_ne 32 40 hX dX11_set_32 rfl h (fun q7 h => ?_) (fun q7 h => ?_)
          · refine z_bipush 40 hX dX11_set_40 zkb9 <|
              j_X11_set_42z hX hE h
          · refine z_bipush 35 hX dX11_set_35 zkb6 <|
              z_goto 37 42 hX dX11_set_37 rfl <|
              j_X11_set_42z hX hE h
        · refine z_weak (L' := [some (.ref (zα G 0)), none, none, none, none, none]) (zsub_s (zsub_n (zsub_n (zsub_n (zsub_n (zsub_n zsub_0)))))) <|
            j_X11_set_24z hX hE h
def j_X11_brick_22  (w : zW) : Option (Int32 × zW) :=
  zb2 (f_X11_error (nI 1) w) fun x2 w1 =>
  some (x2, w1)
theorem j_X11_brick_22z {G : zG} {X : zX} {w : zW} {re : Int32} {we : zW}  (hX : zOk G X cX11_brick 5 RX11 2) (hE : zEI G X cX11_brick .int re we)  (h : j_X11_brick_22 w = some (re, we)) : zZ G X w 22 [some (.ref (zα G 0)), none, none, none, none] [] := by
  rw [j_X11_brick_22] at h
  refine z_aload_n 22 hX dX11_brick_22 rfl <|
    z_iconst 23 hX dX11_brick_23 zki1 <|
    zb12 h fun x2 w1 r1 h => zcX11_72 24 [.int (nI 1)] [] hX dX11_brick_24 (c_X11_error (zgd0 hX) r1) (rfl : shp 0 = (11, 0)) rfl rfl rfl (Nat.le_of_ble_eq_true rfl) (Nat.le_of_ble_eq_true rfl) <|
    z_endI2 27 hE rfl h dX11_brick_27
def f_X11_brick (a1 : Int32) (a2 : Int32) (a3 : Int32) (w : zW) : Option (Int32 × zW) :=
  zb (f_X8_hasPlace a1 a2 w) fun x2 =>
  if x2 = nI 0 then
    j_X11_brick_22 w
  else
  if a3 < nI 0 then
    j_X11_brick_22 w
  else
  if (nI 26) < a3 then
    j_X11_brick_22 w
  else
    zguard (zin a1 6) (
    zld w ((40 + 2 * a1.toNatClampNeg) + 1) 24 a2 fun x7 =>
    zguard (zin a1 6) (
    zsto w ((40 + 2 * a1.toNatClampNeg) + 1) 24 a2 a3 fun w1 =>
    some (x7, w1)))
theorem c_X11_brick {G : zG} {l : Launch} (hG : zgood G) {w : zW} {re : Int32} {we : zW} {a1 : Int32} {a2 : Int32} {a3 : Int32}  (h : f_X11_brick a1 a2 a3 w = some (re, we)) : zMet G l yX11_brick cX11_brick 5 (some .int) 2 [.ref (zα G 0), .int a1, .int a2, .int a3] w (some (.int re)) we := by
  refine zMet_of (L0 := [some (.ref (zα G 0)), some (.int a1), some (.int a2), some (.int a3), none]) hG zplX11 (Nat.le_of_ble_eq_true rfl) rfl rfl (fun X hl hX hEI hEV hEA => ?_)
  subst hl
  have hX : zOk G X cX11_brick 5 RX11 2 := hX
  have hE := hEI _ _ rfl rfl
  rw [f_X11_brick] at h
  refine z_aload_n 0 hX dX11_brick_0 rfl <|
    zgX11_12 1 hX dX11_brick_1 (rfl : shp 0 = (11, 0)) <|
    z_iload_n 4 hX dX11_brick_4 rfl <|
    z_iload_n 5 hX dX11_brick_5 rfl <|
    zb1 h fun x2 r1 h => zcX11_129 6 [.int a1, .int a2] [] hX dX11_brick_6 (c_X8_hasPlace (zgd0 hX) r1) (rfl : shp 1 = (8, 0)) rfl rfl rfl (Nat.le_of_ble_eq_true rfl) (Nat.le_of_ble_eq_true rfl) <|
    z_if_eq 9 22 hX dX11_brick_9 rfl h (fun q3 h => ?_) (fun q3 h => ?_)
  · refine z_weak (L' := [some (.ref (zα G 0)), none, none, none, none]) (zsub_s (zsub_n (zsub_n (zsub_n (zsub_n zsub_0))))) <|
      j_X11_brick_22z hX hE h
  · refine z_iload_n 12 hX dX11_brick_12 rfl <|
      z_if_lt 13 22 hX dX11_brick_13 rfl h (fun q4 h => ?_) (fun q4 h => ?_)
    · refine z_weak (L' := [some (.ref (zα G 0)), none, none, none, none]) (zsub_s (zsub_n (zsub_n (zsub_n (zsub_n zsub_0))))) <|
        j_X11_brick_22z hX hE h
    · refine z_iload_n 16 hX dX11_brick_16 rfl <|
        z_bipush 17 hX dX11_brick_17 zkb26 <|
        z_icmp_le 19 28 hX dX11_brick_19 rfl h (fun q5 h => ?_) (fun q5 h => ?_)
      · refine z_aload_n 28 hX dX11_brick_28 rfl <|
          zgX11_12 29 hX dX11_brick_29 (rfl : shp 0 = (11, 0)) <|
          zgX11_80 32 hX dX11_brick_32 (rfl : shp 1 = (8, 0)) <|
          z_iload_n 35 hX dX11_brick_35 rfl <|
          z_aald 36 hX dX11_brick_36 (rfl : shp 2 = (21, 6)) (by decide) h fun q6 h =>
          zgX11_132 37 hX dX11_brick_37 (ze21 _ (rfl : shp 2 = (21, 6)) _ q6) <|
          z_iload_n 40 hX dX11_brick_40 rfl <|
          z_iald 41 hX dX11_brick_41 (zr9_stones _ (ze21 _ (rfl : shp 2 = (21, 6)) _ q6)) h fun x7 _ h =>
          z_istore 42 [some (.ref (zα G 0)), some (.int a1), some (.int a2), some (.int a3), some (.int x7)] hX dX11_brick_42 (Nat.le_of_ble_eq_true rfl) rfl rfl <|
          z_aload_n 44 hX dX11_brick_44 rfl <|
          zgX11_12 45 hX dX11_brick_45 (rfl : shp 0 = (11, 0)) <|
          zgX11_80 48 hX dX11_brick_48 (rfl : shp 1 = (8, 0)) <|
          z_iload_n 51 hX dX11_brick_51 rfl <|
          z_aald 52 hX dX11_brick_52 (rfl : shp 2 = (21, 6)) (by decide) h fun q8 h =>
          zgX11_132 53 hX dX11_brick_53 (ze21 _ (rfl : shp 2 = (21, 6)) _ q8) <|
          z_iload_n 56 hX dX11_brick_56 rfl <|
          z_iload_n 57 hX dX11_brick_57 rfl <|
          z_iast 58 hX dX11_brick_58 (zr9_stones _ (ze21 _ (rfl : shp 2 = (21, 6)) _ q8)) h fun w1 h =>
          z_iload 59 hX dX11_brick_59 rfl <|
          z_endI2 61 hE rfl h dX11_brick_61
      · refine z_weak (L' := [some (.ref (zα G 0)), none, none, none, none]) (zsub_s (zsub_n (zsub_n (zsub_n (zsub_n zsub_0))))) <|
          j_X11_brick_22z hX hE h
def f_X11_brickOf (a1 : Int32) (a2 : Int32) (w : zW) : Option (Int32 × zW) :=
  zb (f_X8_hasPlace a1 a2 w) fun x2 =>
  if x2 = nI 0 then
    zb2 (f_X11_error (nI 1) w) fun x5 w1 =>
    some (x5, w1)
  else
    zguard (zin a1 6) (
    zld w ((40 + 2 * a1.toNatClampNeg) + 1) 24 a2 fun x7 =>
    some (x7, w))
theorem c_X11_brickOf {G : zG} {l : Launch} (hG : zgood G) {w : zW} {re : Int32} {we : zW} {a1 : Int32} {a2 : Int32}  (h : f_X11_brickOf a1 a2 w = some (re, we)) : zMet G l yX11_brickOf cX11_brickOf 3 (some .int) 2 [.ref (zα G 0), .int a1, .int a2] w (some (.int re)) we := by
  refine zMet_of (L0 := [some (.ref (zα G 0)), some (.int a1), some (.int a2)]) hG zplX11 (Nat.le_of_ble_eq_true rfl) rfl rfl (fun X hl hX hEI hEV hEA => ?_)
  subst hl
  have hX : zOk G X cX11_brickOf 3 RX11 2 := hX
  have hE := hEI _ _ rfl rfl
  rw [f_X11_brickOf] at h
  refine z_aload_n 0 hX dX11_brickOf_0 rfl <|
    zgX11_12 1 hX dX11_brickOf_1 (rfl : shp 0 = (11, 0)) <|
    z_iload_n 4 hX dX11_brickOf_4 rfl <|
    z_iload_n 5 hX dX11_brickOf_5 rfl <|
    zb1 h fun x2 r1 h => zcX11_129 6 [.int a1, .int a2] [] hX dX11_brickOf_6 (c_X8_hasPlace (zgd0 hX) r1) (rfl : shp 1 = (8, 0)) rfl rfl rfl (Nat.le_of_ble_eq_true rfl) (Nat.le_of_ble_eq_true rfl) <|
    z_if_eq 9 29 hX dX11_brickOf_9 rfl h (fun q3 h => ?_) (fun q3 h => ?_)
  · refine z_aload_n 29 hX dX11_brickOf_29 rfl <|
      z_iconst 30 hX dX11_brickOf_30 zki1 <|
      zb12 h fun x5 w1 r4 h => zcX11_72 31 [.int (nI 1)] [] hX dX11_brickOf_31 (c_X11_error (zgd0 hX) r4) (rfl : shp 0 = (11, 0)) rfl rfl rfl (Nat.le_of_ble_eq_true rfl) (Nat.le_of_ble_eq_true rfl) <|
      z_endI2 34 hE rfl h dX11_brickOf_34
  · refine z_aload_n 12 hX dX11_brickOf_12 rfl <|
      zgX11_12 13 hX dX11_brickOf_13 (rfl : shp 0 = (11, 0)) <|
      zgX11_80 16 hX dX11_brickOf_16 (rfl : shp 1 = (8, 0)) <|
      z_iload_n 19 hX dX11_brickOf_19 rfl <|
      z_aald 20 hX dX11_brickOf_20 (rfl : shp 2 = (21, 6)) (by decide) h fun q6 h =>
      zgX11_132 21 hX dX11_brickOf_21 (ze21 _ (rfl : shp 2 = (21, 6)) _ q6) <|
      z_iload_n 24 hX dX11_brickOf_24 rfl <|
      z_iald 25 hX dX11_brickOf_25 (zr9_stones _ (ze21 _ (rfl : shp 2 = (21, 6)) _ q6)) h fun x7 _ h =>
      z_goto 26 34 hX dX11_brickOf_26 rfl <|
      z_endI2 34 hE rfl h dX11_brickOf_34
def j_X11_readAs_65  (w : zW) : Option (Int32 × zW) :=
  zb2 (f_X11_error (nI 1) w) fun x2 w1 =>
  some (x2, w1)
theorem j_X11_readAs_65z {G : zG} {X : zX} {w : zW} {re : Int32} {we : zW}  (hX : zOk G X cX11_readAs 3 RX11 4) (hE : zEI G X cX11_readAs .int re we)  (h : j_X11_readAs_65 w = some (re, we)) : zZ G X w 65 [some (.ref (zα G 0)), none, none] [] := by
  rw [j_X11_readAs_65] at h
  refine z_aload_n 65 hX dX11_readAs_65 rfl <|
    z_iconst 66 hX dX11_readAs_66 zki1 <|
    zb12 h fun x2 w1 r1 h => zcX11_72 67 [.int (nI 1)] [] hX dX11_readAs_67 (c_X11_error (zgd0 hX) r1) (rfl : shp 0 = (11, 0)) rfl rfl rfl (Nat.le_of_ble_eq_true rfl) (Nat.le_of_ble_eq_true rfl) <|
    z_endI2 70 hE rfl h dX11_readAs_70
def f_X11_readAs (a1 : Int32) (a2 : Int32) (w : zW) : Option (Int32 × zW) :=
  zb (f_X8_hasWall a1 w) fun x2 =>
  if x2 = nI 0 then
    zb2 (f_X11_error (nI 1) w) fun x10 w2 =>
    some (x10, w2)
  else
    zguard (zin a1 6) (
    zb (f_X8_spell (40 + 2 * a1.toNatClampNeg) a1 w) fun w1 =>
    if a2 < nI 0 then
      j_X11_readAs_65 w1
    else
    if a2 < (w1 116 1) then
      zld w1 117 48 a2 fun x8 =>
      some (x8, w1)
    else
      j_X11_readAs_65 w1)
theorem c_X11_readAs {G : zG} {l : Launch} (hG : zgood G) {w : zW} {re : Int32} {we : zW} {a1 : Int32} {a2 : Int32}  (h : f_X11_readAs a1 a2 w = some (re, we)) : zMet G l yX11_readAs cX11_readAs 3 (some .int) 4 [.ref (zα G 0), .int a1, .int a2] w (some (.int re)) we := by
  refine zMet_of (L0 := [some (.ref (zα G 0)), some (.int a1), some (.int a2)]) hG zplX11 (Nat.le_of_ble_eq_true rfl) rfl rfl (fun X hl hX hEI hEV hEA => ?_)
  subst hl
  have hX : zOk G X cX11_readAs 3 RX11 4 := hX
  have hE := hEI _ _ rfl rfl
  rw [f_X11_readAs] at h
  refine z_aload_n 0 hX dX11_readAs_0 rfl <|
    zgX11_12 1 hX dX11_readAs_1 (rfl : shp 0 = (11, 0)) <|
    z_iload_n 4 hX dX11_readAs_4 rfl <|
    zb1 h fun x2 r1 h => zcX11_88 5 [.int a1] [] hX dX11_readAs_5 (c_X8_hasWall (zgd0 hX) r1) (rfl : shp 1 = (8, 0)) rfl rfl rfl (Nat.le_of_ble_eq_true rfl) (Nat.le_of_ble_eq_true rfl) <|
    z_if_ne 8 17 hX dX11_readAs_8 rfl h (fun q3 h => ?_) (fun q3 h => ?_)
  · refine z_aload_n 17 hX dX11_readAs_17 rfl <|
      zgX11_12 18 hX dX11_readAs_18 (rfl : shp 0 = (11, 0)) <|
      z_aload_n 21 hX dX11_readAs_21 rfl <|
      zgX11_12 22 hX dX11_readAs_22 (rfl : shp 0 = (11, 0)) <|
      zgX11_80 25 hX dX11_readAs_25 (rfl : shp 1 = (8, 0)) <|
      z_iload_n 28 hX dX11_readAs_28 rfl <|
      z_aald 29 hX dX11_readAs_29 (rfl : shp 2 = (21, 6)) (by decide) h fun q4 h =>
      z_iload_n 30 hX dX11_readAs_30 rfl <|
      z_aload_n 31 hX dX11_readAs_31 rfl <|
      zgX11_36 32 hX dX11_readAs_32 (rfl : shp 0 = (11, 0)) <|
      zb1 h fun w1 r5 h => zcX11_92 35 [.ref (zα G (40 + 2 * a1.toNatClampNeg)), .int a1, .ref (zα G 116)] [] hX dX11_readAs_35 (c_X8_spell (zgd0 hX) (ze21 _ (rfl : shp 2 = (21, 6)) _ q4) r5) (rfl : shp 1 = (8, 0)) rfl rfl rfl (Nat.le_of_ble_eq_true rfl) (Nat.le_of_ble_eq_true rfl) <|
      z_iload_n 38 hX dX11_readAs_38 rfl <|
      z_if_lt 39 65 hX dX11_readAs_39 rfl h (fun q6 h => ?_) (fun q6 h => ?_)
    · refine z_weak (L' := [some (.ref (zα G 0)), none, none]) (zsub_s (zsub_n (zsub_n zsub_0))) <|
        j_X11_readAs_65z hX hE h
    · refine z_iload_n 42 hX dX11_readAs_42 rfl <|
        z_aload_n 43 hX dX11_readAs_43 rfl <|
        zgX11_36 44 hX dX11_readAs_44 (rfl : shp 0 = (11, 0)) <|
        zgX11_105 47 hX dX11_readAs_47 (rfl : shp 116 = (3, 0)) <|
        z_icmp_ge 50 65 hX dX11_readAs_50 rfl h (fun q7 h => ?_) (fun q7 h => ?_)
      · refine z_weak (L' := [some (.ref (zα G 0)), none, none]) (zsub_s (zsub_n (zsub_n zsub_0))) <|
          j_X11_readAs_65z hX hE h
      · refine z_aload_n 53 hX dX11_readAs_53 rfl <|
          zgX11_36 54 hX dX11_readAs_54 (rfl : shp 0 = (11, 0)) <|
          zgX11_135 57 hX dX11_readAs_57 (rfl : shp 116 = (3, 0)) <|
          z_iload_n 60 hX dX11_readAs_60 rfl <|
          z_iald 61 hX dX11_readAs_61 (rfl : shp 117 = (20, 48)) h fun x8 _ h =>
          z_goto 62 70 hX dX11_readAs_62 rfl <|
          z_endI2 70 hE rfl h dX11_readAs_70
  · refine z_aload_n 11 hX dX11_readAs_11 rfl <|
      z_iconst 12 hX dX11_readAs_12 zki1 <|
      zb12 h fun x10 w2 r9 h => zcX11_72 13 [.int (nI 1)] [] hX dX11_readAs_13 (c_X11_error (zgd0 hX) r9) (rfl : shp 0 = (11, 0)) rfl rfl rfl (Nat.le_of_ble_eq_true rfl) (Nat.le_of_ble_eq_true rfl) <|
      z_endI2 16 hE rfl h dX11_readAs_16
def j_X11_word_16  (w : zW) : Option (Int32 × zW) :=
  zb2 (f_X11_error (nI 1) w) fun x2 w1 =>
  some (x2, w1)
theorem j_X11_word_16z {G : zG} {X : zX} {w : zW} {re : Int32} {we : zW}  (hX : zOk G X cX11_word 3 RX11 1) (hE : zEI G X cX11_word .int re we)  (h : j_X11_word_16 w = some (re, we)) : zZ G X w 16 [some (.ref (zα G 0)), none, none] [] := by
  rw [j_X11_word_16] at h
  refine z_aload_n 16 hX dX11_word_16 rfl <|
    z_iconst 17 hX dX11_word_17 zki1 <|
    zb12 h fun x2 w1 r1 h => zcX11_72 18 [.int (nI 1)] [] hX dX11_word_18 (c_X11_error (zgd0 hX) r1) (rfl : shp 0 = (11, 0)) rfl rfl rfl (Nat.le_of_ble_eq_true rfl) (Nat.le_of_ble_eq_true rfl) <|
    z_endI2 21 hE rfl h dX11_word_21
def f_X11_word (a1 : Int32) (a2 : Int32) (w : zW) : Option (Int32 × zW) :=
  if a1 < nI 0 then
    j_X11_word_16 w
  else
  if a1 < (nI 5) then
    zb (f_X11_isLetter a2) fun x4 =>
    if x4 = nI 0 then
      j_X11_word_16 w
    else
    if (w 3 1) < (nI 12) then
      zguard (zin (w 3 1) 12) (
      zb (f_X10_begin (5 + 2 * (w 3 1).toNatClampNeg) a1 a2 w) fun w1 =>
      zlet (zupd w1 3 1 ((w1 3 1) + (nI 1))) fun w2 =>
      some ((w2 3 1) - (nI 1), w2))
    else
      zb2 (f_X11_error (nI 4) w) fun x10 w3 =>
      some (x10, w3)
  else
    j_X11_word_16 w
theorem c_X11_word {G : zG} {l : Launch} (hG : zgood G) {w : zW} {re : Int32} {we : zW} {a1 : Int32} {a2 : Int32}  (h : f_X11_word a1 a2 w = some (re, we)) : zMet G l yX11_word cX11_word 3 (some .int) 1 [.ref (zα G 0), .int a1, .int a2] w (some (.int re)) we := by
  refine zMet_of (L0 := [some (.ref (zα G 0)), some (.int a1), some (.int a2)]) hG zplX11 (Nat.le_of_ble_eq_true rfl) rfl rfl (fun X hl hX hEI hEV hEA => ?_)
  subst hl
  have hX : zOk G X cX11_word 3 RX11 1 := hX
  have hE := hEI _ _ rfl rfl
  rw [f_X11_word] at h
  refine z_iload_n 0 hX dX11_word_0 rfl <|
    z_if_lt 1 16 hX dX11_word_1 rfl h (fun q1 h => ?_) (fun q1 h => ?_)
  · refine z_weak (L' := [some (.ref (zα G 0)), none, none]) (zsub_s (zsub_n (zsub_n zsub_0))) <|
      j_X11_word_16z hX hE h
  · refine z_iload_n 4 hX dX11_word_4 rfl <|
      z_iconst 5 hX dX11_word_5 zki5 <|
      z_icmp_ge 6 16 hX dX11_word_6 rfl h (fun q2 h => ?_) (fun q2 h => ?_)
    · refine z_weak (L' := [some (.ref (zα G 0)), none, none]) (zsub_s (zsub_n (zsub_n zsub_0))) <|
        j_X11_word_16z hX hE h
    · refine z_iload_n 9 hX dX11_word_9 rfl <|
        zb1 h fun x4 r3 h => zcX11_138 10 [.int a2] [] hX dX11_word_10 (c_X11_isLetter (zgd0 hX) r3) rfl rfl rfl (Nat.le_of_ble_eq_true rfl) (Nat.le_of_ble_eq_true rfl) <|
        z_if_ne 13 22 hX dX11_word_13 rfl h (fun q5 h => ?_) (fun q5 h => ?_)
      · refine z_aload_n 22 hX dX11_word_22 rfl <|
          zgX11_12 23 hX dX11_word_23 (rfl : shp 0 = (11, 0)) <|
          zgX11_106 26 hX dX11_word_26 (rfl : shp 1 = (8, 0)) <|
          zgX11_141 29 hX dX11_word_29 (rfl : shp 3 = (7, 0)) <|
          z_bipush 32 hX dX11_word_32 zkb12 <|
          z_icmp_lt 34 43 hX dX11_word_34 rfl h (fun q6 h => ?_) (fun q6 h => ?_)
        · refine z_aload_n 43 hX dX11_word_43 rfl <|
            zgX11_12 44 hX dX11_word_44 (rfl : shp 0 = (11, 0)) <|
            zgX11_106 47 hX dX11_word_47 (rfl : shp 1 = (8, 0)) <|
            zgX11_144 50 hX dX11_word_50 (rfl : shp 3 = (7, 0)) <|
            z_aload_n 53 hX dX11_word_53 rfl <|
            zgX11_12 54 hX dX11_word_54 (rfl : shp 0 = (11, 0)) <|
            zgX11_106 57 hX dX11_word_57 (rfl : shp 1 = (8, 0)) <|
            zgX11_141 60 hX dX11_word_60 (rfl : shp 3 = (7, 0)) <|
            z_aald 63 hX dX11_word_63 (rfl : shp 4 = (22, 12)) (by decide) h fun q7 h =>
            z_iload_n 64 hX dX11_word_64 rfl <|
            z_iload_n 65 hX dX11_word_65 rfl <|
            zb1 h fun w1 r8 h => zcX11_148 66 [.int a1, .int a2] [] hX dX11_word_66 (c_X10_begin (zgd0 hX) (ze22 _ (rfl : shp 4 = (22, 12)) _ q7) r8) (ze22 _ (rfl : shp 4 = (22, 12)) _ q7) rfl rfl rfl (Nat.le_of_ble_eq_true rfl) (Nat.le_of_ble_eq_true rfl) <|
            z_aload_n 69 hX dX11_word_69 rfl <|
            zgX11_12 70 hX dX11_word_70 (rfl : shp 0 = (11, 0)) <|
            zgX11_106 73 hX dX11_word_73 (rfl : shp 1 = (8, 0)) <|
            z_dup 76 hX dX11_word_76 rfl <|
            zgX11_141 77 hX dX11_word_77 (rfl : shp 3 = (7, 0)) <|
            z_iconst 80 hX dX11_word_80 zki1 <|
            z_iadd 81 hX dX11_word_81 <|
            zpX11_141 82 hX dX11_word_82 (rfl : shp 3 = (7, 0)) <|
            z_w h fun w2 h =>
            z_aload_n 85 hX dX11_word_85 rfl <|
            zgX11_12 86 hX dX11_word_86 (rfl : shp 0 = (11, 0)) <|
            zgX11_106 89 hX dX11_word_89 (rfl : shp 1 = (8, 0)) <|
            zgX11_141 92 hX dX11_word_92 (rfl : shp 3 = (7, 0)) <|
            z_iconst 95 hX dX11_word_95 zki1 <|
            z_isub 96 hX dX11_word_96 <|
            z_endI2 97 hE rfl h dX11_word_97
        · refine z_aload_n 37 hX dX11_word_37 rfl <|
            z_iconst 38 hX dX11_word_38 zki4 <|
            zb12 h fun x10 w3 r9 h => zcX11_72 39 [.int (nI 4)] [] hX dX11_word_39 (c_X11_error (zgd0 hX) r9) (rfl : shp 0 = (11, 0)) rfl rfl rfl (Nat.le_of_ble_eq_true rfl) (Nat.le_of_ble_eq_true rfl) <|
            z_endI2 42 hE rfl h dX11_word_42
      · refine z_weak (L' := [some (.ref (zα G 0)), none, none]) (zsub_s (zsub_n (zsub_n zsub_0))) <|
          j_X11_word_16z hX hE h
def j_X11_letter_21  (w : zW) : Option (Int32 × zW) :=
  zb2 (f_X11_error (nI 1) w) fun x2 w1 =>
  some (x2, w1)
theorem j_X11_letter_21z {G : zG} {X : zX} {w : zW} {re : Int32} {we : zW}  (hX : zOk G X cX11_letter 4 RX11 1) (hE : zEI G X cX11_letter .int re we)  (h : j_X11_letter_21 w = some (re, we)) : zZ G X w 21 [some (.ref (zα G 0)), none, none, none] [] := by
  rw [j_X11_letter_21] at h
  refine z_aload_n 21 hX dX11_letter_21 rfl <|
    z_iconst 22 hX dX11_letter_22 zki1 <|
    zb12 h fun x2 w1 r1 h => zcX11_72 23 [.int (nI 1)] [] hX dX11_letter_23 (c_X11_error (zgd0 hX) r1) (rfl : shp 0 = (11, 0)) rfl rfl rfl (Nat.le_of_ble_eq_true rfl) (Nat.le_of_ble_eq_true rfl) <|
    z_endI2 26 hE rfl h dX11_letter_26
def f_X11_letter (a1 : Int32) (a2 : Int32) (w : zW) : Option (Int32 × zW) :=
  zb (f_X7_has a1 w) fun x2 =>
  if x2 = nI 0 then
    j_X11_letter_21 w
  else
    zb (f_X11_isLetter a2) fun x5 =>
    if x5 = nI 0 then
      j_X11_letter_21 w
    else
      zguard (zin a1 12) (
      if (w (5 + 2 * a1.toNatClampNeg) 2) < (nI 6) then
        zsto w ((5 + 2 * a1.toNatClampNeg) + 1) 6 (w (5 + 2 * a1.toNatClampNeg) 2) a2 fun w1 =>
        zlet (zupd w1 (5 + 2 * a1.toNatClampNeg) 2 ((w1 (5 + 2 * a1.toNatClampNeg) 2) + (nI 1))) fun w2 =>
        some (w2 (5 + 2 * a1.toNatClampNeg) 2, w2)
      else
        zb2 (f_X11_error (nI 4) w) fun x10 w3 =>
        some (x10, w3))
theorem c_X11_letter {G : zG} {l : Launch} (hG : zgood G) {w : zW} {re : Int32} {we : zW} {a1 : Int32} {a2 : Int32}  (h : f_X11_letter a1 a2 w = some (re, we)) : zMet G l yX11_letter cX11_letter 4 (some .int) 1 [.ref (zα G 0), .int a1, .int a2] w (some (.int re)) we := by
  refine zMet_of (L0 := [some (.ref (zα G 0)), some (.int a1), some (.int a2), none]) hG zplX11 (Nat.le_of_ble_eq_true rfl) rfl rfl (fun X hl hX hEI hEV hEA => ?_)
  subst hl
  have hX : zOk G X cX11_letter 4 RX11 1 := hX
  have hE := hEI _ _ rfl rfl
  rw [f_X11_letter] at h
  refine z_aload_n 0 hX dX11_letter_0 rfl <|
    zgX11_12 1 hX dX11_letter_1 (rfl : shp 0 = (11, 0)) <|
    zgX11_106 4 hX dX11_letter_4 (rfl : shp 1 = (8, 0)) <|
    z_iload_n 7 hX dX11_letter_7 rfl <|
    zb1 h fun x2 r1 h => zcX11_153 8 [.int a1] [] hX dX11_letter_8 (c_X7_has (zgd0 hX) r1) (rfl : shp 3 = (7, 0)) rfl rfl rfl (Nat.le_of_ble_eq_true rfl) (Nat.le_of_ble_eq_true rfl) <|
    z_if_eq 11 21 hX dX11_letter_11 rfl h (fun q3 h => ?_) (fun q3 h => ?_)
  · refine z_weak (L' := [some (.ref (zα G 0)), none, none, none]) (zsub_s (zsub_n (zsub_n (zsub_n zsub_0)))) <|
      j_X11_letter_21z hX hE h
  · refine z_iload_n 14 hX dX11_letter_14 rfl <|
      zb1 h fun x5 r4 h => zcX11_138 15 [.int a2] [] hX dX11_letter_15 (c_X11_isLetter (zgd0 hX) r4) rfl rfl rfl (Nat.le_of_ble_eq_true rfl) (Nat.le_of_ble_eq_true rfl) <|
      z_if_ne 18 27 hX dX11_letter_18 rfl h (fun q6 h => ?_) (fun q6 h => ?_)
    · refine z_aload_n 27 hX dX11_letter_27 rfl <|
        zgX11_12 28 hX dX11_letter_28 (rfl : shp 0 = (11, 0)) <|
        zgX11_106 31 hX dX11_letter_31 (rfl : shp 1 = (8, 0)) <|
        zgX11_144 34 hX dX11_letter_34 (rfl : shp 3 = (7, 0)) <|
        z_iload_n 37 hX dX11_letter_37 rfl <|
        z_aald 38 hX dX11_letter_38 (rfl : shp 4 = (22, 12)) (by decide) h fun q7 h =>
        z_astore_n 39 [some (.ref (zα G 0)), some (.int a1), some (.int a2), some (.ref (zα G (5 + 2 * a1.toNatClampNeg)))] hX dX11_letter_39 (Nat.le_of_ble_eq_true rfl) rfl rfl <|
        z_aload_n 40 hX dX11_letter_40 rfl <|
        zgX11_156 41 hX dX11_letter_41 (ze22 _ (rfl : shp 4 = (22, 12)) _ q7) <|
        z_bipush 44 hX dX11_letter_44 zkb6 <|
        z_icmp_lt 46 55 hX dX11_letter_46 rfl h (fun q8 h => ?_) (fun q8 h => ?_)
      · refine z_aload_n 55 hX dX11_letter_55 rfl <|
          zgX11_157 56 hX dX11_letter_56 (ze22 _ (rfl : shp 4 = (22, 12)) _ q7) <|
          z_aload_n 59 hX dX11_letter_59 rfl <|
          zgX11_156 60 hX dX11_letter_60 (ze22 _ (rfl : shp 4 = (22, 12)) _ q7) <|
          z_iload_n 63 hX dX11_letter_63 rfl <|
          z_iast 64 hX dX11_letter_64 (zr10_letters _ (ze22 _ (rfl : shp 4 = (22, 12)) _ q7)) h fun w1 h =>
          z_aload_n 65 hX dX11_letter_65 rfl <|
          z_dup 66 hX dX11_letter_66 rfl <|
          zgX11_156 67 hX dX11_letter_67 (ze22 _ (rfl : shp 4 = (22, 12)) _ q7) <|
          z_iconst 70 hX dX11_letter_70 zki1 <|
          z_iadd 71 hX dX11_letter_71 <|
          zpX11_156 72 hX dX11_letter_72 (ze22 _ (rfl : shp 4 = (22, 12)) _ q7) <|
          z_w h fun w2 h =>
          z_aload_n 75 hX dX11_letter_75 rfl <|
          zgX11_156 76 hX dX11_letter_76 (ze22 _ (rfl : shp 4 = (22, 12)) _ q7) <|
          z_endI2 79 hE rfl h dX11_letter_79
      · refine z_aload_n 49 hX dX11_letter_49 rfl <|
          z_iconst 50 hX dX11_letter_50 zki4 <|
          zb12 h fun x10 w3 r9 h => zcX11_72 51 [.int (nI 4)] [] hX dX11_letter_51 (c_X11_error (zgd0 hX) r9) (rfl : shp 0 = (11, 0)) rfl rfl rfl (Nat.le_of_ble_eq_true rfl) (Nat.le_of_ble_eq_true rfl) <|
          z_endI2 54 hE rfl h dX11_letter_54
    · refine z_weak (L' := [some (.ref (zα G 0)), none, none, none]) (zsub_s (zsub_n (zsub_n (zsub_n zsub_0)))) <|
        j_X11_letter_21z hX hE h
