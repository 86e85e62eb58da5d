def j_X11_lay_30  (w : zW) : Option (Int32 × zW) :=
  zb2 (f_X11_error (nI 1) w) fun x2 w1 =>
  some (x2, w1)
theorem j_X11_lay_30z {G : zG} {X : zX} {w : zW} {re : Int32} {we : zW}  (hX : zOk G X cX11_lay 7 RX11 3) (hE : zEI G X cX11_lay .int re we)  (h : j_X11_lay_30 w = some (re, we)) : zZ G X w 30 [some (.ref (zα G 0)), none, none, none, none, none, none] [] := by
  rw [j_X11_lay_30] at h
  refine z_aload_n 30 hX dX11_lay_30 rfl <|
    z_iconst 31 hX dX11_lay_31 zki1 <|
    zb12 h fun x2 w1 r1 h => zcX11_72 32 [.int (nI 1)] [] hX dX11_lay_32 (c_X11_error (zgd0 hX) r1) (rfl : shp 0 = (11, 0)) rfl rfl rfl (Nat.le_of_ble_eq_true rfl) (Nat.le_of_ble_eq_true rfl) <|
    z_endI2 35 hE rfl h dX11_lay_35
def j_X11_lay_156 (a2 : Int32) (a3 : Int32) (a5 : Nat) (w : zW) : Option (Int32 × zW) :=
  zsto w (a5 + 1) 24 a2 a3 fun w1 =>
  zb (f_X9_countLetters a5 w1) fun x2 =>
  some (x2, w1)
theorem j_X11_lay_156z {G : zG} {X : zX} {w : zW} {re : Int32} {we : zW} {a2 : Int32} {a3 : Int32} {a5 : Nat} (hX : zOk G X cX11_lay 7 RX11 3) (hE : zEI G X cX11_lay .int re we) (ha5 : shp a5 = (9, 0)) (h : j_X11_lay_156 a2 a3 a5 w = some (re, we)) : zZ G X w 156 [none, none, some (.int a2), some (.int a3), none, some (.ref (zα G a5)), none] [] := by
  rw [j_X11_lay_156] at h
  refine z_aload 156 hX dX11_lay_156 rfl <|
    zgX11_132 158 hX dX11_lay_158 ha5 <|
    z_iload_n 161 hX dX11_lay_161 rfl <|
    z_iload_n 162 hX dX11_lay_162 rfl <|
    z_iast 163 hX dX11_lay_163 (zr9_stones _ ha5) h fun w1 h =>
    z_aload 164 hX dX11_lay_164 rfl <|
    zb1 h fun x2 r1 h => zcX11_250 166 [] [] hX dX11_lay_166 (c_X9_countLetters (zgd0 hX) ha5 r1) ha5 rfl rfl rfl (Nat.le_of_ble_eq_true rfl) (Nat.le_of_ble_eq_true rfl) <|
    z_endI2 169 hE rfl h dX11_lay_169
def j_X11_lay_110 (a2 : Int32) (a3 : Int32) (a4 : Int32) (a5 : Nat) (a6 : Int32) (b0 : Int32) (b1 : Int32) (w : zW) : Option (Int32 × zW) :=
  if b1 < b0 then
    zb2 (f_X11_error (nI 3) w) fun x5 w3 =>
    some (x5, w3)
  else
  if a4 = (nI 1) then
    zlet (zupd w 1 11 ((w 1 11) - a6)) fun w2 =>
    j_X11_lay_156 a2 a3 a5 w2
  else
    zld w 38 27 a3 fun x3 =>
    zsto w 38 27 a3 (x3 - a6) fun w1 =>
    j_X11_lay_156 a2 a3 a5 w1
theorem j_X11_lay_110z {G : zG} {X : zX} {w : zW} {re : Int32} {we : zW} {a2 : Int32} {a3 : Int32} {a4 : Int32} {a5 : Nat} {a6 : Int32} {b0 : Int32} {b1 : Int32} (hX : zOk G X cX11_lay 7 RX11 3) (hE : zEI G X cX11_lay .int re we) (ha5 : shp a5 = (9, 0)) (h : j_X11_lay_110 a2 a3 a4 a5 a6 b0 b1 w = some (re, we)) : zZ G X w 110 [some (.ref (zα G 0)), none, some (.int a2), some (.int a3), some (.int a4), some (.ref (zα G a5)), some (.int a6)] [.int b1, .int b0] := by
  rw [j_X11_lay_110] at h
  refine z_icmp_le 110 119 hX dX11_lay_110 rfl h (fun q1 h => ?_) (fun q1 h => ?_)
  · refine z_iload 119 hX dX11_lay_119 rfl <|
      z_iconst 121 hX dX11_lay_121 zki1 <|
      z_icmp_ne 122 142 hX dX11_lay_122 rfl h (fun q2 h => ?_) (fun q2 h => ?_)
    · refine z_aload_n 142 hX dX11_lay_142 rfl <|
        zgX11_12 143 hX dX11_lay_143 (rfl : shp 0 = (11, 0)) <|
        zgX11_237 146 hX dX11_lay_146 (rfl : shp 1 = (8, 0)) <|
        z_iload_n 149 hX dX11_lay_149 rfl <|
        z_dup2 150 hX dX11_lay_150 rfl rfl <|
        z_iald 151 hX dX11_lay_151 (rfl : shp 38 = (20, 27)) h fun x3 _ h =>
        z_iload 152 hX dX11_lay_152 rfl <|
        z_isub 154 hX dX11_lay_154 <|
        z_iast 155 hX dX11_lay_155 (rfl : shp 38 = (20, 27)) h fun w1 h =>
        z_weak (L' := [none, none, some (.int a2), some (.int a3), none, some (.ref (zα G a5)), none]) (zsub_n (zsub_n (zsub_s (zsub_s (zsub_n (zsub_s (zsub_n zsub_0))))))) <|
        j_X11_lay_156z hX hE ha5 h
    · refine z_aload_n 125 hX dX11_lay_125 rfl <|
        zgX11_12 126 hX dX11_lay_126 (rfl : shp 0 = (11, 0)) <|
        z_dup 129 hX dX11_lay_129 rfl <|
        zgX11_247 130 hX dX11_lay_130 (rfl : shp 1 = (8, 0)) <|
        z_iload 133 hX dX11_lay_133 rfl <|
        z_isub 135 hX dX11_lay_135 <|
        zpX11_247 136 hX dX11_lay_136 (rfl : shp 1 = (8, 0)) <|
        z_w h fun w2 h =>
        z_goto 139 156 hX dX11_lay_139 rfl <|
        z_weak (L' := [none, none, some (.int a2), some (.int a3), none, some (.ref (zα G a5)), none]) (zsub_n (zsub_n (zsub_s (zsub_s (zsub_n (zsub_s (zsub_n zsub_0))))))) <|
        j_X11_lay_156z hX hE ha5 h
  · refine z_aload_n 113 hX dX11_lay_113 rfl <|
      z_iconst 114 hX dX11_lay_114 zki3 <|
      zb12 h fun x5 w3 r4 h => zcX11_72 115 [.int (nI 3)] [] hX dX11_lay_115 (c_X11_error (zgd0 hX) r4) (rfl : shp 0 = (11, 0)) rfl rfl rfl (Nat.le_of_ble_eq_true rfl) (Nat.le_of_ble_eq_true rfl) <|
      z_endI2 118 hE rfl h dX11_lay_118
def j_X11_lay_81 (a2 : Int32) (a3 : Int32) (a4 : Int32) (a5 : Nat) (b0 : Int32) (w : zW) : Option (Int32 × zW) :=
  if a4 = (nI 1) then
    j_X11_lay_110 a2 a3 a4 a5 b0 b0 (w 1 11) w
  else
    zld w 38 27 a3 fun x2 =>
    j_X11_lay_110 a2 a3 a4 a5 b0 b0 x2 w
theorem j_X11_lay_81z {G : zG} {X : zX} {w : zW} {re : Int32} {we : zW} {a2 : Int32} {a3 : Int32} {a4 : Int32} {a5 : Nat} {b0 : Int32} (hX : zOk G X cX11_lay 7 RX11 3) (hE : zEI G X cX11_lay .int re we) (ha5 : shp a5 = (9, 0)) (h : j_X11_lay_81 a2 a3 a4 a5 b0 w = some (re, we)) : zZ G X w 81 [some (.ref (zα G 0)), none, some (.int a2), some (.int a3), some (.int a4), some (.ref (zα G a5)), none] [.int b0] := by
  rw [j_X11_lay_81] at h
  refine z_istore 81 [some (.ref (zα G 0)), none, some (.int a2), some (.int a3), some (.int a4), some (.ref (zα G a5)), some (.int b0)] hX dX11_lay_81 (Nat.le_of_ble_eq_true rfl) rfl rfl <|
    z_iload 83 hX dX11_lay_83 rfl <|
    z_iload 85 hX dX11_lay_85 rfl <|
    z_iconst 87 hX dX11_lay_87 zki1 <|
    z_icmp_ne 88 101 hX dX11_lay_88 rfl h (fun q1 h => ?_) (fun q1 h => ?_)
  · refine z_aload_n 101 hX dX11_lay_101 rfl <|
      zgX11_12 102 hX dX11_lay_102 (rfl : shp 0 = (11, 0)) <|
      zgX11_237 105 hX dX11_lay_105 (rfl : shp 1 = (8, 0)) <|
      z_iload_n 108 hX dX11_lay_108 rfl <|
      z_iald 109 hX dX11_lay_109 (rfl : shp 38 = (20, 27)) h fun x2 _ h =>
      j_X11_lay_110z hX hE ha5 h
  · refine z_aload_n 91 hX dX11_lay_91 rfl <|
      zgX11_12 92 hX dX11_lay_92 (rfl : shp 0 = (11, 0)) <|
      zgX11_247 95 hX dX11_lay_95 (rfl : shp 1 = (8, 0)) <|
      z_goto 98 110 hX dX11_lay_98 rfl <|
      j_X11_lay_110z hX hE ha5 h
def f_X11_lay (a1 : Int32) (a2 : Int32) (a3 : Int32) (a4 : Int32) (w : zW) : Option (Int32 × zW) :=
  zb (f_X8_hasPlace a1 a2 w) fun x2 =>
  if x2 = nI 0 then
    j_X11_lay_30 w
  else
    zb (f_X11_isLetter a3) fun x5 =>
    if x5 = nI 0 then
      j_X11_lay_30 w
    else
    if a4 < nI 0 then
      j_X11_lay_30 w
    else
    if (nI 1) < a4 then
      j_X11_lay_30 w
    else
      zguard (zin a1 6) (
      zld w ((40 + 2 * a1.toNatClampNeg) + 1) 24 a2 fun x10 =>
      if x10 = nI 0 then
        if a4 = (nI 1) then
          zb2 (f_X8_priceOf a3 w) fun x14 w1 =>
          j_X11_lay_81 a2 a3 a4 (40 + 2 * a1.toNatClampNeg) x14 w1
        else
          j_X11_lay_81 a2 a3 a4 (40 + 2 * a1.toNatClampNeg) (nI 1) w
      else
        zb2 (f_X11_error (nI 3) w) fun x16 w2 =>
        some (x16, w2))
theorem c_X11_lay {G : zG} {l : Launch} (hG : zgood G) {w : zW} {re : Int32} {we : zW} {a1 : Int32} {a2 : Int32} {a3 : Int32} {a4 : Int32}  (h : f_X11_lay a1 a2 a3 a4 w = some (re, we)) : zMet G l yX11_lay cX11_lay 7 (some .int) 3 [.ref (zα G 0), .int a1, .int a2, .int a3, .int a4] w (some (.int re)) we := by
  refine zMet_of (L0 := [some (.ref (zα G 0)), some (.int a1), some (.int a2), some (.int a3), some (.int a4), none, none]) hG zplX11 (Nat.le_of_ble_eq_true rfl) rfl rfl (fun X hl hX hEI hEV hEA => ?_)
  subst hl
  have hX : zOk G X cX11_lay 7 RX11 3 := hX
  have hE := hEI _ _ rfl rfl
  rw [f_X11_lay] at h
  refine z_aload_n 0 hX dX11_lay_0 rfl <|
    zgX11_12 1 hX dX11_lay_1 (rfl : shp 0 = (11, 0)) <|
    z_iload_n 4 hX dX11_lay_4 rfl <|
    z_iload_n 5 hX dX11_lay_5 rfl <|
    zb1 h fun x2 r1 h => zcX11_129 6 [.int a1, .int a2] [] hX dX11_lay_6 (c_X8_hasPlace (zgd0 hX) r1) (rfl : shp 1 = (8, 0)) rfl rfl rfl (Nat.le_of_ble_eq_true rfl) (Nat.le_of_ble_eq_true rfl) <|
    z_if_eq 9 30 hX dX11_lay_9 rfl h (fun q3 h => ?_) (fun q3 h => ?_)
  · refine z_weak (L' := [some (.ref (zα G 0)), none, none, none, none, none, none]) (zsub_s (zsub_n (zsub_n (zsub_n (zsub_n (zsub_n (zsub_n zsub_0))))))) <|
      j_X11_lay_30z hX hE h
  · refine z_iload_n 12 hX dX11_lay_12 rfl <|
      zb1 h fun x5 r4 h => zcX11_138 13 [.int a3] [] hX dX11_lay_13 (c_X11_isLetter (zgd0 hX) r4) rfl rfl rfl (Nat.le_of_ble_eq_true rfl) (Nat.le_of_ble_eq_true rfl) <|
      z_if_eq 16 30 hX dX11_lay_16 rfl h (fun q6 h => ?_) (fun q6 h => ?_)
    · refine z_weak (L' := [some (.ref (zα G 0)), none, none, none, none, none, none]) (zsub_s (zsub_n (zsub_n (zsub_n (zsub_n (zsub_n (zsub_n zsub_0))))))) <|
        j_X11_lay_30z hX hE h
    · refine z_iload 19 hX dX11_lay_19 rfl <|
        z_if_lt 21 30 hX dX11_lay_21 rfl h (fun q7 h => ?_) (fun q7 h => ?_)
      · refine z_weak (L' := [some (.ref (zα G 0)), none, none, none, none, none, none]) (zsub_s (zsub_n (zsub_n (zsub_n (zsub_n (zsub_n (zsub_n zsub_0))))))) <|
          j_X11_lay_30z hX hE h
      · refine z_iload 24 hX dX11_lay_24 rfl <|
          z_iconst 26 hX dX11_lay_26 zki1 <|
          z_icmp_le 27 36 hX dX11_lay_27 rfl h (fun q8 h => ?_) (fun q8 h => ?_)
        · refine z_aload_n 36 hX dX11_lay_36 rfl <|
            zgX11_12 37 hX dX11_lay_37 (rfl : shp 0 = (11, 0)) <|
            zgX11_80 40 hX dX11_lay_40 (rfl : shp 1 = (8, 0)) <|
            z_iload_n 43 hX dX11_lay_43 rfl <|
            z_aald 44 hX dX11_lay_44 (rfl : shp 2 = (21, 6)) (by decide) h fun q9 h =>
            z_astore 45 [some (.ref (zα G 0)), some (.int a1), some (.int a2), some (.int a3), some (.int a4), some (.ref (zα G (40 + 2 * a1.toNatClampNeg))), none] hX dX11_lay_45 (Nat.le_of_ble_eq_true rfl) rfl rfl <|
            z_aload 47 hX dX11_lay_47 rfl <|
            zgX11_132 49 hX dX11_lay_49 (ze21 _ (rfl : shp 2 = (21, 6)) _ q9) <|
            z_iload_n 52 hX dX11_lay_52 rfl <|
            z_iald 53 hX dX11_lay_53 (zr9_stones _ (ze21 _ (rfl : shp 2 = (21, 6)) _ q9)) h fun x10 _ h =>
            z_if_eq 54 63 hX dX11_lay_54 rfl h (fun q11 h => ?_) (fun q11 h => ?_)
          · refine z_iload 63 hX dX11_lay_63 rfl <|
              z_iconst 65 hX dX11_lay_65 zki1 <|
              z_icmp_ne 66 80 hX dX11_lay_66 rfl h (fun q12 h => ?_) (fun q12 h => ?_)
            · refine z_iconst 80 hX dX11_lay_80 zki1 <|
                z_weak (L' := [some (.ref (zα G 0)), none, some (.int a2), some (.int a3), some (.int a4), some (.ref (zα G (40 + 2 * a1.toNatClampNeg))), none]) (zsub_s (zsub_n (zsub_s (zsub_s (zsub_s (zsub_s (zsub_n zsub_0))))))) <|
                j_X11_lay_81z hX hE (ze21 _ (rfl : shp 2 = (21, 6)) _ q9) h
            · refine z_aload_n 69 hX dX11_lay_69 rfl <|
                zgX11_12 70 hX dX11_lay_70 (rfl : shp 0 = (11, 0)) <|
                z_iload_n 73 hX dX11_lay_73 rfl <|
                zb12 h fun x14 w1 r13 h => zcX11_240 74 [.int a3] [] hX dX11_lay_74 (c_X8_priceOf (zgd0 hX) r13) (rfl : shp 1 = (8, 0)) rfl rfl rfl (Nat.le_of_ble_eq_true rfl) (Nat.le_of_ble_eq_true rfl) <|
                z_goto 77 81 hX dX11_lay_77 rfl <|
                z_weak (L' := [some (.ref (zα G 0)), none, some (.int a2), some (.int a3), some (.int a4), some (.ref (zα G (40 + 2 * a1.toNatClampNeg))), none]) (zsub_s (zsub_n (zsub_s (zsub_s (zsub_s (zsub_s (zsub_n zsub_0))))))) <|
                j_X11_lay_81z hX hE (ze21 _ (rfl : shp 2 = (21, 6)) _ q9) h
          · refine z_aload_n 57 hX dX11_lay_57 rfl <|
              z_iconst 58 hX dX11_lay_58 zki3 <|
              zb12 h fun x16 w2 r15 h => zcX11_72 59 [.int (nI 3)] [] hX dX11_lay_59 (c_X11_error (zgd0 hX) r15) (rfl : shp 0 = (11, 0)) rfl rfl rfl (Nat.le_of_ble_eq_true rfl) (Nat.le_of_ble_eq_true rfl) <|
              z_endI2 62 hE rfl h dX11_lay_62
        · refine z_weak (L' := [some (.ref (zα G 0)), none, none, none, none, none, none]) (zsub_s (zsub_n (zsub_n (zsub_n (zsub_n (zsub_n (zsub_n zsub_0))))))) <|
            j_X11_lay_30z hX hE h
def l_X11_falls_35 (K60 : Int32 → zW → Option (Int32 × zW)) : Nat → Nat → Int32 → Int32 → zW → Option (Int32 × zW)
  | 0, _, _, _, _ => none
  | n + 1, a2, a3, a4, w =>
    if a4 < (w a2 3) then
      zb (f_X8_dropBrick a2 a4 w) fun w1 =>
      zlet (a4 + nI 1) fun x3 =>
      (l_X11_falls_35 K60 n) a2 a3 x3 w1
    else
      K60 a3 w
theorem l_X11_falls_35z {K60 : Int32 → zW → Option (Int32 × zW)} {G : zG} {X : zX} {re : Int32} {we : zW} (hX : zOk G X cX11_falls 5 RX11 2) (hE : zEI G X cX11_falls .int re we) (hK60 : ∀ (a3 : Int32) (w3 : zW) , K60 a3 w3 = some (re, we) → zZ G X w3 60 [none, none, none, some (.int a3), none] []) : ∀ (n : Nat) (a2 : Nat) (a3 : Int32) (a4 : Int32) (w : zW) (ha2 : shp a2 = (9, 0)), l_X11_falls_35 K60 n a2 a3 a4 w = some (re, we) → zZ G X w 35 [some (.ref (zα G 0)), none, some (.ref (zα G a2)), some (.int a3), some (.int a4)] [] := by
  intro n
  induction n with
  | zero =>
    intro a2 a3 a4 w ha2 h
    rw [l_X11_falls_35.eq_1] at h
    cases h
  | succ n ih =>
    intro a2 a3 a4 w ha2 h
    rw [l_X11_falls_35.eq_2] at h
    refine z_iload 35 hX dX11_falls_35 rfl <|
      z_aload_n 37 hX dX11_falls_37 rfl <|
      zgX11_102 38 hX dX11_falls_38 ha2 <|
      z_icmp_ge 41 60 hX dX11_falls_41 rfl h (fun q1 h => ?_) (fun q1 h => ?_)
    · refine z_weak (L' := [none, none, none, some (.int a3), none]) (zsub_n (zsub_n (zsub_n (zsub_s (zsub_n zsub_0))))) <|
        hK60 _ _ h
    · refine z_aload_n 44 hX dX11_falls_44 rfl <|
        zgX11_12 45 hX dX11_falls_45 (rfl : shp 0 = (11, 0)) <|
        z_aload_n 48 hX dX11_falls_48 rfl <|
        z_iload 49 hX dX11_falls_49 rfl <|
        zb1 h fun w1 r2 h => zcX11_254 51 [.ref (zα G a2), .int a4] [] hX dX11_falls_51 (c_X8_dropBrick (zgd0 hX) ha2 r2) (rfl : shp 1 = (8, 0)) rfl rfl rfl (Nat.le_of_ble_eq_true rfl) (Nat.le_of_ble_eq_true rfl) <|
        z_iincG 54 (fun x3 => [some (.ref (zα G 0)), none, some (.ref (zα G a2)), some (.int a3), some (.int x3)]) hX dX11_falls_54 rfl zki1 rfl (fun _ => rfl) h fun x3 h =>
        z_goto 57 35 hX dX11_falls_57 rfl <|
        ih _ _ _ _ ha2 h
def f_X11_falls (a1 : Int32) (w : zW) : Option (Int32 × zW) :=
  zb (f_X8_hasWall a1 w) fun x2 =>
  if x2 = nI 0 then
    zb2 (f_X11_error (nI 1) w) fun x8 w1 =>
    some (x8, w1)
  else
    zguard (zin a1 6) (
    zb (f_X9_countLetters (40 + 2 * a1.toNatClampNeg) w) fun x6 =>
    l_X11_falls_35 (fun k60_a3 w11 =>
      some (k60_a3, w11)) zfuel (40 + 2 * a1.toNatClampNeg) x6 (nI 0) w)
theorem c_X11_falls {G : zG} {l : Launch} (hG : zgood G) {w : zW} {re : Int32} {we : zW} {a1 : Int32}  (h : f_X11_falls a1 w = some (re, we)) : zMet G l yX11_falls cX11_falls 5 (some .int) 2 [.ref (zα G 0), .int a1] w (some (.int re)) we := by
  refine zMet_of (L0 := [some (.ref (zα G 0)), some (.int a1), none, none, none]) hG zplX11 (Nat.le_of_ble_eq_true rfl) rfl rfl (fun X hl hX hEI hEV hEA => ?_)
  subst hl
  have hX : zOk G X cX11_falls 5 RX11 2 := hX
  have hE := hEI _ _ rfl rfl
  rw [f_X11_falls] at h
  refine z_aload_n 0 hX dX11_falls_0 rfl <|
    zgX11_12 1 hX dX11_falls_1 (rfl : shp 0 = (11, 0)) <|
    z_iload_n 4 hX dX11_falls_4 rfl <|
    zb1 h fun x2 r1 h => zcX11_88 5 [.int a1] [] hX dX11_falls_5 (c_X8_hasWall (zgd0 hX) r1) (rfl : shp 1 = (8, 0)) rfl rfl rfl (Nat.le_of_ble_eq_true rfl) (Nat.le_of_ble_eq_true rfl) <|
    z_if_ne 8 17 hX dX11_falls_8 rfl h (fun q3 h => ?_) (fun q3 h => ?_)
  · refine z_aload_n 17 hX dX11_falls_17 rfl <|
      zgX11_12 18 hX dX11_falls_18 (rfl : shp 0 = (11, 0)) <|
      zgX11_80 21 hX dX11_falls_21 (rfl : shp 1 = (8, 0)) <|
      z_iload_n 24 hX dX11_falls_24 rfl <|
      z_aald 25 hX dX11_falls_25 (rfl : shp 2 = (21, 6)) (by decide) h fun q4 h =>
      z_astore_n 26 [some (.ref (zα G 0)), some (.int a1), some (.ref (zα G (40 + 2 * a1.toNatClampNeg))), none, none] hX dX11_falls_26 (Nat.le_of_ble_eq_true rfl) rfl rfl <|
      z_aload_n 27 hX dX11_falls_27 rfl <|
      zb1 h fun x6 r5 h => zcX11_250 28 [] [] hX dX11_falls_28 (c_X9_countLetters (zgd0 hX) (ze21 _ (rfl : shp 2 = (21, 6)) _ q4) r5) (ze21 _ (rfl : shp 2 = (21, 6)) _ q4) rfl rfl rfl (Nat.le_of_ble_eq_true rfl) (Nat.le_of_ble_eq_true rfl) <|
      z_istore_n 31 [some (.ref (zα G 0)), some (.int a1), some (.ref (zα G (40 + 2 * a1.toNatClampNeg))), some (.int x6), none] hX dX11_falls_31 (Nat.le_of_ble_eq_true rfl) rfl rfl <|
      z_iconst 32 hX dX11_falls_32 zki0 <|
      z_istore 33 [some (.ref (zα G 0)), some (.int a1), some (.ref (zα G (40 + 2 * a1.toNatClampNeg))), some (.int x6), some (.int (nI 0))] hX dX11_falls_33 (Nat.le_of_ble_eq_true rfl) rfl rfl <|
      z_weak (L' := [some (.ref (zα G 0)), none, some (.ref (zα G (40 + 2 * a1.toNatClampNeg))), some (.int x6), some (.int (nI 0))]) (zsub_s (zsub_n (zsub_s (zsub_s (zsub_s zsub_0))))) <|
      l_X11_falls_35z hX hE (fun k60_a3 w11 h => ?_) _ _ _ _ _ (ze21 _ (rfl : shp 2 = (21, 6)) _ q4) h
    · refine z_iload_n 60 hX dX11_falls_60 rfl <|
        z_endI2 61 hE rfl h dX11_falls_61
  · refine z_aload_n 11 hX dX11_falls_11 rfl <|
      z_iconst 12 hX dX11_falls_12 zki1 <|
      zb12 h fun x8 w1 r7 h => zcX11_72 13 [.int (nI 1)] [] hX dX11_falls_13 (c_X11_error (zgd0 hX) r7) (rfl : shp 0 = (11, 0)) rfl rfl rfl (Nat.le_of_ble_eq_true rfl) (Nat.le_of_ble_eq_true rfl) <|
      z_endI2 16 hE rfl h dX11_falls_16
def j_X11_builds_20  (w : zW) : Option (Int32 × zW) :=
  zb2 (f_X11_error (nI 1) w) fun x2 w1 =>
  some (x2, w1)
theorem j_X11_builds_20z {G : zG} {X : zX} {w : zW} {re : Int32} {we : zW}  (hX : zOk G X cX11_builds 3 RX11 103) (hE : zEI G X cX11_builds .int re we)  (h : j_X11_builds_20 w = some (re, we)) : zZ G X w 20 [some (.ref (zα G 0)), none, none] [] := by
  rw [j_X11_builds_20] at h
  refine z_aload_n 20 hX dX11_builds_20 rfl <|
    z_iconst 21 hX dX11_builds_21 zki1 <|
    zb12 h fun x2 w1 r1 h => zcX11_72 22 [.int (nI 1)] [] hX dX11_builds_22 (c_X11_error (zgd0 hX) r1) (rfl : shp 0 = (11, 0)) rfl rfl rfl (Nat.le_of_ble_eq_true rfl) (Nat.le_of_ble_eq_true rfl) <|
    z_endI2 25 hE rfl h dX11_builds_25
def f_X11_builds (a1 : Int32) (a2 : Int32) (w : zW) : Option (Int32 × zW) :=
  if a1 < (nI 1) then
    j_X11_builds_20 w
  else
  if (nI 7) < a1 then
    j_X11_builds_20 w
  else
  if a2 < nI 0 then
    j_X11_builds_20 w
  else
  if (nI 1) < a2 then
    j_X11_builds_20 w
  else
    zb (f_X0_search 38 27 a1 w) fun w1 =>
    if a2 = nI 0 then
      some (w1 123 3, w1)
    else
      some (w1 123 4, w1)
theorem c_X11_builds {G : zG} {l : Launch} (hG : zgood G) {w : zW} {re : Int32} {we : zW} {a1 : Int32} {a2 : Int32}  (h : f_X11_builds a1 a2 w = some (re, we)) : zMet G l yX11_builds cX11_builds 3 (some .int) 103 [.ref (zα G 0), .int a1, .int a2] w (some (.int re)) we := by
  refine zMet_of (L0 := [some (.ref (zα G 0)), some (.int a1), some (.int a2)]) hG zplX11 (Nat.le_of_ble_eq_true rfl) rfl rfl (fun X hl hX hEI hEV hEA => ?_)
  subst hl
  have hX : zOk G X cX11_builds 3 RX11 103 := hX
  have hE := hEI _ _ rfl rfl
  rw [f_X11_builds] at h
  refine z_iload_n 0 hX dX11_builds_0 rfl <|
    z_iconst 1 hX dX11_builds_1 zki1 <|
    z_icmp_lt 2 20 hX dX11_builds_2 rfl h (fun q1 h => ?_) (fun q1 h => ?_)
  · refine z_weak (L' := [some (.ref (zα G 0)), none, none]) (zsub_s (zsub_n (zsub_n zsub_0))) <|
      j_X11_builds_20z hX hE h
  · refine z_iload_n 5 hX dX11_builds_5 rfl <|
      z_bipush 6 hX dX11_builds_6 zkb7 <|
      z_icmp_gt 8 20 hX dX11_builds_8 rfl h (fun q2 h => ?_) (fun q2 h => ?_)
    · refine z_weak (L' := [some (.ref (zα G 0)), none, none]) (zsub_s (zsub_n (zsub_n zsub_0))) <|
        j_X11_builds_20z hX hE h
    · refine z_iload_n 11 hX dX11_builds_11 rfl <|
        z_if_lt 12 20 hX dX11_builds_12 rfl h (fun q3 h => ?_) (fun q3 h => ?_)
      · refine z_weak (L' := [some (.ref (zα G 0)), none, none]) (zsub_s (zsub_n (zsub_n zsub_0))) <|
          j_X11_builds_20z hX hE h
      · refine z_iload_n 15 hX dX11_builds_15 rfl <|
          z_iconst 16 hX dX11_builds_16 zki1 <|
          z_icmp_le 17 26 hX dX11_builds_17 rfl h (fun q4 h => ?_) (fun q4 h => ?_)
        · refine z_aload_n 26 hX dX11_builds_26 rfl <|
            zgX11_57 27 hX dX11_builds_27 (rfl : shp 0 = (11, 0)) <|
            z_aload_n 30 hX dX11_builds_30 rfl <|
            zgX11_12 31 hX dX11_builds_31 (rfl : shp 0 = (11, 0)) <|
            zgX11_106 34 hX dX11_builds_34 (rfl : shp 1 = (8, 0)) <|
            z_aload_n 37 hX dX11_builds_37 rfl <|
            zgX11_12 38 hX dX11_builds_38 (rfl : shp 0 = (11, 0)) <|
            zgX11_237 41 hX dX11_builds_41 (rfl : shp 1 = (8, 0)) <|
            z_iload_n 44 hX dX11_builds_44 rfl <|
            zb1 h fun w1 r5 h => zcX11_258 45 [.ref (zα G 3), .ref (zα G 38), .int a1] [] hX dX11_builds_45 (c_X0_search (zgd0 hX) (rfl : shp 38 = (20, 27)) r5) (rfl : shp 123 = (0, 0)) rfl rfl rfl (Nat.le_of_ble_eq_true rfl) (Nat.le_of_ble_eq_true rfl) <|
            z_iload_n 48 hX dX11_builds_48 rfl <|
            z_if_ne 49 62 hX dX11_builds_49 rfl h (fun q6 h => ?_) (fun q6 h => ?_)
          · refine z_aload_n 62 hX dX11_builds_62 rfl <|
              zgX11_57 63 hX dX11_builds_63 (rfl : shp 0 = (11, 0)) <|
              zgX11_265 66 hX dX11_builds_66 (rfl : shp 123 = (0, 0)) <|
              z_endI2 69 hE rfl h dX11_builds_69
          · refine z_aload_n 52 hX dX11_builds_52 rfl <|
              zgX11_57 53 hX dX11_builds_53 (rfl : shp 0 = (11, 0)) <|
              zgX11_262 56 hX dX11_builds_56 (rfl : shp 123 = (0, 0)) <|
              z_goto 59 69 hX dX11_builds_59 rfl <|
              z_endI2 69 hE rfl h dX11_builds_69
        · refine z_weak (L' := [some (.ref (zα G 0)), none, none]) (zsub_s (zsub_n (zsub_n zsub_0))) <|
            j_X11_builds_20z hX hE h
def l_X11_passYear_42 (K134 : Int32 → zW → Option (Int32 × zW)) : Nat → Int32 → Int32 → zW → Option (Int32 × zW)
  | 0, _, _, _ => none
  | n + 1, a1, a2, w =>
    if a2 < (w 1 7) then
      zguard (zin a2 6) (
      if (w (40 + 2 * a2.toNatClampNeg) 3) = nI 0 then
        zlet (a2 + nI 1) fun x4 =>
        (l_X11_passYear_42 K134 n) a1 x4 w
      else
        zb (f_X9_countLetters (40 + 2 * a2.toNatClampNeg) w) fun x6 =>
        if x6 = nI 0 then
          zlet (a2 + nI 1) fun x21 =>
          (l_X11_passYear_42 K134 n) a1 x21 w
        else
          zb2 (f_X8_draw w) fun x9 w1 =>
          zguard (decide (¬ (w1 (40 + 2 * a2.toNatClampNeg) 3) = 0)) (
          zlet (x9 - x9 / (w1 (40 + 2 * a2.toNatClampNeg) 3) * (w1 (40 + 2 * a2.toNatClampNeg) 3)) fun x10 =>
          zld w1 ((40 + 2 * a2.toNatClampNeg) + 1) 24 x10 fun x11 =>
          if x11 = nI 0 then
            zlet (a2 + nI 1) fun x13 =>
            (l_X11_passYear_42 K134 n) a1 x13 w1
          else
            zb2 (f_X11_readsWith a2 x10 (nI 0) w1) fun x15 w2 =>
            if x15 = nI 0 then
              zlet (a2 + nI 1) fun x17 =>
              (l_X11_passYear_42 K134 n) a1 x17 w2
            else
              zb (f_X8_dropBrick (40 + 2 * a2.toNatClampNeg) x10 w2) fun w3 =>
              zlet (a1 + nI 1) fun x19 =>
              zlet (a2 + nI 1) fun x20 =>
              (l_X11_passYear_42 K134 n) x19 x20 w3))
    else
      K134 a1 w
theorem l_X11_passYear_42z {K134 : Int32 → zW → Option (Int32 × zW)} {G : zG} {X : zX} {re : Int32} {we : zW} (hX : zOk G X cX11_passYear 5 RX11 5) (hE : zEI G X cX11_passYear .int re we) (hK134 : ∀ (a1 : Int32) (w3 : zW) , K134 a1 w3 = some (re, we) → zZ G X w3 134 [none, some (.int a1), none, none, none] []) : ∀ (n : Nat) (a1 : Int32) (a2 : Int32) (w : zW) , l_X11_passYear_42 K134 n a1 a2 w = some (re, we) → zZ G X w 42 [some (.ref (zα G 0)), some (.int a1), some (.int a2), none, none] [] := by
  intro n
  induction n with
  | zero =>
    intro a1 a2 w  h
    rw [l_X11_passYear_42.eq_1] at h
    cases h
  | succ n ih =>
    intro a1 a2 w  h
    rw [l_X11_passYear_42.eq_2] at h
    refine z_iload_n 42 hX dX11_passYear_42 rfl <|
      z_aload_n 43 hX dX11_passYear_43 rfl <|
      zgX11_12 44 hX dX11_passYear_44 (rfl : shp 0 = (11, 0)) <|
      zgX11_76 47 hX dX11_passYear_47 (rfl : shp 1 = (8, 0)) <|
      z_icmp_ge 50 134 hX dX11_passYear_50 rfl h (fun q1 h => ?_) (fun q1 h => ?_)
    · refine z_weak (L' := [none, some (.int a1), none, none, none]) (zsub_n (zsub_s (zsub_n (zsub_n (zsub_n zsub_0))))) <|
        hK134 _ _ h
    · refine z_aload_n 53 hX dX11_passYear_53 rfl <|
        zgX11_12 54 hX dX11_passYear_54 (rfl : shp 0 = (11, 0)) <|
        zgX11_80 57 hX dX11_passYear_57 (rfl : shp 1 = (8, 0)) <|
        z_iload_n 60 hX dX11_passYear_60 rfl <|
        z_aald 61 hX dX11_passYear_61 (rfl : shp 2 = (21, 6)) (by decide) h fun q2 h =>
        z_astore_n 62 [some (.ref (zα G 0)), some (.int a1), some (.int a2), some (.ref (zα G (40 + 2 * a2.toNatClampNeg))), none] hX dX11_passYear_62 (Nat.le_of_ble_eq_true rfl) rfl rfl <|
        z_aload_n 63 hX dX11_passYear_63 rfl <|
        zgX11_102 64 hX dX11_passYear_64 (ze21 _ (rfl : shp 2 = (21, 6)) _ q2) <|
        z_if_eq 67 128 hX dX11_passYear_67 rfl h (fun q3 h => ?_) (fun q3 h => ?_)
      · refine z_iincG 128 (fun x4 => [some (.ref (zα G 0)), some (.int a1), some (.int x4), some (.ref (zα G (40 + 2 * a2.toNatClampNeg))), none]) hX dX11_passYear_128 rfl zki1 rfl (fun _ => rfl) h fun x4 h =>
          z_goto 131 42 hX dX11_passYear_131 rfl <|
          z_weak (L' := [some (.ref (zα G 0)), some (.int a1), some (.int x4), none, none]) (zsub_s (zsub_s (zsub_s (zsub_n (zsub_n zsub_0))))) <|
          ih _ _ _ h
      · refine z_aload_n 70 hX dX11_passYear_70 rfl <|
          zb1 h fun x6 r5 h => zcX11_250 71 [] [] hX dX11_passYear_71 (c_X9_countLetters (zgd0 hX) (ze21 _ (rfl : shp 2 = (21, 6)) _ q2) r5) (ze21 _ (rfl : shp 2 = (21, 6)) _ q2) rfl rfl rfl (Nat.le_of_ble_eq_true rfl) (Nat.le_of_ble_eq_true rfl) <|
          z_if_ne 74 80 hX dX11_passYear_74 rfl h (fun q7 h => ?_) (fun q7 h => ?_)
        · refine z_aload_n 80 hX dX11_passYear_80 rfl <|
            zgX11_12 81 hX dX11_passYear_81 (rfl : shp 0 = (11, 0)) <|
            zb12 h fun x9 w1 r8 h => zcX11_336 84 [] [] hX dX11_passYear_84 (c_X8_draw (zgd0 hX) r8) (rfl : shp 1 = (8, 0)) rfl rfl rfl (Nat.le_of_ble_eq_true rfl) (Nat.le_of_ble_eq_true rfl) <|
            z_aload_n 87 hX dX11_passYear_87 rfl <|
            zgX11_102 88 hX dX11_passYear_88 (ze21 _ (rfl : shp 2 = (21, 6)) _ q2) <|
            z_irem 91 hX dX11_passYear_91 h fun h =>
            z_top h fun x10 h =>
            z_istore 92 [some (.ref (zα G 0)), some (.int a1), some (.int a2), some (.ref (zα G (40 + 2 * a2.toNatClampNeg))), some (.int x10)] hX dX11_passYear_92 (Nat.le_of_ble_eq_true rfl) rfl rfl <|
            z_aload_n 94 hX dX11_passYear_94 rfl <|
            zgX11_132 95 hX dX11_passYear_95 (ze21 _ (rfl : shp 2 = (21, 6)) _ q2) <|
            z_iload 98 hX dX11_passYear_98 rfl <|
            z_iald 100 hX dX11_passYear_100 (zr9_stones _ (ze21 _ (rfl : shp 2 = (21, 6)) _ q2)) h fun x11 _ h =>
            z_if_eq 101 128 hX dX11_passYear_101 rfl h (fun q12 h => ?_) (fun q12 h => ?_)
          · refine z_iincG 128 (fun x13 => [some (.ref (zα G 0)), some (.int a1), some (.int x13), some (.ref (zα G (40 + 2 * a2.toNatClampNeg))), some (.int x10)]) hX dX11_passYear_128 rfl zki1 rfl (fun _ => rfl) h fun x13 h =>
              z_goto 131 42 hX dX11_passYear_131 rfl <|
              z_weak (L' := [some (.ref (zα G 0)), some (.int a1), some (.int x13), none, none]) (zsub_s (zsub_s (zsub_s (zsub_n (zsub_n zsub_0))))) <|
              ih _ _ _ h
          · refine z_aload_n 104 hX dX11_passYear_104 rfl <|
              z_iload_n 105 hX dX11_passYear_105 rfl <|
              z_iload 106 hX dX11_passYear_106 rfl <|
              z_iconst 108 hX dX11_passYear_108 zki0 <|
              zb12 h fun x15 w2 r14 h => zcX11_206 109 [.int a2, .int x10, .int (nI 0)] [] hX dX11_passYear_109 (c_X11_readsWith (zgd0 hX) r14) (rfl : shp 0 = (11, 0)) rfl rfl rfl (Nat.le_of_ble_eq_true rfl) (Nat.le_of_ble_eq_true rfl) <|
              z_if_eq 112 128 hX dX11_passYear_112 rfl h (fun q16 h => ?_) (fun q16 h => ?_)
            · refine z_iincG 128 (fun x17 => [some (.ref (zα G 0)), some (.int a1), some (.int x17), some (.ref (zα G (40 + 2 * a2.toNatClampNeg))), some (.int x10)]) hX dX11_passYear_128 rfl zki1 rfl (fun _ => rfl) h fun x17 h =>
                z_goto 131 42 hX dX11_passYear_131 rfl <|
                z_weak (L' := [some (.ref (zα G 0)), some (.int a1), some (.int x17), none, none]) (zsub_s (zsub_s (zsub_s (zsub_n (zsub_n zsub_0))))) <|
                ih _ _ _ h
            · refine z_aload_n 115 hX dX11_passYear_115 rfl <|
                zgX11_12 116 hX dX11_passYear_116 (rfl : shp 0 = (11, 0)) <|
                z_aload_n 119 hX dX11_passYear_119 rfl <|
                z_iload 120 hX dX11_passYear_120 rfl <|
                zb1 h fun w3 r18 h => zcX11_254 122 [.ref (zα G (40 + 2 * a2.toNatClampNeg)), .int x10] [] hX dX11_passYear_122 (c_X8_dropBrick (zgd0 hX) (ze21 _ (rfl : shp 2 = (21, 6)) _ q2) r18) (rfl : shp 1 = (8, 0)) rfl rfl rfl (Nat.le_of_ble_eq_true rfl) (Nat.le_of_ble_eq_true rfl) <|
                z_iincG 125 (fun x19 => [some (.ref (zα G 0)), some (.int x19), some (.int a2), some (.ref (zα G (40 + 2 * a2.toNatClampNeg))), some (.int x10)]) hX dX11_passYear_125 rfl zki1 rfl (fun _ => rfl) h fun x19 h =>
                z_iincG 128 (fun x20 => [some (.ref (zα G 0)), some (.int x19), some (.int x20), some (.ref (zα G (40 + 2 * a2.toNatClampNeg))), some (.int x10)]) hX dX11_passYear_128 rfl zki1 rfl (fun _ => rfl) h fun x20 h =>
                z_goto 131 42 hX dX11_passYear_131 rfl <|
                z_weak (L' := [some (.ref (zα G 0)), some (.int x19), some (.int x20), none, none]) (zsub_s (zsub_s (zsub_s (zsub_n (zsub_n zsub_0))))) <|
                ih _ _ _ h
        · refine z_goto 77 128 hX dX11_passYear_77 rfl <|
            z_iincG 128 (fun x21 => [some (.ref (zα G 0)), some (.int a1), some (.int x21), some (.ref (zα G (40 + 2 * a2.toNatClampNeg))), none]) hX dX11_passYear_128 rfl zki1 rfl (fun _ => rfl) h fun x21 h =>
            z_goto 131 42 hX dX11_passYear_131 rfl <|
            z_weak (L' := [some (.ref (zα G 0)), some (.int a1), some (.int x21), none, none]) (zsub_s (zsub_s (zsub_s (zsub_n (zsub_n zsub_0))))) <|
            ih _ _ _ h
def f_X11_passYear  (w : zW) : Option (Int32 × zW) :=
  zb2 (f_X8_draw w) fun x2 w1 =>
  zlet (zupd w1 1 10 (x2 - x2 / (nI 4) * (nI 4))) fun w2 =>
  zlet (zupd w2 1 11 (if ((w2 1 11) + (nI 50)) < (nI 99999) then ((w2 1 11) + (nI 50)) else (nI 99999))) fun w3 =>
  l_X11_passYear_42 (fun k134_a1 w14 =>
    some (k134_a1, w14)) zfuel (nI 0) (nI 0) w3
theorem c_X11_passYear {G : zG} {l : Launch} (hG : zgood G) {w : zW} {re : Int32} {we : zW}   (h : f_X11_passYear w = some (re, we)) : zMet G l yX11_passYear cX11_passYear 5 (some .int) 5 [.ref (zα G 0)] w (some (.int re)) we := by
  refine zMet_of (L0 := [some (.ref (zα G 0)), none, none, none, none]) hG zplX11 (Nat.le_of_ble_eq_true rfl) rfl rfl (fun X hl hX hEI hEV hEA => ?_)
  subst hl
  have hX : zOk G X cX11_passYear 5 RX11 5 := hX
  have hE := hEI _ _ rfl rfl
  rw [f_X11_passYear] at h
  refine z_aload_n 0 hX dX11_passYear_0 rfl <|
    zgX11_12 1 hX dX11_passYear_1 (rfl : shp 0 = (11, 0)) <|
    z_aload_n 4 hX dX11_passYear_4 rfl <|
    zgX11_12 5 hX dX11_passYear_5 (rfl : shp 0 = (11, 0)) <|
    zb12 h fun x2 w1 r1 h => zcX11_336 8 [] [.ref (zα G 1)] hX dX11_passYear_8 (c_X8_draw (zgd0 hX) r1) (rfl : shp 1 = (8, 0)) rfl rfl rfl (Nat.le_of_ble_eq_true rfl) (Nat.le_of_ble_eq_true rfl) <|
    z_iconst 11 hX dX11_passYear_11 zki4 <|
    z_iremc 12 hX dX11_passYear_12 (by decide) <|
    zpX11_244 13 hX dX11_passYear_13 (rfl : shp 1 = (8, 0)) <|
    z_w h fun w2 h =>
    z_aload_n 16 hX dX11_passYear_16 rfl <|
    zgX11_12 17 hX dX11_passYear_17 (rfl : shp 0 = (11, 0)) <|
    z_ldc 20 hX dX11_passYear_20 zw851 zkl99999 <|
    z_aload_n 22 hX dX11_passYear_22 rfl <|
    zgX11_12 23 hX dX11_passYear_23 (rfl : shp 0 = (11, 0)) <|
    zgX11_247 26 hX dX11_passYear_26 (rfl : shp 1 = (8, 0)) <|
    z_bipush 29 hX dX11_passYear_29 zkb50 <|
    z_iadd 31 hX dX11_passYear_31 <|
    z_mmin 32 hX dX11_passYear_32 zw909 zw538 zw86 zw539 rfl (Nat.le_of_ble_eq_true rfl) (Nat.le_of_ble_eq_true rfl) <|
    zpX11_247 35 hX dX11_passYear_35 (rfl : shp 1 = (8, 0)) <|
    z_w h fun w3 h =>
    z_iconst 38 hX dX11_passYear_38 zki0 <|
    z_istore_n 39 [some (.ref (zα G 0)), some (.int (nI 0)), none, none, none] hX dX11_passYear_39 (Nat.le_of_ble_eq_true rfl) rfl rfl <|
    z_iconst 40 hX dX11_passYear_40 zki0 <|
    z_istore_n 41 [some (.ref (zα G 0)), some (.int (nI 0)), some (.int (nI 0)), none, none] hX dX11_passYear_41 (Nat.le_of_ble_eq_true rfl) rfl rfl <|
    l_X11_passYear_42z hX hE (fun k134_a1 w14 h => ?_) _ _ _ _ h
  · refine z_iload_n 134 hX dX11_passYear_134 rfl <|
      z_endI2 135 hE rfl h dX11_passYear_135
def j_X11_years_11  (w : zW) : Option (Int32 × zW) :=
  zb2 (f_X11_error (nI 1) w) fun x2 w1 =>
  some (x2, w1)
theorem j_X11_years_11z {G : zG} {X : zX} {w : zW} {re : Int32} {we : zW}  (hX : zOk G X cX11_years 4 RX11 6) (hE : zEI G X cX11_years .int re we)  (h : j_X11_years_11 w = some (re, we)) : zZ G X w 11 [some (.ref (zα G 0)), none, none, none] [] := by
  rw [j_X11_years_11] at h
  refine z_aload_n 11 hX dX11_years_11 rfl <|
    z_iconst 12 hX dX11_years_12 zki1 <|
    zb12 h fun x2 w1 r1 h => zcX11_72 13 [.int (nI 1)] [] hX dX11_years_13 (c_X11_error (zgd0 hX) r1) (rfl : shp 0 = (11, 0)) rfl rfl rfl (Nat.le_of_ble_eq_true rfl) (Nat.le_of_ble_eq_true rfl) <|
    z_endI2 16 hE rfl h dX11_years_16
def l_X11_years_21 (K39 : Int32 → zW → Option (Int32 × zW)) : Nat → Int32 → Int32 → Int32 → zW → Option (Int32 × zW)
  | 0, _, _, _, _ => none
  | n + 1, a1, a2, a3, w =>
    if a3 < a1 then
      zb2 (f_X11_passYear w) fun x3 w1 =>
      zlet (a2 + x3) fun x4 =>
      zlet (a3 + nI 1) fun x5 =>
      (l_X11_years_21 K39 n) a1 x4 x5 w1
    else
      K39 a2 w
theorem l_X11_years_21z {K39 : Int32 → zW → Option (Int32 × zW)} {G : zG} {X : zX} {re : Int32} {we : zW} (hX : zOk G X cX11_years 4 RX11 6) (hE : zEI G X cX11_years .int re we) (hK39 : ∀ (a2 : Int32) (w3 : zW) , K39 a2 w3 = some (re, we) → zZ G X w3 39 [none, none, some (.int a2), none] []) : ∀ (n : Nat) (a1 : Int32) (a2 : Int32) (a3 : Int32) (w : zW) , l_X11_years_21 K39 n a1 a2 a3 w = some (re, we) → zZ G X w 21 [some (.ref (zα G 0)), some (.int a1), some (.int a2), some (.int a3)] [] := by
  intro n
  induction n with
  | zero =>
    intro a1 a2 a3 w  h
    rw [l_X11_years_21.eq_1] at h
    cases h
  | succ n ih =>
    intro a1 a2 a3 w  h
    rw [l_X11_years_21.eq_2] at h
    refine z_iload_n 21 hX dX11_years_21 rfl <|
      z_iload_n 22 hX dX11_years_22 rfl <|
      z_icmp_ge 23 39 hX dX11_years_23 rfl h (fun q1 h => ?_) (fun q1 h => ?_)
    · refine z_weak (L' := [none, none, some (.int a2), none]) (zsub_n (zsub_n (zsub_s (zsub_n zsub_0)))) <|
        hK39 _ _ h
    · refine z_iload_n 26 hX dX11_years_26 rfl <|
        z_aload_n 27 hX dX11_years_27 rfl <|
        zb12 h fun x3 w1 r2 h => zcX11_268 28 [] [.int a2] hX dX11_years_28 (c_X11_passYear (zgd0 hX) r2) (rfl : shp 0 = (11, 0)) rfl rfl rfl (Nat.le_of_ble_eq_true rfl) (Nat.le_of_ble_eq_true rfl) <|
        z_iadd 31 hX dX11_years_31 <|
        z_top h fun x4 h =>
        z_istore_n 32 [some (.ref (zα G 0)), some (.int a1), some (.int x4), some (.int a3)] hX dX11_years_32 (Nat.le_of_ble_eq_true rfl) rfl rfl <|
        z_iincG 33 (fun x5 => [some (.ref (zα G 0)), some (.int a1), some (.int x4), some (.int x5)]) hX dX11_years_33 rfl zki1 rfl (fun _ => rfl) h fun x5 h =>
        z_goto 36 21 hX dX11_years_36 rfl <|
        ih _ _ _ _ h
def f_X11_years (a1 : Int32) (w : zW) : Option (Int32 × zW) :=
  if a1 < (nI 1) then
    j_X11_years_11 w
  else
  if (nI 20) < a1 then
    j_X11_years_11 w
  else
    l_X11_years_21 (fun k39_a2 w11 =>
      some (k39_a2, w11)) zfuel a1 (nI 0) (nI 0) w
theorem c_X11_years {G : zG} {l : Launch} (hG : zgood G) {w : zW} {re : Int32} {we : zW} {a1 : Int32}  (h : f_X11_years a1 w = some (re, we)) : zMet G l yX11_years cX11_years 4 (some .int) 6 [.ref (zα G 0), .int a1] w (some (.int re)) we := by
  refine zMet_of (L0 := [some (.ref (zα G 0)), some (.int a1), none, none]) hG zplX11 (Nat.le_of_ble_eq_true rfl) rfl rfl (fun X hl hX hEI hEV hEA => ?_)
  subst hl
  have hX : zOk G X cX11_years 4 RX11 6 := hX
  have hE := hEI _ _ rfl rfl
  rw [f_X11_years] at h
  refine z_iload_n 0 hX dX11_years_0 rfl <|
    z_iconst 1 hX dX11_years_1 zki1 <|
    z_icmp_lt 2 11 hX dX11_years_2 rfl h (fun q1 h => ?_) (fun q1 h => ?_)
  · refine z_weak (L' := [some (.ref (zα G 0)), none, none, none]) (zsub_s (zsub_n (zsub_n (zsub_n zsub_0)))) <|
      j_X11_years_11z hX hE h
  · refine z_iload_n 5 hX dX11_years_5 rfl <|
      z_bipush 6 hX dX11_years_6 zkb20 <|
      z_icmp_le 8 17 hX dX11_years_8 rfl h (fun q2 h => ?_) (fun q2 h => ?_)
    · refine z_iconst 17 hX dX11_years_17 zki0 <|
        z_istore_n 18 [some (.ref (zα G 0)), some (.int a1), some (.int (nI 0)), none] hX dX11_years_18 (Nat.le_of_ble_eq_true rfl) rfl rfl <|
        z_iconst 19 hX dX11_years_19 zki0 <|
        z_istore_n 20 [some (.ref (zα G 0)), some (.int a1), some (.int (nI 0)), some (.int (nI 0))] hX dX11_years_20 (Nat.le_of_ble_eq_true rfl) rfl rfl <|
        l_X11_years_21z hX hE (fun k39_a2 w11 h => ?_) _ _ _ _ _ h
      · refine z_iload_n 39 hX dX11_years_39 rfl <|
          z_endI2 40 hE rfl h dX11_years_40
    · refine z_weak (L' := [some (.ref (zα G 0)), none, none, none]) (zsub_s (zsub_n (zsub_n (zsub_n zsub_0)))) <|
        j_X11_years_11z hX hE h
def f_X11_seed (a1 : Int32) (w : zW) : Option (Int32 × zW) :=
  zlet (w 1 12) fun x1 =>
  zlet (zupd w 1 12 a1) fun w1 =>
  some (x1, w1)
theorem c_X11_seed {G : zG} {l : Launch} (hG : zgood G) {w : zW} {re : Int32} {we : zW} {a1 : Int32}  (h : f_X11_seed a1 w = some (re, we)) : zMet G l yX11_seed cX11_seed 3 (some .int) 0 [.ref (zα G 0), .int a1] w (some (.int re)) we := by
  refine zMet_of (L0 := [some (.ref (zα G 0)), some (.int a1), none]) hG zplX11 (Nat.le_of_ble_eq_true rfl) rfl rfl (fun X hl hX hEI hEV hEA => ?_)
  subst hl
  have hX : zOk G X cX11_seed 3 RX11 0 := hX
  have hE := hEI _ _ rfl rfl
  rw [f_X11_seed] at h
  refine z_aload_n 0 hX dX11_seed_0 rfl <|
    zgX11_12 1 hX dX11_seed_1 (rfl : shp 0 = (11, 0)) <|
    zgX11_271 4 hX dX11_seed_4 (rfl : shp 1 = (8, 0)) <|
    z_top h fun x1 h =>
    z_istore_n 7 [some (.ref (zα G 0)), some (.int a1), some (.int x1)] hX dX11_seed_7 (Nat.le_of_ble_eq_true rfl) rfl rfl <|
    z_aload_n 8 hX dX11_seed_8 rfl <|
    zgX11_12 9 hX dX11_seed_9 (rfl : shp 0 = (11, 0)) <|
    z_iload_n 12 hX dX11_seed_12 rfl <|
    zpX11_271 13 hX dX11_seed_13 (rfl : shp 1 = (8, 0)) <|
    z_w h fun w1 h =>
    z_iload_n 16 hX dX11_seed_16 rfl <|
    z_endI2 17 hE rfl h dX11_seed_17
def j_X11_voice_20  (w : zW) : Option (Int32 × zW) :=
  zb2 (f_X11_error (nI 1) w) fun x2 w1 =>
  some (x2, w1)
theorem j_X11_voice_20z {G : zG} {X : zX} {w : zW} {re : Int32} {we : zW}  (hX : zOk G X cX11_voice 5 RX11 103) (hE : zEI G X cX11_voice .int re we)  (h : j_X11_voice_20 w = some (re, we)) : zZ G X w 20 [some (.ref (zα G 0)), none, none, none, none] [] := by
  rw [j_X11_voice_20] at h
  refine z_aload_n 20 hX dX11_voice_20 rfl <|
    z_iconst 21 hX dX11_voice_21 zki1 <|
    zb12 h fun x2 w1 r1 h => zcX11_72 22 [.int (nI 1)] [] hX dX11_voice_22 (c_X11_error (zgd0 hX) r1) (rfl : shp 0 = (11, 0)) rfl rfl rfl (Nat.le_of_ble_eq_true rfl) (Nat.le_of_ble_eq_true rfl) <|
    z_endI2 25 hE rfl h dX11_voice_25
def f_X11_voice (a1 : Int32) (a2 : Int32) (a3 : Int32) (w : zW) : Option (Int32 × zW) :=
  zb (f_X8_hasWall a1 w) fun x2 =>
  if x2 = nI 0 then
    j_X11_voice_20 w
  else
  if a2 < nI 0 then
    j_X11_voice_20 w
  else
  if a2 < (nI 4) then
    zguard (zin a1 6) (
    zb2 (f_X5_answer (40 + 2 * a1.toNatClampNeg) a1 a2 a3 w) fun x8 w1 =>
    if (w1 125 2) = nI 0 then
      some (x8, w1)
    else
      zb2 (f_X11_error (nI 6) w1) fun x11 w2 =>
      some (x11, w2))
  else
    j_X11_voice_20 w
theorem c_X11_voice {G : zG} {l : Launch} (hG : zgood G) {w : zW} {re : Int32} {we : zW} {a1 : Int32} {a2 : Int32} {a3 : Int32}  (h : f_X11_voice a1 a2 a3 w = some (re, we)) : zMet G l yX11_voice cX11_voice 5 (some .int) 103 [.ref (zα G 0), .int a1, .int a2, .int a3] w (some (.int re)) we := by
  refine zMet_of (L0 := [some (.ref (zα G 0)), some (.int a1), some (.int a2), some (.int a3), none]) hG zplX11 (Nat.le_of_ble_eq_true rfl) rfl rfl (fun X hl hX hEI hEV hEA => ?_)
  subst hl
  have hX : zOk G X cX11_voice 5 RX11 103 := hX
  have hE := hEI _ _ rfl rfl
  rw [f_X11_voice] at h
  refine z_aload_n 0 hX dX11_voice_0 rfl <|
    zgX11_12 1 hX dX11_voice_1 (rfl : shp 0 = (11, 0)) <|
    z_iload_n 4 hX dX11_voice_4 rfl <|
    zb1 h fun x2 r1 h => zcX11_88 5 [.int a1] [] hX dX11_voice_5 (c_X8_hasWall (zgd0 hX) r1) (rfl : shp 1 = (8, 0)) rfl rfl rfl (Nat.le_of_ble_eq_true rfl) (Nat.le_of_ble_eq_true rfl) <|
    z_if_eq 8 20 hX dX11_voice_8 rfl h (fun q3 h => ?_) (fun q3 h => ?_)
  · refine z_weak (L' := [some (.ref (zα G 0)), none, none, none, none]) (zsub_s (zsub_n (zsub_n (zsub_n (zsub_n zsub_0))))) <|
      j_X11_voice_20z hX hE h
  · refine z_iload_n 11 hX dX11_voice_11 rfl <|
      z_if_lt 12 20 hX dX11_voice_12 rfl h (fun q4 h => ?_) (fun q4 h => ?_)
    · refine z_weak (L' := [some (.ref (zα G 0)), none, none, none, none]) (zsub_s (zsub_n (zsub_n (zsub_n (zsub_n zsub_0))))) <|
        j_X11_voice_20z hX hE h
    · refine z_iload_n 15 hX dX11_voice_15 rfl <|
        z_iconst 16 hX dX11_voice_16 zki4 <|
        z_icmp_lt 17 26 hX dX11_voice_17 rfl h (fun q5 h => ?_) (fun q5 h => ?_)
      · refine z_aload_n 26 hX dX11_voice_26 rfl <|
          zgX11_64 27 hX dX11_voice_27 (rfl : shp 0 = (11, 0)) <|
          z_aload_n 30 hX dX11_voice_30 rfl <|
          zgX11_12 31 hX dX11_voice_31 (rfl : shp 0 = (11, 0)) <|
          zgX11_80 34 hX dX11_voice_34 (rfl : shp 1 = (8, 0)) <|
          z_iload_n 37 hX dX11_voice_37 rfl <|
          z_aald 38 hX dX11_voice_38 (rfl : shp 2 = (21, 6)) (by decide) h fun q6 h =>
          z_iload_n 39 hX dX11_voice_39 rfl <|
          z_iload_n 40 hX dX11_voice_40 rfl <|
          z_iload_n 41 hX dX11_voice_41 rfl <|
          zb12 h fun x8 w1 r7 h => zcX11_274 42 [.ref (zα G (40 + 2 * a1.toNatClampNeg)), .int a1, .int a2, .int a3] [] hX dX11_voice_42 (c_X5_answer (zgd0 hX) (ze21 _ (rfl : shp 2 = (21, 6)) _ q6) r7) (rfl : shp 125 = (5, 0)) rfl rfl rfl (Nat.le_of_ble_eq_true rfl) (Nat.le_of_ble_eq_true rfl) <|
          z_istore 45 [some (.ref (zα G 0)), some (.int a1), some (.int a2), some (.int a3), some (.int x8)] hX dX11_voice_45 (Nat.le_of_ble_eq_true rfl) rfl rfl <|
          z_aload_n 47 hX dX11_voice_47 rfl <|
          zgX11_64 48 hX dX11_voice_48 (rfl : shp 0 = (11, 0)) <|
          zgX11_278 51 hX dX11_voice_51 (rfl : shp 125 = (5, 0)) <|
          z_if_eq 54 66 hX dX11_voice_54 rfl h (fun q9 h => ?_) (fun q9 h => ?_)
        · refine z_iload 66 hX dX11_voice_66 rfl <|
            z_endI2 68 hE rfl h dX11_voice_68
        · refine z_aload_n 57 hX dX11_voice_57 rfl <|
            z_bipush 58 hX dX11_voice_58 zkb6 <|
            zb12 h fun x11 w2 r10 h => zcX11_72 60 [.int (nI 6)] [] hX dX11_voice_60 (c_X11_error (zgd0 hX) r10) (rfl : shp 0 = (11, 0)) rfl rfl rfl (Nat.le_of_ble_eq_true rfl) (Nat.le_of_ble_eq_true rfl) <|
            z_goto 63 68 hX dX11_voice_63 rfl <|
            z_endI2 68 hE rfl h dX11_voice_68
      · refine z_weak (L' := [some (.ref (zα G 0)), none, none, none, none]) (zsub_s (zsub_n (zsub_n (zsub_n (zsub_n zsub_0))))) <|
          j_X11_voice_20z hX hE h
def j_X11_body_27  (w : zW) : Option (Int32 × zW) :=
  zb2 (f_X11_error (nI 2) w) fun x2 w1 =>
  some (x2, w1)
theorem j_X11_body_27z {G : zG} {X : zX} {w : zW} {re : Int32} {we : zW}  (hX : zOk G X cX11_body 2 RX11 1) (hE : zEI G X cX11_body .int re we)  (h : j_X11_body_27 w = some (re, we)) : zZ G X w 27 [some (.ref (zα G 0)), none] [] := by
  rw [j_X11_body_27] at h
  refine z_aload_n 27 hX dX11_body_27 rfl <|
    z_iconst 28 hX dX11_body_28 zki2 <|
    zb12 h fun x2 w1 r1 h => zcX11_72 29 [.int (nI 2)] [] hX dX11_body_29 (c_X11_error (zgd0 hX) r1) (rfl : shp 0 = (11, 0)) rfl rfl rfl (Nat.le_of_ble_eq_true rfl) (Nat.le_of_ble_eq_true rfl) <|
    z_endI2 32 hE rfl h dX11_body_32
def f_X11_body (a1 : Int32) (w : zW) : Option (Int32 × zW) :=
  if a1 < nI 0 then
    j_X11_body_27 w
  else
  if a1 < (w 125 1) then
    zld w 126 30 a1 fun x3 =>
    some (x3, w)
  else
    j_X11_body_27 w
theorem c_X11_body {G : zG} {l : Launch} (hG : zgood G) {w : zW} {re : Int32} {we : zW} {a1 : Int32}  (h : f_X11_body a1 w = some (re, we)) : zMet G l yX11_body cX11_body 2 (some .int) 1 [.ref (zα G 0), .int a1] w (some (.int re)) we := by
  refine zMet_of (L0 := [some (.ref (zα G 0)), some (.int a1)]) hG zplX11 (Nat.le_of_ble_eq_true rfl) rfl rfl (fun X hl hX hEI hEV hEA => ?_)
  subst hl
  have hX : zOk G X cX11_body 2 RX11 1 := hX
  have hE := hEI _ _ rfl rfl
  rw [f_X11_body] at h
  refine z_iload_n 0 hX dX11_body_0 rfl <|
    z_if_lt 1 27 hX dX11_body_1 rfl h (fun q1 h => ?_) (fun q1 h => ?_)
  · refine z_weak (L' := [some (.ref (zα G 0)), none]) (zsub_s (zsub_n zsub_0)) <|
      j_X11_body_27z hX hE h
  · refine z_iload_n 4 hX dX11_body_4 rfl <|
      z_aload_n 5 hX dX11_body_5 rfl <|
      zgX11_64 6 hX dX11_body_6 (rfl : shp 0 = (11, 0)) <|
      zgX11_282 9 hX dX11_body_9 (rfl : shp 125 = (5, 0)) <|
      z_icmp_ge 12 27 hX dX11_body_12 rfl h (fun q2 h => ?_) (fun q2 h => ?_)
    · refine z_weak (L' := [some (.ref (zα G 0)), none]) (zsub_s (zsub_n zsub_0)) <|
        j_X11_body_27z hX hE h
    · refine z_aload_n 15 hX dX11_body_15 rfl <|
        zgX11_64 16 hX dX11_body_16 (rfl : shp 0 = (11, 0)) <|
        zgX11_285 19 hX dX11_body_19 (rfl : shp 125 = (5, 0)) <|
        z_iload_n 22 hX dX11_body_22 rfl <|
        z_iald 23 hX dX11_body_23 (rfl : shp 126 = (20, 30)) h fun x3 _ h =>
        z_goto 24 32 hX dX11_body_24 rfl <|
        z_endI2 32 hE rfl h dX11_body_32
def j_X11_sheet_29  (w : zW) : Option (Int32 × zW) :=
  zb2 (f_X11_error (nI 1) w) fun x2 w1 =>
  some (x2, w1)
theorem j_X11_sheet_29z {G : zG} {X : zX} {w : zW} {re : Int32} {we : zW}  (hX : zOk G X cX11_sheet 4 RX11 2) (hE : zEI G X cX11_sheet .int re we)  (h : j_X11_sheet_29 w = some (re, we)) : zZ G X w 29 [some (.ref (zα G 0)), none, none, none] [] := by
  rw [j_X11_sheet_29] at h
  refine z_aload_n 29 hX dX11_sheet_29 rfl <|
    z_iconst 30 hX dX11_sheet_30 zki1 <|
    zb12 h fun x2 w1 r1 h => zcX11_72 31 [.int (nI 1)] [] hX dX11_sheet_31 (c_X11_error (zgd0 hX) r1) (rfl : shp 0 = (11, 0)) rfl rfl rfl (Nat.le_of_ble_eq_true rfl) (Nat.le_of_ble_eq_true rfl) <|
    z_endI2 34 hE rfl h dX11_sheet_34
def j_X11_sheet_35 (a1 : Int32) (a2 : Int32) (a3 : Int32) (w : zW) : Option (Int32 × zW) :=
  if a2 = nI 0 then
    zguard (zin a1 4) (
    zb (f_X4_begin (104 + 2 * a1.toNatClampNeg) (nI 0) (nI 0) w) fun w4 =>
    some (nI 1, w4))
  else
  if a3 < nI 0 then
    zb2 (f_X11_error (nI 3) w) fun x9 w3 =>
    some (x9, w3)
  else
  if (nI 24) < a3 then
    zb2 (f_X11_error (nI 1) w) fun x7 w2 =>
    some (x7, w2)
  else
    zguard (zin a1 4) (
    zb (f_X4_begin (104 + 2 * a1.toNatClampNeg) a2 a3 w) fun w1 =>
    some (nI 1, w1))
theorem j_X11_sheet_35z {G : zG} {X : zX} {w : zW} {re : Int32} {we : zW} {a1 : Int32} {a2 : Int32} {a3 : Int32} (hX : zOk G X cX11_sheet 4 RX11 2) (hE : zEI G X cX11_sheet .int re we)  (h : j_X11_sheet_35 a1 a2 a3 w = some (re, we)) : zZ G X w 35 [some (.ref (zα G 0)), some (.int a1), some (.int a2), some (.int a3)] [] := by
  rw [j_X11_sheet_35] at h
  refine z_iload_n 35 hX dX11_sheet_35 rfl <|
    z_if_ne 36 52 hX dX11_sheet_36 rfl h (fun q1 h => ?_) (fun q1 h => ?_)
  · refine z_iload_n 52 hX dX11_sheet_52 rfl <|
      z_if_ge 53 62 hX dX11_sheet_53 rfl h (fun q2 h => ?_) (fun q2 h => ?_)
    · refine z_iload_n 62 hX dX11_sheet_62 rfl <|
        z_bipush 63 hX dX11_sheet_63 zkb24 <|
        z_icmp_le 65 74 hX dX11_sheet_65 rfl h (fun q3 h => ?_) (fun q3 h => ?_)
      · refine z_aload_n 74 hX dX11_sheet_74 rfl <|
          zgX11_21 75 hX dX11_sheet_75 (rfl : shp 0 = (11, 0)) <|
          z_iload_n 78 hX dX11_sheet_78 rfl <|
          z_aald 79 hX dX11_sheet_79 (rfl : shp 103 = (23, 4)) (by decide) h fun q4 h =>
          z_iload_n 80 hX dX11_sheet_80 rfl <|
          z_iload_n 81 hX dX11_sheet_81 rfl <|
          zb1 h fun w1 r5 h => zcX11_288 82 [.int a2, .int a3] [] hX dX11_sheet_82 (c_X4_begin (zgd0 hX) (ze23 _ (rfl : shp 103 = (23, 4)) _ q4) r5) (ze23 _ (rfl : shp 103 = (23, 4)) _ q4) rfl rfl rfl (Nat.le_of_ble_eq_true rfl) (Nat.le_of_ble_eq_true rfl) <|
          z_iconst 85 hX dX11_sheet_85 zki1 <|
          z_endI2 86 hE rfl h dX11_sheet_86
      · refine z_aload_n 68 hX dX11_sheet_68 rfl <|
          z_iconst 69 hX dX11_sheet_69 zki1 <|
          zb12 h fun x7 w2 r6 h => zcX11_72 70 [.int (nI 1)] [] hX dX11_sheet_70 (c_X11_error (zgd0 hX) r6) (rfl : shp 0 = (11, 0)) rfl rfl rfl (Nat.le_of_ble_eq_true rfl) (Nat.le_of_ble_eq_true rfl) <|
          z_endI2 73 hE rfl h dX11_sheet_73
    · refine z_aload_n 56 hX dX11_sheet_56 rfl <|
        z_iconst 57 hX dX11_sheet_57 zki3 <|
        zb12 h fun x9 w3 r8 h => zcX11_72 58 [.int (nI 3)] [] hX dX11_sheet_58 (c_X11_error (zgd0 hX) r8) (rfl : shp 0 = (11, 0)) rfl rfl rfl (Nat.le_of_ble_eq_true rfl) (Nat.le_of_ble_eq_true rfl) <|
        z_endI2 61 hE rfl h dX11_sheet_61
  · refine z_aload_n 39 hX dX11_sheet_39 rfl <|
      zgX11_21 40 hX dX11_sheet_40 (rfl : shp 0 = (11, 0)) <|
      z_iload_n 43 hX dX11_sheet_43 rfl <|
      z_aald 44 hX dX11_sheet_44 (rfl : shp 103 = (23, 4)) (by decide) h fun q10 h =>
      z_iconst 45 hX dX11_sheet_45 zki0 <|
      z_iconst 46 hX dX11_sheet_46 zki0 <|
      zb1 h fun w4 r11 h => zcX11_288 47 [.int (nI 0), .int (nI 0)] [] hX dX11_sheet_47 (c_X4_begin (zgd0 hX) (ze23 _ (rfl : shp 103 = (23, 4)) _ q10) r11) (ze23 _ (rfl : shp 103 = (23, 4)) _ q10) rfl rfl rfl (Nat.le_of_ble_eq_true rfl) (Nat.le_of_ble_eq_true rfl) <|
      z_iconst 50 hX dX11_sheet_50 zki1 <|
      z_endI2 51 hE rfl h dX11_sheet_51
def f_X11_sheet (a1 : Int32) (a2 : Int32) (a3 : Int32) (w : zW) : Option (Int32 × zW) :=
  zb (f_X11_isSheet a1) fun x2 =>
  if x2 = nI 0 then
    j_X11_sheet_29 w
  else
  if a2 = nI 0 then
    j_X11_sheet_35 a1 a2 a3 w
  else
  if a2 = (nI 8) then
    j_X11_sheet_35 a1 a2 a3 w
  else
  if a2 = (nI 16) then
    j_X11_sheet_35 a1 a2 a3 w
  else
  if a2 = (nI 32) then
    j_X11_sheet_35 a1 a2 a3 w
  else
    j_X11_sheet_29 w
theorem c_X11_sheet {G : zG} {l : Launch} (hG : zgood G) {w : zW} {re : Int32} {we : zW} {a1 : Int32} {a2 : Int32} {a3 : Int32}  (h : f_X11_sheet a1 a2 a3 w = some (re, we)) : zMet G l yX11_sheet cX11_sheet 4 (some .int) 2 [.ref (zα G 0), .int a1, .int a2, .int a3] w (some (.int re)) we := by
  refine zMet_of (L0 := [some (.ref (zα G 0)), some (.int a1), some (.int a2), some (.int a3)]) hG zplX11 (Nat.le_of_ble_eq_true rfl) rfl rfl (fun X hl hX hEI hEV hEA => ?_)
  subst hl
  have hX : zOk G X cX11_sheet 4 RX11 2 := hX
  have hE := hEI _ _ rfl rfl
  rw [f_X11_sheet] at h
  refine z_iload_n 0 hX dX11_sheet_0 rfl <|
    zb1 h fun x2 r1 h => zcX11_223 1 [.int a1] [] hX dX11_sheet_1 (c_X11_isSheet (zgd0 hX) r1) rfl rfl rfl (Nat.le_of_ble_eq_true rfl) (Nat.le_of_ble_eq_true rfl) <|
    z_if_eq 4 29 hX dX11_sheet_4 rfl h (fun q3 h => ?_) (fun q3 h => ?_)
  · refine z_weak (L' := [some (.ref (zα G 0)), none, none, none]) (zsub_s (zsub_n (zsub_n (zsub_n zsub_0)))) <|
      j_X11_sheet_29z hX hE h
  · refine z_iload_n 7 hX dX11_sheet_7 rfl <|
      z_if_eq 8 35 hX dX11_sheet_8 rfl h (fun q4 h => ?_) (fun q4 h => ?_)
    · refine j_X11_sheet_35z hX hE h
    · refine z_iload_n 11 hX dX11_sheet_11 rfl <|
        z_bipush 12 hX dX11_sheet_12 zkb8 <|
        z_icmp_eq 14 35 hX dX11_sheet_14 rfl h (fun q5 h => ?_) (fun q5 h => ?_)
      · refine j_X11_sheet_35z hX hE h
      · refine z_iload_n 17 hX dX11_sheet_17 rfl <|
          z_bipush 18 hX dX11_sheet_18 zkb16 <|
          z_icmp_eq 20 35 hX dX11_sheet_20 rfl h (fun q6 h => ?_) (fun q6 h => ?_)
        · refine j_X11_sheet_35z hX hE h
        · refine z_iload_n 23 hX dX11_sheet_23 rfl <|
            z_bipush 24 hX dX11_sheet_24 zkb32 <|
            z_icmp_eq 26 35 hX dX11_sheet_26 rfl h (fun q7 h => ?_) (fun q7 h => ?_)
          · refine j_X11_sheet_35z hX hE h
          · refine z_weak (L' := [some (.ref (zα G 0)), none, none, none]) (zsub_s (zsub_n (zsub_n (zsub_n zsub_0)))) <|
              j_X11_sheet_29z hX hE h
def j_X11_put_48  (w : zW) : Option (Int32 × zW) :=
  zb2 (f_X11_error (nI 1) w) fun x2 w1 =>
  some (x2, w1)
theorem j_X11_put_48z {G : zG} {X : zX} {w : zW} {re : Int32} {we : zW}  (hX : zOk G X cX11_put 5 RX11 1) (hE : zEI G X cX11_put .int re we)  (h : j_X11_put_48 w = some (re, we)) : zZ G X w 48 [some (.ref (zα G 0)), none, none, none, none] [] := by
  rw [j_X11_put_48] at h
  refine z_aload_n 48 hX dX11_put_48 rfl <|
    z_iconst 49 hX dX11_put_49 zki1 <|
    zb12 h fun x2 w1 r1 h => zcX11_72 50 [.int (nI 1)] [] hX dX11_put_50 (c_X11_error (zgd0 hX) r1) (rfl : shp 0 = (11, 0)) rfl rfl rfl (Nat.le_of_ble_eq_true rfl) (Nat.le_of_ble_eq_true rfl) <|
    z_endI2 53 hE rfl h dX11_put_53
def f_X11_put (a1 : Int32) (a2 : Int32) (a3 : Int32) (w : zW) : Option (Int32 × zW) :=
  zb (f_X11_isSheet a1) fun x2 =>
  if x2 = nI 0 then
    zb2 (f_X11_error (nI 1) w) fun x14 w3 =>
    some (x14, w3)
  else
    zguard (zin a1 4) (
    zb (f_X4_isMissing (104 + 2 * a1.toNatClampNeg) w) fun x6 =>
    if x6 = nI 0 then
      if a2 < nI 0 then
        j_X11_put_48 w
      else
      if a2 < (w (104 + 2 * a1.toNatClampNeg) 2) then
        zb (f_X4_write (104 + 2 * a1.toNatClampNeg) a2 a3 w) fun w1 =>
        some (nI 1, w1)
      else
        j_X11_put_48 w
    else
      zb2 (f_X11_error (nI 2) w) fun x12 w2 =>
      some (x12, w2))
theorem c_X11_put {G : zG} {l : Launch} (hG : zgood G) {w : zW} {re : Int32} {we : zW} {a1 : Int32} {a2 : Int32} {a3 : Int32}  (h : f_X11_put a1 a2 a3 w = some (re, we)) : zMet G l yX11_put cX11_put 5 (some .int) 1 [.ref (zα G 0), .int a1, .int a2, .int a3] w (some (.int re)) we := by
  refine zMet_of (L0 := [some (.ref (zα G 0)), some (.int a1), some (.int a2), some (.int a3), none]) hG zplX11 (Nat.le_of_ble_eq_true rfl) rfl rfl (fun X hl hX hEI hEV hEA => ?_)
  subst hl
  have hX : zOk G X cX11_put 5 RX11 1 := hX
  have hE := hEI _ _ rfl rfl
  rw [f_X11_put] at h
  refine z_iload_n 0 hX dX11_put_0 rfl <|
    zb1 h fun x2 r1 h => zcX11_223 1 [.int a1] [] hX dX11_put_1 (c_X11_isSheet (zgd0 hX) r1) rfl rfl rfl (Nat.le_of_ble_eq_true rfl) (Nat.le_of_ble_eq_true rfl) <|
    z_if_ne 4 13 hX dX11_put_4 rfl h (fun q3 h => ?_) (fun q3 h => ?_)
  · refine z_aload_n 13 hX dX11_put_13 rfl <|
      zgX11_21 14 hX dX11_put_14 (rfl : shp 0 = (11, 0)) <|
      z_iload_n 17 hX dX11_put_17 rfl <|
      z_aald 18 hX dX11_put_18 (rfl : shp 103 = (23, 4)) (by decide) h fun q4 h =>
      z_astore 19 [some (.ref (zα G 0)), some (.int a1), some (.int a2), some (.int a3), some (.ref (zα G (104 + 2 * a1.toNatClampNeg)))] hX dX11_put_19 (Nat.le_of_ble_eq_true rfl) rfl rfl <|
      z_aload 21 hX dX11_put_21 rfl <|
      zb1 h fun x6 r5 h => zcX11_226 23 [] [] hX dX11_put_23 (c_X4_isMissing (zgd0 hX) (ze23 _ (rfl : shp 103 = (23, 4)) _ q4) r5) (ze23 _ (rfl : shp 103 = (23, 4)) _ q4) rfl rfl rfl (Nat.le_of_ble_eq_true rfl) (Nat.le_of_ble_eq_true rfl) <|
      z_if_eq 26 35 hX dX11_put_26 rfl h (fun q7 h => ?_) (fun q7 h => ?_)
    · refine z_iload_n 35 hX dX11_put_35 rfl <|
        z_if_lt 36 48 hX dX11_put_36 rfl h (fun q8 h => ?_) (fun q8 h => ?_)
      · refine z_weak (L' := [some (.ref (zα G 0)), none, none, none, none]) (zsub_s (zsub_n (zsub_n (zsub_n (zsub_n zsub_0))))) <|
          j_X11_put_48z hX hE h
      · refine z_iload_n 39 hX dX11_put_39 rfl <|
          z_aload 40 hX dX11_put_40 rfl <|
          zgX11_229 42 hX dX11_put_42 (ze23 _ (rfl : shp 103 = (23, 4)) _ q4) <|
          z_icmp_lt 45 54 hX dX11_put_45 rfl h (fun q9 h => ?_) (fun q9 h => ?_)
        · refine z_aload 54 hX dX11_put_54 rfl <|
            z_iload_n 56 hX dX11_put_56 rfl <|
            z_iload_n 57 hX dX11_put_57 rfl <|
            zb1 h fun w1 r10 h => zcX11_289 58 [.int a2, .int a3] [] hX dX11_put_58 (c_X4_write (zgd0 hX) (ze23 _ (rfl : shp 103 = (23, 4)) _ q4) r10) (ze23 _ (rfl : shp 103 = (23, 4)) _ q4) rfl rfl rfl (Nat.le_of_ble_eq_true rfl) (Nat.le_of_ble_eq_true rfl) <|
            z_iconst 61 hX dX11_put_61 zki1 <|
            z_endI2 62 hE rfl h dX11_put_62
        · refine z_weak (L' := [some (.ref (zα G 0)), none, none, none, none]) (zsub_s (zsub_n (zsub_n (zsub_n (zsub_n zsub_0))))) <|
            j_X11_put_48z hX hE h
    · refine z_aload_n 29 hX dX11_put_29 rfl <|
        z_iconst 30 hX dX11_put_30 zki2 <|
        zb12 h fun x12 w2 r11 h => zcX11_72 31 [.int (nI 2)] [] hX dX11_put_31 (c_X11_error (zgd0 hX) r11) (rfl : shp 0 = (11, 0)) rfl rfl rfl (Nat.le_of_ble_eq_true rfl) (Nat.le_of_ble_eq_true rfl) <|
        z_endI2 34 hE rfl h dX11_put_34
  · refine z_aload_n 7 hX dX11_put_7 rfl <|
      z_iconst 8 hX dX11_put_8 zki1 <|
      zb12 h fun x14 w3 r13 h => zcX11_72 9 [.int (nI 1)] [] hX dX11_put_9 (c_X11_error (zgd0 hX) r13) (rfl : shp 0 = (11, 0)) rfl rfl rfl (Nat.le_of_ble_eq_true rfl) (Nat.le_of_ble_eq_true rfl) <|
      z_endI2 12 hE rfl h dX11_put_12
def j_X11_move_14  (w : zW) : Option (Int32 × zW) :=
  zb2 (f_X11_error (nI 1) w) fun x2 w1 =>
  some (x2, w1)
theorem j_X11_move_14z {G : zG} {X : zX} {w : zW} {re : Int32} {we : zW}  (hX : zOk G X cX11_move 8 RX11 1) (hE : zEI G X cX11_move .int re we)  (h : j_X11_move_14 w = some (re, we)) : zZ G X w 14 [some (.ref (zα G 0)), none, none, none, none, none, none, none] [] := by
  rw [j_X11_move_14] at h
  refine z_aload_n 14 hX dX11_move_14 rfl <|
    z_iconst 15 hX dX11_move_15 zki1 <|
    zb12 h fun x2 w1 r1 h => zcX11_72 16 [.int (nI 1)] [] hX dX11_move_16 (c_X11_error (zgd0 hX) r1) (rfl : shp 0 = (11, 0)) rfl rfl rfl (Nat.le_of_ble_eq_true rfl) (Nat.le_of_ble_eq_true rfl) <|
    z_endI2 19 hE rfl h dX11_move_19
def j_X11_move_52  (w : zW) : Option (Int32 × zW) :=
  zb2 (f_X11_error (nI 2) w) fun x2 w1 =>
  some (x2, w1)
theorem j_X11_move_52z {G : zG} {X : zX} {w : zW} {re : Int32} {we : zW}  (hX : zOk G X cX11_move 8 RX11 1) (hE : zEI G X cX11_move .int re we)  (h : j_X11_move_52 w = some (re, we)) : zZ G X w 52 [some (.ref (zα G 0)), none, none, none, none, none, none, none] [] := by
  rw [j_X11_move_52] at h
  refine z_aload_n 52 hX dX11_move_52 rfl <|
    z_iconst 53 hX dX11_move_53 zki2 <|
    zb12 h fun x2 w1 r1 h => zcX11_72 54 [.int (nI 2)] [] hX dX11_move_54 (c_X11_error (zgd0 hX) r1) (rfl : shp 0 = (11, 0)) rfl rfl rfl (Nat.le_of_ble_eq_true rfl) (Nat.le_of_ble_eq_true rfl) <|
    z_endI2 57 hE rfl h dX11_move_57
def j_X11_move_100  (w : zW) : Option (Int32 × zW) :=
  zb2 (f_X11_error (nI 1) w) fun x2 w1 =>
  some (x2, w1)
theorem j_X11_move_100z {G : zG} {X : zX} {w : zW} {re : Int32} {we : zW}  (hX : zOk G X cX11_move 8 RX11 1) (hE : zEI G X cX11_move .int re we)  (h : j_X11_move_100 w = some (re, we)) : zZ G X w 100 [some (.ref (zα G 0)), none, none, none, none, none, none, none] [] := by
  rw [j_X11_move_100] at h
  refine z_aload_n 100 hX dX11_move_100 rfl <|
    z_iconst 101 hX dX11_move_101 zki1 <|
    zb12 h fun x2 w1 r1 h => zcX11_72 102 [.int (nI 1)] [] hX dX11_move_102 (c_X11_error (zgd0 hX) r1) (rfl : shp 0 = (11, 0)) rfl rfl rfl (Nat.le_of_ble_eq_true rfl) (Nat.le_of_ble_eq_true rfl) <|
    z_endI2 105 hE rfl h dX11_move_105
def f_X11_move (a1 : Int32) (a2 : Int32) (a3 : Int32) (a4 : Int32) (a5 : Int32) (w : zW) : Option (Int32 × zW) :=
  zb (f_X11_isSheet a1) fun x2 =>
  if x2 = nI 0 then
    j_X11_move_14 w
  else
    zb (f_X11_isSheet a3) fun x5 =>
    if x5 = nI 0 then
      j_X11_move_14 w
    else
      zguard (zin a1 4) (
      zguard (zin a3 4) (
      zb (f_X4_isMissing (104 + 2 * a1.toNatClampNeg) w) fun x10 =>
      if x10 = nI 0 then
        zb (f_X4_isMissing (104 + 2 * a3.toNatClampNeg) w) fun x13 =>
        if x13 = nI 0 then
          if (w (104 + 2 * a1.toNatClampNeg) 1) = (w (104 + 2 * a3.toNatClampNeg) 1) then
            zb (f_X4_holds (104 + 2 * a1.toNatClampNeg) a2 a5 w) fun x17 =>
            if x17 = nI 0 then
              j_X11_move_100 w
            else
              zb (f_X4_holds (104 + 2 * a3.toNatClampNeg) a4 a5 w) fun x20 =>
              if x20 = nI 0 then
                j_X11_move_100 w
              else
                zguard (zcpyok a2 a4 a5 24 24) (zlet (zcopy w ((104 + 2 * a1.toNatClampNeg) + 1) ((104 + 2 * a3.toNatClampNeg) + 1) a2 a4 a5) fun w1 =>
                some (a5, w1))
          else
            zb2 (f_X11_error (nI 5) w) fun x23 w2 =>
            some (x23, w2)
        else
          j_X11_move_52 w
      else
        j_X11_move_52 w))
theorem c_X11_move {G : zG} {l : Launch} (hG : zgood G) {w : zW} {re : Int32} {we : zW} {a1 : Int32} {a2 : Int32} {a3 : Int32} {a4 : Int32} {a5 : Int32}  (h : f_X11_move a1 a2 a3 a4 a5 w = some (re, we)) : zMet G l yX11_move cX11_move 8 (some .int) 1 [.ref (zα G 0), .int a1, .int a2, .int a3, .int a4, .int a5] w (some (.int re)) we := by
  refine zMet_of (L0 := [some (.ref (zα G 0)), some (.int a1), some (.int a2), some (.int a3), some (.int a4), some (.int a5), none, none]) hG zplX11 (Nat.le_of_ble_eq_true rfl) rfl rfl (fun X hl hX hEI hEV hEA => ?_)
  subst hl
  have hX : zOk G X cX11_move 8 RX11 1 := hX
  have hE := hEI _ _ rfl rfl
  rw [f_X11_move] at h
  refine z_iload_n 0 hX dX11_move_0 rfl <|
    zb1 h fun x2 r1 h => zcX11_223 1 [.int a1] [] hX dX11_move_1 (c_X11_isSheet (zgd0 hX) r1) rfl rfl rfl (Nat.le_of_ble_eq_true rfl) (Nat.le_of_ble_eq_true rfl) <|
    z_if_eq 4 14 hX dX11_move_4 rfl h (fun q3 h => ?_) (fun q3 h => ?_)
  · refine z_weak (L' := [some (.ref (zα G 0)), none, none, none, none, none, none, none]) (zsub_s (zsub_n (zsub_n (zsub_n (zsub_n (zsub_n (zsub_n (zsub_n zsub_0)))))))) <|
      j_X11_move_14z hX hE h
  · refine z_iload_n 7 hX dX11_move_7 rfl <|
      zb1 h fun x5 r4 h => zcX11_223 8 [.int a3] [] hX dX11_move_8 (c_X11_isSheet (zgd0 hX) r4) rfl rfl rfl (Nat.le_of_ble_eq_true rfl) (Nat.le_of_ble_eq_true rfl) <|
      z_if_ne 11 20 hX dX11_move_11 rfl h (fun q6 h => ?_) (fun q6 h => ?_)
    · refine z_aload_n 20 hX dX11_move_20 rfl <|
        zgX11_21 21 hX dX11_move_21 (rfl : shp 0 = (11, 0)) <|
        z_iload_n 24 hX dX11_move_24 rfl <|
        z_aald 25 hX dX11_move_25 (rfl : shp 103 = (23, 4)) (by decide) h fun q7 h =>
        z_astore 26 [some (.ref (zα G 0)), some (.int a1), some (.int a2), some (.int a3), some (.int a4), some (.int a5), some (.ref (zα G (104 + 2 * a1.toNatClampNeg))), none] hX dX11_move_26 (Nat.le_of_ble_eq_true rfl) rfl rfl <|
        z_aload_n 28 hX dX11_move_28 rfl <|
        zgX11_21 29 hX dX11_move_29 (rfl : shp 0 = (11, 0)) <|
        z_iload_n 32 hX dX11_move_32 rfl <|
        z_aald 33 hX dX11_move_33 (rfl : shp 103 = (23, 4)) (by decide) h fun q8 h =>
        z_astore 34 [some (.ref (zα G 0)), some (.int a1), some (.int a2), some (.int a3), some (.int a4), some (.int a5), some (.ref (zα G (104 + 2 * a1.toNatClampNeg))), some (.ref (zα G (104 + 2 * a3.toNatClampNeg)))] hX dX11_move_34 (Nat.le_of_ble_eq_true rfl) rfl rfl <|
        z_aload 36 hX dX11_move_36 rfl <|
        zb1 h fun x10 r9 h => zcX11_226 38 [] [] hX dX11_move_38 (c_X4_isMissing (zgd0 hX) (ze23 _ (rfl : shp 103 = (23, 4)) _ q7) r9) (ze23 _ (rfl : shp 103 = (23, 4)) _ q7) rfl rfl rfl (Nat.le_of_ble_eq_true rfl) (Nat.le_of_ble_eq_true rfl) <|
        z_if_ne 41 52 hX dX11_move_41 rfl h (fun q11 h => ?_) (fun q11 h => ?_)
      · refine z_weak (L' := [some (.ref (zα G 0)), none, none, none, none, none, none, none]) (zsub_s (zsub_n (zsub_n (zsub_n (zsub_n (zsub_n (zsub_n (zsub_n zsub_0)))))))) <|
          j_X11_move_52z hX hE h
      · refine z_aload 44 hX dX11_move_44 rfl <|
          zb1 h fun x13 r12 h => zcX11_226 46 [] [] hX dX11_move_46 (c_X4_isMissing (zgd0 hX) (ze23 _ (rfl : shp 103 = (23, 4)) _ q8) r12) (ze23 _ (rfl : shp 103 = (23, 4)) _ q8) rfl rfl rfl (Nat.le_of_ble_eq_true rfl) (Nat.le_of_ble_eq_true rfl) <|
          z_if_eq 49 58 hX dX11_move_49 rfl h (fun q14 h => ?_) (fun q14 h => ?_)
        · refine z_aload 58 hX dX11_move_58 rfl <|
            zgX11_292 60 hX dX11_move_60 (ze23 _ (rfl : shp 103 = (23, 4)) _ q7) <|
            z_aload 63 hX dX11_move_63 rfl <|
            zgX11_292 65 hX dX11_move_65 (ze23 _ (rfl : shp 103 = (23, 4)) _ q8) <|
            z_icmp_eq 68 77 hX dX11_move_68 rfl h (fun q15 h => ?_) (fun q15 h => ?_)
          · refine z_aload 77 hX dX11_move_77 rfl <|
              z_iload_n 79 hX dX11_move_79 rfl <|
              z_iload 80 hX dX11_move_80 rfl <|
              zb1 h fun x17 r16 h => zcX11_295 82 [.int a2, .int a5] [] hX dX11_move_82 (c_X4_holds (zgd0 hX) (ze23 _ (rfl : shp 103 = (23, 4)) _ q7) r16) (ze23 _ (rfl : shp 103 = (23, 4)) _ q7) rfl rfl rfl (Nat.le_of_ble_eq_true rfl) (Nat.le_of_ble_eq_true rfl) <|
              z_if_eq 85 100 hX dX11_move_85 rfl h (fun q18 h => ?_) (fun q18 h => ?_)
            · refine z_weak (L' := [some (.ref (zα G 0)), none, none, none, none, none, none, none]) (zsub_s (zsub_n (zsub_n (zsub_n (zsub_n (zsub_n (zsub_n (zsub_n zsub_0)))))))) <|
                j_X11_move_100z hX hE h
            · refine z_aload 88 hX dX11_move_88 rfl <|
                z_iload 90 hX dX11_move_90 rfl <|
                z_iload 92 hX dX11_move_92 rfl <|
                zb1 h fun x20 r19 h => zcX11_295 94 [.int a4, .int a5] [] hX dX11_move_94 (c_X4_holds (zgd0 hX) (ze23 _ (rfl : shp 103 = (23, 4)) _ q8) r19) (ze23 _ (rfl : shp 103 = (23, 4)) _ q8) rfl rfl rfl (Nat.le_of_ble_eq_true rfl) (Nat.le_of_ble_eq_true rfl) <|
                z_if_ne 97 106 hX dX11_move_97 rfl h (fun q21 h => ?_) (fun q21 h => ?_)
              · refine z_aload 106 hX dX11_move_106 rfl <|
                  zgX11_230 108 hX dX11_move_108 (ze23 _ (rfl : shp 103 = (23, 4)) _ q7) <|
                  z_iload_n 111 hX dX11_move_111 rfl <|
                  z_aload 112 hX dX11_move_112 rfl <|
                  zgX11_230 114 hX dX11_move_114 (ze23 _ (rfl : shp 103 = (23, 4)) _ q8) <|
                  z_iload 117 hX dX11_move_117 rfl <|
                  z_iload 119 hX dX11_move_119 rfl <|
                  z_copy 121 hX dX11_move_121 zw970 zw619 zw618 zw87 (zr4_numbers _ (ze23 _ (rfl : shp 103 = (23, 4)) _ q7)) (zr4_numbers _ (ze23 _ (rfl : shp 103 = (23, 4)) _ q8)) rfl (Nat.le_of_ble_eq_true rfl) (Nat.le_of_ble_eq_true rfl) h fun h =>
                  z_w h fun w1 h =>
                  z_iload 124 hX dX11_move_124 rfl <|
                  z_endI2 126 hE rfl h dX11_move_126
              · refine z_weak (L' := [some (.ref (zα G 0)), none, none, none, none, none, none, none]) (zsub_s (zsub_n (zsub_n (zsub_n (zsub_n (zsub_n (zsub_n (zsub_n zsub_0)))))))) <|
                  j_X11_move_100z hX hE h
          · refine z_aload_n 71 hX dX11_move_71 rfl <|
              z_iconst 72 hX dX11_move_72 zki5 <|
              zb12 h fun x23 w2 r22 h => zcX11_72 73 [.int (nI 5)] [] hX dX11_move_73 (c_X11_error (zgd0 hX) r22) (rfl : shp 0 = (11, 0)) rfl rfl rfl (Nat.le_of_ble_eq_true rfl) (Nat.le_of_ble_eq_true rfl) <|
              z_endI2 76 hE rfl h dX11_move_76
        · refine z_weak (L' := [some (.ref (zα G 0)), none, none, none, none, none, none, none]) (zsub_s (zsub_n (zsub_n (zsub_n (zsub_n (zsub_n (zsub_n (zsub_n zsub_0)))))))) <|
            j_X11_move_52z hX hE h
    · refine z_weak (L' := [some (.ref (zα G 0)), none, none, none, none, none, none, none]) (zsub_s (zsub_n (zsub_n (zsub_n (zsub_n (zsub_n (zsub_n (zsub_n zsub_0)))))))) <|
        j_X11_move_14z hX hE h
def j_X11_bricks_18  (w : zW) : Option (Int32 × zW) :=
  zb2 (f_X11_error (nI 1) w) fun x2 w1 =>
  some (x2, w1)
theorem j_X11_bricks_18z {G : zG} {X : zX} {w : zW} {re : Int32} {we : zW}  (hX : zOk G X cX11_bricks 8 RX11 1) (hE : zEI G X cX11_bricks .int re we)  (h : j_X11_bricks_18 w = some (re, we)) : zZ G X w 18 [some (.ref (zα G 0)), none, none, none, none, none, none, none] [] := by
  rw [j_X11_bricks_18] at h
  refine z_aload_n 18 hX dX11_bricks_18 rfl <|
    z_iconst 19 hX dX11_bricks_19 zki1 <|
    zb12 h fun x2 w1 r1 h => zcX11_72 20 [.int (nI 1)] [] hX dX11_bricks_20 (c_X11_error (zgd0 hX) r1) (rfl : shp 0 = (11, 0)) rfl rfl rfl (Nat.le_of_ble_eq_true rfl) (Nat.le_of_ble_eq_true rfl) <|
    z_endI2 23 hE rfl h dX11_bricks_23
def j_X11_bricks_104 (rc : Nat → Nat → Int32 → Int32 → zW → Option (Int32 × zW)) (K101 : Int32 → zW → Option (Int32 × zW)) (K120 : Int32 → zW → Option (Int32 × zW)) (a3 : Nat) (a4 : Nat) (a5 : Int32) (a6 : Int32) (a7 : Int32) (w : zW) : Option (Int32 × zW) :=
  zsto w (a4 + 1) 24 a6 a7 fun w1 =>
  zlet (a6 + nI 1) fun x1 =>
  rc a3 a4 a5 x1 w1
theorem j_X11_bricks_104z {rc : Nat → Nat → Int32 → Int32 → zW → Option (Int32 × zW)} {K101 : Int32 → zW → Option (Int32 × zW)} {K120 : Int32 → zW → Option (Int32 × zW)} {G : zG} {X : zX} {w : zW} {re : Int32} {we : zW} {a3 : Nat} {a4 : Nat} {a5 : Int32} {a6 : Int32} {a7 : Int32} (hX : zOk G X cX11_bricks 8 RX11 1) (hE : zEI G X cX11_bricks .int re we) (hrc : ∀ (a3 : Nat) (a4 : Nat) (a5 : Int32) (a6 : Int32) (w3 : zW) (ha3 : shp a3 = (4, 0)) (ha4 : shp a4 = (9, 0)), rc a3 a4 a5 a6 w3 = some (re, we) → zZ G X w3 72 [none, none, none, some (.ref (zα G a3)), some (.ref (zα G a4)), some (.int a5), some (.int a6), none] []) (hK101 : ∀ (a6 : Int32) (w3 : zW) , K101 a6 w3 = some (re, we) → zZ G X w3 101 [none, none, none, none, none, none, some (.int a6), none] []) (hK120 : ∀ (a5 : Int32) (w3 : zW) , K120 a5 w3 = some (re, we) → zZ G X w3 120 [none, none, none, none, none, some (.int a5), none, none] []) (ha3 : shp a3 = (4, 0)) (ha4 : shp a4 = (9, 0)) (h : j_X11_bricks_104 rc K101 K120 a3 a4 a5 a6 a7 w = some (re, we)) : zZ G X w 104 [none, none, none, some (.ref (zα G a3)), some (.ref (zα G a4)), some (.int a5), some (.int a6), some (.int a7)] [] := by
  rw [j_X11_bricks_104] at h
  refine z_aload 104 hX dX11_bricks_104 rfl <|
    zgX11_132 106 hX dX11_bricks_106 ha4 <|
    z_iload 109 hX dX11_bricks_109 rfl <|
    z_iload 111 hX dX11_bricks_111 rfl <|
    z_iast 113 hX dX11_bricks_113 (zr9_stones _ ha4) h fun w1 h =>
    z_iincG 114 (fun x1 => [none, none, none, some (.ref (zα G a3)), some (.ref (zα G a4)), some (.int a5), some (.int x1), some (.int a7)]) hX dX11_bricks_114 rfl zki1 rfl (fun _ => rfl) h fun x1 h =>
    z_goto 117 72 hX dX11_bricks_117 rfl <|
    z_weak (L' := [none, none, none, some (.ref (zα G a3)), some (.ref (zα G a4)), some (.int a5), some (.int x1), none]) (zsub_n (zsub_n (zsub_n (zsub_s (zsub_s (zsub_s (zsub_s (zsub_n zsub_0)))))))) <|
    hrc _ _ _ _ _ ha3 ha4 h
def l_X11_bricks_72 (K101 : Int32 → zW → Option (Int32 × zW)) (K120 : Int32 → zW → Option (Int32 × zW)) : Nat → Nat → Nat → Int32 → Int32 → zW → Option (Int32 × zW)
  | 0, _, _, _, _, _ => none
  | n + 1, a3, a4, a5, a6, w =>
    if a6 < a5 then
      zld w (a3 + 1) 24 a6 fun x2 =>
      if x2 = nI 0 then
        j_X11_bricks_104 (l_X11_bricks_72 K101 K120 n) K101 K120 a3 a4 a5 a6 x2 w
      else
        zb (f_X11_isLetter x2) fun x5 =>
        if x5 = nI 0 then
          K101 a6 w
        else
          j_X11_bricks_104 (l_X11_bricks_72 K101 K120 n) K101 K120 a3 a4 a5 a6 x2 w
    else
      K120 a5 w
theorem l_X11_bricks_72z {K101 : Int32 → zW → Option (Int32 × zW)} {K120 : Int32 → zW → Option (Int32 × zW)} {G : zG} {X : zX} {re : Int32} {we : zW} (hX : zOk G X cX11_bricks 8 RX11 1) (hE : zEI G X cX11_bricks .int re we) (hK101 : ∀ (a6 : Int32) (w3 : zW) , K101 a6 w3 = some (re, we) → zZ G X w3 101 [none, none, none, none, none, none, some (.int a6), none] []) (hK120 : ∀ (a5 : Int32) (w3 : zW) , K120 a5 w3 = some (re, we) → zZ G X w3 120 [none, none, none, none, none, some (.int a5), none, none] []) : ∀ (n : Nat) (a3 : Nat) (a4 : Nat) (a5 : Int32) (a6 : Int32) (w : zW) (ha3 : shp a3 = (4, 0)) (ha4 : shp a4 = (9, 0)), l_X11_bricks_72 K101 K120 n a3 a4 a5 a6 w = some (re, we) → zZ G X w 72 [none, none, none, some (.ref (zα G a3)), some (.ref (zα G a4)), some (.int a5), some (.int a6), none] [] := by
  intro n
  induction n with
  | zero =>
    intro a3 a4 a5 a6 w ha3 ha4 h
    rw [l_X11_bricks_72.eq_1] at h
    cases h
  | succ n ih =>
    intro a3 a4 a5 a6 w ha3 ha4 h
    rw [l_X11_bricks_72.eq_2] at h
    refine z_iload 72 hX dX11_bricks_72 rfl <|
      z_iload 74 hX dX11_bricks_74 rfl <|
      z_icmp_ge 76 120 hX dX11_bricks_76 rfl h (fun q1 h => ?_) (fun q1 h => ?_)
    · refine z_weak (L' := [none, none, none, none, none, some (.int a5), none, none]) (zsub_n (zsub_n (zsub_n (zsub_n (zsub_n (zsub_s (zsub_n (zsub_n zsub_0)))))))) <|
        hK120 _ _ h
    · refine z_aload_n 79 hX dX11_bricks_79 rfl <|
        zgX11_230 80 hX dX11_bricks_80 ha3 <|
        z_iload 83 hX dX11_bricks_83 rfl <|
        z_iald 85 hX dX11_bricks_85 (zr4_numbers _ ha3) h fun x2 _ h =>
        z_istore 86 [none, none, none, some (.ref (zα G a3)), some (.ref (zα G a4)), some (.int a5), some (.int a6), some (.int x2)] hX dX11_bricks_86 (Nat.le_of_ble_eq_true rfl) rfl rfl <|
        z_iload 88 hX dX11_bricks_88 rfl <|
        z_if_eq 90 104 hX dX11_bricks_90 rfl h (fun q3 h => ?_) (fun q3 h => ?_)
      · refine j_X11_bricks_104z hX hE ih hK101 hK120 ha3 ha4 h
      · refine z_iload 93 hX dX11_bricks_93 rfl <|
          zb1 h fun x5 r4 h => zcX11_138 95 [.int x2] [] hX dX11_bricks_95 (c_X11_isLetter (zgd0 hX) r4) rfl rfl rfl (Nat.le_of_ble_eq_true rfl) (Nat.le_of_ble_eq_true rfl) <|
          z_if_ne 98 104 hX dX11_bricks_98 rfl h (fun q6 h => ?_) (fun q6 h => ?_)
        · refine j_X11_bricks_104z hX hE ih hK101 hK120 ha3 ha4 h
        · refine z_weak (L' := [none, none, none, none, none, none, some (.int a6), none]) (zsub_n (zsub_n (zsub_n (zsub_n (zsub_n (zsub_n (zsub_s (zsub_n zsub_0)))))))) <|
            hK101 _ _ h
def f_X11_bricks (a1 : Int32) (a2 : Int32) (w : zW) : Option (Int32 × zW) :=
  zb (f_X11_isSheet a1) fun x2 =>
  if x2 = nI 0 then
    j_X11_bricks_18 w
  else
    zb (f_X8_hasWall a2 w) fun x5 =>
    if x5 = nI 0 then
      j_X11_bricks_18 w
    else
      zguard (zin a1 4) (
      zb (f_X4_isMissing (104 + 2 * a1.toNatClampNeg) w) fun x9 =>
      if x9 = nI 0 then
        zguard (zin a2 6) (
        zlet (if (w (40 + 2 * a2.toNatClampNeg) 3) < (w (104 + 2 * a1.toNatClampNeg) 2) then (w (40 + 2 * a2.toNatClampNeg) 3) else (w (104 + 2 * a1.toNatClampNeg) 2)) fun x12 =>
        l_X11_bricks_72 (fun k101_a6 w11 =>
          some (k101_a6, w11)) (fun k120_a5 w21 =>
          some (k120_a5, w21)) zfuel (104 + 2 * a1.toNatClampNeg) (40 + 2 * a2.toNatClampNeg) x12 (nI 0) w)
      else
        zb2 (f_X11_error (nI 2) w) fun x14 w1 =>
        some (x14, w1))
theorem c_X11_bricks {G : zG} {l : Launch} (hG : zgood G) {w : zW} {re : Int32} {we : zW} {a1 : Int32} {a2 : Int32}  (h : f_X11_bricks a1 a2 w = some (re, we)) : zMet G l yX11_bricks cX11_bricks 8 (some .int) 1 [.ref (zα G 0), .int a1, .int a2] w (some (.int re)) we := by
  refine zMet_of (L0 := [some (.ref (zα G 0)), some (.int a1), some (.int a2), none, none, none, none, none]) hG zplX11 (Nat.le_of_ble_eq_true rfl) rfl rfl (fun X hl hX hEI hEV hEA => ?_)
  subst hl
  have hX : zOk G X cX11_bricks 8 RX11 1 := hX
  have hE := hEI _ _ rfl rfl
  rw [f_X11_bricks] at h
  refine z_iload_n 0 hX dX11_bricks_0 rfl <|
    zb1 h fun x2 r1 h => zcX11_223 1 [.int a1] [] hX dX11_bricks_1 (c_X11_isSheet (zgd0 hX) r1) rfl rfl rfl (Nat.le_of_ble_eq_true rfl) (Nat.le_of_ble_eq_true rfl) <|
    z_if_eq 4 18 hX dX11_bricks_4 rfl h (fun q3 h => ?_) (fun q3 h => ?_)
  · refine z_weak (L' := [some (.ref (zα G 0)), none, none, none, none, none, none, none]) (zsub_s (zsub_n (zsub_n (zsub_n (zsub_n (zsub_n (zsub_n (zsub_n zsub_0)))))))) <|
      j_X11_bricks_18z hX hE h
  · refine z_aload_n 7 hX dX11_bricks_7 rfl <|
      zgX11_12 8 hX dX11_bricks_8 (rfl : shp 0 = (11, 0)) <|
      z_iload_n 11 hX dX11_bricks_11 rfl <|
      zb1 h fun x5 r4 h => zcX11_88 12 [.int a2] [] hX dX11_bricks_12 (c_X8_hasWall (zgd0 hX) r4) (rfl : shp 1 = (8, 0)) rfl rfl rfl (Nat.le_of_ble_eq_true rfl) (Nat.le_of_ble_eq_true rfl) <|
      z_if_ne 15 24 hX dX11_bricks_15 rfl h (fun q6 h => ?_) (fun q6 h => ?_)
    · refine z_aload_n 24 hX dX11_bricks_24 rfl <|
        zgX11_21 25 hX dX11_bricks_25 (rfl : shp 0 = (11, 0)) <|
        z_iload_n 28 hX dX11_bricks_28 rfl <|
        z_aald 29 hX dX11_bricks_29 (rfl : shp 103 = (23, 4)) (by decide) h fun q7 h =>
        z_astore_n 30 [some (.ref (zα G 0)), some (.int a1), some (.int a2), some (.ref (zα G (104 + 2 * a1.toNatClampNeg))), none, none, none, none] hX dX11_bricks_30 (Nat.le_of_ble_eq_true rfl) rfl rfl <|
        z_aload_n 31 hX dX11_bricks_31 rfl <|
        zb1 h fun x9 r8 h => zcX11_226 32 [] [] hX dX11_bricks_32 (c_X4_isMissing (zgd0 hX) (ze23 _ (rfl : shp 103 = (23, 4)) _ q7) r8) (ze23 _ (rfl : shp 103 = (23, 4)) _ q7) rfl rfl rfl (Nat.le_of_ble_eq_true rfl) (Nat.le_of_ble_eq_true rfl) <|
        z_if_eq 35 44 hX dX11_bricks_35 rfl h (fun q10 h => ?_) (fun q10 h => ?_)
      · refine z_aload_n 44 hX dX11_bricks_44 rfl <|
          zgX11_12 45 hX dX11_bricks_45 (rfl : shp 0 = (11, 0)) <|
          zgX11_80 48 hX dX11_bricks_48 (rfl : shp 1 = (8, 0)) <|
          z_iload_n 51 hX dX11_bricks_51 rfl <|
          z_aald 52 hX dX11_bricks_52 (rfl : shp 2 = (21, 6)) (by decide) h fun q11 h =>
          z_astore 53 [some (.ref (zα G 0)), some (.int a1), some (.int a2), some (.ref (zα G (104 + 2 * a1.toNatClampNeg))), some (.ref (zα G (40 + 2 * a2.toNatClampNeg))), none, none, none] hX dX11_bricks_53 (Nat.le_of_ble_eq_true rfl) rfl rfl <|
          z_aload_n 55 hX dX11_bricks_55 rfl <|
          zgX11_229 56 hX dX11_bricks_56 (ze23 _ (rfl : shp 103 = (23, 4)) _ q7) <|
          z_aload 59 hX dX11_bricks_59 rfl <|
          zgX11_102 61 hX dX11_bricks_61 (ze21 _ (rfl : shp 2 = (21, 6)) _ q11) <|
          z_mmin 64 hX dX11_bricks_64 zw909 zw538 zw86 zw539 rfl (Nat.le_of_ble_eq_true rfl) (Nat.le_of_ble_eq_true rfl) <|
          z_top h fun x12 h =>
          z_istore 67 [some (.ref (zα G 0)), some (.int a1), some (.int a2), some (.ref (zα G (104 + 2 * a1.toNatClampNeg))), some (.ref (zα G (40 + 2 * a2.toNatClampNeg))), some (.int x12), none, none] hX dX11_bricks_67 (Nat.le_of_ble_eq_true rfl) rfl rfl <|
          z_iconst 69 hX dX11_bricks_69 zki0 <|
          z_istore 70 [some (.ref (zα G 0)), some (.int a1), some (.int a2), some (.ref (zα G (104 + 2 * a1.toNatClampNeg))), some (.ref (zα G (40 + 2 * a2.toNatClampNeg))), some (.int x12), some (.int (nI 0)), none] hX dX11_bricks_70 (Nat.le_of_ble_eq_true rfl) rfl rfl <|
          z_weak (L' := [none, none, none, some (.ref (zα G (104 + 2 * a1.toNatClampNeg))), some (.ref (zα G (40 + 2 * a2.toNatClampNeg))), some (.int x12), some (.int (nI 0)), none]) (zsub_n (zsub_n (zsub_n (zsub_s (zsub_s (zsub_s (zsub_s (zsub_n zsub_0)))))))) <|
          l_X11_bricks_72z hX hE (fun k101_a6 w11 h => ?_) (fun k120_a5 w21 h => ?_) _ _ _ _ _ _ (ze23 _ (rfl : shp 103 = (23, 4)) _ q7) (ze21 _ (rfl : shp 2 = (21, 6)) _ q11) h
        · refine z_iload 101 hX dX11_bricks_101 rfl <|
            z_endI2 103 hE rfl h dX11_bricks_103
        · refine z_iload 120 hX dX11_bricks_120 rfl <|
            z_endI2 122 hE rfl h dX11_bricks_122
      · refine z_aload_n 38 hX dX11_bricks_38 rfl <|
          z_iconst 39 hX dX11_bricks_39 zki2 <|
          zb12 h fun x14 w1 r13 h => zcX11_72 40 [.int (nI 2)] [] hX dX11_bricks_40 (c_X11_error (zgd0 hX) r13) (rfl : shp 0 = (11, 0)) rfl rfl rfl (Nat.le_of_ble_eq_true rfl) (Nat.le_of_ble_eq_true rfl) <|
          z_endI2 43 hE rfl h dX11_bricks_43
    · refine z_weak (L' := [some (.ref (zα G 0)), none, none, none, none, none, none, none]) (zsub_s (zsub_n (zsub_n (zsub_n (zsub_n (zsub_n (zsub_n (zsub_n zsub_0)))))))) <|
        j_X11_bricks_18z hX hE h
def f_X11_image  (w : zW) : Option (Int32 × zW) :=
  zb (f_X8_copyFrom 52 1 w) fun w1 =>
  zlet (zupd w1 0 10 ((w1 0 10) + (nI 1))) fun w2 =>
  some (w2 0 10, w2)
theorem c_X11_image {G : zG} {l : Launch} (hG : zgood G) {w : zW} {re : Int32} {we : zW}   (h : f_X11_image w = some (re, we)) : zMet G l yX11_image cX11_image 1 (some .int) 4 [.ref (zα G 0)] w (some (.int re)) we := by
  refine zMet_of (L0 := [some (.ref (zα G 0))]) hG zplX11 (Nat.le_of_ble_eq_true rfl) rfl rfl (fun X hl hX hEI hEV hEA => ?_)
  subst hl
  have hX : zOk G X cX11_image 1 RX11 4 := hX
  have hE := hEI _ _ rfl rfl
  rw [f_X11_image] at h
  refine z_aload_n 0 hX dX11_image_0 rfl <|
    zgX11_16 1 hX dX11_image_1 (rfl : shp 0 = (11, 0)) <|
    z_aload_n 4 hX dX11_image_4 rfl <|
    zgX11_12 5 hX dX11_image_5 (rfl : shp 0 = (11, 0)) <|
    zb1 h fun w1 r1 h => zcX11_309 8 [.ref (zα G 1)] [] hX dX11_image_8 (c_X8_copyFrom (zgd0 hX) (rfl : shp 52 = (8, 0)) (rfl : shp 1 = (8, 0)) r1) (rfl : shp 52 = (8, 0)) rfl rfl rfl (Nat.le_of_ble_eq_true rfl) (Nat.le_of_ble_eq_true rfl) <|
    z_aload_n 11 hX dX11_image_11 rfl <|
    z_dup 12 hX dX11_image_12 rfl <|
    zgX11_312 13 hX dX11_image_13 (rfl : shp 0 = (11, 0)) <|
    z_iconst 16 hX dX11_image_16 zki1 <|
    z_iadd 17 hX dX11_image_17 <|
    zpX11_312 18 hX dX11_image_18 (rfl : shp 0 = (11, 0)) <|
    z_w h fun w2 h =>
    z_aload_n 21 hX dX11_image_21 rfl <|
    zgX11_312 22 hX dX11_image_22 (rfl : shp 0 = (11, 0)) <|
    z_endI2 25 hE rfl h dX11_image_25
def f_X11_restore  (w : zW) : Option (Int32 × zW) :=
  if (w 0 10) = nI 0 then
    zb2 (f_X11_error (nI 2) w) fun x4 w2 =>
    some (x4, w2)
  else
    zb (f_X8_copyFrom 1 52 w) fun w1 =>
    some (w1 1 7, w1)
theorem c_X11_restore {G : zG} {l : Launch} (hG : zgood G) {w : zW} {re : Int32} {we : zW}   (h : f_X11_restore w = some (re, we)) : zMet G l yX11_restore cX11_restore 1 (some .int) 4 [.ref (zα G 0)] w (some (.int re)) we := by
  refine zMet_of (L0 := [some (.ref (zα G 0))]) hG zplX11 (Nat.le_of_ble_eq_true rfl) rfl rfl (fun X hl hX hEI hEV hEA => ?_)
  subst hl
  have hX : zOk G X cX11_restore 1 RX11 4 := hX
  have hE := hEI _ _ rfl rfl
  rw [f_X11_restore] at h
  refine z_aload_n 0 hX dX11_restore_0 rfl <|
    zgX11_312 1 hX dX11_restore_1 (rfl : shp 0 = (11, 0)) <|
    z_if_ne 4 13 hX dX11_restore_4 rfl h (fun q1 h => ?_) (fun q1 h => ?_)
  · refine z_aload_n 13 hX dX11_restore_13 rfl <|
      zgX11_12 14 hX dX11_restore_14 (rfl : shp 0 = (11, 0)) <|
      z_aload_n 17 hX dX11_restore_17 rfl <|
      zgX11_16 18 hX dX11_restore_18 (rfl : shp 0 = (11, 0)) <|
      zb1 h fun w1 r2 h => zcX11_309 21 [.ref (zα G 52)] [] hX dX11_restore_21 (c_X8_copyFrom (zgd0 hX) (rfl : shp 1 = (8, 0)) (rfl : shp 52 = (8, 0)) r2) (rfl : shp 1 = (8, 0)) rfl rfl rfl (Nat.le_of_ble_eq_true rfl) (Nat.le_of_ble_eq_true rfl) <|
      z_aload_n 24 hX dX11_restore_24 rfl <|
      zgX11_12 25 hX dX11_restore_25 (rfl : shp 0 = (11, 0)) <|
      zgX11_76 28 hX dX11_restore_28 (rfl : shp 1 = (8, 0)) <|
      z_endI2 31 hE rfl h dX11_restore_31
  · refine z_aload_n 7 hX dX11_restore_7 rfl <|
      z_iconst 8 hX dX11_restore_8 zki2 <|
      zb12 h fun x4 w2 r3 h => zcX11_72 9 [.int (nI 2)] [] hX dX11_restore_9 (c_X11_error (zgd0 hX) r3) (rfl : shp 0 = (11, 0)) rfl rfl rfl (Nat.le_of_ble_eq_true rfl) (Nat.le_of_ble_eq_true rfl) <|
      z_endI2 12 hE rfl h dX11_restore_12
def f_X11_tell (a1 : Int32) (w : zW) : Option (Int32 × zW) :=
  if (w 1 9) < (nI 24) then
    zsto w 39 24 (w 1 9) a1 fun w1 =>
    zlet (zupd w1 1 9 ((w1 1 9) + (nI 1))) fun w2 =>
    some (w2 1 9, w2)
  else
    zb2 (f_X11_error (nI 4) w) fun x3 w3 =>
    some (x3, w3)
theorem c_X11_tell {G : zG} {l : Launch} (hG : zgood G) {w : zW} {re : Int32} {we : zW} {a1 : Int32}  (h : f_X11_tell a1 w = some (re, we)) : zMet G l yX11_tell cX11_tell 2 (some .int) 1 [.ref (zα G 0), .int a1] w (some (.int re)) we := by
  refine zMet_of (L0 := [some (.ref (zα G 0)), some (.int a1)]) hG zplX11 (Nat.le_of_ble_eq_true rfl) rfl rfl (fun X hl hX hEI hEV hEA => ?_)
  subst hl
  have hX : zOk G X cX11_tell 2 RX11 1 := hX
  have hE := hEI _ _ rfl rfl
  rw [f_X11_tell] at h
  refine z_aload_n 0 hX dX11_tell_0 rfl <|
    zgX11_12 1 hX dX11_tell_1 (rfl : shp 0 = (11, 0)) <|
    zgX11_315 4 hX dX11_tell_4 (rfl : shp 1 = (8, 0)) <|
    z_bipush 7 hX dX11_tell_7 zkb24 <|
    z_icmp_lt 9 18 hX dX11_tell_9 rfl h (fun q1 h => ?_) (fun q1 h => ?_)
  · refine z_aload_n 18 hX dX11_tell_18 rfl <|
      zgX11_12 19 hX dX11_tell_19 (rfl : shp 0 = (11, 0)) <|
      zgX11_318 22 hX dX11_tell_22 (rfl : shp 1 = (8, 0)) <|
      z_aload_n 25 hX dX11_tell_25 rfl <|
      zgX11_12 26 hX dX11_tell_26 (rfl : shp 0 = (11, 0)) <|
      zgX11_315 29 hX dX11_tell_29 (rfl : shp 1 = (8, 0)) <|
      z_iload_n 32 hX dX11_tell_32 rfl <|
      z_iast 33 hX dX11_tell_33 (rfl : shp 39 = (20, 24)) h fun w1 h =>
      z_aload_n 34 hX dX11_tell_34 rfl <|
      zgX11_12 35 hX dX11_tell_35 (rfl : shp 0 = (11, 0)) <|
      z_dup 38 hX dX11_tell_38 rfl <|
      zgX11_315 39 hX dX11_tell_39 (rfl : shp 1 = (8, 0)) <|
      z_iconst 42 hX dX11_tell_42 zki1 <|
      z_iadd 43 hX dX11_tell_43 <|
      zpX11_315 44 hX dX11_tell_44 (rfl : shp 1 = (8, 0)) <|
      z_w h fun w2 h =>
      z_aload_n 47 hX dX11_tell_47 rfl <|
      zgX11_12 48 hX dX11_tell_48 (rfl : shp 0 = (11, 0)) <|
      zgX11_315 51 hX dX11_tell_51 (rfl : shp 1 = (8, 0)) <|
      z_endI2 54 hE rfl h dX11_tell_54
  · refine z_aload_n 12 hX dX11_tell_12 rfl <|
      z_iconst 13 hX dX11_tell_13 zki4 <|
      zb12 h fun x3 w3 r2 h => zcX11_72 14 [.int (nI 4)] [] hX dX11_tell_14 (c_X11_error (zgd0 hX) r2) (rfl : shp 0 = (11, 0)) rfl rfl rfl (Nat.le_of_ble_eq_true rfl) (Nat.le_of_ble_eq_true rfl) <|
      z_endI2 17 hE rfl h dX11_tell_17
def f_X11_check (a1 : Int32) (w : zW) : Option (Int32 × zW) :=
  zlet (w 1 9) fun x1 =>
  zlet (zupd w 1 9 (nI 0)) fun w1 =>
  zb (f_X8_hasWall a1 w1) fun x3 =>
  if x3 = nI 0 then
    zb2 (f_X11_error (nI 1) w1) fun x15 w5 =>
    some (x15, w5)
  else
    zguard (zin a1 6) (
    zb (f_X8_spell (40 + 2 * a1.toNatClampNeg) a1 w1) fun w2 =>
    zb2 (f_X1_find w2) fun x8 w3 =>
    if x8 = nI 0 then
      zb2 (f_X11_error (nI 2) w3) fun x13 w4 =>
      some (x13, w4)
    else
      zb (f_X1_firstNotSaid 39 24 x1 w3) fun x11 =>
      some (x11 + (nI 1), w3))
theorem c_X11_check {G : zG} {l : Launch} (hG : zgood G) {w : zW} {re : Int32} {we : zW} {a1 : Int32}  (h : f_X11_check a1 w = some (re, we)) : zMet G l yX11_check cX11_check 3 (some .int) 4 [.ref (zα G 0), .int a1] w (some (.int re)) we := by
  refine zMet_of (L0 := [some (.ref (zα G 0)), some (.int a1), none]) hG zplX11 (Nat.le_of_ble_eq_true rfl) rfl rfl (fun X hl hX hEI hEV hEA => ?_)
  subst hl
  have hX : zOk G X cX11_check 3 RX11 4 := hX
  have hE := hEI _ _ rfl rfl
  rw [f_X11_check] at h
  refine z_aload_n 0 hX dX11_check_0 rfl <|
    zgX11_12 1 hX dX11_check_1 (rfl : shp 0 = (11, 0)) <|
    zgX11_315 4 hX dX11_check_4 (rfl : shp 1 = (8, 0)) <|
    z_top h fun x1 h =>
    z_istore_n 7 [some (.ref (zα G 0)), some (.int a1), some (.int x1)] hX dX11_check_7 (Nat.le_of_ble_eq_true rfl) rfl rfl <|
    z_aload_n 8 hX dX11_check_8 rfl <|
    zgX11_12 9 hX dX11_check_9 (rfl : shp 0 = (11, 0)) <|
    z_iconst 12 hX dX11_check_12 zki0 <|
    zpX11_315 13 hX dX11_check_13 (rfl : shp 1 = (8, 0)) <|
    z_w h fun w1 h =>
    z_aload_n 16 hX dX11_check_16 rfl <|
    zgX11_12 17 hX dX11_check_17 (rfl : shp 0 = (11, 0)) <|
    z_iload_n 20 hX dX11_check_20 rfl <|
    zb1 h fun x3 r2 h => zcX11_88 21 [.int a1] [] hX dX11_check_21 (c_X8_hasWall (zgd0 hX) r2) (rfl : shp 1 = (8, 0)) rfl rfl rfl (Nat.le_of_ble_eq_true rfl) (Nat.le_of_ble_eq_true rfl) <|
    z_if_ne 24 33 hX dX11_check_24 rfl h (fun q4 h => ?_) (fun q4 h => ?_)
  · refine z_aload_n 33 hX dX11_check_33 rfl <|
      zgX11_12 34 hX dX11_check_34 (rfl : shp 0 = (11, 0)) <|
      z_aload_n 37 hX dX11_check_37 rfl <|
      zgX11_12 38 hX dX11_check_38 (rfl : shp 0 = (11, 0)) <|
      zgX11_80 41 hX dX11_check_41 (rfl : shp 1 = (8, 0)) <|
      z_iload_n 44 hX dX11_check_44 rfl <|
      z_aald 45 hX dX11_check_45 (rfl : shp 2 = (21, 6)) (by decide) h fun q5 h =>
      z_iload_n 46 hX dX11_check_46 rfl <|
      z_aload_n 47 hX dX11_check_47 rfl <|
      zgX11_36 48 hX dX11_check_48 (rfl : shp 0 = (11, 0)) <|
      zb1 h fun w2 r6 h => zcX11_92 51 [.ref (zα G (40 + 2 * a1.toNatClampNeg)), .int a1, .ref (zα G 116)] [] hX dX11_check_51 (c_X8_spell (zgd0 hX) (ze21 _ (rfl : shp 2 = (21, 6)) _ q5) r6) (rfl : shp 1 = (8, 0)) rfl rfl rfl (Nat.le_of_ble_eq_true rfl) (Nat.le_of_ble_eq_true rfl) <|
      z_aload_n 54 hX dX11_check_54 rfl <|
      zgX11_29 55 hX dX11_check_55 (rfl : shp 0 = (11, 0)) <|
      z_aload_n 58 hX dX11_check_58 rfl <|
      zgX11_12 59 hX dX11_check_59 (rfl : shp 0 = (11, 0)) <|
      zgX11_106 62 hX dX11_check_62 (rfl : shp 1 = (8, 0)) <|
      z_aload_n 65 hX dX11_check_65 rfl <|
      zgX11_36 66 hX dX11_check_66 (rfl : shp 0 = (11, 0)) <|
      zb12 h fun x8 w3 r7 h => zcX11_190 69 [.ref (zα G 3), .ref (zα G 116)] [] hX dX11_check_69 (c_X1_find (zgd0 hX) r7) (rfl : shp 112 = (1, 0)) rfl rfl rfl (Nat.le_of_ble_eq_true rfl) (Nat.le_of_ble_eq_true rfl) <|
      z_if_ne 72 81 hX dX11_check_72 rfl h (fun q9 h => ?_) (fun q9 h => ?_)
    · refine z_aload_n 81 hX dX11_check_81 rfl <|
        zgX11_29 82 hX dX11_check_82 (rfl : shp 0 = (11, 0)) <|
        z_aload_n 85 hX dX11_check_85 rfl <|
        zgX11_12 86 hX dX11_check_86 (rfl : shp 0 = (11, 0)) <|
        zgX11_318 89 hX dX11_check_89 (rfl : shp 1 = (8, 0)) <|
        z_iload_n 92 hX dX11_check_92 rfl <|
        zb1 h fun x11 r10 h => zcX11_321 93 [.ref (zα G 39), .int x1] [] hX dX11_check_93 (c_X1_firstNotSaid (zgd0 hX) (rfl : shp 39 = (20, 24)) r10) (rfl : shp 112 = (1, 0)) rfl rfl rfl (Nat.le_of_ble_eq_true rfl) (Nat.le_of_ble_eq_true rfl) <|
        z_iconst 96 hX dX11_check_96 zki1 <|
        z_iadd 97 hX dX11_check_97 <|
        z_endI2 98 hE rfl h dX11_check_98
    · refine z_aload_n 75 hX dX11_check_75 rfl <|
        z_iconst 76 hX dX11_check_76 zki2 <|
        zb12 h fun x13 w4 r12 h => zcX11_72 77 [.int (nI 2)] [] hX dX11_check_77 (c_X11_error (zgd0 hX) r12) (rfl : shp 0 = (11, 0)) rfl rfl rfl (Nat.le_of_ble_eq_true rfl) (Nat.le_of_ble_eq_true rfl) <|
        z_endI2 80 hE rfl h dX11_check_80
  · refine z_aload_n 27 hX dX11_check_27 rfl <|
      z_iconst 28 hX dX11_check_28 zki1 <|
      zb12 h fun x15 w5 r14 h => zcX11_72 29 [.int (nI 1)] [] hX dX11_check_29 (c_X11_error (zgd0 hX) r14) (rfl : shp 0 = (11, 0)) rfl rfl rfl (Nat.le_of_ble_eq_true rfl) (Nat.le_of_ble_eq_true rfl) <|
      z_endI2 32 hE rfl h dX11_check_32
def f_X11_count (a1 : Int32) (w : zW) : Option (Int32 × zW) :=
  if a1 = nI 0 then
    some (w 1 7, w)
  else
  if a1 = nI 1 then
    some (w 3 1, w)
  else
  if a1 = nI 2 then
    zb (f_X8_countHeap w) fun x5 =>
    some (x5, w)
  else
  if a1 = nI 3 then
    some (w 1 8, w)
  else
  if a1 = nI 4 then
    some (w 1 9, w)
  else
  if a1 = nI 5 then
    some (w 125 1, w)
  else
  if a1 = nI 6 then
    some (w 1 12, w)
  else
    zb2 (f_X11_error (nI 1) w) fun x11 w1 =>
    some (x11, w1)
theorem c_X11_count {G : zG} {l : Launch} (hG : zgood G) {w : zW} {re : Int32} {we : zW} {a1 : Int32}  (h : f_X11_count a1 w = some (re, we)) : zMet G l yX11_count cX11_count 2 (some .int) 1 [.ref (zα G 0), .int a1] w (some (.int re)) we := by
  refine zMet_of (L0 := [some (.ref (zα G 0)), some (.int a1)]) hG zplX11 (Nat.le_of_ble_eq_true rfl) rfl rfl (fun X hl hX hEI hEV hEA => ?_)
  subst hl
  have hX : zOk G X cX11_count 2 RX11 1 := hX
  have hE := hEI _ _ rfl rfl
  rw [f_X11_count] at h
  refine z_iload_n 0 hX dX11_count_0 rfl <|
    ?_
  rcases zif h with ⟨q1, h⟩ | ⟨q1, h⟩
  · refine z_tsIn (off := 43) 1 44 (0) hX dX11_count_1 (zti 0 (by decide) q1) (by decide) (by decide) (by decide) rfl <|
      z_aload_n 44 hX dX11_count_44 rfl <|
      zgX11_12 45 hX dX11_count_45 (rfl : shp 0 = (11, 0)) <|
      zgX11_76 48 hX dX11_count_48 (rfl : shp 1 = (8, 0)) <|
      z_endI2 51 hE rfl h dX11_count_51
  rcases zif h with ⟨q2, h⟩ | ⟨q2, h⟩
  · refine z_tsIn (off := 51) 1 52 (1) hX dX11_count_1 (zti 1 (by decide) q2) (by decide) (by decide) (by decide) rfl <|
      z_aload_n 52 hX dX11_count_52 rfl <|
      zgX11_12 53 hX dX11_count_53 (rfl : shp 0 = (11, 0)) <|
      zgX11_106 56 hX dX11_count_56 (rfl : shp 1 = (8, 0)) <|
      zgX11_141 59 hX dX11_count_59 (rfl : shp 3 = (7, 0)) <|
      z_endI2 62 hE rfl h dX11_count_62
  rcases zif h with ⟨q3, h⟩ | ⟨q3, h⟩
  · refine z_tsIn (off := 62) 1 63 (2) hX dX11_count_1 (zti 2 (by decide) q3) (by decide) (by decide) (by decide) rfl <|
      z_aload_n 63 hX dX11_count_63 rfl <|
      zgX11_12 64 hX dX11_count_64 (rfl : shp 0 = (11, 0)) <|
      zb1 h fun x5 r4 h => zcX11_325 67 [] [] hX dX11_count_67 (c_X8_countHeap (zgd0 hX) r4) (rfl : shp 1 = (8, 0)) rfl rfl rfl (Nat.le_of_ble_eq_true rfl) (Nat.le_of_ble_eq_true rfl) <|
      z_endI2 70 hE rfl h dX11_count_70
  rcases zif h with ⟨q6, h⟩ | ⟨q6, h⟩
  · refine z_tsIn (off := 70) 1 71 (3) hX dX11_count_1 (zti 3 (by decide) q6) (by decide) (by decide) (by decide) rfl <|
      z_aload_n 71 hX dX11_count_71 rfl <|
      zgX11_12 72 hX dX11_count_72 (rfl : shp 0 = (11, 0)) <|
      zgX11_161 75 hX dX11_count_75 (rfl : shp 1 = (8, 0)) <|
      z_endI2 78 hE rfl h dX11_count_78
  rcases zif h with ⟨q7, h⟩ | ⟨q7, h⟩
  · refine z_tsIn (off := 78) 1 79 (4) hX dX11_count_1 (zti 4 (by decide) q7) (by decide) (by decide) (by decide) rfl <|
      z_aload_n 79 hX dX11_count_79 rfl <|
      zgX11_12 80 hX dX11_count_80 (rfl : shp 0 = (11, 0)) <|
      zgX11_315 83 hX dX11_count_83 (rfl : shp 1 = (8, 0)) <|
      z_endI2 86 hE rfl h dX11_count_86
  rcases zif h with ⟨q8, h⟩ | ⟨q8, h⟩
  · refine z_tsIn (off := 86) 1 87 (5) hX dX11_count_1 (zti 5 (by decide) q8) (by decide) (by decide) (by decide) rfl <|
      z_aload_n 87 hX dX11_count_87 rfl <|
      zgX11_64 88 hX dX11_count_88 (rfl : shp 0 = (11, 0)) <|
      zgX11_282 91 hX dX11_count_91 (rfl : shp 125 = (5, 0)) <|
      z_endI2 94 hE rfl h dX11_count_94
  rcases zif h with ⟨q9, h⟩ | ⟨q9, h⟩
  · refine z_tsIn (off := 94) 1 95 (6) hX dX11_count_1 (zti 6 (by decide) q9) (by decide) (by decide) (by decide) rfl <|
      z_aload_n 95 hX dX11_count_95 rfl <|
      zgX11_12 96 hX dX11_count_96 (rfl : shp 0 = (11, 0)) <|
      zgX11_271 99 hX dX11_count_99 (rfl : shp 1 = (8, 0)) <|
      z_endI2 102 hE rfl h dX11_count_102
  refine z_tsOut 1 103 hX dX11_count_1 (by have e0 := zne 0 (by decide) q1; have e1 := zne 1 (by decide) q2; have e2 := zne 2 (by decide) q3; have e3 := zne 3 (by decide) q6; have e4 := zne 4 (by decide) q7; have e5 := zne 5 (by decide) q8; have e6 := zne 6 (by decide) q9; omega) rfl <|
    z_aload_n 103 hX dX11_count_103 rfl <|
    z_iconst 104 hX dX11_count_104 zki1 <|
    zb12 h fun x11 w1 r10 h => zcX11_72 105 [.int (nI 1)] [] hX dX11_count_105 (c_X11_error (zgd0 hX) r10) (rfl : shp 0 = (11, 0)) rfl rfl rfl (Nat.le_of_ble_eq_true rfl) (Nat.le_of_ble_eq_true rfl) <|
    z_endI2 108 hE rfl h dX11_count_108
def j_X11_told_20  (w : zW) : Option (Int32 × zW) :=
  zb2 (f_X11_error (nI 1) w) fun x2 w1 =>
  some (x2, w1)
theorem j_X11_told_20z {G : zG} {X : zX} {w : zW} {re : Int32} {we : zW}  (hX : zOk G X cX11_told 2 RX11 1) (hE : zEI G X cX11_told .int re we)  (h : j_X11_told_20 w = some (re, we)) : zZ G X w 20 [some (.ref (zα G 0)), none] [] := by
  rw [j_X11_told_20] at h
  refine z_aload_n 20 hX dX11_told_20 rfl <|
    z_iconst 21 hX dX11_told_21 zki1 <|
    zb12 h fun x2 w1 r1 h => zcX11_72 22 [.int (nI 1)] [] hX dX11_told_22 (c_X11_error (zgd0 hX) r1) (rfl : shp 0 = (11, 0)) rfl rfl rfl (Nat.le_of_ble_eq_true rfl) (Nat.le_of_ble_eq_true rfl) <|
    z_endI2 25 hE rfl h dX11_told_25
def f_X11_told (a1 : Int32) (w : zW) : Option (Int32 × zW) :=
  if a1 < (nI 1) then
    j_X11_told_20 w
  else
  if (nI 6) < a1 then
    j_X11_told_20 w
  else
    zld w 127 7 a1 fun x3 =>
    some (x3, w)
theorem c_X11_told {G : zG} {l : Launch} (hG : zgood G) {w : zW} {re : Int32} {we : zW} {a1 : Int32}  (h : f_X11_told a1 w = some (re, we)) : zMet G l yX11_told cX11_told 2 (some .int) 1 [.ref (zα G 0), .int a1] w (some (.int re)) we := by
  refine zMet_of (L0 := [some (.ref (zα G 0)), some (.int a1)]) hG zplX11 (Nat.le_of_ble_eq_true rfl) rfl rfl (fun X hl hX hEI hEV hEA => ?_)
  subst hl
  have hX : zOk G X cX11_told 2 RX11 1 := hX
  have hE := hEI _ _ rfl rfl
  rw [f_X11_told] at h
  refine z_iload_n 0 hX dX11_told_0 rfl <|
    z_iconst 1 hX dX11_told_1 zki1 <|
    z_icmp_lt 2 20 hX dX11_told_2 rfl h (fun q1 h => ?_) (fun q1 h => ?_)
  · refine z_weak (L' := [some (.ref (zα G 0)), none]) (zsub_s (zsub_n zsub_0)) <|
      j_X11_told_20z hX hE h
  · refine z_iload_n 5 hX dX11_told_5 rfl <|
      z_bipush 6 hX dX11_told_6 zkb6 <|
      z_icmp_gt 8 20 hX dX11_told_8 rfl h (fun q2 h => ?_) (fun q2 h => ?_)
    · refine z_weak (L' := [some (.ref (zα G 0)), none]) (zsub_s (zsub_n zsub_0)) <|
        j_X11_told_20z hX hE h
    · refine z_aload_n 11 hX dX11_told_11 rfl <|
        zgX11_68 12 hX dX11_told_12 (rfl : shp 0 = (11, 0)) <|
        z_iload_n 15 hX dX11_told_15 rfl <|
        z_iald 16 hX dX11_told_16 (rfl : shp 127 = (20, 7)) h fun x3 _ h =>
        z_goto 17 25 hX dX11_told_17 rfl <|
        z_endI2 25 hE rfl h dX11_told_25
