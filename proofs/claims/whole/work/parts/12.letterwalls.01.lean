theorem l_X11_spare_32z {K75 : Int32 → zW → Option (Int32 × zW)} {G : zG} {X : zX} {re : Int32} {we : zW} (hX : zOk G X cX11_spare 5 RX11 5) (hE : zEI G X cX11_spare .int re we) (hK75 : ∀ (a3 : Int32) (w3 : zW) , K75 a3 w3 = some (re, we) → zZ G X w3 75 [none, none, none, some (.int a3), none] []) : ∀ (n : Nat) (a1 : Int32) (a2 : Nat) (a3 : Int32) (a4 : Int32) (w : zW) (ha2 : shp a2 = (9, 0)), l_X11_spare_32 K75 n a1 a2 a3 a4 w = some (re, we) → zZ G X w 32 [some (.ref (zα G 0)), some (.int a1), some (.ref (zα G a2)), some (.int a3), some (.int a4)] [] := by
  intro n
  induction n with
  | zero =>
    intro a1 a2 a3 a4 w ha2 h
    rw [l_X11_spare_32.eq_1] at h
    cases h
  | succ n ih =>
    intro a1 a2 a3 a4 w ha2 h
    rw [l_X11_spare_32.eq_2] at h
    refine z_iload 32 hX dX11_spare_32 rfl <|
      z_aload_n 34 hX dX11_spare_34 rfl <|
      zgX11_102 35 hX dX11_spare_35 ha2 <|
      z_icmp_ge 38 75 hX dX11_spare_38 rfl h (fun q1 h => ?_) (fun q1 h => ?_)
    · refine z_weak (L' := [none, none, none, some (.int a3), none]) (zsub_n (zsub_n (zsub_n (zsub_s (zsub_n zsub_0))))) <|
        hK75 _ _ h
    · refine z_aload_n 41 hX dX11_spare_41 rfl <|
        zgX11_132 42 hX dX11_spare_42 ha2 <|
        z_iload 45 hX dX11_spare_45 rfl <|
        z_iald 47 hX dX11_spare_47 (zr9_stones _ ha2) h fun x2 _ h =>
        z_if_eq 48 69 hX dX11_spare_48 rfl h (fun q3 h => ?_) (fun q3 h => ?_)
      · refine z_iincG 69 (fun x4 => [some (.ref (zα G 0)), some (.int a1), some (.ref (zα G a2)), some (.int a3), some (.int x4)]) hX dX11_spare_69 rfl zki1 rfl (fun _ => rfl) h fun x4 h =>
          z_goto 72 32 hX dX11_spare_72 rfl <|
          ih _ _ _ _ _ ha2 h
      · refine z_aload_n 51 hX dX11_spare_51 rfl <|
          z_iload_n 52 hX dX11_spare_52 rfl <|
          z_iload 53 hX dX11_spare_53 rfl <|
          z_iconst 55 hX dX11_spare_55 zki0 <|
          zb12 h fun x6 w1 r5 h => zcX11_206 56 [.int a1, .int a4, .int (nI 0)] [] hX dX11_spare_56 (c_X11_readsWith (zgd0 hX) r5) (rfl : shp 0 = (11, 0)) rfl rfl rfl (Nat.le_of_ble_eq_true rfl) (Nat.le_of_ble_eq_true rfl) <|
          z_if_eq 59 69 hX dX11_spare_59 rfl h (fun q7 h => ?_) (fun q7 h => ?_)
        · refine z_iincG 69 (fun x8 => [some (.ref (zα G 0)), some (.int a1), some (.ref (zα G a2)), some (.int a3), some (.int x8)]) hX dX11_spare_69 rfl zki1 rfl (fun _ => rfl) h fun x8 h =>
            z_goto 72 32 hX dX11_spare_72 rfl <|
            ih _ _ _ _ _ ha2 h
        · refine z_iload_n 62 hX dX11_spare_62 rfl <|
            z_iconst 63 hX dX11_spare_63 zki1 <|
            z_iload 64 hX dX11_spare_64 rfl <|
            z_ishl 66 hX dX11_spare_66 <|
            z_ior 67 hX dX11_spare_67 <|
            z_top h fun x9 h =>
            z_istore_n 68 [some (.ref (zα G 0)), some (.int a1), some (.ref (zα G a2)), some (.int x9), some (.int a4)] hX dX11_spare_68 (Nat.le_of_ble_eq_true rfl) rfl rfl <|
            z_iincG 69 (fun x10 => [some (.ref (zα G 0)), some (.int a1), some (.ref (zα G a2)), some (.int x9), some (.int x10)]) hX dX11_spare_69 rfl zki1 rfl (fun _ => rfl) h fun x10 h =>
            z_goto 72 32 hX dX11_spare_72 rfl <|
            ih _ _ _ _ _ ha2 h
def f_X11_spare (a1 : Int32) (w : zW) : Option (Int32 × zW) :=
  zb (f_X8_hasWall a1 w) fun x2 =>
  if x2 = nI 0 then
    zb2 (f_X11_error (nI 1) w) fun x6 w1 =>
    some (x6, w1)
  else
    zguard (zin a1 6) (
    l_X11_spare_32 (fun k75_a3 w11 =>
      some (k75_a3, w11)) zfuel a1 (40 + 2 * a1.toNatClampNeg) (nI 0) (nI 0) w)
theorem c_X11_spare {G : zG} {l : Launch} (hG : zgood G) {w : zW} {re : Int32} {we : zW} {a1 : Int32}  (h : f_X11_spare a1 w = some (re, we)) : zMet G l yX11_spare cX11_spare 5 (some .int) 5 [.ref (zα G 0), .int a1] w (some (.int re)) we := by
  refine zMet_of (L0 := [some (.ref (zα G 0)), some (.int a1), none, none, none]) hG zplX11 (Nat.le_of_ble_eq_true rfl) rfl rfl (fun X hl hX hEI hEV hEA => ?_)
  subst hl
  have hX : zOk G X cX11_spare 5 RX11 5 := hX
  have hE := hEI _ _ rfl rfl
  rw [f_X11_spare] at h
  refine z_aload_n 0 hX dX11_spare_0 rfl <|
    zgX11_12 1 hX dX11_spare_1 (rfl : shp 0 = (11, 0)) <|
    z_iload_n 4 hX dX11_spare_4 rfl <|
    zb1 h fun x2 r1 h => zcX11_88 5 [.int a1] [] hX dX11_spare_5 (c_X8_hasWall (zgd0 hX) r1) (rfl : shp 1 = (8, 0)) rfl rfl rfl (Nat.le_of_ble_eq_true rfl) (Nat.le_of_ble_eq_true rfl) <|
    z_if_ne 8 17 hX dX11_spare_8 rfl h (fun q3 h => ?_) (fun q3 h => ?_)
  · refine z_aload_n 17 hX dX11_spare_17 rfl <|
      zgX11_12 18 hX dX11_spare_18 (rfl : shp 0 = (11, 0)) <|
      zgX11_80 21 hX dX11_spare_21 (rfl : shp 1 = (8, 0)) <|
      z_iload_n 24 hX dX11_spare_24 rfl <|
      z_aald 25 hX dX11_spare_25 (rfl : shp 2 = (21, 6)) (by decide) h fun q4 h =>
      z_astore_n 26 [some (.ref (zα G 0)), some (.int a1), some (.ref (zα G (40 + 2 * a1.toNatClampNeg))), none, none] hX dX11_spare_26 (Nat.le_of_ble_eq_true rfl) rfl rfl <|
      z_iconst 27 hX dX11_spare_27 zki0 <|
      z_istore_n 28 [some (.ref (zα G 0)), some (.int a1), some (.ref (zα G (40 + 2 * a1.toNatClampNeg))), some (.int (nI 0)), none] hX dX11_spare_28 (Nat.le_of_ble_eq_true rfl) rfl rfl <|
      z_iconst 29 hX dX11_spare_29 zki0 <|
      z_istore 30 [some (.ref (zα G 0)), some (.int a1), some (.ref (zα G (40 + 2 * a1.toNatClampNeg))), some (.int (nI 0)), some (.int (nI 0))] hX dX11_spare_30 (Nat.le_of_ble_eq_true rfl) rfl rfl <|
      l_X11_spare_32z hX hE (fun k75_a3 w11 h => ?_) _ _ _ _ _ _ (ze21 _ (rfl : shp 2 = (21, 6)) _ q4) h
    · refine z_iload_n 75 hX dX11_spare_75 rfl <|
        z_endI2 76 hE rfl h dX11_spare_76
  · refine z_aload_n 11 hX dX11_spare_11 rfl <|
      z_iconst 12 hX dX11_spare_12 zki1 <|
      zb12 h fun x6 w1 r5 h => zcX11_72 13 [.int (nI 1)] [] hX dX11_spare_13 (c_X11_error (zgd0 hX) r5) (rfl : shp 0 = (11, 0)) rfl rfl rfl (Nat.le_of_ble_eq_true rfl) (Nat.le_of_ble_eq_true rfl) <|
      z_endI2 16 hE rfl h dX11_spare_16
def l_X11_othersAt_21 (K60 : Int32 → zW → Option (Int32 × zW)) : Nat → Int32 → Int32 → Int32 → Int32 → Int32 → zW → Option (Int32 × zW)
  | 0, _, _, _, _, _, _ => none
  | n + 1, a1, a2, a3, a4, a5, w =>
    if (nI 26) < a5 then
      K60 a4 w
    else
    if a5 = a3 then
      zlet (a5 + nI 1) fun x3 =>
      (l_X11_othersAt_21 K60 n) a1 a2 a3 a4 x3 w
    else
      zb2 (f_X11_readsWith a1 a2 a5 w) fun x5 w1 =>
      if x5 = nI 0 then
        zlet (a5 + nI 1) fun x7 =>
        (l_X11_othersAt_21 K60 n) a1 a2 a3 a4 x7 w1
      else
        zlet (a4 ||| ((nI 1) <<< (a5 &&& 31))) fun x8 =>
        zlet (a5 + nI 1) fun x9 =>
        (l_X11_othersAt_21 K60 n) a1 a2 a3 x8 x9 w1
theorem l_X11_othersAt_21z {K60 : Int32 → zW → Option (Int32 × zW)} {G : zG} {X : zX} {re : Int32} {we : zW} (hX : zOk G X cX11_othersAt 6 RX11 5) (hE : zEI G X cX11_othersAt .int re we) (hK60 : ∀ (a4 : Int32) (w3 : zW) , K60 a4 w3 = some (re, we) → zZ G X w3 60 [none, none, none, none, some (.int a4), none] []) : ∀ (n : Nat) (a1 : Int32) (a2 : Int32) (a3 : Int32) (a4 : Int32) (a5 : Int32) (w : zW) , l_X11_othersAt_21 K60 n a1 a2 a3 a4 a5 w = some (re, we) → zZ G X w 21 [some (.ref (zα G 0)), some (.int a1), some (.int a2), some (.int a3), some (.int a4), some (.int a5)] [] := by
  intro n
  induction n with
  | zero =>
    intro a1 a2 a3 a4 a5 w  h
    rw [l_X11_othersAt_21.eq_1] at h
    cases h
  | succ n ih =>
    intro a1 a2 a3 a4 a5 w  h
    rw [l_X11_othersAt_21.eq_2] at h
    refine z_iload 21 hX dX11_othersAt_21 rfl <|
      z_bipush 23 hX dX11_othersAt_23 zkb26 <|
      z_icmp_gt 25 60 hX dX11_othersAt_25 rfl h (fun q1 h => ?_) (fun q1 h => ?_)
    · refine z_weak (L' := [none, none, none, none, some (.int a4), none]) (zsub_n (zsub_n (zsub_n (zsub_n (zsub_s (zsub_n zsub_0)))))) <|
        hK60 _ _ h
    · refine z_iload 28 hX dX11_othersAt_28 rfl <|
        z_iload_n 30 hX dX11_othersAt_30 rfl <|
        z_icmp_eq 31 54 hX dX11_othersAt_31 rfl h (fun q2 h => ?_) (fun q2 h => ?_)
      · refine z_iincG 54 (fun x3 => [some (.ref (zα G 0)), some (.int a1), some (.int a2), some (.int a3), some (.int a4), some (.int x3)]) hX dX11_othersAt_54 rfl zki1 rfl (fun _ => rfl) h fun x3 h =>
          z_goto 57 21 hX dX11_othersAt_57 rfl <|
          ih _ _ _ _ _ _ h
      · refine z_aload_n 34 hX dX11_othersAt_34 rfl <|
          z_iload_n 35 hX dX11_othersAt_35 rfl <|
          z_iload_n 36 hX dX11_othersAt_36 rfl <|
          z_iload 37 hX dX11_othersAt_37 rfl <|
          zb12 h fun x5 w1 r4 h => zcX11_206 39 [.int a1, .int a2, .int a5] [] hX dX11_othersAt_39 (c_X11_readsWith (zgd0 hX) r4) (rfl : shp 0 = (11, 0)) rfl rfl rfl (Nat.le_of_ble_eq_true rfl) (Nat.le_of_ble_eq_true rfl) <|
          z_if_eq 42 54 hX dX11_othersAt_42 rfl h (fun q6 h => ?_) (fun q6 h => ?_)
        · refine z_iincG 54 (fun x7 => [some (.ref (zα G 0)), some (.int a1), some (.int a2), some (.int a3), some (.int a4), some (.int x7)]) hX dX11_othersAt_54 rfl zki1 rfl (fun _ => rfl) h fun x7 h =>
            z_goto 57 21 hX dX11_othersAt_57 rfl <|
            ih _ _ _ _ _ _ h
        · refine z_iload 45 hX dX11_othersAt_45 rfl <|
            z_iconst 47 hX dX11_othersAt_47 zki1 <|
            z_iload 48 hX dX11_othersAt_48 rfl <|
            z_ishl 50 hX dX11_othersAt_50 <|
            z_ior 51 hX dX11_othersAt_51 <|
            z_top h fun x8 h =>
            z_istore 52 [some (.ref (zα G 0)), some (.int a1), some (.int a2), some (.int a3), some (.int x8), some (.int a5)] hX dX11_othersAt_52 (Nat.le_of_ble_eq_true rfl) rfl rfl <|
            z_iincG 54 (fun x9 => [some (.ref (zα G 0)), some (.int a1), some (.int a2), some (.int a3), some (.int x8), some (.int x9)]) hX dX11_othersAt_54 rfl zki1 rfl (fun _ => rfl) h fun x9 h =>
            z_goto 57 21 hX dX11_othersAt_57 rfl <|
            ih _ _ _ _ _ _ h
def f_X11_othersAt (a1 : Int32) (a2 : Int32) (w : zW) : Option (Int32 × zW) :=
  zguard (zin a1 6) (
  zld w ((40 + 2 * a1.toNatClampNeg) + 1) 24 a2 fun x2 =>
  l_X11_othersAt_21 (fun k60_a4 w11 =>
    some (k60_a4, w11)) zfuel a1 a2 x2 (nI 0) (nI 1) w)
theorem c_X11_othersAt {G : zG} {l : Launch} (hG : zgood G) {w : zW} {re : Int32} {we : zW} {a1 : Int32} {a2 : Int32}  (h : f_X11_othersAt a1 a2 w = some (re, we)) : zMet G l yX11_othersAt cX11_othersAt 6 (some .int) 5 [.ref (zα G 0), .int a1, .int a2] w (some (.int re)) we := by
  refine zMet_of (L0 := [some (.ref (zα G 0)), some (.int a1), some (.int a2), none, none, none]) hG zplX11 (Nat.le_of_ble_eq_true rfl) rfl rfl (fun X hl hX hEI hEV hEA => ?_)
  subst hl
  have hX : zOk G X cX11_othersAt 6 RX11 5 := hX
  have hE := hEI _ _ rfl rfl
  rw [f_X11_othersAt] at h
  refine z_aload_n 0 hX dX11_othersAt_0 rfl <|
    zgX11_12 1 hX dX11_othersAt_1 (rfl : shp 0 = (11, 0)) <|
    zgX11_80 4 hX dX11_othersAt_4 (rfl : shp 1 = (8, 0)) <|
    z_iload_n 7 hX dX11_othersAt_7 rfl <|
    z_aald 8 hX dX11_othersAt_8 (rfl : shp 2 = (21, 6)) (by decide) h fun q1 h =>
    zgX11_132 9 hX dX11_othersAt_9 (ze21 _ (rfl : shp 2 = (21, 6)) _ q1) <|
    z_iload_n 12 hX dX11_othersAt_12 rfl <|
    z_iald 13 hX dX11_othersAt_13 (zr9_stones _ (ze21 _ (rfl : shp 2 = (21, 6)) _ q1)) h fun x2 _ h =>
    z_istore_n 14 [some (.ref (zα G 0)), some (.int a1), some (.int a2), some (.int x2), none, none] hX dX11_othersAt_14 (Nat.le_of_ble_eq_true rfl) rfl rfl <|
    z_iconst 15 hX dX11_othersAt_15 zki0 <|
    z_istore 16 [some (.ref (zα G 0)), some (.int a1), some (.int a2), some (.int x2), some (.int (nI 0)), none] hX dX11_othersAt_16 (Nat.le_of_ble_eq_true rfl) rfl rfl <|
    z_iconst 18 hX dX11_othersAt_18 zki1 <|
    z_istore 19 [some (.ref (zα G 0)), some (.int a1), some (.int a2), some (.int x2), some (.int (nI 0)), some (.int (nI 1))] hX dX11_othersAt_19 (Nat.le_of_ble_eq_true rfl) rfl rfl <|
    l_X11_othersAt_21z hX hE (fun k60_a4 w11 h => ?_) _ _ _ _ _ _ _ h
  · refine z_iload 60 hX dX11_othersAt_60 rfl <|
      z_endI2 62 hE rfl h dX11_othersAt_62
def f_X11_others (a1 : Int32) (a2 : Int32) (w : zW) : Option (Int32 × zW) :=
  zb (f_X8_hasPlace a1 a2 w) fun x2 =>
  if x2 = nI 0 then
    zb2 (f_X11_error (nI 1) w) fun x5 w1 =>
    some (x5, w1)
  else
    zb2 (f_X11_othersAt a1 a2 w) fun x7 w2 =>
    some (x7, w2)
theorem c_X11_others {G : zG} {l : Launch} (hG : zgood G) {w : zW} {re : Int32} {we : zW} {a1 : Int32} {a2 : Int32}  (h : f_X11_others a1 a2 w = some (re, we)) : zMet G l yX11_others cX11_others 3 (some .int) 6 [.ref (zα G 0), .int a1, .int a2] w (some (.int re)) we := by
  refine zMet_of (L0 := [some (.ref (zα G 0)), some (.int a1), some (.int a2)]) hG zplX11 (Nat.le_of_ble_eq_true rfl) rfl rfl (fun X hl hX hEI hEV hEA => ?_)
  subst hl
  have hX : zOk G X cX11_others 3 RX11 6 := hX
  have hE := hEI _ _ rfl rfl
  rw [f_X11_others] at h
  refine z_aload_n 0 hX dX11_others_0 rfl <|
    zgX11_12 1 hX dX11_others_1 (rfl : shp 0 = (11, 0)) <|
    z_iload_n 4 hX dX11_others_4 rfl <|
    z_iload_n 5 hX dX11_others_5 rfl <|
    zb1 h fun x2 r1 h => zcX11_129 6 [.int a1, .int a2] [] hX dX11_others_6 (c_X8_hasPlace (zgd0 hX) r1) (rfl : shp 1 = (8, 0)) rfl rfl rfl (Nat.le_of_ble_eq_true rfl) (Nat.le_of_ble_eq_true rfl) <|
    z_if_eq 9 21 hX dX11_others_9 rfl h (fun q3 h => ?_) (fun q3 h => ?_)
  · refine z_aload_n 21 hX dX11_others_21 rfl <|
      z_iconst 22 hX dX11_others_22 zki1 <|
      zb12 h fun x5 w1 r4 h => zcX11_72 23 [.int (nI 1)] [] hX dX11_others_23 (c_X11_error (zgd0 hX) r4) (rfl : shp 0 = (11, 0)) rfl rfl rfl (Nat.le_of_ble_eq_true rfl) (Nat.le_of_ble_eq_true rfl) <|
      z_endI2 26 hE rfl h dX11_others_26
  · refine z_aload_n 12 hX dX11_others_12 rfl <|
      z_iload_n 13 hX dX11_others_13 rfl <|
      z_iload_n 14 hX dX11_others_14 rfl <|
      zb12 h fun x7 w2 r6 h => zcX11_210 15 [.int a1, .int a2] [] hX dX11_others_15 (c_X11_othersAt (zgd0 hX) r6) (rfl : shp 0 = (11, 0)) rfl rfl rfl (Nat.le_of_ble_eq_true rfl) (Nat.le_of_ble_eq_true rfl) <|
      z_goto 18 26 hX dX11_others_18 rfl <|
      z_endI2 26 hE rfl h dX11_others_26
def l_X11_steps_32 (K70 : Int32 → zW → Option (Int32 × zW)) : Nat → Int32 → Nat → Int32 → Int32 → zW → Option (Int32 × zW)
  | 0, _, _, _, _, _ => none
  | n + 1, a1, a2, a3, a4, w =>
    if a4 < (w a2 3) then
      zld w (a2 + 1) 24 a4 fun x2 =>
      if x2 = nI 0 then
        zlet (a4 + nI 1) fun x4 =>
        (l_X11_steps_32 K70 n) a1 a2 a3 x4 w
      else
        zb2 (f_X11_othersAt a1 a4 w) fun x6 w1 =>
        zb (f_J6_bitCount_0f7a4 x6) fun x8 =>
        zlet (a3 + x8) fun x9 =>
        zlet (a4 + nI 1) fun x10 =>
        (l_X11_steps_32 K70 n) a1 a2 x9 x10 w1
    else
      K70 a3 w
theorem l_X11_steps_32z {K70 : Int32 → zW → Option (Int32 × zW)} {G : zG} {X : zX} {re : Int32} {we : zW} (hX : zOk G X cX11_steps 5 RX11 6) (hE : zEI G X cX11_steps .int re we) (hK70 : ∀ (a3 : Int32) (w3 : zW) , K70 a3 w3 = some (re, we) → zZ G X w3 70 [none, none, none, some (.int a3), none] []) : ∀ (n : Nat) (a1 : Int32) (a2 : Nat) (a3 : Int32) (a4 : Int32) (w : zW) (ha2 : shp a2 = (9, 0)), l_X11_steps_32 K70 n a1 a2 a3 a4 w = some (re, we) → zZ G X w 32 [some (.ref (zα G 0)), some (.int a1), some (.ref (zα G a2)), some (.int a3), some (.int a4)] [] := by
  intro n
  induction n with
  | zero =>
    intro a1 a2 a3 a4 w ha2 h
    rw [l_X11_steps_32.eq_1] at h
    cases h
  | succ n ih =>
    intro a1 a2 a3 a4 w ha2 h
    rw [l_X11_steps_32.eq_2] at h
    refine z_iload 32 hX dX11_steps_32 rfl <|
      z_aload_n 34 hX dX11_steps_34 rfl <|
      zgX11_102 35 hX dX11_steps_35 ha2 <|
      z_icmp_ge 38 70 hX dX11_steps_38 rfl h (fun q1 h => ?_) (fun q1 h => ?_)
    · refine z_weak (L' := [none, none, none, some (.int a3), none]) (zsub_n (zsub_n (zsub_n (zsub_s (zsub_n zsub_0))))) <|
        hK70 _ _ h
    · refine z_aload_n 41 hX dX11_steps_41 rfl <|
        zgX11_132 42 hX dX11_steps_42 ha2 <|
        z_iload 45 hX dX11_steps_45 rfl <|
        z_iald 47 hX dX11_steps_47 (zr9_stones _ ha2) h fun x2 _ h =>
        z_if_eq 48 64 hX dX11_steps_48 rfl h (fun q3 h => ?_) (fun q3 h => ?_)
      · refine z_iincG 64 (fun x4 => [some (.ref (zα G 0)), some (.int a1), some (.ref (zα G a2)), some (.int a3), some (.int x4)]) hX dX11_steps_64 rfl zki1 rfl (fun _ => rfl) h fun x4 h =>
          z_goto 67 32 hX dX11_steps_67 rfl <|
          ih _ _ _ _ _ ha2 h
      · refine z_iload_n 51 hX dX11_steps_51 rfl <|
          z_aload_n 52 hX dX11_steps_52 rfl <|
          z_iload_n 53 hX dX11_steps_53 rfl <|
          z_iload 54 hX dX11_steps_54 rfl <|
          zb12 h fun x6 w1 r5 h => zcX11_210 56 [.int a1, .int a4] [.int a3] hX dX11_steps_56 (c_X11_othersAt (zgd0 hX) r5) (rfl : shp 0 = (11, 0)) rfl rfl rfl (Nat.le_of_ble_eq_true rfl) (Nat.le_of_ble_eq_true rfl) <|
          zb1 h fun x8 r7 h => zcX11_214 59 [.int x6] [.int a3] hX dX11_steps_59 (c_J6_bitCount_0f7a4 (zgd0 hX) r7) rfl rfl rfl (Nat.le_of_ble_eq_true rfl) (Nat.le_of_ble_eq_true rfl) <|
          z_iadd 62 hX dX11_steps_62 <|
          z_top h fun x9 h =>
          z_istore_n 63 [some (.ref (zα G 0)), some (.int a1), some (.ref (zα G a2)), some (.int x9), some (.int a4)] hX dX11_steps_63 (Nat.le_of_ble_eq_true rfl) rfl rfl <|
          z_iincG 64 (fun x10 => [some (.ref (zα G 0)), some (.int a1), some (.ref (zα G a2)), some (.int x9), some (.int x10)]) hX dX11_steps_64 rfl zki1 rfl (fun _ => rfl) h fun x10 h =>
          z_goto 67 32 hX dX11_steps_67 rfl <|
          ih _ _ _ _ _ ha2 h
def f_X11_steps (a1 : Int32) (w : zW) : Option (Int32 × zW) :=
  zb (f_X8_hasWall a1 w) fun x2 =>
  if x2 = nI 0 then
    zb2 (f_X11_error (nI 1) w) fun x6 w1 =>
    some (x6, w1)
  else
    zguard (zin a1 6) (
    l_X11_steps_32 (fun k70_a3 w11 =>
      some (k70_a3, w11)) zfuel a1 (40 + 2 * a1.toNatClampNeg) (nI 0) (nI 0) w)
theorem c_X11_steps {G : zG} {l : Launch} (hG : zgood G) {w : zW} {re : Int32} {we : zW} {a1 : Int32}  (h : f_X11_steps a1 w = some (re, we)) : zMet G l yX11_steps cX11_steps 5 (some .int) 6 [.ref (zα G 0), .int a1] w (some (.int re)) we := by
  refine zMet_of (L0 := [some (.ref (zα G 0)), some (.int a1), none, none, none]) hG zplX11 (Nat.le_of_ble_eq_true rfl) rfl rfl (fun X hl hX hEI hEV hEA => ?_)
  subst hl
  have hX : zOk G X cX11_steps 5 RX11 6 := hX
  have hE := hEI _ _ rfl rfl
  rw [f_X11_steps] at h
  refine z_aload_n 0 hX dX11_steps_0 rfl <|
    zgX11_12 1 hX dX11_steps_1 (rfl : shp 0 = (11, 0)) <|
    z_iload_n 4 hX dX11_steps_4 rfl <|
    zb1 h fun x2 r1 h => zcX11_88 5 [.int a1] [] hX dX11_steps_5 (c_X8_hasWall (zgd0 hX) r1) (rfl : shp 1 = (8, 0)) rfl rfl rfl (Nat.le_of_ble_eq_true rfl) (Nat.le_of_ble_eq_true rfl) <|
    z_if_ne 8 17 hX dX11_steps_8 rfl h (fun q3 h => ?_) (fun q3 h => ?_)
  · refine z_aload_n 17 hX dX11_steps_17 rfl <|
      zgX11_12 18 hX dX11_steps_18 (rfl : shp 0 = (11, 0)) <|
      zgX11_80 21 hX dX11_steps_21 (rfl : shp 1 = (8, 0)) <|
      z_iload_n 24 hX dX11_steps_24 rfl <|
      z_aald 25 hX dX11_steps_25 (rfl : shp 2 = (21, 6)) (by decide) h fun q4 h =>
      z_astore_n 26 [some (.ref (zα G 0)), some (.int a1), some (.ref (zα G (40 + 2 * a1.toNatClampNeg))), none, none] hX dX11_steps_26 (Nat.le_of_ble_eq_true rfl) rfl rfl <|
      z_iconst 27 hX dX11_steps_27 zki0 <|
      z_istore_n 28 [some (.ref (zα G 0)), some (.int a1), some (.ref (zα G (40 + 2 * a1.toNatClampNeg))), some (.int (nI 0)), none] hX dX11_steps_28 (Nat.le_of_ble_eq_true rfl) rfl rfl <|
      z_iconst 29 hX dX11_steps_29 zki0 <|
      z_istore 30 [some (.ref (zα G 0)), some (.int a1), some (.ref (zα G (40 + 2 * a1.toNatClampNeg))), some (.int (nI 0)), some (.int (nI 0))] hX dX11_steps_30 (Nat.le_of_ble_eq_true rfl) rfl rfl <|
      l_X11_steps_32z hX hE (fun k70_a3 w11 h => ?_) _ _ _ _ _ _ (ze21 _ (rfl : shp 2 = (21, 6)) _ q4) h
    · refine z_iload_n 70 hX dX11_steps_70 rfl <|
        z_endI2 71 hE rfl h dX11_steps_71
  · refine z_aload_n 11 hX dX11_steps_11 rfl <|
      z_iconst 12 hX dX11_steps_12 zki1 <|
      zb12 h fun x6 w1 r5 h => zcX11_72 13 [.int (nI 1)] [] hX dX11_steps_13 (c_X11_error (zgd0 hX) r5) (rfl : shp 0 = (11, 0)) rfl rfl rfl (Nat.le_of_ble_eq_true rfl) (Nat.le_of_ble_eq_true rfl) <|
      z_endI2 16 hE rfl h dX11_steps_16
def f_X11_mends (a1 : Int32) (w : zW) : Option (Int32 × zW) :=
  zb (f_X8_hasWall a1 w) fun x2 =>
  if x2 = nI 0 then
    zb2 (f_X11_error (nI 1) w) fun x12 w4 =>
    some (x12, w4)
  else
    zguard (zin a1 6) (
    zb (f_X8_spell (40 + 2 * a1.toNatClampNeg) a1 w) fun w1 =>
    zb2 (f_X1_fewestUnlike w1) fun x7 w2 =>
    if x7 < (nI 1000000) then
      some (x7, w2)
    else
      zb2 (f_X11_error (nI 2) w2) fun x10 w3 =>
      some (x10, w3))
theorem c_X11_mends {G : zG} {l : Launch} (hG : zgood G) {w : zW} {re : Int32} {we : zW} {a1 : Int32}  (h : f_X11_mends a1 w = some (re, we)) : zMet G l yX11_mends cX11_mends 3 (some .int) 4 [.ref (zα G 0), .int a1] w (some (.int re)) we := by
  refine zMet_of (L0 := [some (.ref (zα G 0)), some (.int a1), none]) hG zplX11 (Nat.le_of_ble_eq_true rfl) rfl rfl (fun X hl hX hEI hEV hEA => ?_)
  subst hl
  have hX : zOk G X cX11_mends 3 RX11 4 := hX
  have hE := hEI _ _ rfl rfl
  rw [f_X11_mends] at h
  refine z_aload_n 0 hX dX11_mends_0 rfl <|
    zgX11_12 1 hX dX11_mends_1 (rfl : shp 0 = (11, 0)) <|
    z_iload_n 4 hX dX11_mends_4 rfl <|
    zb1 h fun x2 r1 h => zcX11_88 5 [.int a1] [] hX dX11_mends_5 (c_X8_hasWall (zgd0 hX) r1) (rfl : shp 1 = (8, 0)) rfl rfl rfl (Nat.le_of_ble_eq_true rfl) (Nat.le_of_ble_eq_true rfl) <|
    z_if_ne 8 17 hX dX11_mends_8 rfl h (fun q3 h => ?_) (fun q3 h => ?_)
  · refine z_aload_n 17 hX dX11_mends_17 rfl <|
      zgX11_12 18 hX dX11_mends_18 (rfl : shp 0 = (11, 0)) <|
      z_aload_n 21 hX dX11_mends_21 rfl <|
      zgX11_12 22 hX dX11_mends_22 (rfl : shp 0 = (11, 0)) <|
      zgX11_80 25 hX dX11_mends_25 (rfl : shp 1 = (8, 0)) <|
      z_iload_n 28 hX dX11_mends_28 rfl <|
      z_aald 29 hX dX11_mends_29 (rfl : shp 2 = (21, 6)) (by decide) h fun q4 h =>
      z_iload_n 30 hX dX11_mends_30 rfl <|
      z_aload_n 31 hX dX11_mends_31 rfl <|
      zgX11_36 32 hX dX11_mends_32 (rfl : shp 0 = (11, 0)) <|
      zb1 h fun w1 r5 h => zcX11_92 35 [.ref (zα G (40 + 2 * a1.toNatClampNeg)), .int a1, .ref (zα G 116)] [] hX dX11_mends_35 (c_X8_spell (zgd0 hX) (ze21 _ (rfl : shp 2 = (21, 6)) _ q4) r5) (rfl : shp 1 = (8, 0)) rfl rfl rfl (Nat.le_of_ble_eq_true rfl) (Nat.le_of_ble_eq_true rfl) <|
      z_aload_n 38 hX dX11_mends_38 rfl <|
      zgX11_29 39 hX dX11_mends_39 (rfl : shp 0 = (11, 0)) <|
      z_aload_n 42 hX dX11_mends_42 rfl <|
      zgX11_12 43 hX dX11_mends_43 (rfl : shp 0 = (11, 0)) <|
      zgX11_106 46 hX dX11_mends_46 (rfl : shp 1 = (8, 0)) <|
      z_aload_n 49 hX dX11_mends_49 rfl <|
      zgX11_36 50 hX dX11_mends_50 (rfl : shp 0 = (11, 0)) <|
      zb12 h fun x7 w2 r6 h => zcX11_219 53 [.ref (zα G 3), .ref (zα G 116)] [] hX dX11_mends_53 (c_X1_fewestUnlike (zgd0 hX) r6) (rfl : shp 112 = (1, 0)) rfl rfl rfl (Nat.le_of_ble_eq_true rfl) (Nat.le_of_ble_eq_true rfl) <|
      z_istore_n 56 [some (.ref (zα G 0)), some (.int a1), some (.int x7)] hX dX11_mends_56 (Nat.le_of_ble_eq_true rfl) rfl rfl <|
      z_iload_n 57 hX dX11_mends_57 rfl <|
      z_ldc 58 hX dX11_mends_58 zw821 zkl1000000 <|
      z_icmp_ge 60 67 hX dX11_mends_60 rfl h (fun q8 h => ?_) (fun q8 h => ?_)
    · refine z_aload_n 67 hX dX11_mends_67 rfl <|
        z_iconst 68 hX dX11_mends_68 zki2 <|
        zb12 h fun x10 w3 r9 h => zcX11_72 69 [.int (nI 2)] [] hX dX11_mends_69 (c_X11_error (zgd0 hX) r9) (rfl : shp 0 = (11, 0)) rfl rfl rfl (Nat.le_of_ble_eq_true rfl) (Nat.le_of_ble_eq_true rfl) <|
        z_endI2 72 hE rfl h dX11_mends_72
    · refine z_iload_n 63 hX dX11_mends_63 rfl <|
        z_goto 64 72 hX dX11_mends_64 rfl <|
        z_endI2 72 hE rfl h dX11_mends_72
  · refine z_aload_n 11 hX dX11_mends_11 rfl <|
      z_iconst 12 hX dX11_mends_12 zki1 <|
      zb12 h fun x12 w4 r11 h => zcX11_72 13 [.int (nI 1)] [] hX dX11_mends_13 (c_X11_error (zgd0 hX) r11) (rfl : shp 0 = (11, 0)) rfl rfl rfl (Nat.le_of_ble_eq_true rfl) (Nat.le_of_ble_eq_true rfl) <|
      z_endI2 16 hE rfl h dX11_mends_16
def f_X11_isSheet (a0 : Int32)  : Option Int32 :=
  if a0 < nI 0 then
    some (nI 0)
  else
  if a0 < (nI 4) then
    some (nI 1)
  else
    some (nI 0)
theorem c_X11_isSheet {G : zG} {l : Launch} (hG : zgood G) {w : zW} {re : Int32} {a0 : Int32}  (h : f_X11_isSheet a0 = some re) : zMet G l yX11_isSheet cX11_isSheet 1 (some .boolean) 0 [.int a0] w (some (.int re)) w := by
  refine zMet_of (L0 := [some (.int a0)]) hG zplX11 (Nat.le_of_ble_eq_true rfl) rfl rfl (fun X hl hX hEI hEV hEA => ?_)
  subst hl
  have hX : zOk G X cX11_isSheet 1 RX11 0 := hX
  have hE := hEI _ _ rfl rfl
  rw [f_X11_isSheet] at h
  refine z_iload_n 0 hX dX11_isSheet_0 rfl <|
    z_if_lt 1 13 hX dX11_isSheet_1 rfl h (fun q1 h => ?_) (fun q1 h => ?_)
  · refine z_iconst 13 hX dX11_isSheet_13 zki0 <|
      z_endI 14 hE (znar_bool (by decide)) h dX11_isSheet_14
  · refine z_iload_n 4 hX dX11_isSheet_4 rfl <|
      z_iconst 5 hX dX11_isSheet_5 zki4 <|
      z_icmp_ge 6 13 hX dX11_isSheet_6 rfl h (fun q2 h => ?_) (fun q2 h => ?_)
    · refine z_iconst 13 hX dX11_isSheet_13 zki0 <|
        z_endI 14 hE (znar_bool (by decide)) h dX11_isSheet_14
    · refine z_iconst 9 hX dX11_isSheet_9 zki1 <|
        z_goto 10 14 hX dX11_isSheet_10 rfl <|
        z_endI 14 hE (znar_bool (by decide)) h dX11_isSheet_14
def l_X11_unlikeWish_7 (w : zW) (K40 : Option Int32) (K75 : Option Int32) (K105 : Int32 → Int32 → Option Int32) : Nat → Nat → Int32 → Int32 → Int32 → Option Int32
  | 0, _, _, _, _ => none
  | n + 1, a1, a2, a3, a4 =>
    if a4 < (w a1 2) then
      zld w (a1 + 1) 24 a4 fun x2 =>
      zb (f_X7_has x2 w) fun x4 =>
      if x4 = nI 0 then
        K40
      else
        zguard (zin x2 12) (
        if ((w 116 1) - a2) < (w (5 + 2 * x2.toNatClampNeg) 2) then
          K75
        else
          zb (f_X10_unlikeAt (5 + 2 * x2.toNatClampNeg) a2 w) fun x9 =>
          zlet (a3 + x9) fun x10 =>
          zlet (a2 + (w (5 + 2 * x2.toNatClampNeg) 2)) fun x11 =>
          zlet (a4 + nI 1) fun x12 =>
          (l_X11_unlikeWish_7 w K40 K75 K105 n) a1 x11 x10 x12)
    else
      K105 a2 a3
theorem l_X11_unlikeWish_7z {K40 : Option Int32} {K75 : Option Int32} {K105 : Int32 → Int32 → Option Int32} {G : zG} {X : zX} {w : zW} {re : Int32} (hX : zOk G X cX11_unlikeWish 7 RX11 1) (hE : zEI G X cX11_unlikeWish .int re w) (hK40 : K40 = some re → zZ G X w 40 [none, none, none, none, none, none, none] []) (hK75 : K75 = some re → zZ G X w 75 [none, none, none, none, none, none, none] []) (hK105 : ∀ (a2 : Int32) (a3 : Int32) , K105 a2 a3 = some re → zZ G X w 105 [some (.ref (zα G 0)), none, some (.int a2), some (.int a3), none, none, none] []) : ∀ (n : Nat) (a1 : Nat) (a2 : Int32) (a3 : Int32) (a4 : Int32) (ha1 : shp a1 = (4, 0)), l_X11_unlikeWish_7 w K40 K75 K105 n a1 a2 a3 a4 = some re → zZ G X w 7 [some (.ref (zα G 0)), some (.ref (zα G a1)), some (.int a2), some (.int a3), some (.int a4), none, none] [] := by
  intro n
  induction n with
  | zero =>
    intro a1 a2 a3 a4 ha1 h
    rw [l_X11_unlikeWish_7.eq_1] at h
    cases h
  | succ n ih =>
    intro a1 a2 a3 a4 ha1 h
    rw [l_X11_unlikeWish_7.eq_2] at h
    refine z_iload 7 hX dX11_unlikeWish_7 rfl <|
      z_aload_n 9 hX dX11_unlikeWish_9 rfl <|
      zgX11_229 10 hX dX11_unlikeWish_10 ha1 <|
      z_icmp_ge 13 105 hX dX11_unlikeWish_13 rfl h (fun q1 h => ?_) (fun q1 h => ?_)
    · refine z_weak (L' := [some (.ref (zα G 0)), none, some (.int a2), some (.int a3), none, none, none]) (zsub_s (zsub_n (zsub_s (zsub_s (zsub_n (zsub_n (zsub_n zsub_0))))))) <|
        hK105 _ _ h
    · refine z_aload_n 16 hX dX11_unlikeWish_16 rfl <|
        zgX11_230 17 hX dX11_unlikeWish_17 ha1 <|
        z_iload 20 hX dX11_unlikeWish_20 rfl <|
        z_iald 22 hX dX11_unlikeWish_22 (zr4_numbers _ ha1) h fun x2 _ h =>
        z_istore 23 [some (.ref (zα G 0)), some (.ref (zα G a1)), some (.int a2), some (.int a3), some (.int a4), some (.int x2), none] hX dX11_unlikeWish_23 (Nat.le_of_ble_eq_true rfl) rfl rfl <|
        z_aload_n 25 hX dX11_unlikeWish_25 rfl <|
        zgX11_12 26 hX dX11_unlikeWish_26 (rfl : shp 0 = (11, 0)) <|
        zgX11_106 29 hX dX11_unlikeWish_29 (rfl : shp 1 = (8, 0)) <|
        z_iload 32 hX dX11_unlikeWish_32 rfl <|
        zb1 h fun x4 r3 h => zcX11_153 34 [.int x2] [] hX dX11_unlikeWish_34 (c_X7_has (zgd0 hX) r3) (rfl : shp 3 = (7, 0)) rfl rfl rfl (Nat.le_of_ble_eq_true rfl) (Nat.le_of_ble_eq_true rfl) <|
        z_if_ne 37 43 hX dX11_unlikeWish_37 rfl h (fun q5 h => ?_) (fun q5 h => ?_)
      · refine z_aload_n 43 hX dX11_unlikeWish_43 rfl <|
          zgX11_12 44 hX dX11_unlikeWish_44 (rfl : shp 0 = (11, 0)) <|
          zgX11_106 47 hX dX11_unlikeWish_47 (rfl : shp 1 = (8, 0)) <|
          zgX11_144 50 hX dX11_unlikeWish_50 (rfl : shp 3 = (7, 0)) <|
          z_iload 53 hX dX11_unlikeWish_53 rfl <|
          z_aald 55 hX dX11_unlikeWish_55 (rfl : shp 4 = (22, 12)) (by decide) h fun q6 h =>
          z_astore 56 [some (.ref (zα G 0)), some (.ref (zα G a1)), some (.int a2), some (.int a3), some (.int a4), some (.int x2), some (.ref (zα G (5 + 2 * x2.toNatClampNeg)))] hX dX11_unlikeWish_56 (Nat.le_of_ble_eq_true rfl) rfl rfl <|
          z_aload 58 hX dX11_unlikeWish_58 rfl <|
          zgX11_156 60 hX dX11_unlikeWish_60 (ze22 _ (rfl : shp 4 = (22, 12)) _ q6) <|
          z_aload_n 63 hX dX11_unlikeWish_63 rfl <|
          zgX11_36 64 hX dX11_unlikeWish_64 (rfl : shp 0 = (11, 0)) <|
          zgX11_105 67 hX dX11_unlikeWish_67 (rfl : shp 116 = (3, 0)) <|
          z_iload_n 70 hX dX11_unlikeWish_70 rfl <|
          z_isub 71 hX dX11_unlikeWish_71 <|
          z_icmp_le 72 78 hX dX11_unlikeWish_72 rfl h (fun q7 h => ?_) (fun q7 h => ?_)
        · refine z_iload_n 78 hX dX11_unlikeWish_78 rfl <|
            z_aload 79 hX dX11_unlikeWish_79 rfl <|
            z_aload_n 81 hX dX11_unlikeWish_81 rfl <|
            zgX11_36 82 hX dX11_unlikeWish_82 (rfl : shp 0 = (11, 0)) <|
            z_iload_n 85 hX dX11_unlikeWish_85 rfl <|
            zb1 h fun x9 r8 h => zcX11_332 86 [.ref (zα G 116), .int a2] [.int a3] hX dX11_unlikeWish_86 (c_X10_unlikeAt (zgd0 hX) (ze22 _ (rfl : shp 4 = (22, 12)) _ q6) r8) (ze22 _ (rfl : shp 4 = (22, 12)) _ q6) rfl rfl rfl (Nat.le_of_ble_eq_true rfl) (Nat.le_of_ble_eq_true rfl) <|
            z_iadd 89 hX dX11_unlikeWish_89 <|
            z_top h fun x10 h =>
            z_istore_n 90 [some (.ref (zα G 0)), some (.ref (zα G a1)), some (.int a2), some (.int x10), some (.int a4), some (.int x2), some (.ref (zα G (5 + 2 * x2.toNatClampNeg)))] hX dX11_unlikeWish_90 (Nat.le_of_ble_eq_true rfl) rfl rfl <|
            z_iload_n 91 hX dX11_unlikeWish_91 rfl <|
            z_aload 92 hX dX11_unlikeWish_92 rfl <|
            zgX11_156 94 hX dX11_unlikeWish_94 (ze22 _ (rfl : shp 4 = (22, 12)) _ q6) <|
            z_iadd 97 hX dX11_unlikeWish_97 <|
            z_top h fun x11 h =>
            z_istore_n 98 [some (.ref (zα G 0)), some (.ref (zα G a1)), some (.int x11), some (.int x10), some (.int a4), some (.int x2), some (.ref (zα G (5 + 2 * x2.toNatClampNeg)))] hX dX11_unlikeWish_98 (Nat.le_of_ble_eq_true rfl) rfl rfl <|
            z_iincG 99 (fun x12 => [some (.ref (zα G 0)), some (.ref (zα G a1)), some (.int x11), some (.int x10), some (.int x12), some (.int x2), some (.ref (zα G (5 + 2 * x2.toNatClampNeg)))]) hX dX11_unlikeWish_99 rfl zki1 rfl (fun _ => rfl) h fun x12 h =>
            z_goto 102 7 hX dX11_unlikeWish_102 rfl <|
            z_weak (L' := [some (.ref (zα G 0)), some (.ref (zα G a1)), some (.int x11), some (.int x10), some (.int x12), none, none]) (zsub_s (zsub_s (zsub_s (zsub_s (zsub_s (zsub_n (zsub_n zsub_0))))))) <|
            ih _ _ _ _ ha1 h
        · refine z_weak (L' := [none, none, none, none, none, none, none]) (zsub_n (zsub_n (zsub_n (zsub_n (zsub_n (zsub_n (zsub_n zsub_0))))))) <|
            hK75 h
      · refine z_weak (L' := [none, none, none, none, none, none, none]) (zsub_n (zsub_n (zsub_n (zsub_n (zsub_n (zsub_n (zsub_n zsub_0))))))) <|
          hK40 h
def f_X11_unlikeWish (a1 : Nat) (w : zW) : Option Int32 :=
  l_X11_unlikeWish_7 w (
    some (nI 1000000)) (
    some (nI 1000000)) (fun k105_a2 k105_a3 =>
    if k105_a2 = (w 116 1) then
      some k105_a3
    else
      some (nI 1000000)) zfuel a1 (nI 0) (nI 0) (nI 0)
theorem c_X11_unlikeWish {G : zG} {l : Launch} (hG : zgood G) {w : zW} {re : Int32} {a1 : Nat} (ha1 : shp a1 = (4, 0)) (h : f_X11_unlikeWish a1 w = some re) : zMet G l yX11_unlikeWish cX11_unlikeWish 7 (some .int) 1 [.ref (zα G 0), .ref (zα G a1)] w (some (.int re)) w := by
  refine zMet_of (L0 := [some (.ref (zα G 0)), some (.ref (zα G a1)), none, none, none, none, none]) hG zplX11 (Nat.le_of_ble_eq_true rfl) rfl rfl (fun X hl hX hEI hEV hEA => ?_)
  subst hl
  have hX : zOk G X cX11_unlikeWish 7 RX11 1 := hX
  have hE := hEI _ _ rfl rfl
  rw [f_X11_unlikeWish] at h
  refine z_iconst 0 hX dX11_unlikeWish_0 zki0 <|
    z_istore_n 1 [some (.ref (zα G 0)), some (.ref (zα G a1)), some (.int (nI 0)), none, none, none, none] hX dX11_unlikeWish_1 (Nat.le_of_ble_eq_true rfl) rfl rfl <|
    z_iconst 2 hX dX11_unlikeWish_2 zki0 <|
    z_istore_n 3 [some (.ref (zα G 0)), some (.ref (zα G a1)), some (.int (nI 0)), some (.int (nI 0)), none, none, none] hX dX11_unlikeWish_3 (Nat.le_of_ble_eq_true rfl) rfl rfl <|
    z_iconst 4 hX dX11_unlikeWish_4 zki0 <|
    z_istore 5 [some (.ref (zα G 0)), some (.ref (zα G a1)), some (.int (nI 0)), some (.int (nI 0)), some (.int (nI 0)), none, none] hX dX11_unlikeWish_5 (Nat.le_of_ble_eq_true rfl) rfl rfl <|
    l_X11_unlikeWish_7z hX hE (fun h => ?_) (fun h => ?_) (fun k105_a2 k105_a3 h => ?_) _ _ _ _ _ ha1 h
  · refine z_ldc 40 hX dX11_unlikeWish_40 zw821 zkl1000000 <|
      z_endI 42 hE rfl h dX11_unlikeWish_42
  · refine z_ldc 75 hX dX11_unlikeWish_75 zw821 zkl1000000 <|
      z_endI 77 hE rfl h dX11_unlikeWish_77
  · refine z_iload_n 105 hX dX11_unlikeWish_105 rfl <|
      z_aload_n 106 hX dX11_unlikeWish_106 rfl <|
      zgX11_36 107 hX dX11_unlikeWish_107 (rfl : shp 0 = (11, 0)) <|
      zgX11_105 110 hX dX11_unlikeWish_110 (rfl : shp 116 = (3, 0)) <|
      z_icmp_ne 113 120 hX dX11_unlikeWish_113 rfl h (fun q301 h => ?_) (fun q301 h => ?_)
    · refine z_ldc 120 hX dX11_unlikeWish_120 zw821 zkl1000000 <|
        z_endI 122 hE rfl h dX11_unlikeWish_122
    · refine z_iload_n 116 hX dX11_unlikeWish_116 rfl <|
        z_goto 117 122 hX dX11_unlikeWish_117 rfl <|
        z_endI 122 hE rfl h dX11_unlikeWish_122
def j_X11_wish_18  (w : zW) : Option (Int32 × zW) :=
  zb2 (f_X11_error (nI 1) w) fun x2 w1 =>
  some (x2, w1)
theorem j_X11_wish_18z {G : zG} {X : zX} {w : zW} {re : Int32} {we : zW}  (hX : zOk G X cX11_wish 5 RX11 4) (hE : zEI G X cX11_wish .int re we)  (h : j_X11_wish_18 w = some (re, we)) : zZ G X w 18 [some (.ref (zα G 0)), none, none, none, none] [] := by
  rw [j_X11_wish_18] at h
  refine z_aload_n 18 hX dX11_wish_18 rfl <|
    z_iconst 19 hX dX11_wish_19 zki1 <|
    zb12 h fun x2 w1 r1 h => zcX11_72 20 [.int (nI 1)] [] hX dX11_wish_20 (c_X11_error (zgd0 hX) r1) (rfl : shp 0 = (11, 0)) rfl rfl rfl (Nat.le_of_ble_eq_true rfl) (Nat.le_of_ble_eq_true rfl) <|
    z_endI2 23 hE rfl h dX11_wish_23
def l_X11_wish_47 (K76 : zW → Option (Int32 × zW)) (K88 : Int32 → Nat → zW → Option (Int32 × zW)) : Nat → Int32 → Nat → Int32 → zW → Option (Int32 × zW)
  | 0, _, _, _, _ => none
  | n + 1, a1, a3, a4, w =>
    if a4 < (w a3 2) then
      zld w (a3 + 1) 24 a4 fun x2 =>
      zb (f_X7_has x2 w) fun x4 =>
      if x4 = nI 0 then
        K76 w
      else
        zlet (a4 + nI 1) fun x6 =>
        (l_X11_wish_47 K76 K88 n) a1 a3 x6 w
    else
      K88 a1 a3 w
theorem l_X11_wish_47z {K76 : zW → Option (Int32 × zW)} {K88 : Int32 → Nat → zW → Option (Int32 × zW)} {G : zG} {X : zX} {re : Int32} {we : zW} (hX : zOk G X cX11_wish 5 RX11 4) (hE : zEI G X cX11_wish .int re we) (hK76 : ∀ (w3 : zW) , K76 w3 = some (re, we) → zZ G X w3 76 [some (.ref (zα G 0)), none, none, none, none] []) (hK88 : ∀ (a1 : Int32) (a3 : Nat) (w3 : zW) (ha3 : shp a3 = (4, 0)), K88 a1 a3 w3 = some (re, we) → zZ G X w3 88 [some (.ref (zα G 0)), some (.int a1), none, some (.ref (zα G a3)), none] []) : ∀ (n : Nat) (a1 : Int32) (a3 : Nat) (a4 : Int32) (w : zW) (ha3 : shp a3 = (4, 0)), l_X11_wish_47 K76 K88 n a1 a3 a4 w = some (re, we) → zZ G X w 47 [some (.ref (zα G 0)), some (.int a1), none, some (.ref (zα G a3)), some (.int a4)] [] := by
  intro n
  induction n with
  | zero =>
    intro a1 a3 a4 w ha3 h
    rw [l_X11_wish_47.eq_1] at h
    cases h
  | succ n ih =>
    intro a1 a3 a4 w ha3 h
    rw [l_X11_wish_47.eq_2] at h
    refine z_iload 47 hX dX11_wish_47 rfl <|
      z_aload_n 49 hX dX11_wish_49 rfl <|
      zgX11_229 50 hX dX11_wish_50 ha3 <|
      z_icmp_ge 53 88 hX dX11_wish_53 rfl h (fun q1 h => ?_) (fun q1 h => ?_)
    · refine z_weak (L' := [some (.ref (zα G 0)), some (.int a1), none, some (.ref (zα G a3)), none]) (zsub_s (zsub_s (zsub_n (zsub_s (zsub_n zsub_0))))) <|
        hK88 _ _ _ ha3 h
    · refine z_aload_n 56 hX dX11_wish_56 rfl <|
        zgX11_12 57 hX dX11_wish_57 (rfl : shp 0 = (11, 0)) <|
        zgX11_106 60 hX dX11_wish_60 (rfl : shp 1 = (8, 0)) <|
        z_aload_n 63 hX dX11_wish_63 rfl <|
        zgX11_230 64 hX dX11_wish_64 ha3 <|
        z_iload 67 hX dX11_wish_67 rfl <|
        z_iald 69 hX dX11_wish_69 (zr4_numbers _ ha3) h fun x2 _ h =>
        zb1 h fun x4 r3 h => zcX11_153 70 [.int x2] [] hX dX11_wish_70 (c_X7_has (zgd0 hX) r3) (rfl : shp 3 = (7, 0)) rfl rfl rfl (Nat.le_of_ble_eq_true rfl) (Nat.le_of_ble_eq_true rfl) <|
        z_if_ne 73 82 hX dX11_wish_73 rfl h (fun q5 h => ?_) (fun q5 h => ?_)
      · refine z_iincG 82 (fun x6 => [some (.ref (zα G 0)), some (.int a1), none, some (.ref (zα G a3)), some (.int x6)]) hX dX11_wish_82 rfl zki1 rfl (fun _ => rfl) h fun x6 h =>
          z_goto 85 47 hX dX11_wish_85 rfl <|
          ih _ _ _ _ ha3 h
      · refine z_weak (L' := [some (.ref (zα G 0)), none, none, none, none]) (zsub_s (zsub_n (zsub_n (zsub_n (zsub_n zsub_0))))) <|
          hK76 _ h
def f_X11_wish (a1 : Int32) (a2 : Int32) (w : zW) : Option (Int32 × zW) :=
  zb (f_X8_hasWall a1 w) fun x2 =>
  if x2 = nI 0 then
    j_X11_wish_18 w
  else
    zb (f_X11_isSheet a2) fun x5 =>
    if x5 = nI 0 then
      j_X11_wish_18 w
    else
      zguard (zin a2 4) (
      zb (f_X4_isMissing (104 + 2 * a2.toNatClampNeg) w) fun x9 =>
      if x9 = nI 0 then
        l_X11_wish_47 (fun w11 =>
          zb2 (f_X11_error (nI 1) w11) fun x112 w12 =>
          some (x112, w12)) (fun k88_a1 k88_a3 w21 =>
          zguard (zin k88_a1 6) (
          zb (f_X8_spell (40 + 2 * k88_a1.toNatClampNeg) k88_a1 w21) fun w22 =>
          zb (f_X11_unlikeWish k88_a3 w22) fun x214 =>
          if x214 < (nI 1000000) then
            some (x214, w22)
          else
            zb2 (f_X11_error (nI 2) w22) fun x217 w23 =>
            some (x217, w23))) zfuel a1 (104 + 2 * a2.toNatClampNeg) (nI 0) w
      else
        zb2 (f_X11_error (nI 2) w) fun x12 w1 =>
        some (x12, w1))
theorem c_X11_wish {G : zG} {l : Launch} (hG : zgood G) {w : zW} {re : Int32} {we : zW} {a1 : Int32} {a2 : Int32}  (h : f_X11_wish a1 a2 w = some (re, we)) : zMet G l yX11_wish cX11_wish 5 (some .int) 4 [.ref (zα G 0), .int a1, .int a2] w (some (.int re)) we := by
  refine zMet_of (L0 := [some (.ref (zα G 0)), some (.int a1), some (.int a2), none, none]) hG zplX11 (Nat.le_of_ble_eq_true rfl) rfl rfl (fun X hl hX hEI hEV hEA => ?_)
  subst hl
  have hX : zOk G X cX11_wish 5 RX11 4 := hX
  have hE := hEI _ _ rfl rfl
  rw [f_X11_wish] at h
  refine z_aload_n 0 hX dX11_wish_0 rfl <|
    zgX11_12 1 hX dX11_wish_1 (rfl : shp 0 = (11, 0)) <|
    z_iload_n 4 hX dX11_wish_4 rfl <|
    zb1 h fun x2 r1 h => zcX11_88 5 [.int a1] [] hX dX11_wish_5 (c_X8_hasWall (zgd0 hX) r1) (rfl : shp 1 = (8, 0)) rfl rfl rfl (Nat.le_of_ble_eq_true rfl) (Nat.le_of_ble_eq_true rfl) <|
    z_if_eq 8 18 hX dX11_wish_8 rfl h (fun q3 h => ?_) (fun q3 h => ?_)
  · refine z_weak (L' := [some (.ref (zα G 0)), none, none, none, none]) (zsub_s (zsub_n (zsub_n (zsub_n (zsub_n zsub_0))))) <|
      j_X11_wish_18z hX hE h
  · refine z_iload_n 11 hX dX11_wish_11 rfl <|
      zb1 h fun x5 r4 h => zcX11_223 12 [.int a2] [] hX dX11_wish_12 (c_X11_isSheet (zgd0 hX) r4) rfl rfl rfl (Nat.le_of_ble_eq_true rfl) (Nat.le_of_ble_eq_true rfl) <|
      z_if_ne 15 24 hX dX11_wish_15 rfl h (fun q6 h => ?_) (fun q6 h => ?_)
    · refine z_aload_n 24 hX dX11_wish_24 rfl <|
        zgX11_21 25 hX dX11_wish_25 (rfl : shp 0 = (11, 0)) <|
        z_iload_n 28 hX dX11_wish_28 rfl <|
        z_aald 29 hX dX11_wish_29 (rfl : shp 103 = (23, 4)) (by decide) h fun q7 h =>
        z_astore_n 30 [some (.ref (zα G 0)), some (.int a1), some (.int a2), some (.ref (zα G (104 + 2 * a2.toNatClampNeg))), none] hX dX11_wish_30 (Nat.le_of_ble_eq_true rfl) rfl rfl <|
        z_aload_n 31 hX dX11_wish_31 rfl <|
        zb1 h fun x9 r8 h => zcX11_226 32 [] [] hX dX11_wish_32 (c_X4_isMissing (zgd0 hX) (ze23 _ (rfl : shp 103 = (23, 4)) _ q7) r8) (ze23 _ (rfl : shp 103 = (23, 4)) _ q7) rfl rfl rfl (Nat.le_of_ble_eq_true rfl) (Nat.le_of_ble_eq_true rfl) <|
        z_if_eq 35 44 hX dX11_wish_35 rfl h (fun q10 h => ?_) (fun q10 h => ?_)
      · refine z_iconst 44 hX dX11_wish_44 zki0 <|
          z_istore 45 [some (.ref (zα G 0)), some (.int a1), some (.int a2), some (.ref (zα G (104 + 2 * a2.toNatClampNeg))), some (.int (nI 0))] hX dX11_wish_45 (Nat.le_of_ble_eq_true rfl) rfl rfl <|
          z_weak (L' := [some (.ref (zα G 0)), some (.int a1), none, some (.ref (zα G (104 + 2 * a2.toNatClampNeg))), some (.int (nI 0))]) (zsub_s (zsub_s (zsub_n (zsub_s (zsub_s zsub_0))))) <|
          l_X11_wish_47z hX hE (fun w11 h => ?_) (fun k88_a1 k88_a3 w21 hk88_a3 h => ?_) _ _ _ _ _ (ze23 _ (rfl : shp 103 = (23, 4)) _ q7) h
        · refine z_aload_n 76 hX dX11_wish_76 rfl <|
            z_iconst 77 hX dX11_wish_77 zki1 <|
            zb12 h fun x112 w12 r111 h => zcX11_72 78 [.int (nI 1)] [] hX dX11_wish_78 (c_X11_error (zgd0 hX) r111) (rfl : shp 0 = (11, 0)) rfl rfl rfl (Nat.le_of_ble_eq_true rfl) (Nat.le_of_ble_eq_true rfl) <|
            z_endI2 81 hE rfl h dX11_wish_81
        · refine z_aload_n 88 hX dX11_wish_88 rfl <|
            zgX11_12 89 hX dX11_wish_89 (rfl : shp 0 = (11, 0)) <|
            z_aload_n 92 hX dX11_wish_92 rfl <|
            zgX11_12 93 hX dX11_wish_93 (rfl : shp 0 = (11, 0)) <|
            zgX11_80 96 hX dX11_wish_96 (rfl : shp 1 = (8, 0)) <|
            z_iload_n 99 hX dX11_wish_99 rfl <|
            z_aald 100 hX dX11_wish_100 (rfl : shp 2 = (21, 6)) (by decide) h fun q211 h =>
            z_iload_n 101 hX dX11_wish_101 rfl <|
            z_aload_n 102 hX dX11_wish_102 rfl <|
            zgX11_36 103 hX dX11_wish_103 (rfl : shp 0 = (11, 0)) <|
            zb1 h fun w22 r212 h => zcX11_92 106 [.ref (zα G (40 + 2 * k88_a1.toNatClampNeg)), .int k88_a1, .ref (zα G 116)] [] hX dX11_wish_106 (c_X8_spell (zgd0 hX) (ze21 _ (rfl : shp 2 = (21, 6)) _ q211) r212) (rfl : shp 1 = (8, 0)) rfl rfl rfl (Nat.le_of_ble_eq_true rfl) (Nat.le_of_ble_eq_true rfl) <|
            z_aload_n 109 hX dX11_wish_109 rfl <|
            z_aload_n 110 hX dX11_wish_110 rfl <|
            zb1 h fun x214 r213 h => zcX11_233 111 [.ref (zα G k88_a3)] [] hX dX11_wish_111 (c_X11_unlikeWish (zgd0 hX) hk88_a3 r213) (rfl : shp 0 = (11, 0)) rfl rfl rfl (Nat.le_of_ble_eq_true rfl) (Nat.le_of_ble_eq_true rfl) <|
            z_istore 114 [some (.ref (zα G 0)), some (.int k88_a1), none, some (.ref (zα G k88_a3)), some (.int x214)] hX dX11_wish_114 (Nat.le_of_ble_eq_true rfl) rfl rfl <|
            z_iload 116 hX dX11_wish_116 rfl <|
            z_ldc 118 hX dX11_wish_118 zw821 zkl1000000 <|
            z_icmp_ge 120 128 hX dX11_wish_120 rfl h (fun q215 h => ?_) (fun q215 h => ?_)
          · refine z_aload_n 128 hX dX11_wish_128 rfl <|
              z_iconst 129 hX dX11_wish_129 zki2 <|
              zb12 h fun x217 w23 r216 h => zcX11_72 130 [.int (nI 2)] [] hX dX11_wish_130 (c_X11_error (zgd0 hX) r216) (rfl : shp 0 = (11, 0)) rfl rfl rfl (Nat.le_of_ble_eq_true rfl) (Nat.le_of_ble_eq_true rfl) <|
              z_endI2 133 hE rfl h dX11_wish_133
          · refine z_iload 123 hX dX11_wish_123 rfl <|
              z_goto 125 133 hX dX11_wish_125 rfl <|
              z_endI2 133 hE rfl h dX11_wish_133
      · refine z_aload_n 38 hX dX11_wish_38 rfl <|
          z_iconst 39 hX dX11_wish_39 zki2 <|
          zb12 h fun x12 w1 r11 h => zcX11_72 40 [.int (nI 2)] [] hX dX11_wish_40 (c_X11_error (zgd0 hX) r11) (rfl : shp 0 = (11, 0)) rfl rfl rfl (Nat.le_of_ble_eq_true rfl) (Nat.le_of_ble_eq_true rfl) <|
          z_endI2 43 hE rfl h dX11_wish_43
    · refine z_weak (L' := [some (.ref (zα G 0)), none, none, none, none]) (zsub_s (zsub_n (zsub_n (zsub_n (zsub_n zsub_0))))) <|
        j_X11_wish_18z hX hE h
def j_X11_heap_18  (w : zW) : Option (Int32 × zW) :=
  zb2 (f_X11_error (nI 1) w) fun x2 w1 =>
  some (x2, w1)
theorem j_X11_heap_18z {G : zG} {X : zX} {w : zW} {re : Int32} {we : zW}  (hX : zOk G X cX11_heap 4 RX11 1) (hE : zEI G X cX11_heap .int re we)  (h : j_X11_heap_18 w = some (re, we)) : zZ G X w 18 [some (.ref (zα G 0)), none, none, none] [] := by
  rw [j_X11_heap_18] at h
  refine z_aload_n 18 hX dX11_heap_18 rfl <|
    z_iconst 19 hX dX11_heap_19 zki1 <|
    zb12 h fun x2 w1 r1 h => zcX11_72 20 [.int (nI 1)] [] hX dX11_heap_20 (c_X11_error (zgd0 hX) r1) (rfl : shp 0 = (11, 0)) rfl rfl rfl (Nat.le_of_ble_eq_true rfl) (Nat.le_of_ble_eq_true rfl) <|
    z_endI2 23 hE rfl h dX11_heap_23
def f_X11_heap (a1 : Int32) (a2 : Int32) (w : zW) : Option (Int32 × zW) :=
  zb (f_X11_isLetter a1) fun x2 =>
  if x2 = nI 0 then
    j_X11_heap_18 w
  else
  if a2 < (mI 1) then
    j_X11_heap_18 w
  else
  if (nI 99) < a2 then
    j_X11_heap_18 w
  else
    zld w 38 27 a1 fun x6 =>
    if a2 < nI 0 then
      some (x6, w)
    else
      zsto w 38 27 a1 a2 fun w1 =>
      some (x6, w1)
theorem c_X11_heap {G : zG} {l : Launch} (hG : zgood G) {w : zW} {re : Int32} {we : zW} {a1 : Int32} {a2 : Int32}  (h : f_X11_heap a1 a2 w = some (re, we)) : zMet G l yX11_heap cX11_heap 4 (some .int) 1 [.ref (zα G 0), .int a1, .int a2] w (some (.int re)) we := by
  refine zMet_of (L0 := [some (.ref (zα G 0)), some (.int a1), some (.int a2), none]) hG zplX11 (Nat.le_of_ble_eq_true rfl) rfl rfl (fun X hl hX hEI hEV hEA => ?_)
  subst hl
  have hX : zOk G X cX11_heap 4 RX11 1 := hX
  have hE := hEI _ _ rfl rfl
  rw [f_X11_heap] at h
  refine z_iload_n 0 hX dX11_heap_0 rfl <|
    zb1 h fun x2 r1 h => zcX11_138 1 [.int a1] [] hX dX11_heap_1 (c_X11_isLetter (zgd0 hX) r1) rfl rfl rfl (Nat.le_of_ble_eq_true rfl) (Nat.le_of_ble_eq_true rfl) <|
    z_if_eq 4 18 hX dX11_heap_4 rfl h (fun q3 h => ?_) (fun q3 h => ?_)
  · refine z_weak (L' := [some (.ref (zα G 0)), none, none, none]) (zsub_s (zsub_n (zsub_n (zsub_n zsub_0)))) <|
      j_X11_heap_18z hX hE h
  · refine z_iload_n 7 hX dX11_heap_7 rfl <|
      z_iconst 8 hX dX11_heap_8 zkim1 <|
      z_icmp_lt 9 18 hX dX11_heap_9 rfl h (fun q4 h => ?_) (fun q4 h => ?_)
    · refine z_weak (L' := [some (.ref (zα G 0)), none, none, none]) (zsub_s (zsub_n (zsub_n (zsub_n zsub_0)))) <|
        j_X11_heap_18z hX hE h
    · refine z_iload_n 12 hX dX11_heap_12 rfl <|
        z_bipush 13 hX dX11_heap_13 zkb99 <|
        z_icmp_le 15 24 hX dX11_heap_15 rfl h (fun q5 h => ?_) (fun q5 h => ?_)
      · refine z_aload_n 24 hX dX11_heap_24 rfl <|
          zgX11_12 25 hX dX11_heap_25 (rfl : shp 0 = (11, 0)) <|
          zgX11_237 28 hX dX11_heap_28 (rfl : shp 1 = (8, 0)) <|
          z_iload_n 31 hX dX11_heap_31 rfl <|
          z_iald 32 hX dX11_heap_32 (rfl : shp 38 = (20, 27)) h fun x6 _ h =>
          z_istore_n 33 [some (.ref (zα G 0)), some (.int a1), some (.int a2), some (.int x6)] hX dX11_heap_33 (Nat.le_of_ble_eq_true rfl) rfl rfl <|
          z_iload_n 34 hX dX11_heap_34 rfl <|
          z_if_lt 35 48 hX dX11_heap_35 rfl h (fun q7 h => ?_) (fun q7 h => ?_)
        · refine z_iload_n 48 hX dX11_heap_48 rfl <|
            z_endI2 49 hE rfl h dX11_heap_49
        · refine z_aload_n 38 hX dX11_heap_38 rfl <|
            zgX11_12 39 hX dX11_heap_39 (rfl : shp 0 = (11, 0)) <|
            zgX11_237 42 hX dX11_heap_42 (rfl : shp 1 = (8, 0)) <|
            z_iload_n 45 hX dX11_heap_45 rfl <|
            z_iload_n 46 hX dX11_heap_46 rfl <|
            z_iast 47 hX dX11_heap_47 (rfl : shp 38 = (20, 27)) h fun w1 h =>
            z_iload_n 48 hX dX11_heap_48 rfl <|
            z_endI2 49 hE rfl h dX11_heap_49
      · refine z_weak (L' := [some (.ref (zα G 0)), none, none, none]) (zsub_s (zsub_n (zsub_n (zsub_n zsub_0)))) <|
          j_X11_heap_18z hX hE h
def f_X11_price (a1 : Int32) (w : zW) : Option (Int32 × zW) :=
  zb (f_X11_isLetter a1) fun x2 =>
  if x2 = nI 0 then
    zb2 (f_X11_error (nI 1) w) fun x5 w1 =>
    some (x5, w1)
  else
    zb2 (f_X8_priceOf a1 w) fun x7 w2 =>
    some (x7, w2)
theorem c_X11_price {G : zG} {l : Launch} (hG : zgood G) {w : zW} {re : Int32} {we : zW} {a1 : Int32}  (h : f_X11_price a1 w = some (re, we)) : zMet G l yX11_price cX11_price 2 (some .int) 3 [.ref (zα G 0), .int a1] w (some (.int re)) we := by
  refine zMet_of (L0 := [some (.ref (zα G 0)), some (.int a1)]) hG zplX11 (Nat.le_of_ble_eq_true rfl) rfl rfl (fun X hl hX hEI hEV hEA => ?_)
  subst hl
  have hX : zOk G X cX11_price 2 RX11 3 := hX
  have hE := hEI _ _ rfl rfl
  rw [f_X11_price] at h
  refine z_iload_n 0 hX dX11_price_0 rfl <|
    zb1 h fun x2 r1 h => zcX11_138 1 [.int a1] [] hX dX11_price_1 (c_X11_isLetter (zgd0 hX) r1) rfl rfl rfl (Nat.le_of_ble_eq_true rfl) (Nat.le_of_ble_eq_true rfl) <|
    z_if_eq 4 18 hX dX11_price_4 rfl h (fun q3 h => ?_) (fun q3 h => ?_)
  · refine z_aload_n 18 hX dX11_price_18 rfl <|
      z_iconst 19 hX dX11_price_19 zki1 <|
      zb12 h fun x5 w1 r4 h => zcX11_72 20 [.int (nI 1)] [] hX dX11_price_20 (c_X11_error (zgd0 hX) r4) (rfl : shp 0 = (11, 0)) rfl rfl rfl (Nat.le_of_ble_eq_true rfl) (Nat.le_of_ble_eq_true rfl) <|
      z_endI2 23 hE rfl h dX11_price_23
  · refine z_aload_n 7 hX dX11_price_7 rfl <|
      zgX11_12 8 hX dX11_price_8 (rfl : shp 0 = (11, 0)) <|
      z_iload_n 11 hX dX11_price_11 rfl <|
      zb12 h fun x7 w2 r6 h => zcX11_240 12 [.int a1] [] hX dX11_price_12 (c_X8_priceOf (zgd0 hX) r6) (rfl : shp 1 = (8, 0)) rfl rfl rfl (Nat.le_of_ble_eq_true rfl) (Nat.le_of_ble_eq_true rfl) <|
      z_goto 15 23 hX dX11_price_15 rfl <|
      z_endI2 23 hE rfl h dX11_price_23
def j_X11_have_27  (w : zW) : Option (Int32 × zW) :=
  zb2 (f_X11_error (nI 1) w) fun x2 w1 =>
  some (x2, w1)
theorem j_X11_have_27z {G : zG} {X : zX} {w : zW} {re : Int32} {we : zW}  (hX : zOk G X cX11_have 4 RX11 1) (hE : zEI G X cX11_have .int re we)  (h : j_X11_have_27 w = some (re, we)) : zZ G X w 27 [some (.ref (zα G 0)), none, none, none] [] := by
  rw [j_X11_have_27] at h
  refine z_aload_n 27 hX dX11_have_27 rfl <|
    z_iconst 28 hX dX11_have_28 zki1 <|
    zb12 h fun x2 w1 r1 h => zcX11_72 29 [.int (nI 1)] [] hX dX11_have_29 (c_X11_error (zgd0 hX) r1) (rfl : shp 0 = (11, 0)) rfl rfl rfl (Nat.le_of_ble_eq_true rfl) (Nat.le_of_ble_eq_true rfl) <|
    z_endI2 32 hE rfl h dX11_have_32
def j_X11_have_54 (a1 : Int32) (a2 : Int32) (b0 : Int32) (w : zW) : Option (Int32 × zW) :=
  if a1 = nI 0 then
    zlet (zupd w 1 10 a2) fun w2 =>
    some (b0, w2)
  else
    zlet (zupd w 1 11 a2) fun w1 =>
    some (b0, w1)
theorem j_X11_have_54z {G : zG} {X : zX} {w : zW} {re : Int32} {we : zW} {a1 : Int32} {a2 : Int32} {b0 : Int32} (hX : zOk G X cX11_have 4 RX11 1) (hE : zEI G X cX11_have .int re we)  (h : j_X11_have_54 a1 a2 b0 w = some (re, we)) : zZ G X w 54 [some (.ref (zα G 0)), some (.int a1), some (.int a2), none] [.int b0] := by
  rw [j_X11_have_54] at h
  refine z_istore_n 54 [some (.ref (zα G 0)), some (.int a1), some (.int a2), some (.int b0)] hX dX11_have_54 (Nat.le_of_ble_eq_true rfl) rfl rfl <|
    z_iload_n 55 hX dX11_have_55 rfl <|
    z_if_ne 56 70 hX dX11_have_56 rfl h (fun q1 h => ?_) (fun q1 h => ?_)
  · refine z_aload_n 70 hX dX11_have_70 rfl <|
      zgX11_12 71 hX dX11_have_71 (rfl : shp 0 = (11, 0)) <|
      z_iload_n 74 hX dX11_have_74 rfl <|
      zpX11_247 75 hX dX11_have_75 (rfl : shp 1 = (8, 0)) <|
      z_w h fun w1 h =>
      z_iload_n 78 hX dX11_have_78 rfl <|
      z_endI2 79 hE rfl h dX11_have_79
  · refine z_aload_n 59 hX dX11_have_59 rfl <|
      zgX11_12 60 hX dX11_have_60 (rfl : shp 0 = (11, 0)) <|
      z_iload_n 63 hX dX11_have_63 rfl <|
      zpX11_244 64 hX dX11_have_64 (rfl : shp 1 = (8, 0)) <|
      z_w h fun w2 h =>
      z_goto 67 78 hX dX11_have_67 rfl <|
      z_iload_n 78 hX dX11_have_78 rfl <|
      z_endI2 79 hE rfl h dX11_have_79
def j_X11_have_24 (a1 : Int32) (a2 : Int32) (b0 : Int32) (b1 : Int32) (w : zW) : Option (Int32 × zW) :=
  if b1 < b0 then
    j_X11_have_27 w
  else
  if a1 = nI 0 then
    j_X11_have_54 a1 a2 (w 1 10) w
  else
    j_X11_have_54 a1 a2 (w 1 11) w
theorem j_X11_have_24z {G : zG} {X : zX} {w : zW} {re : Int32} {we : zW} {a1 : Int32} {a2 : Int32} {b0 : Int32} {b1 : Int32} (hX : zOk G X cX11_have 4 RX11 1) (hE : zEI G X cX11_have .int re we)  (h : j_X11_have_24 a1 a2 b0 b1 w = some (re, we)) : zZ G X w 24 [some (.ref (zα G 0)), some (.int a1), some (.int a2), none] [.int b1, .int b0] := by
  rw [j_X11_have_24] at h
  refine z_icmp_le 24 33 hX dX11_have_24 rfl h (fun q1 h => ?_) (fun q1 h => ?_)
  · refine z_iload_n 33 hX dX11_have_33 rfl <|
      z_if_ne 34 47 hX dX11_have_34 rfl h (fun q2 h => ?_) (fun q2 h => ?_)
    · refine z_aload_n 47 hX dX11_have_47 rfl <|
        zgX11_12 48 hX dX11_have_48 (rfl : shp 0 = (11, 0)) <|
        zgX11_247 51 hX dX11_have_51 (rfl : shp 1 = (8, 0)) <|
        j_X11_have_54z hX hE h
    · refine z_aload_n 37 hX dX11_have_37 rfl <|
        zgX11_12 38 hX dX11_have_38 (rfl : shp 0 = (11, 0)) <|
        zgX11_244 41 hX dX11_have_41 (rfl : shp 1 = (8, 0)) <|
        z_goto 44 54 hX dX11_have_44 rfl <|
        j_X11_have_54z hX hE h
  · refine z_weak (L' := [some (.ref (zα G 0)), none, none, none]) (zsub_s (zsub_n (zsub_n (zsub_n zsub_0)))) <|
      j_X11_have_27z hX hE h
def f_X11_have (a1 : Int32) (a2 : Int32) (w : zW) : Option (Int32 × zW) :=
  if a1 < nI 0 then
    j_X11_have_27 w
  else
  if (nI 1) < a1 then
    j_X11_have_27 w
  else
  if a2 < nI 0 then
    j_X11_have_27 w
  else
  if a1 = nI 0 then
    j_X11_have_24 a1 a2 a2 (nI 3) w
  else
    j_X11_have_24 a1 a2 a2 (nI 99999) w
theorem c_X11_have {G : zG} {l : Launch} (hG : zgood G) {w : zW} {re : Int32} {we : zW} {a1 : Int32} {a2 : Int32}  (h : f_X11_have a1 a2 w = some (re, we)) : zMet G l yX11_have cX11_have 4 (some .int) 1 [.ref (zα G 0), .int a1, .int a2] w (some (.int re)) we := by
  refine zMet_of (L0 := [some (.ref (zα G 0)), some (.int a1), some (.int a2), none]) hG zplX11 (Nat.le_of_ble_eq_true rfl) rfl rfl (fun X hl hX hEI hEV hEA => ?_)
  subst hl
  have hX : zOk G X cX11_have 4 RX11 1 := hX
  have hE := hEI _ _ rfl rfl
  rw [f_X11_have] at h
  refine z_iload_n 0 hX dX11_have_0 rfl <|
    z_if_lt 1 27 hX dX11_have_1 rfl h (fun q1 h => ?_) (fun q1 h => ?_)
  · refine z_weak (L' := [some (.ref (zα G 0)), none, none, none]) (zsub_s (zsub_n (zsub_n (zsub_n zsub_0)))) <|
      j_X11_have_27z hX hE h
  · refine z_iload_n 4 hX dX11_have_4 rfl <|
      z_iconst 5 hX dX11_have_5 zki1 <|
      z_icmp_gt 6 27 hX dX11_have_6 rfl h (fun q2 h => ?_) (fun q2 h => ?_)
    · refine z_weak (L' := [some (.ref (zα G 0)), none, none, none]) (zsub_s (zsub_n (zsub_n (zsub_n zsub_0)))) <|
        j_X11_have_27z hX hE h
    · refine z_iload_n 9 hX dX11_have_9 rfl <|
        z_if_lt 10 27 hX dX11_have_10 rfl h (fun q3 h => ?_) (fun q3 h => ?_)
      · refine z_weak (L' := [some (.ref (zα G 0)), none, none, none]) (zsub_s (zsub_n (zsub_n (zsub_n zsub_0)))) <|
          j_X11_have_27z hX hE h
      · refine z_iload_n 13 hX dX11_have_13 rfl <|
          z_iload_n 14 hX dX11_have_14 rfl <|
          z_if_ne 15 22 hX dX11_have_15 rfl h (fun q4 h => ?_) (fun q4 h => ?_)
        · refine z_ldc 22 hX dX11_have_22 zw851 zkl99999 <|
            j_X11_have_24z hX hE h
        · refine z_iconst 18 hX dX11_have_18 zki3 <|
            z_goto 19 24 hX dX11_have_19 rfl <|
            j_X11_have_24z hX hE h
def j_X11_lay_30  (w : zW) : Option (Int32 × zW) :=
  zb2 (f_X11_error (nI 1) w) fun x2 w1 =>
  some (x2, w1)
theorem j_X11_lay_30z {G : zG} {X : zX} {w : zW} {re : Int32} {we : zW}  (hX : zOk G X cX11_lay 7 RX11 3) (hE : zEI G X cX11_lay .int re we)  (h : j_X11_lay_30 w = some (re, we)) : zZ G X w 30 [some (.ref (zα G 0)), none, none, none, none, none, none] [] := by
  rw [j_X11_lay_30] at h
  refine z_aload_n 30 hX dX11_lay_30 rfl <|
    z_iconst 31 hX dX11_lay_31 zki1 <|
    zb12 h fun x2 w1 r1 h => zcX11_72 32 [.int (nI 1)] [] hX dX11_lay_32 (c_X11_error (zgd0 hX) r1) (rfl : shp 0 = (11, 0)) rfl rfl rfl (Nat.le_of_ble_eq_true rfl) (Nat.le_of_ble_eq_true rfl) <|
    z_endI2 35 hE rfl h dX11_lay_35
def j_X11_lay_156 (a2 : Int32) (a3 : Int32) (a5 : Nat) (w : zW) : Option (Int32 × zW) :=
  zsto w (a5 + 1) 24 a2 a3 fun w1 =>
  zb (f_X9_countLetters a5 w1) fun x2 =>
  some (x2, w1)
theorem j_X11_lay_156z {G : zG} {X : zX} {w : zW} {re : Int32} {we : zW} {a2 : Int32} {a3 : Int32} {a5 : Nat} (hX : zOk G X cX11_lay 7 RX11 3) (hE : zEI G X cX11_lay .int re we) (ha5 : shp a5 = (9, 0)) (h : j_X11_lay_156 a2 a3 a5 w = some (re, we)) : zZ G X w 156 [none, none, some (.int a2), some (.int a3), none, some (.ref (zα G a5)), none] [] := by
  rw [j_X11_lay_156] at h
  refine z_aload 156 hX dX11_lay_156 rfl <|
    zgX11_132 158 hX dX11_lay_158 ha5 <|
    z_iload_n 161 hX dX11_lay_161 rfl <|
    z_iload_n 162 hX dX11_lay_162 rfl <|
    z_iast 163 hX dX11_lay_163 (zr9_stones _ ha5) h fun w1 h =>
    z_aload 164 hX dX11_lay_164 rfl <|
    zb1 h fun x2 r1 h => zcX11_250 166 [] [] hX dX11_lay_166 (c_X9_countLetters (zgd0 hX) ha5 r1) ha5 rfl rfl rfl (Nat.le_of_ble_eq_true rfl) (Nat.le_of_ble_eq_true rfl) <|
    z_endI2 169 hE rfl h dX11_lay_169
def j_X11_lay_110 (a2 : Int32) (a3 : Int32) (a4 : Int32) (a5 : Nat) (a6 : Int32) (b0 : Int32) (b1 : Int32) (w : zW) : Option (Int32 × zW) :=
  if b1 < b0 then
    zb2 (f_X11_error (nI 3) w) fun x5 w3 =>
    some (x5, w3)
  else
  if a4 = (nI 1) then
    zlet (zupd w 1 11 ((w 1 11) - a6)) fun w2 =>
    j_X11_lay_156 a2 a3 a5 w2
  else
    zld w 38 27 a3 fun x3 =>
    zsto w 38 27 a3 (x3 - a6) fun w1 =>
    j_X11_lay_156 a2 a3 a5 w1
theorem j_X11_lay_110z {G : zG} {X : zX} {w : zW} {re : Int32} {we : zW} {a2 : Int32} {a3 : Int32} {a4 : Int32} {a5 : Nat} {a6 : Int32} {b0 : Int32} {b1 : Int32} (hX : zOk G X cX11_lay 7 RX11 3) (hE : zEI G X cX11_lay .int re we) (ha5 : shp a5 = (9, 0)) (h : j_X11_lay_110 a2 a3 a4 a5 a6 b0 b1 w = some (re, we)) : zZ G X w 110 [some (.ref (zα G 0)), none, some (.int a2), some (.int a3), some (.int a4), some (.ref (zα G a5)), some (.int a6)] [.int b1, .int b0] := by
  rw [j_X11_lay_110] at h
  refine z_icmp_le 110 119 hX dX11_lay_110 rfl h (fun q1 h => ?_) (fun q1 h => ?_)
  · refine z_iload 119 hX dX11_lay_119 rfl <|
      z_iconst 121 hX dX11_lay_121 zki1 <|
      z_icmp_ne 122 142 hX dX11_lay_122 rfl h (fun q2 h => ?_) (fun q2 h => ?_)
    · refine z_aload_n 142 hX dX11_lay_142 rfl <|
        zgX11_12 143 hX dX11_lay_143 (rfl : shp 0 = (11, 0)) <|
        zgX11_237 146 hX dX11_lay_146 (rfl : shp 1 = (8, 0)) <|
        z_iload_n 149 hX dX11_lay_149 rfl <|
        z_dup2 150 hX dX11_lay_150 rfl rfl <|
        z_iald 151 hX dX11_lay_151 (rfl : shp 38 = (20, 27)) h fun x3 _ h =>
        z_iload 152 hX dX11_lay_152 rfl <|
        z_isub 154 hX dX11_lay_154 <|
        z_iast 155 hX dX11_lay_155 (rfl : shp 38 = (20, 27)) h fun w1 h =>
        z_weak (L' := [none, none, some (.int a2), some (.int a3), none, some (.ref (zα G a5)), none]) (zsub_n (zsub_n (zsub_s (zsub_s (zsub_n (zsub_s (zsub_n zsub_0))))))) <|
        j_X11_lay_156z hX hE ha5 h
    · refine z_aload_n 125 hX dX11_lay_125 rfl <|
        zgX11_12 126 hX dX11_lay_126 (rfl : shp 0 = (11, 0)) <|
        z_dup 129 hX dX11_lay_129 rfl <|
        zgX11_247 130 hX dX11_lay_130 (rfl : shp 1 = (8, 0)) <|
        z_iload 133 hX dX11_lay_133 rfl <|
        z_isub 135 hX dX11_lay_135 <|
        zpX11_247 136 hX dX11_lay_136 (rfl : shp 1 = (8, 0)) <|
        z_w h fun w2 h =>
        z_goto 139 156 hX dX11_lay_139 rfl <|
        z_weak (L' := [none, none, some (.int a2), some (.int a3), none, some (.ref (zα G a5)), none]) (zsub_n (zsub_n (zsub_s (zsub_s (zsub_n (zsub_s (zsub_n zsub_0))))))) <|
        j_X11_lay_156z hX hE ha5 h
  · refine z_aload_n 113 hX dX11_lay_113 rfl <|
      z_iconst 114 hX dX11_lay_114 zki3 <|
      zb12 h fun x5 w3 r4 h => zcX11_72 115 [.int (nI 3)] [] hX dX11_lay_115 (c_X11_error (zgd0 hX) r4) (rfl : shp 0 = (11, 0)) rfl rfl rfl (Nat.le_of_ble_eq_true rfl) (Nat.le_of_ble_eq_true rfl) <|
      z_endI2 118 hE rfl h dX11_lay_118
def j_X11_lay_81 (a2 : Int32) (a3 : Int32) (a4 : Int32) (a5 : Nat) (b0 : Int32) (w : zW) : Option (Int32 × zW) :=
  if a4 = (nI 1) then
    j_X11_lay_110 a2 a3 a4 a5 b0 b0 (w 1 11) w
  else
    zld w 38 27 a3 fun x2 =>
    j_X11_lay_110 a2 a3 a4 a5 b0 b0 x2 w
theorem j_X11_lay_81z {G : zG} {X : zX} {w : zW} {re : Int32} {we : zW} {a2 : Int32} {a3 : Int32} {a4 : Int32} {a5 : Nat} {b0 : Int32} (hX : zOk G X cX11_lay 7 RX11 3) (hE : zEI G X cX11_lay .int re we) (ha5 : shp a5 = (9, 0)) (h : j_X11_lay_81 a2 a3 a4 a5 b0 w = some (re, we)) : zZ G X w 81 [some (.ref (zα G 0)), none, some (.int a2), some (.int a3), some (.int a4), some (.ref (zα G a5)), none] [.int b0] := by
  rw [j_X11_lay_81] at h
  refine z_istore 81 [some (.ref (zα G 0)), none, some (.int a2), some (.int a3), some (.int a4), some (.ref (zα G a5)), some (.int b0)] hX dX11_lay_81 (Nat.le_of_ble_eq_true rfl) rfl rfl <|
    z_iload 83 hX dX11_lay_83 rfl <|
    z_iload 85 hX dX11_lay_85 rfl <|
    z_iconst 87 hX dX11_lay_87 zki1 <|
    z_icmp_ne 88 101 hX dX11_lay_88 rfl h (fun q1 h => ?_) (fun q1 h => ?_)
  · refine z_aload_n 101 hX dX11_lay_101 rfl <|
      zgX11_12 102 hX dX11_lay_102 (rfl : shp 0 = (11, 0)) <|
      zgX11_237 105 hX dX11_lay_105 (rfl : shp 1 = (8, 0)) <|
      z_iload_n 108 hX dX11_lay_108 rfl <|
      z_iald 109 hX dX11_lay_109 (rfl : shp 38 = (20, 27)) h fun x2 _ h =>
      j_X11_lay_110z hX hE ha5 h
  · refine z_aload_n 91 hX dX11_lay_91 rfl <|
      zgX11_12 92 hX dX11_lay_92 (rfl : shp 0 = (11, 0)) <|
      zgX11_247 95 hX dX11_lay_95 (rfl : shp 1 = (8, 0)) <|
      z_goto 98 110 hX dX11_lay_98 rfl <|
      j_X11_lay_110z hX hE ha5 h
def f_X11_lay (a1 : Int32) (a2 : Int32) (a3 : Int32) (a4 : Int32) (w : zW) : Option (Int32 × zW) :=
  zb (f_X8_hasPlace a1 a2 w) fun x2 =>
  if x2 = nI 0 then
    j_X11_lay_30 w
  else
    zb (f_X11_isLetter a3) fun x5 =>
    if x5 = nI 0 then
      j_X11_lay_30 w
    else
    if a4 < nI 0 then
      j_X11_lay_30 w
    else
    if (nI 1) < a4 then
      j_X11_lay_30 w
    else
      zguard (zin a1 6) (
      zld w ((40 + 2 * a1.toNatClampNeg) + 1) 24 a2 fun x10 =>
      if x10 = nI 0 then
        if a4 = (nI 1) then
          zb2 (f_X8_priceOf a3 w) fun x14 w1 =>
          j_X11_lay_81 a2 a3 a4 (40 + 2 * a1.toNatClampNeg) x14 w1
        else
          j_X11_lay_81 a2 a3 a4 (40 + 2 * a1.toNatClampNeg) (nI 1) w
      else
        zb2 (f_X11_error (nI 3) w) fun x16 w2 =>
        some (x16, w2))
theorem c_X11_lay {G : zG} {l : Launch} (hG : zgood G) {w : zW} {re : Int32} {we : zW} {a1 : Int32} {a2 : Int32} {a3 : Int32} {a4 : Int32}  (h : f_X11_lay a1 a2 a3 a4 w = some (re, we)) : zMet G l yX11_lay cX11_lay 7 (some .int) 3 [.ref (zα G 0), .int a1, .int a2, .int a3, .int a4] w (some (.int re)) we := by
  refine zMet_of (L0 := [some (.ref (zα G 0)), some (.int a1), some (.int a2), some (.int a3), some (.int a4), none, none]) hG zplX11 (Nat.le_of_ble_eq_true rfl) rfl rfl (fun X hl hX hEI hEV hEA => ?_)
  subst hl
  have hX : zOk G X cX11_lay 7 RX11 3 := hX
  have hE := hEI _ _ rfl rfl
  rw [f_X11_lay] at h
  refine z_aload_n 0 hX dX11_lay_0 rfl <|
    zgX11_12 1 hX dX11_lay_1 (rfl : shp 0 = (11, 0)) <|
    z_iload_n 4 hX dX11_lay_4 rfl <|
    z_iload_n 5 hX dX11_lay_5 rfl <|
    zb1 h fun x2 r1 h => zcX11_129 6 [.int a1, .int a2] [] hX dX11_lay_6 (c_X8_hasPlace (zgd0 hX) r1) (rfl : shp 1 = (8, 0)) rfl rfl rfl (Nat.le_of_ble_eq_true rfl) (Nat.le_of_ble_eq_true rfl) <|
    z_if_eq 9 30 hX dX11_lay_9 rfl h (fun q3 h => ?_) (fun q3 h => ?_)
  · refine z_weak (L' := [some (.ref (zα G 0)), none, none, none, none, none, none]) (zsub_s (zsub_n (zsub_n (zsub_n (zsub_n (zsub_n (zsub_n zsub_0))))))) <|
      j_X11_lay_30z hX hE h
  · refine z_iload_n 12 hX dX11_lay_12 rfl <|
      zb1 h fun x5 r4 h => zcX11_138 13 [.int a3] [] hX dX11_lay_13 (c_X11_isLetter (zgd0 hX) r4) rfl rfl rfl (Nat.le_of_ble_eq_true rfl) (Nat.le_of_ble_eq_true rfl) <|
      z_if_eq 16 30 hX dX11_lay_16 rfl h (fun q6 h => ?_) (fun q6 h => ?_)
    · refine z_weak (L' := [some (.ref (zα G 0)), none, none, none, none, none, none]) (zsub_s (zsub_n (zsub_n (zsub_n (zsub_n (zsub_n (zsub_n zsub_0))))))) <|
        j_X11_lay_30z hX hE h
    · refine z_iload 19 hX dX11_lay_19 rfl <|
        z_if_lt 21 30 hX dX11_lay_21 rfl h (fun q7 h => ?_) (fun q7 h => ?_)
      · refine z_weak (L' := [some (.ref (zα G 0)), none, none, none, none, none, none]) (zsub_s (zsub_n (zsub_n (zsub_n (zsub_n (zsub_n (zsub_n zsub_0))))))) <|
          j_X11_lay_30z hX hE h
      · refine z_iload 24 hX dX11_lay_24 rfl <|
          z_iconst 26 hX dX11_lay_26 zki1 <|
          z_icmp_le 27 36 hX dX11_lay_27 rfl h (fun q8 h => ?_) (fun q8 h => ?_)
        · refine z_aload_n 36 hX dX11_lay_36 rfl <|
            zgX11_12 37 hX dX11_lay_37 (rfl : shp 0 = (11, 0)) <|
            zgX11_80 40 hX dX11_lay_40 (rfl : shp 1 = (8, 0)) <|
            z_iload_n 43 hX dX11_lay_43 rfl <|
            z_aald 44 hX dX11_lay_44 (rfl : shp 2 = (21, 6)) (by decide) h fun q9 h =>
            z_astore 45 [some (.ref (zα G 0)), some (.int a1), some (.int a2), some (.int a3), some (.int a4), some (.ref (zα G (40 + 2 * a1.toNatClampNeg))), none] hX dX11_lay_45 (Nat.le_of_ble_eq_true rfl) rfl rfl <|
            z_aload 47 hX dX11_lay_47 rfl <|
            zgX11_132 49 hX dX11_lay_49 (ze21 _ (rfl : shp 2 = (21, 6)) _ q9) <|
            z_iload_n 52 hX dX11_lay_52 rfl <|
            z_iald 53 hX dX11_lay_53 (zr9_stones _ (ze21 _ (rfl : shp 2 = (21, 6)) _ q9)) h fun x10 _ h =>
            z_if_eq 54 63 hX dX11_lay_54 rfl h (fun q11 h => ?_) (fun q11 h => ?_)
          · refine z_iload 63 hX dX11_lay_63 rfl <|
              z_iconst 65 hX dX11_lay_65 zki1 <|
              z_icmp_ne 66 80 hX dX11_lay_66 rfl h (fun q12 h => ?_) (fun q12 h => ?_)
            · refine z_iconst 80 hX dX11_lay_80 zki1 <|
                z_weak (L' := [some (.ref (zα G 0)), none, some (.int a2), some (.int a3), some (.int a4), some (.ref (zα G (40 + 2 * a1.toNatClampNeg))), none]) (zsub_s (zsub_n (zsub_s (zsub_s (zsub_s (zsub_s (zsub_n zsub_0))))))) <|
                j_X11_lay_81z hX hE (ze21 _ (rfl : shp 2 = (21, 6)) _ q9) h
            · refine z_aload_n 69 hX dX11_lay_69 rfl <|
                zgX11_12 70 hX dX11_lay_70 (rfl : shp 0 = (11, 0)) <|
                z_iload_n 73 hX dX11_lay_73 rfl <|
                zb12 h fun x14 w1 r13 h => zcX11_240 74 [.int a3] [] hX dX11_lay_74 (c_X8_priceOf (zgd0 hX) r13) (rfl : shp 1 = (8, 0)) rfl rfl rfl (Nat.le_of_ble_eq_true rfl) (Nat.le_of_ble_eq_true rfl) <|
                z_goto 77 81 hX dX11_lay_77 rfl <|
                z_weak (L' := [some (.ref (zα G 0)), none, some (.int a2), some (.int a3), some (.int a4), some (.ref (zα G (40 + 2 * a1.toNatClampNeg))), none]) (zsub_s (zsub_n (zsub_s (zsub_s (zsub_s (zsub_s (zsub_n zsub_0))))))) <|
                j_X11_lay_81z hX hE (ze21 _ (rfl : shp 2 = (21, 6)) _ q9) h
          · refine z_aload_n 57 hX dX11_lay_57 rfl <|
              z_iconst 58 hX dX11_lay_58 zki3 <|
              zb12 h fun x16 w2 r15 h => zcX11_72 59 [.int (nI 3)] [] hX dX11_lay_59 (c_X11_error (zgd0 hX) r15) (rfl : shp 0 = (11, 0)) rfl rfl rfl (Nat.le_of_ble_eq_true rfl) (Nat.le_of_ble_eq_true rfl) <|
              z_endI2 62 hE rfl h dX11_lay_62
        · refine z_weak (L' := [some (.ref (zα G 0)), none, none, none, none, none, none]) (zsub_s (zsub_n (zsub_n (zsub_n (zsub_n (zsub_n (zsub_n zsub_0))))))) <|
            j_X11_lay_30z hX hE h
def l_X11_falls_35 (K60 : Int32 → zW → Option (Int32 × zW)) : Nat → Nat → Int32 → Int32 → zW → Option (Int32 × zW)
  | 0, _, _, _, _ => none
  | n + 1, a2, a3, a4, w =>
    if a4 < (w a2 3) then
      zb (f_X8_dropBrick a2 a4 w) fun w1 =>
      zlet (a4 + nI 1) fun x3 =>
      (l_X11_falls_35 K60 n) a2 a3 x3 w1
    else
      K60 a3 w
theorem l_X11_falls_35z {K60 : Int32 → zW → Option (Int32 × zW)} {G : zG} {X : zX} {re : Int32} {we : zW} (hX : zOk G X cX11_falls 5 RX11 2) (hE : zEI G X cX11_falls .int re we) (hK60 : ∀ (a3 : Int32) (w3 : zW) , K60 a3 w3 = some (re, we) → zZ G X w3 60 [none, none, none, some (.int a3), none] []) : ∀ (n : Nat) (a2 : Nat) (a3 : Int32) (a4 : Int32) (w : zW) (ha2 : shp a2 = (9, 0)), l_X11_falls_35 K60 n a2 a3 a4 w = some (re, we) → zZ G X w 35 [some (.ref (zα G 0)), none, some (.ref (zα G a2)), some (.int a3), some (.int a4)] [] := by
  intro n
  induction n with
  | zero =>
    intro a2 a3 a4 w ha2 h
    rw [l_X11_falls_35.eq_1] at h
    cases h
  | succ n ih =>
    intro a2 a3 a4 w ha2 h
    rw [l_X11_falls_35.eq_2] at h
    refine z_iload 35 hX dX11_falls_35 rfl <|
      z_aload_n 37 hX dX11_falls_37 rfl <|
      zgX11_102 38 hX dX11_falls_38 ha2 <|
      z_icmp_ge 41 60 hX dX11_falls_41 rfl h (fun q1 h => ?_) (fun q1 h => ?_)
    · refine z_weak (L' := [none, none, none, some (.int a3), none]) (zsub_n (zsub_n (zsub_n (zsub_s (zsub_n zsub_0))))) <|
        hK60 _ _ h
    · refine z_aload_n 44 hX dX11_falls_44 rfl <|
        zgX11_12 45 hX dX11_falls_45 (rfl : shp 0 = (11, 0)) <|
        z_aload_n 48 hX dX11_falls_48 rfl <|
        z_iload 49 hX dX11_falls_49 rfl <|
        zb1 h fun w1 r2 h => zcX11_254 51 [.ref (zα G a2), .int a4] [] hX dX11_falls_51 (c_X8_dropBrick (zgd0 hX) ha2 r2) (rfl : shp 1 = (8, 0)) rfl rfl rfl (Nat.le_of_ble_eq_true rfl) (Nat.le_of_ble_eq_true rfl) <|
        z_iincG 54 (fun x3 => [some (.ref (zα G 0)), none, some (.ref (zα G a2)), some (.int a3), some (.int x3)]) hX dX11_falls_54 rfl zki1 rfl (fun _ => rfl) h fun x3 h =>
        z_goto 57 35 hX dX11_falls_57 rfl <|
        ih _ _ _ _ ha2 h
def f_X11_falls (a1 : Int32) (w : zW) : Option (Int32 × zW) :=
  zb (f_X8_hasWall a1 w) fun x2 =>
  if x2 = nI 0 then
    zb2 (f_X11_error (nI 1) w) fun x8 w1 =>
    some (x8, w1)
  else
    zguard (zin a1 6) (
    zb (f_X9_countLetters (40 + 2 * a1.toNatClampNeg) w) fun x6 =>
    l_X11_falls_35 (fun k60_a3 w11 =>
      some (k60_a3, w11)) zfuel (40 + 2 * a1.toNatClampNeg) x6 (nI 0) w)
theorem c_X11_falls {G : zG} {l : Launch} (hG : zgood G) {w : zW} {re : Int32} {we : zW} {a1 : Int32}  (h : f_X11_falls a1 w = some (re, we)) : zMet G l yX11_falls cX11_falls 5 (some .int) 2 [.ref (zα G 0), .int a1] w (some (.int re)) we := by
  refine zMet_of (L0 := [some (.ref (zα G 0)), some (.int a1), none, none, none]) hG zplX11 (Nat.le_of_ble_eq_true rfl) rfl rfl (fun X hl hX hEI hEV hEA => ?_)
  subst hl
  have hX : zOk G X cX11_falls 5 RX11 2 := hX
  have hE := hEI _ _ rfl rfl
  rw [f_X11_falls] at h
  refine z_aload_n 0 hX dX11_falls_0 rfl <|
    zgX11_12 1 hX dX11_falls_1 (rfl : shp 0 = (11, 0)) <|
    z_iload_n 4 hX dX11_falls_4 rfl <|
    zb1 h fun x2 r1 h => zcX11_88 5 [.int a1] [] hX dX11_falls_5 (c_X8_hasWall (zgd0 hX) r1) (rfl : shp 1 = (8, 0)) rfl rfl rfl (Nat.le_of_ble_eq_true rfl) (Nat.le_of_ble_eq_true rfl) <|
    z_if_ne 8 17 hX dX11_falls_8 rfl h (fun q3 h => ?_) (fun q3 h => ?_)
  · refine z_aload_n 17 hX dX11_falls_17 rfl <|
      zgX11_12 18 hX dX11_falls_18 (rfl : shp 0 = (11, 0)) <|
      zgX11_80 21 hX dX11_falls_21 (rfl : shp 1 = (8, 0)) <|
      z_iload_n 24 hX dX11_falls_24 rfl <|
      z_aald 25 hX dX11_falls_25 (rfl : shp 2 = (21, 6)) (by decide) h fun q4 h =>
      z_astore_n 26 [some (.ref (zα G 0)), some (.int a1), some (.ref (zα G (40 + 2 * a1.toNatClampNeg))), none, none] hX dX11_falls_26 (Nat.le_of_ble_eq_true rfl) rfl rfl <|
      z_aload_n 27 hX dX11_falls_27 rfl <|
      zb1 h fun x6 r5 h => zcX11_250 28 [] [] hX dX11_falls_28 (c_X9_countLetters (zgd0 hX) (ze21 _ (rfl : shp 2 = (21, 6)) _ q4) r5) (ze21 _ (rfl : shp 2 = (21, 6)) _ q4) rfl rfl rfl (Nat.le_of_ble_eq_true rfl) (Nat.le_of_ble_eq_true rfl) <|
      z_istore_n 31 [some (.ref (zα G 0)), some (.int a1), some (.ref (zα G (40 + 2 * a1.toNatClampNeg))), some (.int x6), none] hX dX11_falls_31 (Nat.le_of_ble_eq_true rfl) rfl rfl <|
      z_iconst 32 hX dX11_falls_32 zki0 <|
      z_istore 33 [some (.ref (zα G 0)), some (.int a1), some (.ref (zα G (40 + 2 * a1.toNatClampNeg))), some (.int x6), some (.int (nI 0))] hX dX11_falls_33 (Nat.le_of_ble_eq_true rfl) rfl rfl <|
      z_weak (L' := [some (.ref (zα G 0)), none, some (.ref (zα G (40 + 2 * a1.toNatClampNeg))), some (.int x6), some (.int (nI 0))]) (zsub_s (zsub_n (zsub_s (zsub_s (zsub_s zsub_0))))) <|
      l_X11_falls_35z hX hE (fun k60_a3 w11 h => ?_) _ _ _ _ _ (ze21 _ (rfl : shp 2 = (21, 6)) _ q4) h
    · refine z_iload_n 60 hX dX11_falls_60 rfl <|
        z_endI2 61 hE rfl h dX11_falls_61
  · refine z_aload_n 11 hX dX11_falls_11 rfl <|
      z_iconst 12 hX dX11_falls_12 zki1 <|
      zb12 h fun x8 w1 r7 h => zcX11_72 13 [.int (nI 1)] [] hX dX11_falls_13 (c_X11_error (zgd0 hX) r7) (rfl : shp 0 = (11, 0)) rfl rfl rfl (Nat.le_of_ble_eq_true rfl) (Nat.le_of_ble_eq_true rfl) <|
      z_endI2 16 hE rfl h dX11_falls_16
def j_X11_builds_20  (w : zW) : Option (Int32 × zW) :=
  zb2 (f_X11_error (nI 1) w) fun x2 w1 =>
  some (x2, w1)
theorem j_X11_builds_20z {G : zG} {X : zX} {w : zW} {re : Int32} {we : zW}  (hX : zOk G X cX11_builds 3 RX11 103) (hE : zEI G X cX11_builds .int re we)  (h : j_X11_builds_20 w = some (re, we)) : zZ G X w 20 [some (.ref (zα G 0)), none, none] [] := by
  rw [j_X11_builds_20] at h
  refine z_aload_n 20 hX dX11_builds_20 rfl <|
    z_iconst 21 hX dX11_builds_21 zki1 <|
    zb12 h fun x2 w1 r1 h => zcX11_72 22 [.int (nI 1)] [] hX dX11_builds_22 (c_X11_error (zgd0 hX) r1) (rfl : shp 0 = (11, 0)) rfl rfl rfl (Nat.le_of_ble_eq_true rfl) (Nat.le_of_ble_eq_true rfl) <|
    z_endI2 25 hE rfl h dX11_builds_25
def f_X11_builds (a1 : Int32) (a2 : Int32) (w : zW) : Option (Int32 × zW) :=
  if a1 < (nI 1) then
    j_X11_builds_20 w
  else
  if (nI 7) < a1 then
    j_X11_builds_20 w
  else
  if a2 < nI 0 then
    j_X11_builds_20 w
  else
  if (nI 1) < a2 then
    j_X11_builds_20 w
  else
    zb (f_X0_search 38 27 a1 w) fun w1 =>
    if a2 = nI 0 then
      some (w1 123 3, w1)
    else
      some (w1 123 4, w1)
theorem c_X11_builds {G : zG} {l : Launch} (hG : zgood G) {w : zW} {re : Int32} {we : zW} {a1 : Int32} {a2 : Int32}  (h : f_X11_builds a1 a2 w = some (re, we)) : zMet G l yX11_builds cX11_builds 3 (some .int) 103 [.ref (zα G 0), .int a1, .int a2] w (some (.int re)) we := by
  refine zMet_of (L0 := [some (.ref (zα G 0)), some (.int a1), some (.int a2)]) hG zplX11 (Nat.le_of_ble_eq_true rfl) rfl rfl (fun X hl hX hEI hEV hEA => ?_)
  subst hl
  have hX : zOk G X cX11_builds 3 RX11 103 := hX
  have hE := hEI _ _ rfl rfl
  rw [f_X11_builds] at h
  refine z_iload_n 0 hX dX11_builds_0 rfl <|
    z_iconst 1 hX dX11_builds_1 zki1 <|
    z_icmp_lt 2 20 hX dX11_builds_2 rfl h (fun q1 h => ?_) (fun q1 h => ?_)
  · refine z_weak (L' := [some (.ref (zα G 0)), none, none]) (zsub_s (zsub_n (zsub_n zsub_0))) <|
      j_X11_builds_20z hX hE h
  · refine z_iload_n 5 hX dX11_builds_5 rfl <|
      z_bipush 6 hX dX11_builds_6 zkb7 <|
      z_icmp_gt 8 20 hX dX11_builds_8 rfl h (fun q2 h => ?_) (fun q2 h => ?_)
    · refine z_weak (L' := [some (.ref (zα G 0)), none, none]) (zsub_s (zsub_n (zsub_n zsub_0))) <|
        j_X11_builds_20z hX hE h
    · refine z_iload_n 11 hX dX11_builds_11 rfl <|
        z_if_lt 12 20 hX dX11_builds_12 rfl h (fun q3 h => ?_) (fun q3 h => ?_)
      · refine z_weak (L' := [some (.ref (zα G 0)), none, none]) (zsub_s (zsub_n (zsub_n zsub_0))) <|
          j_X11_builds_20z hX hE h
      · refine z_iload_n 15 hX dX11_builds_15 rfl <|
          z_iconst 16 hX dX11_builds_16 zki1 <|
          z_icmp_le 17 26 hX dX11_builds_17 rfl h (fun q4 h => ?_) (fun q4 h => ?_)
        · refine z_aload_n 26 hX dX11_builds_26 rfl <|
            zgX11_57 27 hX dX11_builds_27 (rfl : shp 0 = (11, 0)) <|
            z_aload_n 30 hX dX11_builds_30 rfl <|
            zgX11_12 31 hX dX11_builds_31 (rfl : shp 0 = (11, 0)) <|
            zgX11_106 34 hX dX11_builds_34 (rfl : shp 1 = (8, 0)) <|
            z_aload_n 37 hX dX11_builds_37 rfl <|
            zgX11_12 38 hX dX11_builds_38 (rfl : shp 0 = (11, 0)) <|
            zgX11_237 41 hX dX11_builds_41 (rfl : shp 1 = (8, 0)) <|
            z_iload_n 44 hX dX11_builds_44 rfl <|
            zb1 h fun w1 r5 h => zcX11_258 45 [.ref (zα G 3), .ref (zα G 38), .int a1] [] hX dX11_builds_45 (c_X0_search (zgd0 hX) (rfl : shp 38 = (20, 27)) r5) (rfl : shp 123 = (0, 0)) rfl rfl rfl (Nat.le_of_ble_eq_true rfl) (Nat.le_of_ble_eq_true rfl) <|
            z_iload_n 48 hX dX11_builds_48 rfl <|
            z_if_ne 49 62 hX dX11_builds_49 rfl h (fun q6 h => ?_) (fun q6 h => ?_)
          · refine z_aload_n 62 hX dX11_builds_62 rfl <|
              zgX11_57 63 hX dX11_builds_63 (rfl : shp 0 = (11, 0)) <|
              zgX11_265 66 hX dX11_builds_66 (rfl : shp 123 = (0, 0)) <|
              z_endI2 69 hE rfl h dX11_builds_69
          · refine z_aload_n 52 hX dX11_builds_52 rfl <|
              zgX11_57 53 hX dX11_builds_53 (rfl : shp 0 = (11, 0)) <|
              zgX11_262 56 hX dX11_builds_56 (rfl : shp 123 = (0, 0)) <|
              z_goto 59 69 hX dX11_builds_59 rfl <|
              z_endI2 69 hE rfl h dX11_builds_69
        · refine z_weak (L' := [some (.ref (zα G 0)), none, none]) (zsub_s (zsub_n (zsub_n zsub_0))) <|
            j_X11_builds_20z hX hE h
def l_X11_passYear_42 (K134 : Int32 → zW → Option (Int32 × zW)) : Nat → Int32 → Int32 → zW → Option (Int32 × zW)
  | 0, _, _, _ => none
  | n + 1, a1, a2, w =>
    if a2 < (w 1 7) then
      zguard (zin a2 6) (
      if (w (40 + 2 * a2.toNatClampNeg) 3) = nI 0 then
        zlet (a2 + nI 1) fun x4 =>
        (l_X11_passYear_42 K134 n) a1 x4 w
      else
        zb (f_X9_countLetters (40 + 2 * a2.toNatClampNeg) w) fun x6 =>
        if x6 = nI 0 then
          zlet (a2 + nI 1) fun x21 =>
          (l_X11_passYear_42 K134 n) a1 x21 w
        else
          zb2 (f_X8_draw w) fun x9 w1 =>
          zguard (decide (¬ (w1 (40 + 2 * a2.toNatClampNeg) 3) = 0)) (
          zlet (x9 - x9 / (w1 (40 + 2 * a2.toNatClampNeg) 3) * (w1 (40 + 2 * a2.toNatClampNeg) 3)) fun x10 =>
          zld w1 ((40 + 2 * a2.toNatClampNeg) + 1) 24 x10 fun x11 =>
          if x11 = nI 0 then
            zlet (a2 + nI 1) fun x13 =>
            (l_X11_passYear_42 K134 n) a1 x13 w1
          else
            zb2 (f_X11_readsWith a2 x10 (nI 0) w1) fun x15 w2 =>
            if x15 = nI 0 then
              zlet (a2 + nI 1) fun x17 =>
              (l_X11_passYear_42 K134 n) a1 x17 w2
            else
              zb (f_X8_dropBrick (40 + 2 * a2.toNatClampNeg) x10 w2) fun w3 =>
              zlet (a1 + nI 1) fun x19 =>
              zlet (a2 + nI 1) fun x20 =>
              (l_X11_passYear_42 K134 n) x19 x20 w3))
    else
      K134 a1 w
theorem l_X11_passYear_42z {K134 : Int32 → zW → Option (Int32 × zW)} {G : zG} {X : zX} {re : Int32} {we : zW} (hX : zOk G X cX11_passYear 5 RX11 5) (hE : zEI G X cX11_passYear .int re we) (hK134 : ∀ (a1 : Int32) (w3 : zW) , K134 a1 w3 = some (re, we) → zZ G X w3 134 [none, some (.int a1), none, none, none] []) : ∀ (n : Nat) (a1 : Int32) (a2 : Int32) (w : zW) , l_X11_passYear_42 K134 n a1 a2 w = some (re, we) → zZ G X w 42 [some (.ref (zα G 0)), some (.int a1), some (.int a2), none, none] [] := by
  intro n
  induction n with
  | zero =>
    intro a1 a2 w  h
    rw [l_X11_passYear_42.eq_1] at h
    cases h
  | succ n ih =>
    intro a1 a2 w  h
    rw [l_X11_passYear_42.eq_2] at h
    refine z_iload_n 42 hX dX11_passYear_42 rfl <|
      z_aload_n 43 hX dX11_passYear_43 rfl <|
      zgX11_12 44 hX dX11_passYear_44 (rfl : shp 0 = (11, 0)) <|
      zgX11_76 47 hX dX11_passYear_47 (rfl : shp 1 = (8, 0)) <|
      z_icmp_ge 50 134 hX dX11_passYear_50 rfl h (fun q1 h => ?_) (fun q1 h => ?_)
    · refine z_weak (L' := [none, some (.int a1), none, none, none]) (zsub_n (zsub_s (zsub_n (zsub_n (zsub_n zsub_0))))) <|
        hK134 _ _ h
    · refine z_aload_n 53 hX dX11_passYear_53 rfl <|
        zgX11_12 54 hX dX11_passYear_54 (rfl : shp 0 = (11, 0)) <|
        zgX11_80 57 hX dX11_passYear_57 (rfl : shp 1 = (8, 0)) <|
        z_iload_n 60 hX dX11_passYear_60 rfl <|
        z_aald 61 hX dX11_passYear_61 (rfl : shp 2 = (21, 6)) (by decide) h fun q2 h =>
        z_astore_n 62 [some (.ref (zα G 0)), some (.int a1), some (.int a2), some (.ref (zα G (40 + 2 * a2.toNatClampNeg))), none] hX dX11_passYear_62 (Nat.le_of_ble_eq_true rfl) rfl rfl <|
        z_aload_n 63 hX dX11_passYear_63 rfl <|
        zgX11_102 64 hX dX11_passYear_64 (ze21 _ (rfl : shp 2 = (21, 6)) _ q2) <|
        z_if_eq 67 128 hX dX11_passYear_67 rfl h (fun q3 h => ?_) (fun q3 h => ?_)
      · refine z_iincG 128 (fun x4 => [some (.ref (zα G 0)), some (.int a1), some (.int x4), some (.ref (zα G (40 + 2 * a2.toNatClampNeg))), none]) hX dX11_passYear_128 rfl zki1 rfl (fun _ => rfl) h fun x4 h =>
          z_goto 131 42 hX dX11_passYear_131 rfl <|
          z_weak (L' := [some (.ref (zα G 0)), some (.int a1), some (.int x4), none, none]) (zsub_s (zsub_s (zsub_s (zsub_n (zsub_n zsub_0))))) <|
          ih _ _ _ h
      · refine z_aload_n 70 hX dX11_passYear_70 rfl <|
          zb1 h fun x6 r5 h => zcX11_250 71 [] [] hX dX11_passYear_71 (c_X9_countLetters (zgd0 hX) (ze21 _ (rfl : shp 2 = (21, 6)) _ q2) r5) (ze21 _ (rfl : shp 2 = (21, 6)) _ q2) rfl rfl rfl (Nat.le_of_ble_eq_true rfl) (Nat.le_of_ble_eq_true rfl) <|
          z_if_ne 74 80 hX dX11_passYear_74 rfl h (fun q7 h => ?_) (fun q7 h => ?_)
        · refine z_aload_n 80 hX dX11_passYear_80 rfl <|
            zgX11_12 81 hX dX11_passYear_81 (rfl : shp 0 = (11, 0)) <|
            zb12 h fun x9 w1 r8 h => zcX11_336 84 [] [] hX dX11_passYear_84 (c_X8_draw (zgd0 hX) r8) (rfl : shp 1 = (8, 0)) rfl rfl rfl (Nat.le_of_ble_eq_true rfl) (Nat.le_of_ble_eq_true rfl) <|
            z_aload_n 87 hX dX11_passYear_87 rfl <|
            zgX11_102 88 hX dX11_passYear_88 (ze21 _ (rfl : shp 2 = (21, 6)) _ q2) <|
            z_irem 91 hX dX11_passYear_91 h fun h =>
            z_top h fun x10 h =>
            z_istore 92 [some (.ref (zα G 0)), some (.int a1), some (.int a2), some (.ref (zα G (40 + 2 * a2.toNatClampNeg))), some (.int x10)] hX dX11_passYear_92 (Nat.le_of_ble_eq_true rfl) rfl rfl <|
            z_aload_n 94 hX dX11_passYear_94 rfl <|
            zgX11_132 95 hX dX11_passYear_95 (ze21 _ (rfl : shp 2 = (21, 6)) _ q2) <|
            z_iload 98 hX dX11_passYear_98 rfl <|
            z_iald 100 hX dX11_passYear_100 (zr9_stones _ (ze21 _ (rfl : shp 2 = (21, 6)) _ q2)) h fun x11 _ h =>
            z_if_eq 101 128 hX dX11_passYear_101 rfl h (fun q12 h => ?_) (fun q12 h => ?_)
          · refine z_iincG 128 (fun x13 => [some (.ref (zα G 0)), some (.int a1), some (.int x13), some (.ref (zα G (40 + 2 * a2.toNatClampNeg))), some (.int x10)]) hX dX11_passYear_128 rfl zki1 rfl (fun _ => rfl) h fun x13 h =>
              z_goto 131 42 hX dX11_passYear_131 rfl <|
              z_weak (L' := [some (.ref (zα G 0)), some (.int a1), some (.int x13), none, none]) (zsub_s (zsub_s (zsub_s (zsub_n (zsub_n zsub_0))))) <|
              ih _ _ _ h
          · refine z_aload_n 104 hX dX11_passYear_104 rfl <|
              z_iload_n 105 hX dX11_passYear_105 rfl <|
              z_iload 106 hX dX11_passYear_106 rfl <|
              z_iconst 108 hX dX11_passYear_108 zki0 <|
              zb12 h fun x15 w2 r14 h => zcX11_206 109 [.int a2, .int x10, .int (nI 0)] [] hX dX11_passYear_109 (c_X11_readsWith (zgd0 hX) r14) (rfl : shp 0 = (11, 0)) rfl rfl rfl (Nat.le_of_ble_eq_true rfl) (Nat.le_of_ble_eq_true rfl) <|
              z_if_eq 112 128 hX dX11_passYear_112 rfl h (fun q16 h => ?_) (fun q16 h => ?_)
            · refine z_iincG 128 (fun x17 => [some (.ref (zα G 0)), some (.int a1), some (.int x17), some (.ref (zα G (40 + 2 * a2.toNatClampNeg))), some (.int x10)]) hX dX11_passYear_128 rfl zki1 rfl (fun _ => rfl) h fun x17 h =>
                z_goto 131 42 hX dX11_passYear_131 rfl <|
                z_weak (L' := [some (.ref (zα G 0)), some (.int a1), some (.int x17), none, none]) (zsub_s (zsub_s (zsub_s (zsub_n (zsub_n zsub_0))))) <|
                ih _ _ _ h
            · refine z_aload_n 115 hX dX11_passYear_115 rfl <|
                zgX11_12 116 hX dX11_passYear_116 (rfl : shp 0 = (11, 0)) <|
                z_aload_n 119 hX dX11_passYear_119 rfl <|
                z_iload 120 hX dX11_passYear_120 rfl <|
                zb1 h fun w3 r18 h => zcX11_254 122 [.ref (zα G (40 + 2 * a2.toNatClampNeg)), .int x10] [] hX dX11_passYear_122 (c_X8_dropBrick (zgd0 hX) (ze21 _ (rfl : shp 2 = (21, 6)) _ q2) r18) (rfl : shp 1 = (8, 0)) rfl rfl rfl (Nat.le_of_ble_eq_true rfl) (Nat.le_of_ble_eq_true rfl) <|
                z_iincG 125 (fun x19 => [some (.ref (zα G 0)), some (.int x19), some (.int a2), some (.ref (zα G (40 + 2 * a2.toNatClampNeg))), some (.int x10)]) hX dX11_passYear_125 rfl zki1 rfl (fun _ => rfl) h fun x19 h =>
                z_iincG 128 (fun x20 => [some (.ref (zα G 0)), some (.int x19), some (.int x20), some (.ref (zα G (40 + 2 * a2.toNatClampNeg))), some (.int x10)]) hX dX11_passYear_128 rfl zki1 rfl (fun _ => rfl) h fun x20 h =>
                z_goto 131 42 hX dX11_passYear_131 rfl <|
                z_weak (L' := [some (.ref (zα G 0)), some (.int x19), some (.int x20), none, none]) (zsub_s (zsub_s (zsub_s (zsub_n (zsub_n zsub_0))))) <|
                ih _ _ _ h
        · refine z_goto 77 128 hX dX11_passYear_77 rfl <|
            z_iincG 128 (fun x21 => [some (.ref (zα G 0)), some (.int a1), some (.int x21), some (.ref (zα G (40 + 2 * a2.toNatClampNeg))), none]) hX dX11_passYear_128 rfl zki1 rfl (fun _ => rfl) h fun x21 h =>
            z_goto 131 42 hX dX11_passYear_131 rfl <|
            z_weak (L' := [some (.ref (zα G 0)), some (.int a1), some (.int x21), none, none]) (zsub_s (zsub_s (zsub_s (zsub_n (zsub_n zsub_0))))) <|
            ih _ _ _ h
def f_X11_passYear  (w : zW) : Option (Int32 × zW) :=
  zb2 (f_X8_draw w) fun x2 w1 =>
  zlet (zupd w1 1 10 (x2 - x2 / (nI 4) * (nI 4))) fun w2 =>
  zlet (zupd w2 1 11 (if ((w2 1 11) + (nI 50)) < (nI 99999) then ((w2 1 11) + (nI 50)) else (nI 99999))) fun w3 =>
  l_X11_passYear_42 (fun k134_a1 w14 =>
    some (k134_a1, w14)) zfuel (nI 0) (nI 0) w3
theorem c_X11_passYear {G : zG} {l : Launch} (hG : zgood G) {w : zW} {re : Int32} {we : zW}   (h : f_X11_passYear w = some (re, we)) : zMet G l yX11_passYear cX11_passYear 5 (some .int) 5 [.ref (zα G 0)] w (some (.int re)) we := by
  refine zMet_of (L0 := [some (.ref (zα G 0)), none, none, none, none]) hG zplX11 (Nat.le_of_ble_eq_true rfl) rfl rfl (fun X hl hX hEI hEV hEA => ?_)
  subst hl
  have hX : zOk G X cX11_passYear 5 RX11 5 := hX
  have hE := hEI _ _ rfl rfl
  rw [f_X11_passYear] at h
  refine z_aload_n 0 hX dX11_passYear_0 rfl <|
    zgX11_12 1 hX dX11_passYear_1 (rfl : shp 0 = (11, 0)) <|
    z_aload_n 4 hX dX11_passYear_4 rfl <|
    zgX11_12 5 hX dX11_passYear_5 (rfl : shp 0 = (11, 0)) <|
    zb12 h fun x2 w1 r1 h => zcX11_336 8 [] [.ref (zα G 1)] hX dX11_passYear_8 (c_X8_draw (zgd0 hX) r1) (rfl : shp 1 = (8, 0)) rfl rfl rfl (Nat.le_of_ble_eq_true rfl) (Nat.le_of_ble_eq_true rfl) <|
    z_iconst 11 hX dX11_passYear_11 zki4 <|
    z_iremc 12 hX dX11_passYear_12 (by decide) <|
    zpX11_244 13 hX dX11_passYear_13 (rfl : shp 1 = (8, 0)) <|
    z_w h fun w2 h =>
    z_aload_n 16 hX dX11_passYear_16 rfl <|
    zgX11_12 17 hX dX11_passYear_17 (rfl : shp 0 = (11, 0)) <|
    z_ldc 20 hX dX11_passYear_20 zw851 zkl99999 <|
    z_aload_n 22 hX dX11_passYear_22 rfl <|
    zgX11_12 23 hX dX11_passYear_23 (rfl : shp 0 = (11, 0)) <|
    zgX11_247 26 hX dX11_passYear_26 (rfl : shp 1 = (8, 0)) <|
    z_bipush 29 hX dX11_passYear_29 zkb50 <|
    z_iadd 31 hX dX11_passYear_31 <|
    z_mmin 32 hX dX11_passYear_32 zw909 zw538 zw86 zw539 rfl (Nat.le_of_ble_eq_true rfl) (Nat.le_of_ble_eq_true rfl) <|
    zpX11_247 35 hX dX11_passYear_35 (rfl : shp 1 = (8, 0)) <|
    z_w h fun w3 h =>
    z_iconst 38 hX dX11_passYear_38 zki0 <|
    z_istore_n 39 [some (.ref (zα G 0)), some (.int (nI 0)), none, none, none] hX dX11_passYear_39 (Nat.le_of_ble_eq_true rfl) rfl rfl <|
    z_iconst 40 hX dX11_passYear_40 zki0 <|
    z_istore_n 41 [some (.ref (zα G 0)), some (.int (nI 0)), some (.int (nI 0)), none, none] hX dX11_passYear_41 (Nat.le_of_ble_eq_true rfl) rfl rfl <|
    l_X11_passYear_42z hX hE (fun k134_a1 w14 h => ?_) _ _ _ _ h
  · refine z_iload_n 134 hX dX11_passYear_134 rfl <|
      z_endI2 135 hE rfl h dX11_passYear_135
def j_X11_years_11  (w : zW) : Option (Int32 × zW) :=
  zb2 (f_X11_error (nI 1) w) fun x2 w1 =>
  some (x2, w1)
theorem j_X11_years_11z {G : zG} {X : zX} {w : zW} {re : Int32} {we : zW}  (hX : zOk G X cX11_years 4 RX11 6) (hE : zEI G X cX11_years .int re we)  (h : j_X11_years_11 w = some (re, we)) : zZ G X w 11 [some (.ref (zα G 0)), none, none, none] [] := by
  rw [j_X11_years_11] at h
  refine z_aload_n 11 hX dX11_years_11 rfl <|
    z_iconst 12 hX dX11_years_12 zki1 <|
    zb12 h fun x2 w1 r1 h => zcX11_72 13 [.int (nI 1)] [] hX dX11_years_13 (c_X11_error (zgd0 hX) r1) (rfl : shp 0 = (11, 0)) rfl rfl rfl (Nat.le_of_ble_eq_true rfl) (Nat.le_of_ble_eq_true rfl) <|
    z_endI2 16 hE rfl h dX11_years_16
def l_X11_years_21 (K39 : Int32 → zW → Option (Int32 × zW)) : Nat → Int32 → Int32 → Int32 → zW → Option (Int32 × zW)
  | 0, _, _, _, _ => none
  | n + 1, a1, a2, a3, w =>
    if a3 < a1 then
      zb2 (f_X11_passYear w) fun x3 w1 =>
      zlet (a2 + x3) fun x4 =>
      zlet (a3 + nI 1) fun x5 =>
      (l_X11_years_21 K39 n) a1 x4 x5 w1
    else
      K39 a2 w
theorem l_X11_years_21z {K39 : Int32 → zW → Option (Int32 × zW)} {G : zG} {X : zX} {re : Int32} {we : zW} (hX : zOk G X cX11_years 4 RX11 6) (hE : zEI G X cX11_years .int re we) (hK39 : ∀ (a2 : Int32) (w3 : zW) , K39 a2 w3 = some (re, we) → zZ G X w3 39 [none, none, some (.int a2), none] []) : ∀ (n : Nat) (a1 : Int32) (a2 : Int32) (a3 : Int32) (w : zW) , l_X11_years_21 K39 n a1 a2 a3 w = some (re, we) → zZ G X w 21 [some (.ref (zα G 0)), some (.int a1), some (.int a2), some (.int a3)] [] := by
  intro n
  induction n with
  | zero =>
    intro a1 a2 a3 w  h
    rw [l_X11_years_21.eq_1] at h
    cases h
  | succ n ih =>
    intro a1 a2 a3 w  h
    rw [l_X11_years_21.eq_2] at h
    refine z_iload_n 21 hX dX11_years_21 rfl <|
      z_iload_n 22 hX dX11_years_22 rfl <|
      z_icmp_ge 23 39 hX dX11_years_23 rfl h (fun q1 h => ?_) (fun q1 h => ?_)
    · refine z_weak (L' := [none, none, some (.int a2), none]) (zsub_n (zsub_n (zsub_s (zsub_n zsub_0)))) <|
        hK39 _ _ h
    · refine z_iload_n 26 hX dX11_years_26 rfl <|
        z_aload_n 27 hX dX11_years_27 rfl <|
        zb12 h fun x3 w1 r2 h => zcX11_268 28 [] [.int a2] hX dX11_years_28 (c_X11_passYear (zgd0 hX) r2) (rfl : shp 0 = (11, 0)) rfl rfl rfl (Nat.le_of_ble_eq_true rfl) (Nat.le_of_ble_eq_true rfl) <|
        z_iadd 31 hX dX11_years_31 <|
        z_top h fun x4 h =>
        z_istore_n 32 [some (.ref (zα G 0)), some (.int a1), some (.int x4), some (.int a3)] hX dX11_years_32 (Nat.le_of_ble_eq_true rfl) rfl rfl <|
        z_iincG 33 (fun x5 => [some (.ref (zα G 0)), some (.int a1), some (.int x4), some (.int x5)]) hX dX11_years_33 rfl zki1 rfl (fun _ => rfl) h fun x5 h =>
        z_goto 36 21 hX dX11_years_36 rfl <|
        ih _ _ _ _ h
def f_X11_years (a1 : Int32) (w : zW) : Option (Int32 × zW) :=
  if a1 < (nI 1) then
    j_X11_years_11 w
  else
  if (nI 20) < a1 then
    j_X11_years_11 w
  else
    l_X11_years_21 (fun k39_a2 w11 =>
      some (k39_a2, w11)) zfuel a1 (nI 0) (nI 0) w
theorem c_X11_years {G : zG} {l : Launch} (hG : zgood G) {w : zW} {re : Int32} {we : zW} {a1 : Int32}  (h : f_X11_years a1 w = some (re, we)) : zMet G l yX11_years cX11_years 4 (some .int) 6 [.ref (zα G 0), .int a1] w (some (.int re)) we := by
  refine zMet_of (L0 := [some (.ref (zα G 0)), some (.int a1), none, none]) hG zplX11 (Nat.le_of_ble_eq_true rfl) rfl rfl (fun X hl hX hEI hEV hEA => ?_)
  subst hl
  have hX : zOk G X cX11_years 4 RX11 6 := hX
  have hE := hEI _ _ rfl rfl
  rw [f_X11_years] at h
  refine z_iload_n 0 hX dX11_years_0 rfl <|
    z_iconst 1 hX dX11_years_1 zki1 <|
    z_icmp_lt 2 11 hX dX11_years_2 rfl h (fun q1 h => ?_) (fun q1 h => ?_)
  · refine z_weak (L' := [some (.ref (zα G 0)), none, none, none]) (zsub_s (zsub_n (zsub_n (zsub_n zsub_0)))) <|
      j_X11_years_11z hX hE h
  · refine z_iload_n 5 hX dX11_years_5 rfl <|
      z_bipush 6 hX dX11_years_6 zkb20 <|
      z_icmp_le 8 17 hX dX11_years_8 rfl h (fun q2 h => ?_) (fun q2 h => ?_)
    · refine z_iconst 17 hX dX11_years_17 zki0 <|
        z_istore_n 18 [some (.ref (zα G 0)), some (.int a1), some (.int (nI 0)), none] hX dX11_years_18 (Nat.le_of_ble_eq_true rfl) rfl rfl <|
        z_iconst 19 hX dX11_years_19 zki0 <|
        z_istore_n 20 [some (.ref (zα G 0)), some (.int a1), some (.int (nI 0)), some (.int (nI 0))] hX dX11_years_20 (Nat.le_of_ble_eq_true rfl) rfl rfl <|
        l_X11_years_21z hX hE (fun k39_a2 w11 h => ?_) _ _ _ _ _ h
      · refine z_iload_n 39 hX dX11_years_39 rfl <|
          z_endI2 40 hE rfl h dX11_years_40
    · refine z_weak (L' := [some (.ref (zα G 0)), none, none, none]) (zsub_s (zsub_n (zsub_n (zsub_n zsub_0)))) <|
        j_X11_years_11z hX hE h
def f_X11_seed (a1 : Int32) (w : zW) : Option (Int32 × zW) :=
  zlet (w 1 12) fun x1 =>
  zlet (zupd w 1 12 a1) fun w1 =>
  some (x1, w1)
theorem c_X11_seed {G : zG} {l : Launch} (hG : zgood G) {w : zW} {re : Int32} {we : zW} {a1 : Int32}  (h : f_X11_seed a1 w = some (re, we)) : zMet G l yX11_seed cX11_seed 3 (some .int) 0 [.ref (zα G 0), .int a1] w (some (.int re)) we := by
  refine zMet_of (L0 := [some (.ref (zα G 0)), some (.int a1), none]) hG zplX11 (Nat.le_of_ble_eq_true rfl) rfl rfl (fun X hl hX hEI hEV hEA => ?_)
  subst hl
  have hX : zOk G X cX11_seed 3 RX11 0 := hX
  have hE := hEI _ _ rfl rfl
  rw [f_X11_seed] at h
  refine z_aload_n 0 hX dX11_seed_0 rfl <|
    zgX11_12 1 hX dX11_seed_1 (rfl : shp 0 = (11, 0)) <|
    zgX11_271 4 hX dX11_seed_4 (rfl : shp 1 = (8, 0)) <|
    z_top h fun x1 h =>
    z_istore_n 7 [some (.ref (zα G 0)), some (.int a1), some (.int x1)] hX dX11_seed_7 (Nat.le_of_ble_eq_true rfl) rfl rfl <|
    z_aload_n 8 hX dX11_seed_8 rfl <|
    zgX11_12 9 hX dX11_seed_9 (rfl : shp 0 = (11, 0)) <|
    z_iload_n 12 hX dX11_seed_12 rfl <|
    zpX11_271 13 hX dX11_seed_13 (rfl : shp 1 = (8, 0)) <|
    z_w h fun w1 h =>
    z_iload_n 16 hX dX11_seed_16 rfl <|
    z_endI2 17 hE rfl h dX11_seed_17
def j_X11_voice_20  (w : zW) : Option (Int32 × zW) :=
  zb2 (f_X11_error (nI 1) w) fun x2 w1 =>
  some (x2, w1)
theorem j_X11_voice_20z {G : zG} {X : zX} {w : zW} {re : Int32} {we : zW}  (hX : zOk G X cX11_voice 5 RX11 103) (hE : zEI G X cX11_voice .int re we)  (h : j_X11_voice_20 w = some (re, we)) : zZ G X w 20 [some (.ref (zα G 0)), none, none, none, none] [] := by
  rw [j_X11_voice_20] at h
  refine z_aload_n 20 hX dX11_voice_20 rfl <|
    z_iconst 21 hX dX11_voice_21 zki1 <|
    zb12 h fun x2 w1 r1 h => zcX11_72 22 [.int (nI 1)] [] hX dX11_voice_22 (c_X11_error (zgd0 hX) r1) (rfl : shp 0 = (11, 0)) rfl rfl rfl (Nat.le_of_ble_eq_true rfl) (Nat.le_of_ble_eq_true rfl) <|
    z_endI2 25 hE rfl h dX11_voice_25
def f_X11_voice (a1 : Int32) (a2 : Int32) (a3 : Int32) (w : zW) : Option (Int32 × zW) :=
  zb (f_X8_hasWall a1 w) fun x2 =>
  if x2 = nI 0 then
    j_X11_voice_20 w
  else
  if a2 < nI 0 then
    j_X11_voice_20 w
  else
  if a2 < (nI 4) then
    zguard (zin a1 6) (
    zb2 (f_X5_answer (40 + 2 * a1.toNatClampNeg) a1 a2 a3 w) fun x8 w1 =>
    if (w1 125 2) = nI 0 then
      some (x8, w1)
    else
      zb2 (f_X11_error (nI 6) w1) fun x11 w2 =>
      some (x11, w2))
  else
    j_X11_voice_20 w
theorem c_X11_voice {G : zG} {l : Launch} (hG : zgood G) {w : zW} {re : Int32} {we : zW} {a1 : Int32} {a2 : Int32} {a3 : Int32}  (h : f_X11_voice a1 a2 a3 w = some (re, we)) : zMet G l yX11_voice cX11_voice 5 (some .int) 103 [.ref (zα G 0), .int a1, .int a2, .int a3] w (some (.int re)) we := by
  refine zMet_of (L0 := [some (.ref (zα G 0)), some (.int a1), some (.int a2), some (.int a3), none]) hG zplX11 (Nat.le_of_ble_eq_true rfl) rfl rfl (fun X hl hX hEI hEV hEA => ?_)
  subst hl
  have hX : zOk G X cX11_voice 5 RX11 103 := hX
  have hE := hEI _ _ rfl rfl
  rw [f_X11_voice] at h
  refine z_aload_n 0 hX dX11_voice_0 rfl <|
    zgX11_12 1 hX dX11_voice_1 (rfl : shp 0 = (11, 0)) <|
    z_iload_n 4 hX dX11_voice_4 rfl <|
    zb1 h fun x2 r1 h => zcX11_88 5 [.int a1] [] hX dX11_voice_5 (c_X8_hasWall (zgd0 hX) r1) (rfl : shp 1 = (8, 0)) rfl rfl rfl (Nat.le_of_ble_eq_true rfl) (Nat.le_of_ble_eq_true rfl) <|
    z_if_eq 8 20 hX dX11_voice_8 rfl h (fun q3 h => ?_) (fun q3 h => ?_)
  · refine z_weak (L' := [some (.ref (zα G 0)), none, none, none, none]) (zsub_s (zsub_n (zsub_n (zsub_n (zsub_n zsub_0))))) <|
      j_X11_voice_20z hX hE h
  · refine z_iload_n 11 hX dX11_voice_11 rfl <|
      z_if_lt 12 20 hX dX11_voice_12 rfl h (fun q4 h => ?_) (fun q4 h => ?_)
    · refine z_weak (L' := [some (.ref (zα G 0)), none, none, none, none]) (zsub_s (zsub_n (zsub_n (zsub_n (zsub_n zsub_0))))) <|
        j_X11_voice_20z hX hE h
    · refine z_iload_n 15 hX dX11_voice_15 rfl <|
        z_iconst 16 hX dX11_voice_16 zki4 <|
        z_icmp_lt 17 26 hX dX11_voice_17 rfl h (fun q5 h => ?_) (fun q5 h => ?_)
      · refine z_aload_n 26 hX dX11_voice_26 rfl <|
          zgX11_64 27 hX dX11_voice_27 (rfl : shp 0 = (11, 0)) <|
          z_aload_n 30 hX dX11_voice_30 rfl <|
          zgX11_12 31 hX dX11_voice_31 (rfl : shp 0 = (11, 0)) <|
          zgX11_80 34 hX dX11_voice_34 (rfl : shp 1 = (8, 0)) <|
          z_iload_n 37 hX dX11_voice_37 rfl <|
          z_aald 38 hX dX11_voice_38 (rfl : shp 2 = (21, 6)) (by decide) h fun q6 h =>
          z_iload_n 39 hX dX11_voice_39 rfl <|
          z_iload_n 40 hX dX11_voice_40 rfl <|
          z_iload_n 41 hX dX11_voice_41 rfl <|
          zb12 h fun x8 w1 r7 h => zcX11_274 42 [.ref (zα G (40 + 2 * a1.toNatClampNeg)), .int a1, .int a2, .int a3] [] hX dX11_voice_42 (c_X5_answer (zgd0 hX) (ze21 _ (rfl : shp 2 = (21, 6)) _ q6) r7) (rfl : shp 125 = (5, 0)) rfl rfl rfl (Nat.le_of_ble_eq_true rfl) (Nat.le_of_ble_eq_true rfl) <|
          z_istore 45 [some (.ref (zα G 0)), some (.int a1), some (.int a2), some (.int a3), some (.int x8)] hX dX11_voice_45 (Nat.le_of_ble_eq_true rfl) rfl rfl <|
          z_aload_n 47 hX dX11_voice_47 rfl <|
          zgX11_64 48 hX dX11_voice_48 (rfl : shp 0 = (11, 0)) <|
          zgX11_278 51 hX dX11_voice_51 (rfl : shp 125 = (5, 0)) <|
          z_if_eq 54 66 hX dX11_voice_54 rfl h (fun q9 h => ?_) (fun q9 h => ?_)
        · refine z_iload 66 hX dX11_voice_66 rfl <|
            z_endI2 68 hE rfl h dX11_voice_68
        · refine z_aload_n 57 hX dX11_voice_57 rfl <|
            z_bipush 58 hX dX11_voice_58 zkb6 <|
            zb12 h fun x11 w2 r10 h => zcX11_72 60 [.int (nI 6)] [] hX dX11_voice_60 (c_X11_error (zgd0 hX) r10) (rfl : shp 0 = (11, 0)) rfl rfl rfl (Nat.le_of_ble_eq_true rfl) (Nat.le_of_ble_eq_true rfl) <|
            z_goto 63 68 hX dX11_voice_63 rfl <|
            z_endI2 68 hE rfl h dX11_voice_68
      · refine z_weak (L' := [some (.ref (zα G 0)), none, none, none, none]) (zsub_s (zsub_n (zsub_n (zsub_n (zsub_n zsub_0))))) <|
          j_X11_voice_20z hX hE h
def j_X11_body_27  (w : zW) : Option (Int32 × zW) :=
  zb2 (f_X11_error (nI 2) w) fun x2 w1 =>
  some (x2, w1)
theorem j_X11_body_27z {G : zG} {X : zX} {w : zW} {re : Int32} {we : zW}  (hX : zOk G X cX11_body 2 RX11 1) (hE : zEI G X cX11_body .int re we)  (h : j_X11_body_27 w = some (re, we)) : zZ G X w 27 [some (.ref (zα G 0)), none] [] := by
  rw [j_X11_body_27] at h
  refine z_aload_n 27 hX dX11_body_27 rfl <|
    z_iconst 28 hX dX11_body_28 zki2 <|
    zb12 h fun x2 w1 r1 h => zcX11_72 29 [.int (nI 2)] [] hX dX11_body_29 (c_X11_error (zgd0 hX) r1) (rfl : shp 0 = (11, 0)) rfl rfl rfl (Nat.le_of_ble_eq_true rfl) (Nat.le_of_ble_eq_true rfl) <|
    z_endI2 32 hE rfl h dX11_body_32
def f_X11_body (a1 : Int32) (w : zW) : Option (Int32 × zW) :=
  if a1 < nI 0 then
    j_X11_body_27 w
  else
  if a1 < (w 125 1) then
    zld w 126 30 a1 fun x3 =>
    some (x3, w)
  else
    j_X11_body_27 w
theorem c_X11_body {G : zG} {l : Launch} (hG : zgood G) {w : zW} {re : Int32} {we : zW} {a1 : Int32}  (h : f_X11_body a1 w = some (re, we)) : zMet G l yX11_body cX11_body 2 (some .int) 1 [.ref (zα G 0), .int a1] w (some (.int re)) we := by
  refine zMet_of (L0 := [some (.ref (zα G 0)), some (.int a1)]) hG zplX11 (Nat.le_of_ble_eq_true rfl) rfl rfl (fun X hl hX hEI hEV hEA => ?_)
  subst hl
  have hX : zOk G X cX11_body 2 RX11 1 := hX
  have hE := hEI _ _ rfl rfl
  rw [f_X11_body] at h
  refine z_iload_n 0 hX dX11_body_0 rfl <|
    z_if_lt 1 27 hX dX11_body_1 rfl h (fun q1 h => ?_) (fun q1 h => ?_)
  · refine z_weak (L' := [some (.ref (zα G 0)), none]) (zsub_s (zsub_n zsub_0)) <|
      j_X11_body_27z hX hE h
  · refine z_iload_n 4 hX dX11_body_4 rfl <|
      z_aload_n 5 hX dX11_body_5 rfl <|
      zgX11_64 6 hX dX11_body_6 (rfl : shp 0 = (11, 0)) <|
      zgX11_282 9 hX dX11_body_9 (rfl : shp 125 = (5, 0)) <|
      z_icmp_ge 12 27 hX dX11_body_12 rfl h (fun q2 h => ?_) (fun q2 h => ?_)
    · refine z_weak (L' := [some (.ref (zα G 0)), none]) (zsub_s (zsub_n zsub_0)) <|
        j_X11_body_27z hX hE h
    · refine z_aload_n 15 hX dX11_body_15 rfl <|
        zgX11_64 16 hX dX11_body_16 (rfl : shp 0 = (11, 0)) <|
        zgX11_285 19 hX dX11_body_19 (rfl : shp 125 = (5, 0)) <|
        z_iload_n 22 hX dX11_body_22 rfl <|
        z_iald 23 hX dX11_body_23 (rfl : shp 126 = (20, 30)) h fun x3 _ h =>
        z_goto 24 32 hX dX11_body_24 rfl <|
        z_endI2 32 hE rfl h dX11_body_32
