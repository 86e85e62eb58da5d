def l_X0_giveBack_2 (K31 : zW → Option zW) : Nat → Nat → Int32 → zW → Option zW
  | 0, _, _, _ => none
  | n + 1, a1, a2, w =>
    if a2 < (w a1 2) then
      zld w (a1 + 1) 6 a2 fun x2 =>
      zld w 124 27 x2 fun x3 =>
      zsto w 124 27 x2 (x3 + (nI 1)) fun w1 =>
      zlet (a2 + nI 1) fun x4 =>
      (l_X0_giveBack_2 K31 n) a1 x4 w1
    else
      K31 w
theorem l_X0_giveBack_2z {K31 : zW → Option zW} {G : zG} {X : zX} {we : zW} (hX : zOk G X cX0_giveBack 3 RX0 0) (hE : zEV G X cX0_giveBack we) (hK31 : ∀ (w3 : zW) , K31 w3 = some we → zZ G X w3 31 [none, none, none] []) : ∀ (n : Nat) (a1 : Nat) (a2 : Int32) (w : zW) (ha1 : shp a1 = (10, 0)), l_X0_giveBack_2 K31 n a1 a2 w = some we → zZ G X w 2 [some (.ref (zα G 123)), some (.ref (zα G a1)), some (.int a2)] [] := by
  intro n
  induction n with
  | zero =>
    intro a1 a2 w ha1 h
    rw [l_X0_giveBack_2.eq_1] at h
    cases h
  | succ n ih =>
    intro a1 a2 w ha1 h
    rw [l_X0_giveBack_2.eq_2] at h
    refine z_iload_n 2 hX dX0_giveBack_2 rfl <|
      z_aload_n 3 hX dX0_giveBack_3 rfl <|
      zgX0_80 4 hX dX0_giveBack_4 ha1 <|
      z_icmp_ge 7 31 hX dX0_giveBack_7 rfl h (fun q1 h => ?_) (fun q1 h => ?_)
    · refine z_weak (L' := [none, none, none]) (zsub_n (zsub_n (zsub_n zsub_0))) <|
        hK31 _ h
    · refine z_aload_n 10 hX dX0_giveBack_10 rfl <|
        zgX0_9 11 hX dX0_giveBack_11 (rfl : shp 123 = (0, 0)) <|
        z_aload_n 14 hX dX0_giveBack_14 rfl <|
        zgX0_81 15 hX dX0_giveBack_15 ha1 <|
        z_iload_n 18 hX dX0_giveBack_18 rfl <|
        z_iald 19 hX dX0_giveBack_19 (zr10_letters _ ha1) h fun x2 _ h =>
        z_dup2 20 hX dX0_giveBack_20 rfl rfl <|
        z_iald 21 hX dX0_giveBack_21 (rfl : shp 124 = (20, 27)) h fun x3 _ h =>
        z_iconst 22 hX dX0_giveBack_22 zki1 <|
        z_iadd 23 hX dX0_giveBack_23 <|
        z_iast 24 hX dX0_giveBack_24 (rfl : shp 124 = (20, 27)) h fun w1 h =>
        z_iincG 25 (fun x4 => [some (.ref (zα G 123)), some (.ref (zα G a1)), some (.int x4)]) hX dX0_giveBack_25 rfl zki1 rfl (fun _ => rfl) h fun x4 h =>
        z_goto 28 2 hX dX0_giveBack_28 rfl <|
        ih _ _ _ ha1 h
def f_X0_giveBack (a1 : Nat) (w : zW) : Option zW :=
  l_X0_giveBack_2 (fun w11 =>
    some w11) zfuel a1 (nI 0) w
theorem c_X0_giveBack {G : zG} {l : Launch} (hG : zgood G) {w : zW} {we : zW} {a1 : Nat} (ha1 : shp a1 = (10, 0)) (h : f_X0_giveBack a1 w = some we) : zMet G l yX0_giveBack cX0_giveBack 3 none 0 [.ref (zα G 123), .ref (zα G a1)] w none we := by
  refine zMet_of (L0 := [some (.ref (zα G 123)), some (.ref (zα G a1)), none]) hG zplX0 (Nat.le_of_ble_eq_true rfl) rfl rfl (fun X hl hX hEI hEV hEA => ?_)
  subst hl
  have hX : zOk G X cX0_giveBack 3 RX0 0 := hX
  have hE := hEV rfl rfl
  rw [f_X0_giveBack] at h
  refine z_iconst 0 hX dX0_giveBack_0 zki0 <|
    z_istore_n 1 [some (.ref (zα G 123)), some (.ref (zα G a1)), some (.int (nI 0))] hX dX0_giveBack_1 (Nat.le_of_ble_eq_true rfl) rfl rfl <|
    l_X0_giveBack_2z hX hE (fun w11 h => ?_) _ _ _ _ ha1 h
  · refine z_endV 31 hE h dX0_giveBack_31
def f_X0_note (a1 : Int32) (a2 : Int32) (w : zW) : Option zW :=
  zlet (zupd w 123 3 ((w 123 3) + (nI 1))) fun w1 =>
  if a1 < (w1 123 5) then
    zlet (zupd w1 123 5 a1) fun w2 =>
    zlet (zupd w2 123 4 a2) fun w3 =>
    some w3
  else
    some w1
theorem c_X0_note {G : zG} {l : Launch} (hG : zgood G) {w : zW} {we : zW} {a1 : Int32} {a2 : Int32}  (h : f_X0_note a1 a2 w = some we) : zMet G l yX0_note cX0_note 3 none 0 [.ref (zα G 123), .int a1, .int a2] w none we := by
  refine zMet_of (L0 := [some (.ref (zα G 123)), some (.int a1), some (.int a2)]) hG zplX0 (Nat.le_of_ble_eq_true rfl) rfl rfl (fun X hl hX hEI hEV hEA => ?_)
  subst hl
  have hX : zOk G X cX0_note 3 RX0 0 := hX
  have hE := hEV rfl rfl
  rw [f_X0_note] at h
  refine z_aload_n 0 hX dX0_note_0 rfl <|
    z_dup 1 hX dX0_note_1 rfl <|
    zgX0_35 2 hX dX0_note_2 (rfl : shp 123 = (0, 0)) <|
    z_iconst 5 hX dX0_note_5 zki1 <|
    z_iadd 6 hX dX0_note_6 <|
    zpX0_35 7 hX dX0_note_7 (rfl : shp 123 = (0, 0)) <|
    z_w h fun w1 h =>
    z_iload_n 10 hX dX0_note_10 rfl <|
    z_aload_n 11 hX dX0_note_11 rfl <|
    zgX0_41 12 hX dX0_note_12 (rfl : shp 123 = (0, 0)) <|
    z_icmp_ge 15 28 hX dX0_note_15 rfl h (fun q1 h => ?_) (fun q1 h => ?_)
  · refine z_endV 28 hE h dX0_note_28
  · refine z_aload_n 18 hX dX0_note_18 rfl <|
      z_iload_n 19 hX dX0_note_19 rfl <|
      zpX0_41 20 hX dX0_note_20 (rfl : shp 123 = (0, 0)) <|
      z_w h fun w2 h =>
      z_aload_n 23 hX dX0_note_23 rfl <|
      z_iload_n 24 hX dX0_note_24 rfl <|
      zpX0_38 25 hX dX0_note_25 (rfl : shp 123 = (0, 0)) <|
      z_w h fun w3 h =>
      z_endV 28 hE h dX0_note_28
def j_X0_take_50 (rc : Nat → Int32 → Int32 → zW → Option (Int32 × zW)) (K57 : Int32 → zW → Option (Int32 × zW)) (a1 : Nat) (a3 : Int32) (b0 : Int32) (w : zW) : Option (Int32 × zW) :=
  zlet (a3 + nI 1) fun x1 =>
  rc a1 b0 x1 w
theorem j_X0_take_50z {rc : Nat → Int32 → Int32 → zW → Option (Int32 × zW)} {K57 : Int32 → zW → Option (Int32 × zW)} {G : zG} {X : zX} {w : zW} {re : Int32} {we : zW} {a1 : Nat} {a3 : Int32} {b0 : Int32} (hX : zOk G X cX0_take 4 RX0 0) (hE : zEI G X cX0_take .boolean re we) (hrc : ∀ (a1 : Nat) (a2 : Int32) (a3 : Int32) (w3 : zW) (ha1 : shp a1 = (10, 0)), rc a1 a2 a3 w3 = some (re, we) → zZ G X w3 4 [some (.ref (zα G 123)), some (.ref (zα G a1)), some (.int a2), some (.int a3)] []) (hK57 : ∀ (a2 : Int32) (w3 : zW) , K57 a2 w3 = some (re, we) → zZ G X w3 57 [none, none, some (.int a2), none] []) (ha1 : shp a1 = (10, 0)) (h : j_X0_take_50 rc K57 a1 a3 b0 w = some (re, we)) : zZ G X w 50 [some (.ref (zα G 123)), some (.ref (zα G a1)), none, some (.int a3)] [.int b0] := by
  rw [j_X0_take_50] at h
  refine z_istore_n 50 [some (.ref (zα G 123)), some (.ref (zα G a1)), some (.int b0), some (.int a3)] hX dX0_take_50 (Nat.le_of_ble_eq_true rfl) rfl rfl <|
    z_iincG 51 (fun x1 => [some (.ref (zα G 123)), some (.ref (zα G a1)), some (.int b0), some (.int x1)]) hX dX0_take_51 rfl zki1 rfl (fun _ => rfl) h fun x1 h =>
    z_goto 54 4 hX dX0_take_54 rfl <|
    hrc _ _ _ _ ha1 h
def j_X0_take_49 (rc : Nat → Int32 → Int32 → zW → Option (Int32 × zW)) (K57 : Int32 → zW → Option (Int32 × zW)) (a1 : Nat) (a3 : Int32) (w : zW) : Option (Int32 × zW) :=
  j_X0_take_50 rc K57 a1 a3 (nI 0) w
theorem j_X0_take_49z {rc : Nat → Int32 → Int32 → zW → Option (Int32 × zW)} {K57 : Int32 → zW → Option (Int32 × zW)} {G : zG} {X : zX} {w : zW} {re : Int32} {we : zW} {a1 : Nat} {a3 : Int32} (hX : zOk G X cX0_take 4 RX0 0) (hE : zEI G X cX0_take .boolean re we) (hrc : ∀ (a1 : Nat) (a2 : Int32) (a3 : Int32) (w3 : zW) (ha1 : shp a1 = (10, 0)), rc a1 a2 a3 w3 = some (re, we) → zZ G X w3 4 [some (.ref (zα G 123)), some (.ref (zα G a1)), some (.int a2), some (.int a3)] []) (hK57 : ∀ (a2 : Int32) (w3 : zW) , K57 a2 w3 = some (re, we) → zZ G X w3 57 [none, none, some (.int a2), none] []) (ha1 : shp a1 = (10, 0)) (h : j_X0_take_49 rc K57 a1 a3 w = some (re, we)) : zZ G X w 49 [some (.ref (zα G 123)), some (.ref (zα G a1)), none, some (.int a3)] [] := by
  rw [j_X0_take_49] at h
  refine z_iconst 49 hX dX0_take_49 zki0 <|
    j_X0_take_50z hX hE hrc hK57 ha1 h
def l_X0_take_4 (K57 : Int32 → zW → Option (Int32 × zW)) : Nat → Nat → Int32 → Int32 → zW → Option (Int32 × zW)
  | 0, _, _, _, _ => none
  | n + 1, a1, a2, a3, w =>
    if a3 < (w a1 2) then
      zld w (a1 + 1) 6 a3 fun x2 =>
      zld w 124 27 x2 fun x3 =>
      zsto w 124 27 x2 (x3 - (nI 1)) fun w1 =>
      if a2 = nI 0 then
        j_X0_take_49 (l_X0_take_4 K57 n) K57 a1 a3 w1
      else
        zld w1 (a1 + 1) 6 a3 fun x5 =>
        zld w1 124 27 x5 fun x6 =>
        if x6 < nI 0 then
          j_X0_take_49 (l_X0_take_4 K57 n) K57 a1 a3 w1
        else
          j_X0_take_50 (l_X0_take_4 K57 n) K57 a1 a3 (nI 1) w1
    else
      K57 a2 w
theorem l_X0_take_4z {K57 : Int32 → zW → Option (Int32 × zW)} {G : zG} {X : zX} {re : Int32} {we : zW} (hX : zOk G X cX0_take 4 RX0 0) (hE : zEI G X cX0_take .boolean re we) (hK57 : ∀ (a2 : Int32) (w3 : zW) , K57 a2 w3 = some (re, we) → zZ G X w3 57 [none, none, some (.int a2), none] []) : ∀ (n : Nat) (a1 : Nat) (a2 : Int32) (a3 : Int32) (w : zW) (ha1 : shp a1 = (10, 0)), l_X0_take_4 K57 n a1 a2 a3 w = some (re, we) → zZ G X w 4 [some (.ref (zα G 123)), some (.ref (zα G a1)), some (.int a2), some (.int a3)] [] := by
  intro n
  induction n with
  | zero =>
    intro a1 a2 a3 w ha1 h
    rw [l_X0_take_4.eq_1] at h
    cases h
  | succ n ih =>
    intro a1 a2 a3 w ha1 h
    rw [l_X0_take_4.eq_2] at h
    refine z_iload_n 4 hX dX0_take_4 rfl <|
      z_aload_n 5 hX dX0_take_5 rfl <|
      zgX0_80 6 hX dX0_take_6 ha1 <|
      z_icmp_ge 9 57 hX dX0_take_9 rfl h (fun q1 h => ?_) (fun q1 h => ?_)
    · refine z_weak (L' := [none, none, some (.int a2), none]) (zsub_n (zsub_n (zsub_s (zsub_n zsub_0)))) <|
        hK57 _ _ h
    · refine z_aload_n 12 hX dX0_take_12 rfl <|
        zgX0_9 13 hX dX0_take_13 (rfl : shp 123 = (0, 0)) <|
        z_aload_n 16 hX dX0_take_16 rfl <|
        zgX0_81 17 hX dX0_take_17 ha1 <|
        z_iload_n 20 hX dX0_take_20 rfl <|
        z_iald 21 hX dX0_take_21 (zr10_letters _ ha1) h fun x2 _ h =>
        z_dup2 22 hX dX0_take_22 rfl rfl <|
        z_iald 23 hX dX0_take_23 (rfl : shp 124 = (20, 27)) h fun x3 _ h =>
        z_iconst 24 hX dX0_take_24 zki1 <|
        z_isub 25 hX dX0_take_25 <|
        z_iast 26 hX dX0_take_26 (rfl : shp 124 = (20, 27)) h fun w1 h =>
        z_iload_n 27 hX dX0_take_27 rfl <|
        z_if_eq 28 49 hX dX0_take_28 rfl h (fun q4 h => ?_) (fun q4 h => ?_)
      · refine z_weak (L' := [some (.ref (zα G 123)), some (.ref (zα G a1)), none, some (.int a3)]) (zsub_s (zsub_s (zsub_n (zsub_s zsub_0)))) <|
          j_X0_take_49z hX hE ih hK57 ha1 h
      · refine z_aload_n 31 hX dX0_take_31 rfl <|
          zgX0_9 32 hX dX0_take_32 (rfl : shp 123 = (0, 0)) <|
          z_aload_n 35 hX dX0_take_35 rfl <|
          zgX0_81 36 hX dX0_take_36 ha1 <|
          z_iload_n 39 hX dX0_take_39 rfl <|
          z_iald 40 hX dX0_take_40 (zr10_letters _ ha1) h fun x5 _ h =>
          z_iald 41 hX dX0_take_41 (rfl : shp 124 = (20, 27)) h fun x6 _ h =>
          z_if_lt 42 49 hX dX0_take_42 rfl h (fun q7 h => ?_) (fun q7 h => ?_)
        · refine z_weak (L' := [some (.ref (zα G 123)), some (.ref (zα G a1)), none, some (.int a3)]) (zsub_s (zsub_s (zsub_n (zsub_s zsub_0)))) <|
            j_X0_take_49z hX hE ih hK57 ha1 h
        · refine z_iconst 45 hX dX0_take_45 zki1 <|
            z_goto 46 50 hX dX0_take_46 rfl <|
            z_weak (L' := [some (.ref (zα G 123)), some (.ref (zα G a1)), none, some (.int a3)]) (zsub_s (zsub_s (zsub_n (zsub_s zsub_0)))) <|
            j_X0_take_50z hX hE ih hK57 ha1 h
def f_X0_take (a1 : Nat) (w : zW) : Option (Int32 × zW) :=
  l_X0_take_4 (fun k57_a2 w11 =>
    zguard (zbool k57_a2) (
    some (k57_a2, w11))) zfuel a1 (nI 1) (nI 0) w
theorem c_X0_take {G : zG} {l : Launch} (hG : zgood G) {w : zW} {re : Int32} {we : zW} {a1 : Nat} (ha1 : shp a1 = (10, 0)) (h : f_X0_take a1 w = some (re, we)) : zMet G l yX0_take cX0_take 4 (some .boolean) 0 [.ref (zα G 123), .ref (zα G a1)] w (some (.int re)) we := by
  refine zMet_of (L0 := [some (.ref (zα G 123)), some (.ref (zα G a1)), none, none]) hG zplX0 (Nat.le_of_ble_eq_true rfl) rfl rfl (fun X hl hX hEI hEV hEA => ?_)
  subst hl
  have hX : zOk G X cX0_take 4 RX0 0 := hX
  have hE := hEI _ _ rfl rfl
  rw [f_X0_take] at h
  refine z_iconst 0 hX dX0_take_0 zki1 <|
    z_istore_n 1 [some (.ref (zα G 123)), some (.ref (zα G a1)), some (.int (nI 1)), none] hX dX0_take_1 (Nat.le_of_ble_eq_true rfl) rfl rfl <|
    z_iconst 2 hX dX0_take_2 zki0 <|
    z_istore_n 3 [some (.ref (zα G 123)), some (.ref (zα G a1)), some (.int (nI 1)), some (.int (nI 0))] hX dX0_take_3 (Nat.le_of_ble_eq_true rfl) rfl rfl <|
    l_X0_take_4z hX hE (fun k57_a2 w11 h => ?_) _ _ _ _ _ ha1 h
  · refine z_iload_n 57 hX dX0_take_57 rfl <|
      zgd2 h fun q101 h =>
      z_endI2 58 hE (znar_bool q101) h dX0_take_58
abbrev zrec_X0_extend (G : zG) (l : Launch) (F : Nat → Int32 → Int32 → Int32 → zW → Option zW) (hd : Nat) : Prop :=
  (∀ {w we : zW} {a1 a2 a3 : Int32}, F 0 a1 a2 a3 w = some we → zMet G l yX0_extend cX0_extend 6 none hd [.ref (zα G 123), .int a1, .int a2, .int a3] w none we)
def j_X0_extend_104 (F : Nat → Int32 → Int32 → Int32 → zW → Option zW) (rc : Int32 → Int32 → Int32 → Int32 → zW → Option zW) (K116 : zW → Option zW) (a1 : Int32) (a2 : Int32) (a3 : Int32) (a4 : Int32) (a5 : Nat) (w : zW) : Option zW :=
  zb (f_X0_giveBack a5 w) fun w1 =>
  zlet (a4 + nI 1) fun x2 =>
  rc a1 a2 a3 x2 w1
theorem j_X0_extend_104z {F : Nat → Int32 → Int32 → Int32 → zW → Option zW} {rc : Int32 → Int32 → Int32 → Int32 → zW → Option zW} {K116 : zW → Option zW} {G : zG} {X : zX} {w : zW} {we : zW} {a1 : Int32} {a2 : Int32} {a3 : Int32} {a4 : Int32} {a5 : Nat} (hd : Nat) (hb : 1 ≤ hd) (hF : zrec_X0_extend G X.2.1 F hd) (hX : zOk G X cX0_extend 6 RX0 (hd + 1)) (hE : zEV G X cX0_extend we) (hrc : ∀ (a1 : Int32) (a2 : Int32) (a3 : Int32) (a4 : Int32) (w3 : zW) , rc a1 a2 a3 a4 w3 = some we → zZ G X w3 30 [some (.ref (zα G 123)), some (.int a1), some (.int a2), some (.int a3), some (.int a4), none] []) (hK116 : ∀ (w3 : zW) , K116 w3 = some we → zZ G X w3 116 [none, none, none, none, none, none] []) (ha5 : shp a5 = (10, 0)) (h : j_X0_extend_104 F rc K116 a1 a2 a3 a4 a5 w = some we) : zZ G X w 104 [some (.ref (zα G 123)), some (.int a1), some (.int a2), some (.int a3), some (.int a4), some (.ref (zα G a5))] [] := by
  rw [j_X0_extend_104] at h
  refine z_aload_n 104 hX dX0_extend_104 rfl <|
    z_aload 105 hX dX0_extend_105 rfl <|
    zb1 h fun w1 r1 h => zcX0_76 107 [.ref (zα G a5)] [] hX dX0_extend_107 (c_X0_giveBack (zgd0 hX) ha5 r1) (rfl : shp 123 = (0, 0)) rfl rfl rfl (Nat.le_of_ble_eq_true rfl) (by omega) <|
    z_iincG 110 (fun x2 => [some (.ref (zα G 123)), some (.int a1), some (.int a2), some (.int a3), some (.int x2), some (.ref (zα G a5))]) hX dX0_extend_110 rfl zki1 rfl (fun _ => rfl) h fun x2 h =>
    z_goto 113 30 hX dX0_extend_113 rfl <|
    z_weak (L' := [some (.ref (zα G 123)), some (.int a1), some (.int a2), some (.int a3), some (.int x2), none]) (zsub_s (zsub_s (zsub_s (zsub_s (zsub_s (zsub_n zsub_0)))))) <|
    hrc _ _ _ _ _ h
def l_X0_extend_30 (F : Nat → Int32 → Int32 → Int32 → zW → Option zW) (K116 : zW → Option zW) : Nat → Int32 → Int32 → Int32 → Int32 → zW → Option zW
  | 0, _, _, _, _, _ => none
  | n + 1, a1, a2, a3, a4, w =>
    zguard (decide (¬ w 123 1 = 0)) (
    if a4 < (w 3 1) then
      zguard (decide (¬ w 123 1 = 0)) (
      zguard (zin a4 12) (
      ztld 2 5 (w (5 + 2 * a4.toNatClampNeg) 1) fun x5 =>
      if (x5 &&& ((nI 1) <<< (a1 &&& 31))) = nI 0 then
        zlet (a4 + nI 1) fun x7 =>
        (l_X0_extend_30 F K116 n) a1 a2 a3 x7 w
      else
        zb2 (f_X0_take (5 + 2 * a4.toNatClampNeg) w) fun x9 w1 =>
        if x9 = nI 0 then
          j_X0_extend_104 F (l_X0_extend_30 F K116 n) K116 a1 a2 a3 a4 (5 + 2 * a4.toNatClampNeg) w1
        else
          ztld 1 5 (w1 (5 + 2 * a4.toNatClampNeg) 1) fun x11 =>
          zb (F 0 x11 (a2 + (nI 1)) (((a3 * (nI 16)) + a4) + (nI 1)) w1) fun w2 =>
          j_X0_extend_104 F (l_X0_extend_30 F K116 n) K116 a1 a2 a3 a4 (5 + 2 * a4.toNatClampNeg) w2))
    else
      K116 w)
theorem l_X0_extend_30z {F : Nat → Int32 → Int32 → Int32 → zW → Option zW} {K116 : zW → Option zW} {G : zG} {X : zX} {we : zW} (hd : Nat) (hb : 1 ≤ hd) (hF : zrec_X0_extend G X.2.1 F hd) (hX : zOk G X cX0_extend 6 RX0 (hd + 1)) (hE : zEV G X cX0_extend we) (hK116 : ∀ (w3 : zW) , K116 w3 = some we → zZ G X w3 116 [none, none, none, none, none, none] []) : ∀ (n : Nat) (a1 : Int32) (a2 : Int32) (a3 : Int32) (a4 : Int32) (w : zW) , l_X0_extend_30 F K116 n a1 a2 a3 a4 w = some we → zZ G X w 30 [some (.ref (zα G 123)), some (.int a1), some (.int a2), some (.int a3), some (.int a4), none] [] := by
  intro n
  induction n with
  | zero =>
    intro a1 a2 a3 a4 w  h
    rw [l_X0_extend_30.eq_1] at h
    cases h
  | succ n ih =>
    intro a1 a2 a3 a4 w  h
    rw [l_X0_extend_30.eq_2] at h
    refine z_iload 30 hX dX0_extend_30 rfl <|
      z_aload_n 32 hX dX0_extend_32 rfl <|
      zgd h fun q1 h => zgX0_21 33 hX dX0_extend_33 (rfl : shp 123 = (0, 0)) q1 <|
      zgX0_52 36 hX dX0_extend_36 (rfl : shp 3 = (7, 0)) <|
      z_icmp_ge 39 116 hX dX0_extend_39 rfl h (fun q2 h => ?_) (fun q2 h => ?_)
    · refine z_weak (L' := [none, none, none, none, none, none]) (zsub_n (zsub_n (zsub_n (zsub_n (zsub_n (zsub_n zsub_0)))))) <|
        hK116 _ h
    · refine z_aload_n 42 hX dX0_extend_42 rfl <|
        zgd h fun q3 h => zgX0_21 43 hX dX0_extend_43 (rfl : shp 123 = (0, 0)) q3 <|
        zgX0_57 46 hX dX0_extend_46 (rfl : shp 3 = (7, 0)) <|
        z_iload 49 hX dX0_extend_49 rfl <|
        z_aald 51 hX dX0_extend_51 (rfl : shp 4 = (22, 12)) (by decide) h fun q4 h =>
        z_astore 52 [some (.ref (zα G 123)), some (.int a1), some (.int a2), some (.int a3), some (.int a4), some (.ref (zα G (5 + 2 * a4.toNatClampNeg)))] hX dX0_extend_52 (Nat.le_of_ble_eq_true rfl) rfl rfl <|
        z_gets (C := RX11) 54 hX dX0_extend_54 zSz2 (Or.inr ⟨rfl, rfl, by decide +kernel⟩) <|
        z_aload 57 hX dX0_extend_57 rfl <|
        zgX0_64 59 hX dX0_extend_59 (ze22 _ (rfl : shp 4 = (22, 12)) _ q4) <|
        z_sald 62 hX dX0_extend_62 zSt2 h fun x5 h =>
        z_iconst 63 hX dX0_extend_63 zki1 <|
        z_iload_n 64 hX dX0_extend_64 rfl <|
        z_ishl 65 hX dX0_extend_65 <|
        z_iand 66 hX dX0_extend_66 <|
        z_if_eq 67 110 hX dX0_extend_67 rfl h (fun q6 h => ?_) (fun q6 h => ?_)
      · refine z_iincG 110 (fun x7 => [some (.ref (zα G 123)), some (.int a1), some (.int a2), some (.int a3), some (.int x7), some (.ref (zα G (5 + 2 * a4.toNatClampNeg)))]) hX dX0_extend_110 rfl zki1 rfl (fun _ => rfl) h fun x7 h =>
          z_goto 113 30 hX dX0_extend_113 rfl <|
          z_weak (L' := [some (.ref (zα G 123)), some (.int a1), some (.int a2), some (.int a3), some (.int x7), none]) (zsub_s (zsub_s (zsub_s (zsub_s (zsub_s (zsub_n zsub_0)))))) <|
          ih _ _ _ _ _ h
      · refine z_aload_n 70 hX dX0_extend_70 rfl <|
          z_aload 71 hX dX0_extend_71 rfl <|
          zb12 h fun x9 w1 r8 h => zcX0_69 73 [.ref (zα G (5 + 2 * a4.toNatClampNeg))] [] hX dX0_extend_73 (c_X0_take (zgd0 hX) (ze22 _ (rfl : shp 4 = (22, 12)) _ q4) r8) (rfl : shp 123 = (0, 0)) rfl rfl rfl (Nat.le_of_ble_eq_true rfl) (by omega) <|
          z_if_eq 76 104 hX dX0_extend_76 rfl h (fun q10 h => ?_) (fun q10 h => ?_)
        · refine j_X0_extend_104z hd hb hF hX hE ih hK116 (ze22 _ (rfl : shp 4 = (22, 12)) _ q4) h
        · refine z_aload_n 79 hX dX0_extend_79 rfl <|
            z_gets (C := RX11) 80 hX dX0_extend_80 zSz1 (Or.inr ⟨rfl, rfl, by decide +kernel⟩) <|
            z_aload 83 hX dX0_extend_83 rfl <|
            zgX0_64 85 hX dX0_extend_85 (ze22 _ (rfl : shp 4 = (22, 12)) _ q4) <|
            z_sald 88 hX dX0_extend_88 zSt1 h fun x11 h =>
            z_iload_n 89 hX dX0_extend_89 rfl <|
            z_iconst 90 hX dX0_extend_90 zki1 <|
            z_iadd 91 hX dX0_extend_91 <|
            z_iload_n 92 hX dX0_extend_92 rfl <|
            z_bipush 93 hX dX0_extend_93 zkb16 <|
            z_imul 95 hX dX0_extend_95 <|
            z_iload 96 hX dX0_extend_96 rfl <|
            z_iadd 98 hX dX0_extend_98 <|
            z_iconst 99 hX dX0_extend_99 zki1 <|
            z_iadd 100 hX dX0_extend_100 <|
            zb1 h fun w2 r12 h => zcX0_44 101 [.int x11, .int (a2 + (nI 1)), .int (((a3 * (nI 16)) + a4) + (nI 1))] [] hX dX0_extend_101 (hF r12) (rfl : shp 123 = (0, 0)) rfl rfl rfl (Nat.le_of_ble_eq_true rfl) (by omega) <|
            j_X0_extend_104z hd hb hF hX hE ih hK116 (ze22 _ (rfl : shp 4 = (22, 12)) _ q4) h
def j_X0_extend_11 (F : Nat → Int32 → Int32 → Int32 → zW → Option zW) (a1 : Int32) (a2 : Int32) (a3 : Int32) (w : zW) : Option zW :=
  if a2 < (w 123 2) then
    zguard (decide (¬ w 123 1 = 0)) (
    l_X0_extend_30 F (fun w11 =>
      some w11) zfuel a1 a2 a3 (nI 0) w)
  else
    some w
theorem j_X0_extend_11z {F : Nat → Int32 → Int32 → Int32 → zW → Option zW} {G : zG} {X : zX} {w : zW} {we : zW} {a1 : Int32} {a2 : Int32} {a3 : Int32} (hd : Nat) (hb : 1 ≤ hd) (hF : zrec_X0_extend G X.2.1 F hd) (hX : zOk G X cX0_extend 6 RX0 (hd + 1)) (hE : zEV G X cX0_extend we)  (h : j_X0_extend_11 F a1 a2 a3 w = some we) : zZ G X w 11 [some (.ref (zα G 123)), some (.int a1), some (.int a2), some (.int a3), none, none] [] := by
  rw [j_X0_extend_11] at h
  refine z_iload_n 11 hX dX0_extend_11 rfl <|
    z_aload_n 12 hX dX0_extend_12 rfl <|
    zgX0_31 13 hX dX0_extend_13 (rfl : shp 123 = (0, 0)) <|
    z_icmp_ge 16 26 hX dX0_extend_16 rfl h (fun q1 h => ?_) (fun q1 h => ?_)
  · refine z_endV 26 hE h dX0_extend_26
  · refine z_aload_n 19 hX dX0_extend_19 rfl <|
      zgd h fun q2 h => zgX0_21 20 hX dX0_extend_20 (rfl : shp 123 = (0, 0)) q2 <|
      z_ifnonnull 23 27 hX dX0_extend_23 rfl <|
      z_iconst 27 hX dX0_extend_27 zki0 <|
      z_istore 28 [some (.ref (zα G 123)), some (.int a1), some (.int a2), some (.int a3), some (.int (nI 0)), none] hX dX0_extend_28 (Nat.le_of_ble_eq_true rfl) rfl rfl <|
      l_X0_extend_30z hd hb hF hX hE (fun w11 h => ?_) _ _ _ _ _ _ h
    · refine z_endV 116 hE h dX0_extend_116
def b_X0_extend (F : Nat → Int32 → Int32 → Int32 → zW → Option zW) (a1 : Int32) (a2 : Int32) (a3 : Int32) (w : zW) : Option zW :=
  if a1 = (nI 4) then
    zb (f_X0_note a2 a3 w) fun w1 =>
    j_X0_extend_11 F a1 a2 a3 w1
  else
    j_X0_extend_11 F a1 a2 a3 w
theorem cb_X0_extend {F : Nat → Int32 → Int32 → Int32 → zW → Option zW} {G : zG} {l : Launch} (hG : zgood G) {w : zW} {we : zW} {a1 : Int32} {a2 : Int32} {a3 : Int32} (hd : Nat) (hb : 1 ≤ hd) (hF : zrec_X0_extend G l F hd)  (h : b_X0_extend F a1 a2 a3 w = some we) : zMet G l yX0_extend cX0_extend 6 none (hd + 1) [.ref (zα G 123), .int a1, .int a2, .int a3] w none we := by
  refine zMet_of (L0 := [some (.ref (zα G 123)), some (.int a1), some (.int a2), some (.int a3), none, none]) hG zplX0 (Nat.le_of_ble_eq_true rfl) rfl rfl (fun X hl hX hEI hEV hEA => ?_)
  subst hl
  have hX : zOk G X cX0_extend 6 RX0 (hd + 1) := hX
  have hE := hEV rfl rfl
  rw [b_X0_extend] at h
  refine z_iload_n 0 hX dX0_extend_0 rfl <|
    z_iconst 1 hX dX0_extend_1 zki4 <|
    z_icmp_ne 2 11 hX dX0_extend_2 rfl h (fun q1 h => ?_) (fun q1 h => ?_)
  · refine j_X0_extend_11z hd hb hF hX hE h
  · refine z_aload_n 5 hX dX0_extend_5 rfl <|
      z_iload_n 6 hX dX0_extend_6 rfl <|
      z_iload_n 7 hX dX0_extend_7 rfl <|
      zb1 h fun w1 r2 h => zcX0_48 8 [.int a2, .int a3] [] hX dX0_extend_8 (c_X0_note (zgd0 hX) r2) (rfl : shp 123 = (0, 0)) rfl rfl rfl (Nat.le_of_ble_eq_true rfl) (by omega) <|
      j_X0_extend_11z hd hb hF hX hE h
def F_X0_extend : Nat → Nat → Int32 → Int32 → Int32 → zW → Option zW
  | 0, _, _, _, _, _ => none
  | d + 1, _, x0, x1, x2, w => b_X0_extend (F_X0_extend d) x0 x1 x2 w
theorem cF_X0_extend {G : zG} {l : Launch} (hG : zgood G) : ∀ d : Nat, zrec_X0_extend G l (F_X0_extend d) (1 + d) := by
  intro d
  induction d with
  | zero => intro w we a1 a2 a3 h; cases h
  | succ d ih => intro w we a1 a2 a3 h; exact cb_X0_extend hG _ (Nat.le_add_right _ _) ih h
def f_X0_extend (a1 : Int32) (a2 : Int32) (a3 : Int32) (w : zW) : Option zW := F_X0_extend 100 0 a1 a2 a3 w
theorem c_X0_extend {G : zG} {l : Launch} (hG : zgood G) {w : zW} {we : zW} {a1 : Int32} {a2 : Int32} {a3 : Int32} (h : f_X0_extend a1 a2 a3 w = some we) : zMet G l yX0_extend cX0_extend 6 none 101 [.ref (zα G 123), .int a1, .int a2, .int a3] w none we := (cF_X0_extend hG 100) h
def f_X0_search (a2 : Nat) (na2 : Nat) (a3 : Int32) (w : zW) : Option zW :=
  zguard (zcpyok (nI 0) (nI 0) (nI 27) na2 27) (zlet (zcopy w a2 124 (nI 0) (nI 0) (nI 27)) fun w1 =>
  zlet (zupd w1 123 1 1) fun w2 =>
  zlet (zupd w2 123 2 (if (nI 7) < a3 then (nI 7) else a3)) fun w3 =>
  zlet (zupd w3 123 3 (nI 0)) fun w4 =>
  zlet (zupd w4 123 4 (nI 0)) fun w5 =>
  zlet (zupd w5 123 5 (nI 8)) fun w6 =>
  zb (f_X0_extend (nI 0) (nI 0) (nI 0) w6) fun w7 =>
  some w7)
theorem c_X0_search {G : zG} {l : Launch} (hG : zgood G) {w : zW} {we : zW} {a2 : Nat} {na2 : Nat} {a3 : Int32} (ha2 : shp a2 = (20, na2)) (h : f_X0_search a2 na2 a3 w = some we) : zMet G l yX0_search cX0_search 4 none 102 [.ref (zα G 123), .ref (zα G 3), .ref (zα G a2), .int a3] w none we := by
  refine zMet_of (L0 := [some (.ref (zα G 123)), some (.ref (zα G 3)), some (.ref (zα G a2)), some (.int a3)]) hG zplX0 (Nat.le_of_ble_eq_true rfl) rfl rfl (fun X hl hX hEI hEV hEA => ?_)
  subst hl
  have hX : zOk G X cX0_search 4 RX0 102 := hX
  have hE := hEV rfl rfl
  rw [f_X0_search] at h
  refine z_aload_n 0 hX dX0_search_0 rfl <|
    z_iconst 1 hX dX0_search_1 zki0 <|
    z_aload_n 2 hX dX0_search_2 rfl <|
    zgX0_9 3 hX dX0_search_3 (rfl : shp 123 = (0, 0)) <|
    z_iconst 6 hX dX0_search_6 zki0 <|
    z_bipush 7 hX dX0_search_7 zkb27 <|
    z_copy 9 hX dX0_search_9 zw876 zw619 zw618 zw87 ha2 (rfl : shp 124 = (20, 27)) rfl (Nat.le_of_ble_eq_true rfl) (Nat.le_of_ble_eq_true rfl) h fun h =>
    z_w h fun w1 h =>
    z_aload_n 12 hX dX0_search_12 rfl <|
    z_aload_n 13 hX dX0_search_13 rfl <|
    zpX0_21 14 hX dX0_search_14 (rfl : shp 123 = (0, 0)) <|
    z_w h fun w2 h =>
    z_aload_n 17 hX dX0_search_17 rfl <|
    z_iload_n 18 hX dX0_search_18 rfl <|
    z_bipush 19 hX dX0_search_19 zkb7 <|
    z_mmin 21 hX dX0_search_21 zw877 zw538 zw86 zw539 rfl (Nat.le_of_ble_eq_true rfl) (Nat.le_of_ble_eq_true rfl) <|
    zpX0_31 24 hX dX0_search_24 (rfl : shp 123 = (0, 0)) <|
    z_w h fun w3 h =>
    z_aload_n 27 hX dX0_search_27 rfl <|
    z_iconst 28 hX dX0_search_28 zki0 <|
    zpX0_35 29 hX dX0_search_29 (rfl : shp 123 = (0, 0)) <|
    z_w h fun w4 h =>
    z_aload_n 32 hX dX0_search_32 rfl <|
    z_iconst 33 hX dX0_search_33 zki0 <|
    zpX0_38 34 hX dX0_search_34 (rfl : shp 123 = (0, 0)) <|
    z_w h fun w5 h =>
    z_aload_n 37 hX dX0_search_37 rfl <|
    z_bipush 38 hX dX0_search_38 zkb8 <|
    zpX0_41 40 hX dX0_search_40 (rfl : shp 123 = (0, 0)) <|
    z_w h fun w6 h =>
    z_aload_n 43 hX dX0_search_43 rfl <|
    z_iconst 44 hX dX0_search_44 zki0 <|
    z_iconst 45 hX dX0_search_45 zki0 <|
    z_iconst 46 hX dX0_search_46 zki0 <|
    zb1 h fun w7 r1 h => zcX0_44 47 [.int (nI 0), .int (nI 0), .int (nI 0)] [] hX dX0_search_47 (c_X0_extend (zgd0 hX) r1) (rfl : shp 123 = (0, 0)) rfl rfl rfl (Nat.le_of_ble_eq_true rfl) (Nat.le_of_ble_eq_true rfl) <|
    z_endV 50 hE h dX0_search_50
def l_J7_fill_53178_5 (K20 : zW → Option zW) : Nat → Nat → Nat → Int32 → Int32 → Int32 → zW → Option zW
  | 0, _, _, _, _, _, _ => none
  | n + 1, a0, na0, a1, a2, a3, w =>
    if a2 < a3 then
      zsto w a0 na0 a2 a1 fun w1 =>
      zlet (a2 + nI 1) fun x2 =>
      (l_J7_fill_53178_5 K20 n) a0 na0 a1 x2 a3 w1
    else
      K20 w
theorem l_J7_fill_53178_5z {K20 : zW → Option zW} {G : zG} {X : zX} {we : zW} (hX : zOk G X cJ7_fill_53178 4 RJ7 0) (hE : zEV G X cJ7_fill_53178 we) (hK20 : ∀ (w3 : zW) , K20 w3 = some we → zZ G X w3 20 [none, none, none, none] []) : ∀ (n : Nat) (a0 : Nat) (na0 : Nat) (a1 : Int32) (a2 : Int32) (a3 : Int32) (w : zW) (ha0 : shp a0 = (20, na0)), l_J7_fill_53178_5 K20 n a0 na0 a1 a2 a3 w = some we → zZ G X w 5 [some (.ref (zα G a0)), some (.int a1), some (.int a2), some (.int a3)] [] := by
  intro n
  induction n with
  | zero =>
    intro a0 na0 a1 a2 a3 w ha0 h
    rw [l_J7_fill_53178_5.eq_1] at h
    cases h
  | succ n ih =>
    intro a0 na0 a1 a2 a3 w ha0 h
    rw [l_J7_fill_53178_5.eq_2] at h
    refine z_iload_n 5 hX dJ7_fill_53178_5 rfl <|
      z_iload_n 6 hX dJ7_fill_53178_6 rfl <|
      z_icmp_ge 7 20 hX dJ7_fill_53178_7 rfl h (fun q1 h => ?_) (fun q1 h => ?_)
    · refine z_weak (L' := [none, none, none, none]) (zsub_n (zsub_n (zsub_n (zsub_n zsub_0)))) <|
        hK20 _ h
    · refine z_aload_n 10 hX dJ7_fill_53178_10 rfl <|
        z_iload_n 11 hX dJ7_fill_53178_11 rfl <|
        z_iload_n 12 hX dJ7_fill_53178_12 rfl <|
        z_iast 13 hX dJ7_fill_53178_13 ha0 h fun w1 h =>
        z_iincG 14 (fun x2 => [some (.ref (zα G a0)), some (.int a1), some (.int x2), some (.int a3)]) hX dJ7_fill_53178_14 rfl zki1 rfl (fun _ => rfl) h fun x2 h =>
        z_goto 17 5 hX dJ7_fill_53178_17 rfl <|
        ih _ _ _ _ _ _ ha0 h
def f_J7_fill_53178 (a0 : Nat) (na0 : Nat) (a1 : Int32) (w : zW) : Option zW :=
  zlet (nI na0) fun x1 =>
  l_J7_fill_53178_5 (fun w11 =>
    some w11) zfuel a0 na0 a1 (nI 0) x1 w
theorem c_J7_fill_53178 {G : zG} {l : Launch} (hG : zgood G) {w : zW} {we : zW} {a0 : Nat} {na0 : Nat} {a1 : Int32} (ha0 : shp a0 = (20, na0)) (h : f_J7_fill_53178 a0 na0 a1 w = some we) : zMet G l yJ7_fill_53178 cJ7_fill_53178 4 none 0 [.ref (zα G a0), .int a1] w none we := by
  refine zMet_of (L0 := [some (.ref (zα G a0)), some (.int a1), none, none]) hG zplJ7 (Nat.le_of_ble_eq_true rfl) rfl rfl (fun X hl hX hEI hEV hEA => ?_)
  subst hl
  have hX : zOk G X cJ7_fill_53178 4 RJ7 0 := hX
  have hE := hEV rfl rfl
  rw [f_J7_fill_53178] at h
  refine z_iconst 0 hX dJ7_fill_53178_0 zki0 <|
    z_istore_n 1 [some (.ref (zα G a0)), some (.int a1), some (.int (nI 0)), none] hX dJ7_fill_53178_1 (Nat.le_of_ble_eq_true rfl) rfl rfl <|
    z_aload_n 2 hX dJ7_fill_53178_2 rfl <|
    z_alen 3 hX dJ7_fill_53178_3 ha0 <|
    z_top h fun x1 h =>
    z_istore_n 4 [some (.ref (zα G a0)), some (.int a1), some (.int (nI 0)), some (.int x1)] hX dJ7_fill_53178_4 (Nat.le_of_ble_eq_true rfl) rfl rfl <|
    l_J7_fill_53178_5z hX hE (fun w11 h => ?_) _ _ _ _ _ _ _ ha0 h
  · refine z_endV 20 hE h dJ7_fill_53178_20
def l_X10_standsAt_21 (w : zW) (K46 : Option Int32) (K54 : Option Int32) : Nat → Nat → Int32 → Int32 → Option Int32
  | 0, _, _, _ => none
  | n + 1, a0, a2, a3 =>
    if a3 < (w a0 2) then
      zld w 117 48 (a2 + a3) fun x2 =>
      zld w (a0 + 1) 6 a3 fun x3 =>
      if x2 = x3 then
        zlet (a3 + nI 1) fun x5 =>
        (l_X10_standsAt_21 w K46 K54 n) a0 a2 x5
      else
        K46
    else
      K54
theorem l_X10_standsAt_21z {K46 : Option Int32} {K54 : Option Int32} {G : zG} {X : zX} {w : zW} {re : Int32} (hX : zOk G X cX10_standsAt 4 RX10 0) (hE : zEI G X cX10_standsAt .boolean re w) (hK46 : K46 = some re → zZ G X w 46 [none, none, none, none] []) (hK54 : K54 = some re → zZ G X w 54 [none, none, none, none] []) : ∀ (n : Nat) (a0 : Nat) (a2 : Int32) (a3 : Int32) (ha0 : shp a0 = (10, 0)), l_X10_standsAt_21 w K46 K54 n a0 a2 a3 = some re → zZ G X w 21 [some (.ref (zα G a0)), some (.ref (zα G 116)), some (.int a2), some (.int a3)] [] := by
  intro n
  induction n with
  | zero =>
    intro a0 a2 a3 ha0 h
    rw [l_X10_standsAt_21.eq_1] at h
    cases h
  | succ n ih =>
    intro a0 a2 a3 ha0 h
    rw [l_X10_standsAt_21.eq_2] at h
    refine z_iload_n 21 hX dX10_standsAt_21 rfl <|
      z_aload_n 22 hX dX10_standsAt_22 rfl <|
      zgX10_19 23 hX dX10_standsAt_23 ha0 <|
      z_icmp_ge 26 54 hX dX10_standsAt_26 rfl h (fun q1 h => ?_) (fun q1 h => ?_)
    · refine z_weak (L' := [none, none, none, none]) (zsub_n (zsub_n (zsub_n (zsub_n zsub_0)))) <|
        hK54 h
    · refine z_aload_n 29 hX dX10_standsAt_29 rfl <|
        zgX10_31 30 hX dX10_standsAt_30 (rfl : shp 116 = (3, 0)) <|
        z_iload_n 33 hX dX10_standsAt_33 rfl <|
        z_iload_n 34 hX dX10_standsAt_34 rfl <|
        z_iadd 35 hX dX10_standsAt_35 <|
        z_iald 36 hX dX10_standsAt_36 (rfl : shp 117 = (20, 48)) h fun x2 _ h =>
        z_aload_n 37 hX dX10_standsAt_37 rfl <|
        zgX10_9 38 hX dX10_standsAt_38 ha0 <|
        z_iload_n 41 hX dX10_standsAt_41 rfl <|
        z_iald 42 hX dX10_standsAt_42 (zr10_letters _ ha0) h fun x3 _ h =>
        z_icmp_eq 43 48 hX dX10_standsAt_43 rfl h (fun q4 h => ?_) (fun q4 h => ?_)
      · refine z_iincG 48 (fun x5 => [some (.ref (zα G a0)), some (.ref (zα G 116)), some (.int a2), some (.int x5)]) hX dX10_standsAt_48 rfl zki1 rfl (fun _ => rfl) h fun x5 h =>
          z_goto 51 21 hX dX10_standsAt_51 rfl <|
          ih _ _ _ ha0 h
      · refine z_weak (L' := [none, none, none, none]) (zsub_n (zsub_n (zsub_n (zsub_n zsub_0)))) <|
          hK46 h
def f_X10_standsAt (a0 : Nat) (a2 : Int32) (w : zW) : Option Int32 :=
  if a2 < nI 0 then
    some (nI 0)
  else
  if ((w 116 1) - a2) < (w a0 2) then
    some (nI 0)
  else
    l_X10_standsAt_21 w (
      some (nI 0)) (
      some (nI 1)) zfuel a0 a2 (nI 0)
theorem c_X10_standsAt {G : zG} {l : Launch} (hG : zgood G) {w : zW} {re : Int32} {a0 : Nat} {a2 : Int32} (ha0 : shp a0 = (10, 0)) (h : f_X10_standsAt a0 a2 w = some re) : zMet G l yX10_standsAt cX10_standsAt 4 (some .boolean) 0 [.ref (zα G a0), .ref (zα G 116), .int a2] w (some (.int re)) w := by
  refine zMet_of (L0 := [some (.ref (zα G a0)), some (.ref (zα G 116)), some (.int a2), none]) hG zplX10 (Nat.le_of_ble_eq_true rfl) rfl rfl (fun X hl hX hEI hEV hEA => ?_)
  subst hl
  have hX : zOk G X cX10_standsAt 4 RX10 0 := hX
  have hE := hEI _ _ rfl rfl
  rw [f_X10_standsAt] at h
  refine z_iload_n 0 hX dX10_standsAt_0 rfl <|
    z_if_lt 1 17 hX dX10_standsAt_1 rfl h (fun q1 h => ?_) (fun q1 h => ?_)
  · refine z_iconst 17 hX dX10_standsAt_17 zki0 <|
      z_endI 18 hE (znar_bool (by decide)) h dX10_standsAt_18
  · refine z_aload_n 4 hX dX10_standsAt_4 rfl <|
      zgX10_19 5 hX dX10_standsAt_5 ha0 <|
      z_aload_n 8 hX dX10_standsAt_8 rfl <|
      zgX10_28 9 hX dX10_standsAt_9 (rfl : shp 116 = (3, 0)) <|
      z_iload_n 12 hX dX10_standsAt_12 rfl <|
      z_isub 13 hX dX10_standsAt_13 <|
      z_icmp_le 14 19 hX dX10_standsAt_14 rfl h (fun q2 h => ?_) (fun q2 h => ?_)
    · refine z_iconst 19 hX dX10_standsAt_19 zki0 <|
        z_istore_n 20 [some (.ref (zα G a0)), some (.ref (zα G 116)), some (.int a2), some (.int (nI 0))] hX dX10_standsAt_20 (Nat.le_of_ble_eq_true rfl) rfl rfl <|
        l_X10_standsAt_21z hX hE (fun h => ?_) (fun h => ?_) _ _ _ _ ha0 h
      · refine z_iconst 46 hX dX10_standsAt_46 zki0 <|
          z_endI 47 hE (znar_bool (by decide)) h dX10_standsAt_47
      · refine z_iconst 54 hX dX10_standsAt_54 zki1 <|
          z_endI 55 hE (znar_bool (by decide)) h dX10_standsAt_55
    · refine z_iconst 17 hX dX10_standsAt_17 zki0 <|
        z_endI 18 hE (znar_bool (by decide)) h dX10_standsAt_18
def f_X1_leadsToEnd (a1 : Nat) (a3 : Int32) (w : zW) : Option Int32 :=
  zb (f_X10_standsAt a1 a3 w) fun x2 =>
  if x2 = nI 0 then
    some (nI 0)
  else
    zld w 113 49 (a3 + (w a1 2)) fun x4 =>
    ztld 1 5 (w a1 1) fun x5 =>
    if (x4 &&& ((nI 1) <<< (x5 &&& 31))) = nI 0 then
      some (nI 0)
    else
      some (nI 1)
theorem c_X1_leadsToEnd {G : zG} {l : Launch} (hG : zgood G) {w : zW} {re : Int32} {a1 : Nat} {a3 : Int32} (ha1 : shp a1 = (10, 0)) (h : f_X1_leadsToEnd a1 a3 w = some re) : zMet G l yX1_leadsToEnd cX1_leadsToEnd 4 (some .boolean) 1 [.ref (zα G 112), .ref (zα G a1), .ref (zα G 116), .int a3] w (some (.int re)) w := by
  refine zMet_of (L0 := [some (.ref (zα G 112)), some (.ref (zα G a1)), some (.ref (zα G 116)), some (.int a3)]) hG zplX1 (Nat.le_of_ble_eq_true rfl) rfl rfl (fun X hl hX hEI hEV hEA => ?_)
  subst hl
  have hX : zOk G X cX1_leadsToEnd 4 RX1 1 := hX
  have hE := hEI _ _ rfl rfl
  rw [f_X1_leadsToEnd] at h
  refine z_aload_n 0 hX dX1_leadsToEnd_0 rfl <|
    z_aload_n 1 hX dX1_leadsToEnd_1 rfl <|
    z_iload_n 2 hX dX1_leadsToEnd_2 rfl <|
    zb1 h fun x2 r1 h => zcX1_52 3 [.ref (zα G 116), .int a3] [] hX dX1_leadsToEnd_3 (c_X10_standsAt (zgd0 hX) ha1 r1) ha1 rfl rfl rfl (Nat.le_of_ble_eq_true rfl) (Nat.le_of_ble_eq_true rfl) <|
    z_if_eq 6 38 hX dX1_leadsToEnd_6 rfl h (fun q3 h => ?_) (fun q3 h => ?_)
  · refine z_iconst 38 hX dX1_leadsToEnd_38 zki0 <|
      z_endI 39 hE (znar_bool (by decide)) h dX1_leadsToEnd_39
  · refine z_aload_n 9 hX dX1_leadsToEnd_9 rfl <|
      zgX1_9 10 hX dX1_leadsToEnd_10 (rfl : shp 112 = (1, 0)) <|
      z_iload_n 13 hX dX1_leadsToEnd_13 rfl <|
      z_aload_n 14 hX dX1_leadsToEnd_14 rfl <|
      zgX1_56 15 hX dX1_leadsToEnd_15 ha1 <|
      z_iadd 18 hX dX1_leadsToEnd_18 <|
      z_iald 19 hX dX1_leadsToEnd_19 (rfl : shp 113 = (20, 49)) h fun x4 _ h =>
      z_iconst 20 hX dX1_leadsToEnd_20 zki1 <|
      z_gets (C := RX11) 21 hX dX1_leadsToEnd_21 zSz1 (Or.inr ⟨rfl, rfl, by decide +kernel⟩) <|
      z_aload_n 24 hX dX1_leadsToEnd_24 rfl <|
      zgX1_47 25 hX dX1_leadsToEnd_25 ha1 <|
      z_sald 28 hX dX1_leadsToEnd_28 zSt1 h fun x5 h =>
      z_ishl 29 hX dX1_leadsToEnd_29 <|
      z_iand 30 hX dX1_leadsToEnd_30 <|
      z_if_eq 31 38 hX dX1_leadsToEnd_31 rfl h (fun q6 h => ?_) (fun q6 h => ?_)
    · refine z_iconst 38 hX dX1_leadsToEnd_38 zki0 <|
        z_endI 39 hE (znar_bool (by decide)) h dX1_leadsToEnd_39
    · refine z_iconst 34 hX dX1_leadsToEnd_34 zki1 <|
        z_goto 35 39 hX dX1_leadsToEnd_35 rfl <|
        z_endI 39 hE (znar_bool (by decide)) h dX1_leadsToEnd_39
def l_X1_hold_33 (K87 : Int32 → zW → Option (Int32 × zW)) : Nat → Int32 → Int32 → zW → Option (Int32 × zW)
  | 0, _, _, _ => none
  | n + 1, a3, a4, w =>
    if a4 < (w 3 1) then
      zguard (zin a4 12) (
      zb (f_X1_leadsToEnd (5 + 2 * a4.toNatClampNeg) a3 w) fun x4 =>
      if x4 = nI 0 then
        zlet (a4 + nI 1) fun x6 =>
        (l_X1_hold_33 K87 n) a3 x6 w
      else
        zld w 113 49 a3 fun x7 =>
        zguard (zin a4 12) (
        ztld 2 5 (w (5 + 2 * a4.toNatClampNeg) 1) fun x9 =>
        zsto w 113 49 a3 (x7 ||| x9) fun w1 =>
        zlet (a4 + nI 1) fun x10 =>
        (l_X1_hold_33 K87 n) a3 x10 w1))
    else
      K87 a3 w
theorem l_X1_hold_33z {K87 : Int32 → zW → Option (Int32 × zW)} {G : zG} {X : zX} {re : Int32} {we : zW} (hX : zOk G X cX1_hold 5 RX1 2) (hE : zEI G X cX1_hold .boolean re we) (hK87 : ∀ (a3 : Int32) (w3 : zW) , K87 a3 w3 = some (re, we) → zZ G X w3 87 [some (.ref (zα G 112)), some (.ref (zα G 3)), some (.ref (zα G 116)), some (.int a3), none] []) : ∀ (n : Nat) (a3 : Int32) (a4 : Int32) (w : zW) , l_X1_hold_33 K87 n a3 a4 w = some (re, we) → zZ G X w 33 [some (.ref (zα G 112)), some (.ref (zα G 3)), some (.ref (zα G 116)), some (.int a3), some (.int a4)] [] := by
  intro n
  induction n with
  | zero =>
    intro a3 a4 w  h
    rw [l_X1_hold_33.eq_1] at h
    cases h
  | succ n ih =>
    intro a3 a4 w  h
    rw [l_X1_hold_33.eq_2] at h
    refine z_iload 33 hX dX1_hold_33 rfl <|
      z_aload_n 35 hX dX1_hold_35 rfl <|
      zgX1_33 36 hX dX1_hold_36 (rfl : shp 3 = (7, 0)) <|
      z_icmp_ge 39 87 hX dX1_hold_39 rfl h (fun q1 h => ?_) (fun q1 h => ?_)
    · refine z_weak (L' := [some (.ref (zα G 112)), some (.ref (zα G 3)), some (.ref (zα G 116)), some (.int a3), none]) (zsub_s (zsub_s (zsub_s (zsub_s (zsub_n zsub_0))))) <|
        hK87 _ _ h
    · refine z_aload_n 42 hX dX1_hold_42 rfl <|
        z_aload_n 43 hX dX1_hold_43 rfl <|
        zgX1_36 44 hX dX1_hold_44 (rfl : shp 3 = (7, 0)) <|
        z_iload 47 hX dX1_hold_47 rfl <|
        z_aald 49 hX dX1_hold_49 (rfl : shp 4 = (22, 12)) (by decide) h fun q2 h =>
        z_aload_n 50 hX dX1_hold_50 rfl <|
        z_iload_n 51 hX dX1_hold_51 rfl <|
        zb1 h fun x4 r3 h => zcX1_40 52 [.ref (zα G (5 + 2 * a4.toNatClampNeg)), .ref (zα G 116), .int a3] [] hX dX1_hold_52 (c_X1_leadsToEnd (zgd0 hX) (ze22 _ (rfl : shp 4 = (22, 12)) _ q2) r3) (rfl : shp 112 = (1, 0)) rfl rfl rfl (Nat.le_of_ble_eq_true rfl) (Nat.le_of_ble_eq_true rfl) <|
        z_if_eq 55 81 hX dX1_hold_55 rfl h (fun q5 h => ?_) (fun q5 h => ?_)
      · refine z_iincG 81 (fun x6 => [some (.ref (zα G 112)), some (.ref (zα G 3)), some (.ref (zα G 116)), some (.int a3), some (.int x6)]) hX dX1_hold_81 rfl zki1 rfl (fun _ => rfl) h fun x6 h =>
          z_goto 84 33 hX dX1_hold_84 rfl <|
          ih _ _ _ h
      · refine z_aload_n 58 hX dX1_hold_58 rfl <|
          zgX1_9 59 hX dX1_hold_59 (rfl : shp 112 = (1, 0)) <|
          z_iload_n 62 hX dX1_hold_62 rfl <|
          z_dup2 63 hX dX1_hold_63 rfl rfl <|
          z_iald 64 hX dX1_hold_64 (rfl : shp 113 = (20, 49)) h fun x7 _ h =>
          z_gets (C := RX11) 65 hX dX1_hold_65 zSz2 (Or.inr ⟨rfl, rfl, by decide +kernel⟩) <|
          z_aload_n 68 hX dX1_hold_68 rfl <|
          zgX1_36 69 hX dX1_hold_69 (rfl : shp 3 = (7, 0)) <|
          z_iload 72 hX dX1_hold_72 rfl <|
          z_aald 74 hX dX1_hold_74 (rfl : shp 4 = (22, 12)) (by decide) h fun q8 h =>
          zgX1_47 75 hX dX1_hold_75 (ze22 _ (rfl : shp 4 = (22, 12)) _ q8) <|
          z_sald 78 hX dX1_hold_78 zSt2 h fun x9 h =>
          z_ior 79 hX dX1_hold_79 <|
          z_iast 80 hX dX1_hold_80 (rfl : shp 113 = (20, 49)) h fun w1 h =>
          z_iincG 81 (fun x10 => [some (.ref (zα G 112)), some (.ref (zα G 3)), some (.ref (zα G 116)), some (.int a3), some (.int x10)]) hX dX1_hold_81 rfl zki1 rfl (fun _ => rfl) h fun x10 h =>
          z_goto 84 33 hX dX1_hold_84 rfl <|
          ih _ _ _ h
def l_X1_hold_26 (K93 : zW → Option (Int32 × zW)) : Nat → Int32 → zW → Option (Int32 × zW)
  | 0, _, _ => none
  | n + 1, a3, w =>
    if a3 < nI 0 then
      K93 w
    else
      l_X1_hold_33 (fun k87_a3 w11 =>
        zlet (k87_a3 + mI 1) fun x102 =>
        (l_X1_hold_26 K93 n) x102 w11) zfuel a3 (nI 0) w
theorem l_X1_hold_26z {K93 : zW → Option (Int32 × zW)} {G : zG} {X : zX} {re : Int32} {we : zW} (hX : zOk G X cX1_hold 5 RX1 2) (hE : zEI G X cX1_hold .boolean re we) (hK93 : ∀ (w3 : zW) , K93 w3 = some (re, we) → zZ G X w3 93 [some (.ref (zα G 112)), none, none, none, none] []) : ∀ (n : Nat) (a3 : Int32) (w : zW) , l_X1_hold_26 K93 n a3 w = some (re, we) → zZ G X w 26 [some (.ref (zα G 112)), some (.ref (zα G 3)), some (.ref (zα G 116)), some (.int a3), none] [] := by
  intro n
  induction n with
  | zero =>
    intro a3 w  h
    rw [l_X1_hold_26.eq_1] at h
    cases h
  | succ n ih =>
    intro a3 w  h
    rw [l_X1_hold_26.eq_2] at h
    refine z_iload_n 26 hX dX1_hold_26 rfl <|
      z_if_lt 27 93 hX dX1_hold_27 rfl h (fun q1 h => ?_) (fun q1 h => ?_)
    · refine z_weak (L' := [some (.ref (zα G 112)), none, none, none, none]) (zsub_s (zsub_n (zsub_n (zsub_n (zsub_n zsub_0))))) <|
        hK93 _ h
    · refine z_iconst 30 hX dX1_hold_30 zki0 <|
        z_istore 31 [some (.ref (zα G 112)), some (.ref (zα G 3)), some (.ref (zα G 116)), some (.int a3), some (.int (nI 0))] hX dX1_hold_31 (Nat.le_of_ble_eq_true rfl) rfl rfl <|
        l_X1_hold_33z hX hE (fun k87_a3 w11 h => ?_) _ _ _ _ h
      · refine z_iincG 87 (fun x102 => [some (.ref (zα G 112)), some (.ref (zα G 3)), some (.ref (zα G 116)), some (.int x102), none]) hX dX1_hold_87 rfl zkim1 rfl (fun _ => rfl) h fun x102 h =>
          z_goto 90 26 hX dX1_hold_90 rfl <|
          ih _ _ h
def f_X1_hold  (w : zW) : Option (Int32 × zW) :=
  zb (f_J7_fill_53178 113 49 (nI 0) w) fun w1 =>
  zsto w1 113 49 (w1 116 1) (nI 16) fun w2 =>
  zlet ((w2 116 1) - (nI 1)) fun x2 =>
  l_X1_hold_26 (fun w13 =>
    if ((w13 113 0) &&& (nI 1)) = nI 0 then
      some (nI 0, w13)
    else
      some (nI 1, w13)) zfuel x2 w2
theorem c_X1_hold {G : zG} {l : Launch} (hG : zgood G) {w : zW} {re : Int32} {we : zW}   (h : f_X1_hold w = some (re, we)) : zMet G l yX1_hold cX1_hold 5 (some .boolean) 2 [.ref (zα G 112), .ref (zα G 3), .ref (zα G 116)] w (some (.int re)) we := by
  refine zMet_of (L0 := [some (.ref (zα G 112)), some (.ref (zα G 3)), some (.ref (zα G 116)), none, none]) hG zplX1 (Nat.le_of_ble_eq_true rfl) rfl rfl (fun X hl hX hEI hEV hEA => ?_)
  subst hl
  have hX : zOk G X cX1_hold 5 RX1 2 := hX
  have hE := hEI _ _ rfl rfl
  rw [f_X1_hold] at h
  refine z_aload_n 0 hX dX1_hold_0 rfl <|
    zgX1_9 1 hX dX1_hold_1 (rfl : shp 112 = (1, 0)) <|
    z_iconst 4 hX dX1_hold_4 zki0 <|
    zb1 h fun w1 r1 h => zcX1_21 5 [.ref (zα G 113), .int (nI 0)] [] hX dX1_hold_5 (c_J7_fill_53178 (zgd0 hX) (rfl : shp 113 = (20, 49)) r1) rfl rfl rfl (Nat.le_of_ble_eq_true rfl) (Nat.le_of_ble_eq_true rfl) <|
    z_aload_n 8 hX dX1_hold_8 rfl <|
    zgX1_9 9 hX dX1_hold_9 (rfl : shp 112 = (1, 0)) <|
    z_aload_n 12 hX dX1_hold_12 rfl <|
    zgX1_27 13 hX dX1_hold_13 (rfl : shp 116 = (3, 0)) <|
    z_bipush 16 hX dX1_hold_16 zkb16 <|
    z_iast 18 hX dX1_hold_18 (rfl : shp 113 = (20, 49)) h fun w2 h =>
    z_aload_n 19 hX dX1_hold_19 rfl <|
    zgX1_27 20 hX dX1_hold_20 (rfl : shp 116 = (3, 0)) <|
    z_iconst 23 hX dX1_hold_23 zki1 <|
    z_isub 24 hX dX1_hold_24 <|
    z_top h fun x2 h =>
    z_istore_n 25 [some (.ref (zα G 112)), some (.ref (zα G 3)), some (.ref (zα G 116)), some (.int x2), none] hX dX1_hold_25 (Nat.le_of_ble_eq_true rfl) rfl rfl <|
    l_X1_hold_26z hX hE (fun w13 h => ?_) _ _ _ h
  · refine z_aload_n 93 hX dX1_hold_93 rfl <|
      zgX1_9 94 hX dX1_hold_94 (rfl : shp 112 = (1, 0)) <|
      z_iconst 97 hX dX1_hold_97 zki0 <|
      z_ialdc (j := 0) 98 hX dX1_hold_98 (rfl : shp 113 = (20, 49)) (zink 0 49 (by decide) (by decide)) (nI_clamp (by decide)) <|
      z_iconst 99 hX dX1_hold_99 zki1 <|
      z_iand 100 hX dX1_hold_100 <|
      z_if_eq 101 108 hX dX1_hold_101 rfl h (fun q103 h => ?_) (fun q103 h => ?_)
    · refine z_iconst 108 hX dX1_hold_108 zki0 <|
        z_endI2 109 hE (znar_bool (by decide)) h dX1_hold_109
    · refine z_iconst 104 hX dX1_hold_104 zki1 <|
        z_goto 105 109 hX dX1_hold_105 rfl <|
        z_endI2 109 hE (znar_bool (by decide)) h dX1_hold_109
def l_X1_lowestThatLeadsOn_3 (w : zW) (K49 : Int32 → Option Int32) (K58 : Option Int32) : Nat → Int32 → Int32 → Int32 → Option Int32
  | 0, _, _, _ => none
  | n + 1, a3, a4, a5 =>
    if a5 < (w 3 1) then
      zguard (zin a5 12) (
      ztld 2 5 (w (5 + 2 * a5.toNatClampNeg) 1) fun x3 =>
      if (x3 &&& ((nI 1) <<< (a4 &&& 31))) = nI 0 then
        zlet (a5 + nI 1) fun x5 =>
        (l_X1_lowestThatLeadsOn_3 w K49 K58 n) a3 a4 x5
      else
        zb (f_X1_leadsToEnd (5 + 2 * a5.toNatClampNeg) a3 w) fun x7 =>
        if x7 = nI 0 then
          zlet (a5 + nI 1) fun x9 =>
          (l_X1_lowestThatLeadsOn_3 w K49 K58 n) a3 a4 x9
        else
          K49 a5)
    else
      K58
theorem l_X1_lowestThatLeadsOn_3z {K49 : Int32 → Option Int32} {K58 : Option Int32} {G : zG} {X : zX} {w : zW} {re : Int32} (hX : zOk G X cX1_lowestThatLeadsOn 7 RX1 2) (hE : zEI G X cX1_lowestThatLeadsOn .int re w) (hK49 : ∀ (a5 : Int32) , K49 a5 = some re → zZ G X w 49 [none, none, none, none, none, some (.int a5), none] []) (hK58 : K58 = some re → zZ G X w 58 [none, none, none, none, none, none, none] []) : ∀ (n : Nat) (a3 : Int32) (a4 : Int32) (a5 : Int32) , l_X1_lowestThatLeadsOn_3 w K49 K58 n a3 a4 a5 = some re → zZ G X w 3 [some (.ref (zα G 112)), some (.ref (zα G 3)), some (.ref (zα G 116)), some (.int a3), some (.int a4), some (.int a5), none] [] := by
  intro n
  induction n with
  | zero =>
    intro a3 a4 a5  h
    rw [l_X1_lowestThatLeadsOn_3.eq_1] at h
    cases h
  | succ n ih =>
    intro a3 a4 a5  h
    rw [l_X1_lowestThatLeadsOn_3.eq_2] at h
    refine z_iload 3 hX dX1_lowestThatLeadsOn_3 rfl <|
      z_aload_n 5 hX dX1_lowestThatLeadsOn_5 rfl <|
      zgX1_33 6 hX dX1_lowestThatLeadsOn_6 (rfl : shp 3 = (7, 0)) <|
      z_icmp_ge 9 58 hX dX1_lowestThatLeadsOn_9 rfl h (fun q1 h => ?_) (fun q1 h => ?_)
    · refine z_weak (L' := [none, none, none, none, none, none, none]) (zsub_n (zsub_n (zsub_n (zsub_n (zsub_n (zsub_n (zsub_n zsub_0))))))) <|
        hK58 h
    · refine z_aload_n 12 hX dX1_lowestThatLeadsOn_12 rfl <|
        zgX1_36 13 hX dX1_lowestThatLeadsOn_13 (rfl : shp 3 = (7, 0)) <|
        z_iload 16 hX dX1_lowestThatLeadsOn_16 rfl <|
        z_aald 18 hX dX1_lowestThatLeadsOn_18 (rfl : shp 4 = (22, 12)) (by decide) h fun q2 h =>
        z_astore 19 [some (.ref (zα G 112)), some (.ref (zα G 3)), some (.ref (zα G 116)), some (.int a3), some (.int a4), some (.int a5), some (.ref (zα G (5 + 2 * a5.toNatClampNeg)))] hX dX1_lowestThatLeadsOn_19 (Nat.le_of_ble_eq_true rfl) rfl rfl <|
        z_gets (C := RX11) 21 hX dX1_lowestThatLeadsOn_21 zSz2 (Or.inr ⟨rfl, rfl, by decide +kernel⟩) <|
        z_aload 24 hX dX1_lowestThatLeadsOn_24 rfl <|
        zgX1_47 26 hX dX1_lowestThatLeadsOn_26 (ze22 _ (rfl : shp 4 = (22, 12)) _ q2) <|
        z_sald 29 hX dX1_lowestThatLeadsOn_29 zSt2 h fun x3 h =>
        z_iconst 30 hX dX1_lowestThatLeadsOn_30 zki1 <|
        z_iload 31 hX dX1_lowestThatLeadsOn_31 rfl <|
        z_ishl 33 hX dX1_lowestThatLeadsOn_33 <|
        z_iand 34 hX dX1_lowestThatLeadsOn_34 <|
        z_if_eq 35 52 hX dX1_lowestThatLeadsOn_35 rfl h (fun q4 h => ?_) (fun q4 h => ?_)
      · refine z_iincG 52 (fun x5 => [some (.ref (zα G 112)), some (.ref (zα G 3)), some (.ref (zα G 116)), some (.int a3), some (.int a4), some (.int x5), some (.ref (zα G (5 + 2 * a5.toNatClampNeg)))]) hX dX1_lowestThatLeadsOn_52 rfl zki1 rfl (fun _ => rfl) h fun x5 h =>
          z_goto 55 3 hX dX1_lowestThatLeadsOn_55 rfl <|
          z_weak (L' := [some (.ref (zα G 112)), some (.ref (zα G 3)), some (.ref (zα G 116)), some (.int a3), some (.int a4), some (.int x5), none]) (zsub_s (zsub_s (zsub_s (zsub_s (zsub_s (zsub_s (zsub_n zsub_0))))))) <|
          ih _ _ _ h
      · refine z_aload_n 38 hX dX1_lowestThatLeadsOn_38 rfl <|
          z_aload 39 hX dX1_lowestThatLeadsOn_39 rfl <|
          z_aload_n 41 hX dX1_lowestThatLeadsOn_41 rfl <|
          z_iload_n 42 hX dX1_lowestThatLeadsOn_42 rfl <|
          zb1 h fun x7 r6 h => zcX1_40 43 [.ref (zα G (5 + 2 * a5.toNatClampNeg)), .ref (zα G 116), .int a3] [] hX dX1_lowestThatLeadsOn_43 (c_X1_leadsToEnd (zgd0 hX) (ze22 _ (rfl : shp 4 = (22, 12)) _ q2) r6) (rfl : shp 112 = (1, 0)) rfl rfl rfl (Nat.le_of_ble_eq_true rfl) (Nat.le_of_ble_eq_true rfl) <|
          z_if_eq 46 52 hX dX1_lowestThatLeadsOn_46 rfl h (fun q8 h => ?_) (fun q8 h => ?_)
        · refine z_iincG 52 (fun x9 => [some (.ref (zα G 112)), some (.ref (zα G 3)), some (.ref (zα G 116)), some (.int a3), some (.int a4), some (.int x9), some (.ref (zα G (5 + 2 * a5.toNatClampNeg)))]) hX dX1_lowestThatLeadsOn_52 rfl zki1 rfl (fun _ => rfl) h fun x9 h =>
            z_goto 55 3 hX dX1_lowestThatLeadsOn_55 rfl <|
            z_weak (L' := [some (.ref (zα G 112)), some (.ref (zα G 3)), some (.ref (zα G 116)), some (.int a3), some (.int a4), some (.int x9), none]) (zsub_s (zsub_s (zsub_s (zsub_s (zsub_s (zsub_s (zsub_n zsub_0))))))) <|
            ih _ _ _ h
        · refine z_weak (L' := [none, none, none, none, none, some (.int a5), none]) (zsub_n (zsub_n (zsub_n (zsub_n (zsub_n (zsub_s (zsub_n zsub_0))))))) <|
            hK49 _ h
def f_X1_lowestThatLeadsOn (a3 : Int32) (a4 : Int32) (w : zW) : Option Int32 :=
  l_X1_lowestThatLeadsOn_3 w (fun k49_a5 =>
    some k49_a5) (
    some (mI 1)) zfuel a3 a4 (nI 0)
theorem c_X1_lowestThatLeadsOn {G : zG} {l : Launch} (hG : zgood G) {w : zW} {re : Int32} {a3 : Int32} {a4 : Int32}  (h : f_X1_lowestThatLeadsOn a3 a4 w = some re) : zMet G l yX1_lowestThatLeadsOn cX1_lowestThatLeadsOn 7 (some .int) 2 [.ref (zα G 112), .ref (zα G 3), .ref (zα G 116), .int a3, .int a4] w (some (.int re)) w := by
  refine zMet_of (L0 := [some (.ref (zα G 112)), some (.ref (zα G 3)), some (.ref (zα G 116)), some (.int a3), some (.int a4), none, none]) hG zplX1 (Nat.le_of_ble_eq_true rfl) rfl rfl (fun X hl hX hEI hEV hEA => ?_)
  subst hl
  have hX : zOk G X cX1_lowestThatLeadsOn 7 RX1 2 := hX
  have hE := hEI _ _ rfl rfl
  rw [f_X1_lowestThatLeadsOn] at h
  refine z_iconst 0 hX dX1_lowestThatLeadsOn_0 zki0 <|
    z_istore 1 [some (.ref (zα G 112)), some (.ref (zα G 3)), some (.ref (zα G 116)), some (.int a3), some (.int a4), some (.int (nI 0)), none] hX dX1_lowestThatLeadsOn_1 (Nat.le_of_ble_eq_true rfl) rfl rfl <|
    l_X1_lowestThatLeadsOn_3z hX hE (fun k49_a5 h => ?_) (fun h => ?_) _ _ _ _ h
  · refine z_iload 49 hX dX1_lowestThatLeadsOn_49 rfl <|
      z_endI 51 hE rfl h dX1_lowestThatLeadsOn_51
  · refine z_iconst 58 hX dX1_lowestThatLeadsOn_58 zkim1 <|
      z_endI 59 hE rfl h dX1_lowestThatLeadsOn_59
def l_X1_find_24 (K55 : zW → Option (Int32 × zW)) (K111 : zW → Option (Int32 × zW)) : Nat → Int32 → Int32 → Int32 → zW → Option (Int32 × zW)
  | 0, _, _, _, _ => none
  | n + 1, a3, a4, a5, w =>
    if a5 < (nI 48) then
      if a3 < (w 116 1) then
        zb (f_X1_lowestThatLeadsOn a3 a4 w) fun x4 =>
        if x4 < nI 0 then
          K55 w
        else
          zsto w 115 48 a5 x4 fun w1 =>
          zlet (zupd w1 112 3 ((w1 112 3) + (nI 1))) fun w2 =>
          zguard (zin x4 12) (
          zlet (a3 + (w2 (5 + 2 * x4.toNatClampNeg) 2)) fun x7 =>
          zguard (zin x4 12) (
          ztld 1 5 (w2 (5 + 2 * x4.toNatClampNeg) 1) fun x9 =>
          zlet (a5 + nI 1) fun x10 =>
          (l_X1_find_24 K55 K111 n) x7 x9 x10 w2))
      else
        K111 w
    else
      K111 w
theorem l_X1_find_24z {K55 : zW → Option (Int32 × zW)} {K111 : zW → Option (Int32 × zW)} {G : zG} {X : zX} {re : Int32} {we : zW} (hX : zOk G X cX1_find 7 RX1 3) (hE : zEI G X cX1_find .boolean re we) (hK55 : ∀ (w3 : zW) , K55 w3 = some (re, we) → zZ G X w3 55 [none, none, none, none, none, none, none] []) (hK111 : ∀ (w3 : zW) , K111 w3 = some (re, we) → zZ G X w3 111 [none, none, none, none, none, none, none] []) : ∀ (n : Nat) (a3 : Int32) (a4 : Int32) (a5 : Int32) (w : zW) , l_X1_find_24 K55 K111 n a3 a4 a5 w = some (re, we) → zZ G X w 24 [some (.ref (zα G 112)), some (.ref (zα G 3)), some (.ref (zα G 116)), some (.int a3), some (.int a4), some (.int a5), none] [] := by
  intro n
  induction n with
  | zero =>
    intro a3 a4 a5 w  h
    rw [l_X1_find_24.eq_1] at h
    cases h
  | succ n ih =>
    intro a3 a4 a5 w  h
    rw [l_X1_find_24.eq_2] at h
    refine z_iload 24 hX dX1_find_24 rfl <|
      z_bipush 26 hX dX1_find_26 zkb48 <|
      z_icmp_ge 28 111 hX dX1_find_28 rfl h (fun q1 h => ?_) (fun q1 h => ?_)
    · refine z_weak (L' := [none, none, none, none, none, none, none]) (zsub_n (zsub_n (zsub_n (zsub_n (zsub_n (zsub_n (zsub_n zsub_0))))))) <|
        hK111 _ h
    · refine z_iload_n 31 hX dX1_find_31 rfl <|
        z_aload_n 32 hX dX1_find_32 rfl <|
        zgX1_27 33 hX dX1_find_33 (rfl : shp 116 = (3, 0)) <|
        z_icmp_ge 36 111 hX dX1_find_36 rfl h (fun q2 h => ?_) (fun q2 h => ?_)
      · refine z_weak (L' := [none, none, none, none, none, none, none]) (zsub_n (zsub_n (zsub_n (zsub_n (zsub_n (zsub_n (zsub_n zsub_0))))))) <|
          hK111 _ h
      · refine z_aload_n 39 hX dX1_find_39 rfl <|
          z_aload_n 40 hX dX1_find_40 rfl <|
          z_aload_n 41 hX dX1_find_41 rfl <|
          z_iload_n 42 hX dX1_find_42 rfl <|
          z_iload 43 hX dX1_find_43 rfl <|
          zb1 h fun x4 r3 h => zcX1_67 45 [.ref (zα G 3), .ref (zα G 116), .int a3, .int a4] [] hX dX1_find_45 (c_X1_lowestThatLeadsOn (zgd0 hX) r3) (rfl : shp 112 = (1, 0)) rfl rfl rfl (Nat.le_of_ble_eq_true rfl) (Nat.le_of_ble_eq_true rfl) <|
          z_istore 48 [some (.ref (zα G 112)), some (.ref (zα G 3)), some (.ref (zα G 116)), some (.int a3), some (.int a4), some (.int a5), some (.int x4)] hX dX1_find_48 (Nat.le_of_ble_eq_true rfl) rfl rfl <|
          z_iload 50 hX dX1_find_50 rfl <|
          z_if_ge 52 57 hX dX1_find_52 rfl h (fun q5 h => ?_) (fun q5 h => ?_)
        · refine z_aload_n 57 hX dX1_find_57 rfl <|
            zgX1_18 58 hX dX1_find_58 (rfl : shp 112 = (1, 0)) <|
            z_iload 61 hX dX1_find_61 rfl <|
            z_iload 63 hX dX1_find_63 rfl <|
            z_iast 65 hX dX1_find_65 (rfl : shp 115 = (20, 48)) h fun w1 h =>
            z_aload_n 66 hX dX1_find_66 rfl <|
            z_dup 67 hX dX1_find_67 rfl <|
            zgX1_60 68 hX dX1_find_68 (rfl : shp 112 = (1, 0)) <|
            z_iconst 71 hX dX1_find_71 zki1 <|
            z_iadd 72 hX dX1_find_72 <|
            zpX1_60 73 hX dX1_find_73 (rfl : shp 112 = (1, 0)) <|
            z_w h fun w2 h =>
            z_iload_n 76 hX dX1_find_76 rfl <|
            z_aload_n 77 hX dX1_find_77 rfl <|
            zgX1_36 78 hX dX1_find_78 (rfl : shp 3 = (7, 0)) <|
            z_iload 81 hX dX1_find_81 rfl <|
            z_aald 83 hX dX1_find_83 (rfl : shp 4 = (22, 12)) (by decide) h fun q6 h =>
            zgX1_56 84 hX dX1_find_84 (ze22 _ (rfl : shp 4 = (22, 12)) _ q6) <|
            z_iadd 87 hX dX1_find_87 <|
            z_top h fun x7 h =>
            z_istore_n 88 [some (.ref (zα G 112)), some (.ref (zα G 3)), some (.ref (zα G 116)), some (.int x7), some (.int a4), some (.int a5), some (.int x4)] hX dX1_find_88 (Nat.le_of_ble_eq_true rfl) rfl rfl <|
            z_gets (C := RX11) 89 hX dX1_find_89 zSz1 (Or.inr ⟨rfl, rfl, by decide +kernel⟩) <|
            z_aload_n 92 hX dX1_find_92 rfl <|
            zgX1_36 93 hX dX1_find_93 (rfl : shp 3 = (7, 0)) <|
            z_iload 96 hX dX1_find_96 rfl <|
            z_aald 98 hX dX1_find_98 (rfl : shp 4 = (22, 12)) (by decide) h fun q8 h =>
            zgX1_47 99 hX dX1_find_99 (ze22 _ (rfl : shp 4 = (22, 12)) _ q8) <|
            z_sald 102 hX dX1_find_102 zSt1 h fun x9 h =>
            z_istore 103 [some (.ref (zα G 112)), some (.ref (zα G 3)), some (.ref (zα G 116)), some (.int x7), some (.int x9), some (.int a5), some (.int x4)] hX dX1_find_103 (Nat.le_of_ble_eq_true rfl) rfl rfl <|
            z_iincG 105 (fun x10 => [some (.ref (zα G 112)), some (.ref (zα G 3)), some (.ref (zα G 116)), some (.int x7), some (.int x9), some (.int x10), some (.int x4)]) hX dX1_find_105 rfl zki1 rfl (fun _ => rfl) h fun x10 h =>
            z_goto 108 24 hX dX1_find_108 rfl <|
            z_weak (L' := [some (.ref (zα G 112)), some (.ref (zα G 3)), some (.ref (zα G 116)), some (.int x7), some (.int x9), some (.int x10), none]) (zsub_s (zsub_s (zsub_s (zsub_s (zsub_s (zsub_s (zsub_n zsub_0))))))) <|
            ih _ _ _ _ h
        · refine z_weak (L' := [none, none, none, none, none, none, none]) (zsub_n (zsub_n (zsub_n (zsub_n (zsub_n (zsub_n (zsub_n zsub_0))))))) <|
            hK55 _ h
def f_X1_find  (w : zW) : Option (Int32 × zW) :=
  zlet (zupd w 112 3 (nI 0)) fun w1 =>
  zb2 (f_X1_hold w1) fun x2 w2 =>
  if x2 = nI 0 then
    some (nI 0, w2)
  else
    l_X1_find_24 (fun w13 =>
      some (nI 0, w13)) (fun w23 =>
      some (nI 1, w23)) zfuel (nI 0) (nI 0) (nI 0) w2
theorem c_X1_find {G : zG} {l : Launch} (hG : zgood G) {w : zW} {re : Int32} {we : zW}   (h : f_X1_find w = some (re, we)) : zMet G l yX1_find cX1_find 7 (some .boolean) 3 [.ref (zα G 112), .ref (zα G 3), .ref (zα G 116)] w (some (.int re)) we := by
  refine zMet_of (L0 := [some (.ref (zα G 112)), some (.ref (zα G 3)), some (.ref (zα G 116)), none, none, none, none]) hG zplX1 (Nat.le_of_ble_eq_true rfl) rfl rfl (fun X hl hX hEI hEV hEA => ?_)
  subst hl
  have hX : zOk G X cX1_find 7 RX1 3 := hX
  have hE := hEI _ _ rfl rfl
  rw [f_X1_find] at h
  refine z_aload_n 0 hX dX1_find_0 rfl <|
    z_iconst 1 hX dX1_find_1 zki0 <|
    zpX1_60 2 hX dX1_find_2 (rfl : shp 112 = (1, 0)) <|
    z_w h fun w1 h =>
    z_aload_n 5 hX dX1_find_5 rfl <|
    z_aload_n 6 hX dX1_find_6 rfl <|
    z_aload_n 7 hX dX1_find_7 rfl <|
    zb12 h fun x2 w2 r1 h => zcX1_63 8 [.ref (zα G 3), .ref (zα G 116)] [] hX dX1_find_8 (c_X1_hold (zgd0 hX) r1) (rfl : shp 112 = (1, 0)) rfl rfl rfl (Nat.le_of_ble_eq_true rfl) (Nat.le_of_ble_eq_true rfl) <|
    z_if_ne 11 16 hX dX1_find_11 rfl h (fun q3 h => ?_) (fun q3 h => ?_)
  · refine z_iconst 16 hX dX1_find_16 zki0 <|
      z_istore_n 17 [some (.ref (zα G 112)), some (.ref (zα G 3)), some (.ref (zα G 116)), some (.int (nI 0)), none, none, none] hX dX1_find_17 (Nat.le_of_ble_eq_true rfl) rfl rfl <|
      z_iconst 18 hX dX1_find_18 zki0 <|
      z_istore 19 [some (.ref (zα G 112)), some (.ref (zα G 3)), some (.ref (zα G 116)), some (.int (nI 0)), some (.int (nI 0)), none, none] hX dX1_find_19 (Nat.le_of_ble_eq_true rfl) rfl rfl <|
      z_iconst 21 hX dX1_find_21 zki0 <|
      z_istore 22 [some (.ref (zα G 112)), some (.ref (zα G 3)), some (.ref (zα G 116)), some (.int (nI 0)), some (.int (nI 0)), some (.int (nI 0)), none] hX dX1_find_22 (Nat.le_of_ble_eq_true rfl) rfl rfl <|
      l_X1_find_24z hX hE (fun w13 h => ?_) (fun w23 h => ?_) _ _ _ _ _ h
    · refine z_iconst 55 hX dX1_find_55 zki0 <|
        z_endI2 56 hE (znar_bool (by decide)) h dX1_find_56
    · refine z_iconst 111 hX dX1_find_111 zki1 <|
        z_endI2 112 hE (znar_bool (by decide)) h dX1_find_112
  · refine z_iconst 14 hX dX1_find_14 zki0 <|
      z_endI2 15 hE (znar_bool (by decide)) h dX1_find_15
def l_X1_firstNotSaid_12 (w : zW) (K32 : Int32 → Option Int32) (K41 : Int32 → Int32 → Option Int32) : Nat → Nat → Nat → Int32 → Int32 → Int32 → Option Int32
  | 0, _, _, _, _, _ => none
  | n + 1, a1, na1, a2, a3, a4 =>
    if a4 < a3 then
      zld w a1 na1 a4 fun x2 =>
      zld w 115 48 a4 fun x3 =>
      if x2 = x3 then
        zlet (a4 + nI 1) fun x5 =>
        (l_X1_firstNotSaid_12 w K32 K41 n) a1 na1 a2 a3 x5
      else
        K32 a4
    else
      K41 a2 a3
theorem l_X1_firstNotSaid_12z {K32 : Int32 → Option Int32} {K41 : Int32 → Int32 → Option Int32} {G : zG} {X : zX} {w : zW} {re : Int32} (hX : zOk G X cX1_firstNotSaid 5 RX1 1) (hE : zEI G X cX1_firstNotSaid .int re w) (hK32 : ∀ (a4 : Int32) , K32 a4 = some re → zZ G X w 32 [none, none, none, none, some (.int a4)] []) (hK41 : ∀ (a2 : Int32) (a3 : Int32) , K41 a2 a3 = some re → zZ G X w 41 [some (.ref (zα G 112)), none, some (.int a2), some (.int a3), none] []) : ∀ (n : Nat) (a1 : Nat) (na1 : Nat) (a2 : Int32) (a3 : Int32) (a4 : Int32) (ha1 : shp a1 = (20, na1)), l_X1_firstNotSaid_12 w K32 K41 n a1 na1 a2 a3 a4 = some re → zZ G X w 12 [some (.ref (zα G 112)), some (.ref (zα G a1)), some (.int a2), some (.int a3), some (.int a4)] [] := by
  intro n
  induction n with
  | zero =>
    intro a1 na1 a2 a3 a4 ha1 h
    rw [l_X1_firstNotSaid_12.eq_1] at h
    cases h
  | succ n ih =>
    intro a1 na1 a2 a3 a4 ha1 h
    rw [l_X1_firstNotSaid_12.eq_2] at h
    refine z_iload 12 hX dX1_firstNotSaid_12 rfl <|
      z_iload_n 14 hX dX1_firstNotSaid_14 rfl <|
      z_icmp_ge 15 41 hX dX1_firstNotSaid_15 rfl h (fun q1 h => ?_) (fun q1 h => ?_)
    · refine z_weak (L' := [some (.ref (zα G 112)), none, some (.int a2), some (.int a3), none]) (zsub_s (zsub_n (zsub_s (zsub_s (zsub_n zsub_0))))) <|
        hK41 _ _ h
    · refine z_aload_n 18 hX dX1_firstNotSaid_18 rfl <|
        z_iload 19 hX dX1_firstNotSaid_19 rfl <|
        z_iald 21 hX dX1_firstNotSaid_21 ha1 h fun x2 _ h =>
        z_aload_n 22 hX dX1_firstNotSaid_22 rfl <|
        zgX1_18 23 hX dX1_firstNotSaid_23 (rfl : shp 112 = (1, 0)) <|
        z_iload 26 hX dX1_firstNotSaid_26 rfl <|
        z_iald 28 hX dX1_firstNotSaid_28 (rfl : shp 115 = (20, 48)) h fun x3 _ h =>
        z_icmp_eq 29 35 hX dX1_firstNotSaid_29 rfl h (fun q4 h => ?_) (fun q4 h => ?_)
      · refine z_iincG 35 (fun x5 => [some (.ref (zα G 112)), some (.ref (zα G a1)), some (.int a2), some (.int a3), some (.int x5)]) hX dX1_firstNotSaid_35 rfl zki1 rfl (fun _ => rfl) h fun x5 h =>
          z_goto 38 12 hX dX1_firstNotSaid_38 rfl <|
          ih _ _ _ _ _ ha1 h
      · refine z_weak (L' := [none, none, none, none, some (.int a4)]) (zsub_n (zsub_n (zsub_n (zsub_n (zsub_s zsub_0))))) <|
          hK32 _ h
def f_X1_firstNotSaid (a1 : Nat) (na1 : Nat) (a2 : Int32) (w : zW) : Option Int32 :=
  zlet (if (w 112 3) < a2 then (w 112 3) else a2) fun x1 =>
  l_X1_firstNotSaid_12 w (fun k32_a4 =>
    some k32_a4) (fun k41_a2 k41_a3 =>
    if k41_a2 = (w 112 3) then
      some (mI 1)
    else
      some k41_a3) zfuel a1 na1 a2 x1 (nI 0)
theorem c_X1_firstNotSaid {G : zG} {l : Launch} (hG : zgood G) {w : zW} {re : Int32} {a1 : Nat} {na1 : Nat} {a2 : Int32} (ha1 : shp a1 = (20, na1)) (h : f_X1_firstNotSaid a1 na1 a2 w = some re) : zMet G l yX1_firstNotSaid cX1_firstNotSaid 5 (some .int) 1 [.ref (zα G 112), .ref (zα G a1), .int a2] w (some (.int re)) w := by
  refine zMet_of (L0 := [some (.ref (zα G 112)), some (.ref (zα G a1)), some (.int a2), none, none]) hG zplX1 (Nat.le_of_ble_eq_true rfl) rfl rfl (fun X hl hX hEI hEV hEA => ?_)
  subst hl
  have hX : zOk G X cX1_firstNotSaid 5 RX1 1 := hX
  have hE := hEI _ _ rfl rfl
  rw [f_X1_firstNotSaid] at h
  refine z_iload_n 0 hX dX1_firstNotSaid_0 rfl <|
    z_aload_n 1 hX dX1_firstNotSaid_1 rfl <|
    zgX1_60 2 hX dX1_firstNotSaid_2 (rfl : shp 112 = (1, 0)) <|
    z_mmin 5 hX dX1_firstNotSaid_5 zw537 zw538 zw86 zw539 rfl (Nat.le_of_ble_eq_true rfl) (Nat.le_of_ble_eq_true rfl) <|
    z_top h fun x1 h =>
    z_istore_n 8 [some (.ref (zα G 112)), some (.ref (zα G a1)), some (.int a2), some (.int x1), none] hX dX1_firstNotSaid_8 (Nat.le_of_ble_eq_true rfl) rfl rfl <|
    z_iconst 9 hX dX1_firstNotSaid_9 zki0 <|
    z_istore 10 [some (.ref (zα G 112)), some (.ref (zα G a1)), some (.int a2), some (.int x1), some (.int (nI 0))] hX dX1_firstNotSaid_10 (Nat.le_of_ble_eq_true rfl) rfl rfl <|
    l_X1_firstNotSaid_12z hX hE (fun k32_a4 h => ?_) (fun k41_a2 k41_a3 h => ?_) _ _ _ _ _ _ ha1 h
  · refine z_iload 32 hX dX1_firstNotSaid_32 rfl <|
      z_endI 34 hE rfl h dX1_firstNotSaid_34
  · refine z_iload_n 41 hX dX1_firstNotSaid_41 rfl <|
      z_aload_n 42 hX dX1_firstNotSaid_42 rfl <|
      zgX1_60 43 hX dX1_firstNotSaid_43 (rfl : shp 112 = (1, 0)) <|
      z_icmp_ne 46 53 hX dX1_firstNotSaid_46 rfl h (fun q202 h => ?_) (fun q202 h => ?_)
    · refine z_iload_n 53 hX dX1_firstNotSaid_53 rfl <|
        z_endI 54 hE rfl h dX1_firstNotSaid_54
    · refine z_iconst 49 hX dX1_firstNotSaid_49 zkim1 <|
        z_goto 50 54 hX dX1_firstNotSaid_50 rfl <|
        z_endI 54 hE rfl h dX1_firstNotSaid_54
def l_X1_waysInto_5 (w : zW) (K44 : Int32 → Option Int32) : Nat → Int32 → Int32 → Int32 → Int32 → Option Int32
  | 0, _, _, _, _ => none
  | n + 1, a1, a2, a3, a4 =>
    if a4 < (nI 5) then
      ztld 2 5 a1 fun x2 =>
      if (x2 &&& ((nI 1) <<< (a4 &&& 31))) = nI 0 then
        zlet (a4 + nI 1) fun x4 =>
        (l_X1_waysInto_5 w K44 n) a1 a2 a3 x4
      else
        zld w 114 245 ((a2 * (nI 5)) + a4) fun x5 =>
        zlet (a3 + x5) fun x6 =>
        zlet (a4 + nI 1) fun x7 =>
        (l_X1_waysInto_5 w K44 n) a1 a2 x6 x7
    else
      K44 a3
theorem l_X1_waysInto_5z {K44 : Int32 → Option Int32} {G : zG} {X : zX} {w : zW} {re : Int32} (hX : zOk G X cX1_waysInto 5 RX1 0) (hE : zEI G X cX1_waysInto .int re w) (hK44 : ∀ (a3 : Int32) , K44 a3 = some re → zZ G X w 44 [none, none, none, some (.int a3), none] []) : ∀ (n : Nat) (a1 : Int32) (a2 : Int32) (a3 : Int32) (a4 : Int32) , l_X1_waysInto_5 w K44 n a1 a2 a3 a4 = some re → zZ G X w 5 [some (.ref (zα G 112)), some (.int a1), some (.int a2), some (.int a3), some (.int a4)] [] := by
  intro n
  induction n with
  | zero =>
    intro a1 a2 a3 a4  h
    rw [l_X1_waysInto_5.eq_1] at h
    cases h
  | succ n ih =>
    intro a1 a2 a3 a4  h
    rw [l_X1_waysInto_5.eq_2] at h
    refine z_iload 5 hX dX1_waysInto_5 rfl <|
      z_iconst 7 hX dX1_waysInto_7 zki5 <|
      z_icmp_ge 8 44 hX dX1_waysInto_8 rfl h (fun q1 h => ?_) (fun q1 h => ?_)
    · refine z_weak (L' := [none, none, none, some (.int a3), none]) (zsub_n (zsub_n (zsub_n (zsub_s (zsub_n zsub_0))))) <|
        hK44 _ h
    · refine z_gets (C := RX11) 11 hX dX1_waysInto_11 zSz2 (Or.inr ⟨rfl, rfl, by decide +kernel⟩) <|
        z_iload_n 14 hX dX1_waysInto_14 rfl <|
        z_sald 15 hX dX1_waysInto_15 zSt2 h fun x2 h =>
        z_iconst 16 hX dX1_waysInto_16 zki1 <|
        z_iload 17 hX dX1_waysInto_17 rfl <|
        z_ishl 19 hX dX1_waysInto_19 <|
        z_iand 20 hX dX1_waysInto_20 <|
        z_if_eq 21 38 hX dX1_waysInto_21 rfl h (fun q3 h => ?_) (fun q3 h => ?_)
      · refine z_iincG 38 (fun x4 => [some (.ref (zα G 112)), some (.int a1), some (.int a2), some (.int a3), some (.int x4)]) hX dX1_waysInto_38 rfl zki1 rfl (fun _ => rfl) h fun x4 h =>
          z_goto 41 5 hX dX1_waysInto_41 rfl <|
          ih _ _ _ _ h
      · refine z_iload_n 24 hX dX1_waysInto_24 rfl <|
          z_aload_n 25 hX dX1_waysInto_25 rfl <|
          zgX1_15 26 hX dX1_waysInto_26 (rfl : shp 112 = (1, 0)) <|
          z_iload_n 29 hX dX1_waysInto_29 rfl <|
          z_iconst 30 hX dX1_waysInto_30 zki5 <|
          z_imul 31 hX dX1_waysInto_31 <|
          z_iload 32 hX dX1_waysInto_32 rfl <|
          z_iadd 34 hX dX1_waysInto_34 <|
          z_iald 35 hX dX1_waysInto_35 (rfl : shp 114 = (20, 245)) h fun x5 _ h =>
          z_iadd 36 hX dX1_waysInto_36 <|
          z_top h fun x6 h =>
          z_istore_n 37 [some (.ref (zα G 112)), some (.int a1), some (.int a2), some (.int x6), some (.int a4)] hX dX1_waysInto_37 (Nat.le_of_ble_eq_true rfl) rfl rfl <|
          z_iincG 38 (fun x7 => [some (.ref (zα G 112)), some (.int a1), some (.int a2), some (.int x6), some (.int x7)]) hX dX1_waysInto_38 rfl zki1 rfl (fun _ => rfl) h fun x7 h =>
          z_goto 41 5 hX dX1_waysInto_41 rfl <|
          ih _ _ _ _ h
def f_X1_waysInto (a1 : Int32) (a2 : Int32) (w : zW) : Option Int32 :=
  l_X1_waysInto_5 w (fun k44_a3 =>
    some k44_a3) zfuel a1 a2 (nI 0) (nI 0)
theorem c_X1_waysInto {G : zG} {l : Launch} (hG : zgood G) {w : zW} {re : Int32} {a1 : Int32} {a2 : Int32}  (h : f_X1_waysInto a1 a2 w = some re) : zMet G l yX1_waysInto cX1_waysInto 5 (some .int) 0 [.ref (zα G 112), .int a1, .int a2] w (some (.int re)) w := by
  refine zMet_of (L0 := [some (.ref (zα G 112)), some (.int a1), some (.int a2), none, none]) hG zplX1 (Nat.le_of_ble_eq_true rfl) rfl rfl (fun X hl hX hEI hEV hEA => ?_)
  subst hl
  have hX : zOk G X cX1_waysInto 5 RX1 0 := hX
  have hE := hEI _ _ rfl rfl
  rw [f_X1_waysInto] at h
  refine z_iconst 0 hX dX1_waysInto_0 zki0 <|
    z_istore_n 1 [some (.ref (zα G 112)), some (.int a1), some (.int a2), some (.int (nI 0)), none] hX dX1_waysInto_1 (Nat.le_of_ble_eq_true rfl) rfl rfl <|
    z_iconst 2 hX dX1_waysInto_2 zki0 <|
    z_istore 3 [some (.ref (zα G 112)), some (.int a1), some (.int a2), some (.int (nI 0)), some (.int (nI 0))] hX dX1_waysInto_3 (Nat.le_of_ble_eq_true rfl) rfl rfl <|
    l_X1_waysInto_5z hX hE (fun k44_a3 h => ?_) _ _ _ _ _ h
  · refine z_iload_n 44 hX dX1_waysInto_44 rfl <|
      z_endI 45 hE rfl h dX1_waysInto_45
def l_X1_countFromBegin_28 (K113 : Int32 → zW → Option zW) : Nat → Int32 → Int32 → zW → Option zW
  | 0, _, _, _ => none
  | n + 1, a3, a4, w =>
    if a4 < (w 3 1) then
      zguard (zin a4 12) (
      zb (f_X10_standsAt (5 + 2 * a4.toNatClampNeg) a3 w) fun x4 =>
      if x4 = nI 0 then
        zlet (a4 + nI 1) fun x6 =>
        (l_X1_countFromBegin_28 K113 n) a3 x6 w
      else
        ztld 1 5 (w (5 + 2 * a4.toNatClampNeg) 1) fun x7 =>
        zlet (((a3 + (w (5 + 2 * a4.toNatClampNeg) 2)) * (nI 5)) + x7) fun x8 =>
        zld w 114 245 x8 fun x9 =>
        zb (f_X1_waysInto (w (5 + 2 * a4.toNatClampNeg) 1) a3 w) fun x11 =>
        zsto w 114 245 x8 (if (x9 + x11) < (nI 999999) then (x9 + x11) else (nI 999999)) fun w1 =>
        zlet (a4 + nI 1) fun x12 =>
        (l_X1_countFromBegin_28 K113 n) a3 x12 w1)
    else
      K113 a3 w
theorem l_X1_countFromBegin_28z {K113 : Int32 → zW → Option zW} {G : zG} {X : zX} {we : zW} (hX : zOk G X cX1_countFromBegin 7 RX1 1) (hE : zEV G X cX1_countFromBegin we) (hK113 : ∀ (a3 : Int32) (w3 : zW) , K113 a3 w3 = some we → zZ G X w3 113 [some (.ref (zα G 112)), some (.ref (zα G 3)), some (.ref (zα G 116)), some (.int a3), none, none, none] []) : ∀ (n : Nat) (a3 : Int32) (a4 : Int32) (w : zW) , l_X1_countFromBegin_28 K113 n a3 a4 w = some we → zZ G X w 28 [some (.ref (zα G 112)), some (.ref (zα G 3)), some (.ref (zα G 116)), some (.int a3), some (.int a4), none, none] [] := by
  intro n
  induction n with
  | zero =>
    intro a3 a4 w  h
    rw [l_X1_countFromBegin_28.eq_1] at h
    cases h
  | succ n ih =>
    intro a3 a4 w  h
    rw [l_X1_countFromBegin_28.eq_2] at h
    refine z_iload 28 hX dX1_countFromBegin_28 rfl <|
      z_aload_n 30 hX dX1_countFromBegin_30 rfl <|
      zgX1_33 31 hX dX1_countFromBegin_31 (rfl : shp 3 = (7, 0)) <|
      z_icmp_ge 34 113 hX dX1_countFromBegin_34 rfl h (fun q1 h => ?_) (fun q1 h => ?_)
    · refine z_weak (L' := [some (.ref (zα G 112)), some (.ref (zα G 3)), some (.ref (zα G 116)), some (.int a3), none, none, none]) (zsub_s (zsub_s (zsub_s (zsub_s (zsub_n (zsub_n (zsub_n zsub_0))))))) <|
        hK113 _ _ h
    · refine z_aload_n 37 hX dX1_countFromBegin_37 rfl <|
        zgX1_36 38 hX dX1_countFromBegin_38 (rfl : shp 3 = (7, 0)) <|
        z_iload 41 hX dX1_countFromBegin_41 rfl <|
        z_aald 43 hX dX1_countFromBegin_43 (rfl : shp 4 = (22, 12)) (by decide) h fun q2 h =>
        z_astore 44 [some (.ref (zα G 112)), some (.ref (zα G 3)), some (.ref (zα G 116)), some (.int a3), some (.int a4), some (.ref (zα G (5 + 2 * a4.toNatClampNeg))), none] hX dX1_countFromBegin_44 (Nat.le_of_ble_eq_true rfl) rfl rfl <|
        z_aload 46 hX dX1_countFromBegin_46 rfl <|
        z_aload_n 48 hX dX1_countFromBegin_48 rfl <|
        z_iload_n 49 hX dX1_countFromBegin_49 rfl <|
        zb1 h fun x4 r3 h => zcX1_52 50 [.ref (zα G 116), .int a3] [] hX dX1_countFromBegin_50 (c_X10_standsAt (zgd0 hX) (ze22 _ (rfl : shp 4 = (22, 12)) _ q2) r3) (ze22 _ (rfl : shp 4 = (22, 12)) _ q2) rfl rfl rfl (Nat.le_of_ble_eq_true rfl) (Nat.le_of_ble_eq_true rfl) <|
        z_if_eq 53 107 hX dX1_countFromBegin_53 rfl h (fun q5 h => ?_) (fun q5 h => ?_)
      · refine z_iincG 107 (fun x6 => [some (.ref (zα G 112)), some (.ref (zα G 3)), some (.ref (zα G 116)), some (.int a3), some (.int x6), some (.ref (zα G (5 + 2 * a4.toNatClampNeg))), none]) hX dX1_countFromBegin_107 rfl zki1 rfl (fun _ => rfl) h fun x6 h =>
          z_goto 110 28 hX dX1_countFromBegin_110 rfl <|
          z_weak (L' := [some (.ref (zα G 112)), some (.ref (zα G 3)), some (.ref (zα G 116)), some (.int a3), some (.int x6), none, none]) (zsub_s (zsub_s (zsub_s (zsub_s (zsub_s (zsub_n (zsub_n zsub_0))))))) <|
          ih _ _ _ h
      · refine z_iload_n 56 hX dX1_countFromBegin_56 rfl <|
          z_aload 57 hX dX1_countFromBegin_57 rfl <|
          zgX1_56 59 hX dX1_countFromBegin_59 (ze22 _ (rfl : shp 4 = (22, 12)) _ q2) <|
          z_iadd 62 hX dX1_countFromBegin_62 <|
          z_iconst 63 hX dX1_countFromBegin_63 zki5 <|
          z_imul 64 hX dX1_countFromBegin_64 <|
          z_gets (C := RX11) 65 hX dX1_countFromBegin_65 zSz1 (Or.inr ⟨rfl, rfl, by decide +kernel⟩) <|
          z_aload 68 hX dX1_countFromBegin_68 rfl <|
          zgX1_47 70 hX dX1_countFromBegin_70 (ze22 _ (rfl : shp 4 = (22, 12)) _ q2) <|
          z_sald 73 hX dX1_countFromBegin_73 zSt1 h fun x7 h =>
          z_iadd 74 hX dX1_countFromBegin_74 <|
          z_top h fun x8 h =>
          z_istore 75 [some (.ref (zα G 112)), some (.ref (zα G 3)), some (.ref (zα G 116)), some (.int a3), some (.int a4), some (.ref (zα G (5 + 2 * a4.toNatClampNeg))), some (.int x8)] hX dX1_countFromBegin_75 (Nat.le_of_ble_eq_true rfl) rfl rfl <|
          z_aload_n 77 hX dX1_countFromBegin_77 rfl <|
          zgX1_15 78 hX dX1_countFromBegin_78 (rfl : shp 112 = (1, 0)) <|
          z_iload 81 hX dX1_countFromBegin_81 rfl <|
          z_ldc 83 hX dX1_countFromBegin_83 zw532 zkl999999 <|
          z_aload_n 85 hX dX1_countFromBegin_85 rfl <|
          zgX1_15 86 hX dX1_countFromBegin_86 (rfl : shp 112 = (1, 0)) <|
          z_iload 89 hX dX1_countFromBegin_89 rfl <|
          z_iald 91 hX dX1_countFromBegin_91 (rfl : shp 114 = (20, 245)) h fun x9 _ h =>
          z_aload_n 92 hX dX1_countFromBegin_92 rfl <|
          z_aload 93 hX dX1_countFromBegin_93 rfl <|
          zgX1_47 95 hX dX1_countFromBegin_95 (ze22 _ (rfl : shp 4 = (22, 12)) _ q2) <|
          z_iload_n 98 hX dX1_countFromBegin_98 rfl <|
          zb1 h fun x11 r10 h => zcX1_78 99 [.int (w (5 + 2 * a4.toNatClampNeg) 1), .int a3] [.int x9, .int (nI 999999), .int x8, .ref (zα G 114)] hX dX1_countFromBegin_99 (c_X1_waysInto (zgd0 hX) r10) (rfl : shp 112 = (1, 0)) rfl rfl rfl (Nat.le_of_ble_eq_true rfl) (Nat.le_of_ble_eq_true rfl) <|
          z_iadd 102 hX dX1_countFromBegin_102 <|
          z_mmin 103 hX dX1_countFromBegin_103 zw537 zw538 zw86 zw539 rfl (Nat.le_of_ble_eq_true rfl) (Nat.le_of_ble_eq_true rfl) <|
          z_iast 106 hX dX1_countFromBegin_106 (rfl : shp 114 = (20, 245)) h fun w1 h =>
          z_iincG 107 (fun x12 => [some (.ref (zα G 112)), some (.ref (zα G 3)), some (.ref (zα G 116)), some (.int a3), some (.int x12), some (.ref (zα G (5 + 2 * a4.toNatClampNeg))), some (.int x8)]) hX dX1_countFromBegin_107 rfl zki1 rfl (fun _ => rfl) h fun x12 h =>
          z_goto 110 28 hX dX1_countFromBegin_110 rfl <|
          z_weak (L' := [some (.ref (zα G 112)), some (.ref (zα G 3)), some (.ref (zα G 116)), some (.int a3), some (.int x12), none, none]) (zsub_s (zsub_s (zsub_s (zsub_s (zsub_s (zsub_n (zsub_n zsub_0))))))) <|
          ih _ _ _ h
def l_X1_countFromBegin_17 (K119 : zW → Option zW) : Nat → Int32 → zW → Option zW
  | 0, _, _ => none
  | n + 1, a3, w =>
    if a3 < (w 116 1) then
      l_X1_countFromBegin_28 (fun k113_a3 w11 =>
        zlet (k113_a3 + nI 1) fun x102 =>
        (l_X1_countFromBegin_17 K119 n) x102 w11) zfuel a3 (nI 0) w
    else
      K119 w
theorem l_X1_countFromBegin_17z {K119 : zW → Option zW} {G : zG} {X : zX} {we : zW} (hX : zOk G X cX1_countFromBegin 7 RX1 1) (hE : zEV G X cX1_countFromBegin we) (hK119 : ∀ (w3 : zW) , K119 w3 = some we → zZ G X w3 119 [none, none, none, none, none, none, none] []) : ∀ (n : Nat) (a3 : Int32) (w : zW) , l_X1_countFromBegin_17 K119 n a3 w = some we → zZ G X w 17 [some (.ref (zα G 112)), some (.ref (zα G 3)), some (.ref (zα G 116)), some (.int a3), none, none, none] [] := by
  intro n
  induction n with
  | zero =>
    intro a3 w  h
    rw [l_X1_countFromBegin_17.eq_1] at h
    cases h
  | succ n ih =>
    intro a3 w  h
    rw [l_X1_countFromBegin_17.eq_2] at h
    refine z_iload_n 17 hX dX1_countFromBegin_17 rfl <|
      z_aload_n 18 hX dX1_countFromBegin_18 rfl <|
      zgX1_27 19 hX dX1_countFromBegin_19 (rfl : shp 116 = (3, 0)) <|
      z_icmp_ge 22 119 hX dX1_countFromBegin_22 rfl h (fun q1 h => ?_) (fun q1 h => ?_)
    · refine z_weak (L' := [none, none, none, none, none, none, none]) (zsub_n (zsub_n (zsub_n (zsub_n (zsub_n (zsub_n (zsub_n zsub_0))))))) <|
        hK119 _ h
    · refine z_iconst 25 hX dX1_countFromBegin_25 zki0 <|
        z_istore 26 [some (.ref (zα G 112)), some (.ref (zα G 3)), some (.ref (zα G 116)), some (.int a3), some (.int (nI 0)), none, none] hX dX1_countFromBegin_26 (Nat.le_of_ble_eq_true rfl) rfl rfl <|
        l_X1_countFromBegin_28z hX hE (fun k113_a3 w11 h => ?_) _ _ _ _ h
      · refine z_iincG 113 (fun x102 => [some (.ref (zα G 112)), some (.ref (zα G 3)), some (.ref (zα G 116)), some (.int x102), none, none, none]) hX dX1_countFromBegin_113 rfl zki1 rfl (fun _ => rfl) h fun x102 h =>
          z_goto 116 17 hX dX1_countFromBegin_116 rfl <|
          ih _ _ h
def f_X1_countFromBegin  (w : zW) : Option zW :=
  zb (f_J7_fill_53178 114 245 (nI 0) w) fun w1 =>
  zlet (zupd w1 114 0 (nI 1)) fun w2 =>
  l_X1_countFromBegin_17 (fun w13 =>
    some w13) zfuel (nI 0) w2
theorem c_X1_countFromBegin {G : zG} {l : Launch} (hG : zgood G) {w : zW} {we : zW}   (h : f_X1_countFromBegin w = some we) : zMet G l yX1_countFromBegin cX1_countFromBegin 7 none 1 [.ref (zα G 112), .ref (zα G 3), .ref (zα G 116)] w none we := by
  refine zMet_of (L0 := [some (.ref (zα G 112)), some (.ref (zα G 3)), some (.ref (zα G 116)), none, none, none, none]) hG zplX1 (Nat.le_of_ble_eq_true rfl) rfl rfl (fun X hl hX hEI hEV hEA => ?_)
  subst hl
  have hX : zOk G X cX1_countFromBegin 7 RX1 1 := hX
  have hE := hEV rfl rfl
  rw [f_X1_countFromBegin] at h
  refine z_aload_n 0 hX dX1_countFromBegin_0 rfl <|
    zgX1_15 1 hX dX1_countFromBegin_1 (rfl : shp 112 = (1, 0)) <|
    z_iconst 4 hX dX1_countFromBegin_4 zki0 <|
    zb1 h fun w1 r1 h => zcX1_21 5 [.ref (zα G 114), .int (nI 0)] [] hX dX1_countFromBegin_5 (c_J7_fill_53178 (zgd0 hX) (rfl : shp 114 = (20, 245)) r1) rfl rfl rfl (Nat.le_of_ble_eq_true rfl) (Nat.le_of_ble_eq_true rfl) <|
    z_aload_n 8 hX dX1_countFromBegin_8 rfl <|
    zgX1_15 9 hX dX1_countFromBegin_9 (rfl : shp 112 = (1, 0)) <|
    z_iconst 12 hX dX1_countFromBegin_12 zki0 <|
    z_iconst 13 hX dX1_countFromBegin_13 zki1 <|
    z_iastc (j := 0) 14 hX dX1_countFromBegin_14 (rfl : shp 114 = (20, 245)) (zink 0 245 (by decide) (by decide)) (nI_clamp (by decide)) <|
    z_w h fun w2 h =>
    z_iconst 15 hX dX1_countFromBegin_15 zki0 <|
    z_istore_n 16 [some (.ref (zα G 112)), some (.ref (zα G 3)), some (.ref (zα G 116)), some (.int (nI 0)), none, none, none] hX dX1_countFromBegin_16 (Nat.le_of_ble_eq_true rfl) rfl rfl <|
    l_X1_countFromBegin_17z hX hE (fun w13 h => ?_) _ _ _ h
  · refine z_endV 119 hE h dX1_countFromBegin_119
def f_X1_countWays  (w : zW) : Option (Int32 × zW) :=
  zb (f_X1_countFromBegin w) fun w1 =>
  zld w1 114 245 (((w1 116 1) * (nI 5)) + (nI 4)) fun x2 =>
  some (x2, w1)
theorem c_X1_countWays {G : zG} {l : Launch} (hG : zgood G) {w : zW} {re : Int32} {we : zW}   (h : f_X1_countWays w = some (re, we)) : zMet G l yX1_countWays cX1_countWays 3 (some .int) 2 [.ref (zα G 112), .ref (zα G 3), .ref (zα G 116)] w (some (.int re)) we := by
  refine zMet_of (L0 := [some (.ref (zα G 112)), some (.ref (zα G 3)), some (.ref (zα G 116))]) hG zplX1 (Nat.le_of_ble_eq_true rfl) rfl rfl (fun X hl hX hEI hEV hEA => ?_)
  subst hl
  have hX : zOk G X cX1_countWays 3 RX1 2 := hX
  have hE := hEI _ _ rfl rfl
  rw [f_X1_countWays] at h
  refine z_aload_n 0 hX dX1_countWays_0 rfl <|
    z_aload_n 1 hX dX1_countWays_1 rfl <|
    z_aload_n 2 hX dX1_countWays_2 rfl <|
    zb1 h fun w1 r1 h => zcX1_81 3 [.ref (zα G 3), .ref (zα G 116)] [] hX dX1_countWays_3 (c_X1_countFromBegin (zgd0 hX) r1) (rfl : shp 112 = (1, 0)) rfl rfl rfl (Nat.le_of_ble_eq_true rfl) (Nat.le_of_ble_eq_true rfl) <|
    z_aload_n 6 hX dX1_countWays_6 rfl <|
    zgX1_15 7 hX dX1_countWays_7 (rfl : shp 112 = (1, 0)) <|
    z_aload_n 10 hX dX1_countWays_10 rfl <|
    zgX1_27 11 hX dX1_countWays_11 (rfl : shp 116 = (3, 0)) <|
    z_iconst 14 hX dX1_countWays_14 zki5 <|
    z_imul 15 hX dX1_countWays_15 <|
    z_iconst 16 hX dX1_countWays_16 zki4 <|
    z_iadd 17 hX dX1_countWays_17 <|
    z_iald 18 hX dX1_countWays_18 (rfl : shp 114 = (20, 245)) h fun x2 _ h =>
    z_endI2 19 hE rfl h dX1_countWays_19
def l_X1_stuckAt_11 (K45 : Int32 → zW → Option (Int32 × zW)) : Nat → Int32 → Int32 → zW → Option (Int32 × zW)
  | 0, _, _, _ => none
  | n + 1, a3, a4, w =>
    if a4 < (((w 116 1) + (nI 1)) * (nI 5)) then
      zld w 114 245 a4 fun x2 =>
      if nI 0 < x2 then
        zlet (a4 / (nI 5)) fun x5 =>
        zlet (a4 + nI 1) fun x6 =>
        (l_X1_stuckAt_11 K45 n) x5 x6 w
      else
        zlet (a4 + nI 1) fun x4 =>
        (l_X1_stuckAt_11 K45 n) a3 x4 w
    else
      K45 a3 w
theorem l_X1_stuckAt_11z {K45 : Int32 → zW → Option (Int32 × zW)} {G : zG} {X : zX} {re : Int32} {we : zW} (hX : zOk G X cX1_stuckAt 5 RX1 2) (hE : zEI G X cX1_stuckAt .int re we) (hK45 : ∀ (a3 : Int32) (w3 : zW) , K45 a3 w3 = some (re, we) → zZ G X w3 45 [none, none, none, some (.int a3), none] []) : ∀ (n : Nat) (a3 : Int32) (a4 : Int32) (w : zW) , l_X1_stuckAt_11 K45 n a3 a4 w = some (re, we) → zZ G X w 11 [some (.ref (zα G 112)), none, some (.ref (zα G 116)), some (.int a3), some (.int a4)] [] := by
  intro n
  induction n with
  | zero =>
    intro a3 a4 w  h
    rw [l_X1_stuckAt_11.eq_1] at h
    cases h
  | succ n ih =>
    intro a3 a4 w  h
    rw [l_X1_stuckAt_11.eq_2] at h
    refine z_iload 11 hX dX1_stuckAt_11 rfl <|
      z_aload_n 13 hX dX1_stuckAt_13 rfl <|
      zgX1_27 14 hX dX1_stuckAt_14 (rfl : shp 116 = (3, 0)) <|
      z_iconst 17 hX dX1_stuckAt_17 zki1 <|
      z_iadd 18 hX dX1_stuckAt_18 <|
      z_iconst 19 hX dX1_stuckAt_19 zki5 <|
      z_imul 20 hX dX1_stuckAt_20 <|
      z_icmp_ge 21 45 hX dX1_stuckAt_21 rfl h (fun q1 h => ?_) (fun q1 h => ?_)
    · refine z_weak (L' := [none, none, none, some (.int a3), none]) (zsub_n (zsub_n (zsub_n (zsub_s (zsub_n zsub_0))))) <|
        hK45 _ _ h
    · refine z_aload_n 24 hX dX1_stuckAt_24 rfl <|
        zgX1_15 25 hX dX1_stuckAt_25 (rfl : shp 112 = (1, 0)) <|
        z_iload 28 hX dX1_stuckAt_28 rfl <|
        z_iald 30 hX dX1_stuckAt_30 (rfl : shp 114 = (20, 245)) h fun x2 _ h =>
        z_if_le 31 39 hX dX1_stuckAt_31 rfl h (fun q3 h => ?_) (fun q3 h => ?_)
      · refine z_iincG 39 (fun x4 => [some (.ref (zα G 112)), none, some (.ref (zα G 116)), some (.int a3), some (.int x4)]) hX dX1_stuckAt_39 rfl zki1 rfl (fun _ => rfl) h fun x4 h =>
          z_goto 42 11 hX dX1_stuckAt_42 rfl <|
          ih _ _ _ h
      · refine z_iload 34 hX dX1_stuckAt_34 rfl <|
          z_iconst 36 hX dX1_stuckAt_36 zki5 <|
          z_idivc 37 hX dX1_stuckAt_37 (by decide) <|
          z_top h fun x5 h =>
          z_istore_n 38 [some (.ref (zα G 112)), none, some (.ref (zα G 116)), some (.int x5), some (.int a4)] hX dX1_stuckAt_38 (Nat.le_of_ble_eq_true rfl) rfl rfl <|
          z_iincG 39 (fun x6 => [some (.ref (zα G 112)), none, some (.ref (zα G 116)), some (.int x5), some (.int x6)]) hX dX1_stuckAt_39 rfl zki1 rfl (fun _ => rfl) h fun x6 h =>
          z_goto 42 11 hX dX1_stuckAt_42 rfl <|
          ih _ _ _ h
def f_X1_stuckAt  (w : zW) : Option (Int32 × zW) :=
  zb (f_X1_countFromBegin w) fun w1 =>
  l_X1_stuckAt_11 (fun k45_a3 w12 =>
    some (k45_a3, w12)) zfuel (nI 0) (nI 0) w1
theorem c_X1_stuckAt {G : zG} {l : Launch} (hG : zgood G) {w : zW} {re : Int32} {we : zW}   (h : f_X1_stuckAt w = some (re, we)) : zMet G l yX1_stuckAt cX1_stuckAt 5 (some .int) 2 [.ref (zα G 112), .ref (zα G 3), .ref (zα G 116)] w (some (.int re)) we := by
  refine zMet_of (L0 := [some (.ref (zα G 112)), some (.ref (zα G 3)), some (.ref (zα G 116)), none, none]) hG zplX1 (Nat.le_of_ble_eq_true rfl) rfl rfl (fun X hl hX hEI hEV hEA => ?_)
  subst hl
  have hX : zOk G X cX1_stuckAt 5 RX1 2 := hX
  have hE := hEI _ _ rfl rfl
  rw [f_X1_stuckAt] at h
  refine z_aload_n 0 hX dX1_stuckAt_0 rfl <|
    z_aload_n 1 hX dX1_stuckAt_1 rfl <|
    z_aload_n 2 hX dX1_stuckAt_2 rfl <|
    zb1 h fun w1 r1 h => zcX1_81 3 [.ref (zα G 3), .ref (zα G 116)] [] hX dX1_stuckAt_3 (c_X1_countFromBegin (zgd0 hX) r1) (rfl : shp 112 = (1, 0)) rfl rfl rfl (Nat.le_of_ble_eq_true rfl) (Nat.le_of_ble_eq_true rfl) <|
    z_iconst 6 hX dX1_stuckAt_6 zki0 <|
    z_istore_n 7 [some (.ref (zα G 112)), some (.ref (zα G 3)), some (.ref (zα G 116)), some (.int (nI 0)), none] hX dX1_stuckAt_7 (Nat.le_of_ble_eq_true rfl) rfl rfl <|
    z_iconst 8 hX dX1_stuckAt_8 zki0 <|
    z_istore 9 [some (.ref (zα G 112)), some (.ref (zα G 3)), some (.ref (zα G 116)), some (.int (nI 0)), some (.int (nI 0))] hX dX1_stuckAt_9 (Nat.le_of_ble_eq_true rfl) rfl rfl <|
    z_weak (L' := [some (.ref (zα G 112)), none, some (.ref (zα G 116)), some (.int (nI 0)), some (.int (nI 0))]) (zsub_s (zsub_n (zsub_s (zsub_s (zsub_s zsub_0))))) <|
    l_X1_stuckAt_11z hX hE (fun k45_a3 w12 h => ?_) _ _ _ _ h
  · refine z_iload_n 45 hX dX1_stuckAt_45 rfl <|
      z_endI2 46 hE rfl h dX1_stuckAt_46
def j_X10_unlikeAt_17 (w : zW)   : Option Int32 :=
  some (nI 1000000)
theorem j_X10_unlikeAt_17z {G : zG} {X : zX} {w : zW} {re : Int32}  (hX : zOk G X cX10_unlikeAt 5 RX10 0) (hE : zEI G X cX10_unlikeAt .int re w)  (h : j_X10_unlikeAt_17 w = some re) : zZ G X w 17 [none, none, none, none, none] [] := by
  rw [j_X10_unlikeAt_17] at h
  refine z_ldc 17 hX dX10_unlikeAt_17 zw820 zkl1000000 <|
    z_endI 19 hE rfl h dX10_unlikeAt_19
def j_X10_unlikeAt_59 (rc : Nat → Int32 → Int32 → Int32 → Option Int32) (K67 : Int32 → Option Int32) (w : zW) (a0 : Nat) (a2 : Int32) (a4 : Int32) (b0 : Int32) (b1 : Int32)  : Option Int32 :=
  zlet (b0 + b1) fun x1 =>
  zlet (a4 + nI 1) fun x2 =>
  rc a0 a2 x1 x2
theorem j_X10_unlikeAt_59z {rc : Nat → Int32 → Int32 → Int32 → Option Int32} {K67 : Int32 → Option Int32} {G : zG} {X : zX} {w : zW} {re : Int32} {a0 : Nat} {a2 : Int32} {a4 : Int32} {b0 : Int32} {b1 : Int32} (hX : zOk G X cX10_unlikeAt 5 RX10 0) (hE : zEI G X cX10_unlikeAt .int re w) (hrc : ∀ (a0 : Nat) (a2 : Int32) (a3 : Int32) (a4 : Int32) (ha0 : shp a0 = (10, 0)), rc a0 a2 a3 a4 = some re → zZ G X w 25 [some (.ref (zα G a0)), some (.ref (zα G 116)), some (.int a2), some (.int a3), some (.int a4)] []) (hK67 : ∀ (a3 : Int32) , K67 a3 = some re → zZ G X w 67 [none, none, none, some (.int a3), none] []) (ha0 : shp a0 = (10, 0)) (h : j_X10_unlikeAt_59 rc K67 w a0 a2 a4 b0 b1 = some re) : zZ G X w 59 [some (.ref (zα G a0)), some (.ref (zα G 116)), some (.int a2), none, some (.int a4)] [.int b1, .int b0] := by
  rw [j_X10_unlikeAt_59] at h
  refine z_iadd 59 hX dX10_unlikeAt_59 <|
    z_top h fun x1 h =>
    z_istore_n 60 [some (.ref (zα G a0)), some (.ref (zα G 116)), some (.int a2), some (.int x1), some (.int a4)] hX dX10_unlikeAt_60 (Nat.le_of_ble_eq_true rfl) rfl rfl <|
    z_iincG 61 (fun x2 => [some (.ref (zα G a0)), some (.ref (zα G 116)), some (.int a2), some (.int x1), some (.int x2)]) hX dX10_unlikeAt_61 rfl zki1 rfl (fun _ => rfl) h fun x2 h =>
    z_goto 64 25 hX dX10_unlikeAt_64 rfl <|
    hrc _ _ _ _ ha0 h
def l_X10_unlikeAt_25 (w : zW) (K67 : Int32 → Option Int32) : Nat → Nat → Int32 → Int32 → Int32 → Option Int32
  | 0, _, _, _, _ => none
  | n + 1, a0, a2, a3, a4 =>
    if a4 < (w a0 2) then
      zld w 117 48 (a2 + a4) fun x2 =>
      zld w (a0 + 1) 6 a4 fun x3 =>
      if x2 = x3 then
        j_X10_unlikeAt_59 (l_X10_unlikeAt_25 w K67 n) K67 w a0 a2 a4 a3 (nI 0)
      else
        j_X10_unlikeAt_59 (l_X10_unlikeAt_25 w K67 n) K67 w a0 a2 a4 a3 (nI 1)
    else
      K67 a3
theorem l_X10_unlikeAt_25z {K67 : Int32 → Option Int32} {G : zG} {X : zX} {w : zW} {re : Int32} (hX : zOk G X cX10_unlikeAt 5 RX10 0) (hE : zEI G X cX10_unlikeAt .int re w) (hK67 : ∀ (a3 : Int32) , K67 a3 = some re → zZ G X w 67 [none, none, none, some (.int a3), none] []) : ∀ (n : Nat) (a0 : Nat) (a2 : Int32) (a3 : Int32) (a4 : Int32) (ha0 : shp a0 = (10, 0)), l_X10_unlikeAt_25 w K67 n a0 a2 a3 a4 = some re → zZ G X w 25 [some (.ref (zα G a0)), some (.ref (zα G 116)), some (.int a2), some (.int a3), some (.int a4)] [] := by
  intro n
  induction n with
  | zero =>
    intro a0 a2 a3 a4 ha0 h
    rw [l_X10_unlikeAt_25.eq_1] at h
    cases h
  | succ n ih =>
    intro a0 a2 a3 a4 ha0 h
    rw [l_X10_unlikeAt_25.eq_2] at h
    refine z_iload 25 hX dX10_unlikeAt_25 rfl <|
      z_aload_n 27 hX dX10_unlikeAt_27 rfl <|
      zgX10_19 28 hX dX10_unlikeAt_28 ha0 <|
      z_icmp_ge 31 67 hX dX10_unlikeAt_31 rfl h (fun q1 h => ?_) (fun q1 h => ?_)
    · refine z_weak (L' := [none, none, none, some (.int a3), none]) (zsub_n (zsub_n (zsub_n (zsub_s (zsub_n zsub_0))))) <|
        hK67 _ h
    · refine z_iload_n 34 hX dX10_unlikeAt_34 rfl <|
        z_aload_n 35 hX dX10_unlikeAt_35 rfl <|
        zgX10_31 36 hX dX10_unlikeAt_36 (rfl : shp 116 = (3, 0)) <|
        z_iload_n 39 hX dX10_unlikeAt_39 rfl <|
        z_iload 40 hX dX10_unlikeAt_40 rfl <|
        z_iadd 42 hX dX10_unlikeAt_42 <|
        z_iald 43 hX dX10_unlikeAt_43 (rfl : shp 117 = (20, 48)) h fun x2 _ h =>
        z_aload_n 44 hX dX10_unlikeAt_44 rfl <|
        zgX10_9 45 hX dX10_unlikeAt_45 ha0 <|
        z_iload 48 hX dX10_unlikeAt_48 rfl <|
        z_iald 50 hX dX10_unlikeAt_50 (zr10_letters _ ha0) h fun x3 _ h =>
        z_icmp_eq 51 58 hX dX10_unlikeAt_51 rfl h (fun q4 h => ?_) (fun q4 h => ?_)
      · refine z_iconst 58 hX dX10_unlikeAt_58 zki0 <|
          z_weak (L' := [some (.ref (zα G a0)), some (.ref (zα G 116)), some (.int a2), none, some (.int a4)]) (zsub_s (zsub_s (zsub_s (zsub_n (zsub_s zsub_0))))) <|
          j_X10_unlikeAt_59z hX hE ih hK67 ha0 h
      · refine z_iconst 54 hX dX10_unlikeAt_54 zki1 <|
          z_goto 55 59 hX dX10_unlikeAt_55 rfl <|
          z_weak (L' := [some (.ref (zα G a0)), some (.ref (zα G 116)), some (.int a2), none, some (.int a4)]) (zsub_s (zsub_s (zsub_s (zsub_n (zsub_s zsub_0))))) <|
          j_X10_unlikeAt_59z hX hE ih hK67 ha0 h
def f_X10_unlikeAt (a0 : Nat) (a2 : Int32) (w : zW) : Option Int32 :=
  if a2 < nI 0 then
    j_X10_unlikeAt_17 w
  else
  if ((w 116 1) - a2) < (w a0 2) then
    j_X10_unlikeAt_17 w
  else
    l_X10_unlikeAt_25 w (fun k67_a3 =>
      some k67_a3) zfuel a0 a2 (nI 0) (nI 0)
theorem c_X10_unlikeAt {G : zG} {l : Launch} (hG : zgood G) {w : zW} {re : Int32} {a0 : Nat} {a2 : Int32} (ha0 : shp a0 = (10, 0)) (h : f_X10_unlikeAt a0 a2 w = some re) : zMet G l yX10_unlikeAt cX10_unlikeAt 5 (some .int) 0 [.ref (zα G a0), .ref (zα G 116), .int a2] w (some (.int re)) w := by
  refine zMet_of (L0 := [some (.ref (zα G a0)), some (.ref (zα G 116)), some (.int a2), none, none]) hG zplX10 (Nat.le_of_ble_eq_true rfl) rfl rfl (fun X hl hX hEI hEV hEA => ?_)
  subst hl
  have hX : zOk G X cX10_unlikeAt 5 RX10 0 := hX
  have hE := hEI _ _ rfl rfl
  rw [f_X10_unlikeAt] at h
  refine z_iload_n 0 hX dX10_unlikeAt_0 rfl <|
    z_if_lt 1 17 hX dX10_unlikeAt_1 rfl h (fun q1 h => ?_) (fun q1 h => ?_)
  · refine z_weak (L' := [none, none, none, none, none]) (zsub_n (zsub_n (zsub_n (zsub_n (zsub_n zsub_0))))) <|
      j_X10_unlikeAt_17z hX hE h
  · refine z_aload_n 4 hX dX10_unlikeAt_4 rfl <|
      zgX10_19 5 hX dX10_unlikeAt_5 ha0 <|
      z_aload_n 8 hX dX10_unlikeAt_8 rfl <|
      zgX10_28 9 hX dX10_unlikeAt_9 (rfl : shp 116 = (3, 0)) <|
      z_iload_n 12 hX dX10_unlikeAt_12 rfl <|
      z_isub 13 hX dX10_unlikeAt_13 <|
      z_icmp_le 14 20 hX dX10_unlikeAt_14 rfl h (fun q2 h => ?_) (fun q2 h => ?_)
    · refine z_iconst 20 hX dX10_unlikeAt_20 zki0 <|
        z_istore_n 21 [some (.ref (zα G a0)), some (.ref (zα G 116)), some (.int a2), some (.int (nI 0)), none] hX dX10_unlikeAt_21 (Nat.le_of_ble_eq_true rfl) rfl rfl <|
        z_iconst 22 hX dX10_unlikeAt_22 zki0 <|
        z_istore 23 [some (.ref (zα G a0)), some (.ref (zα G 116)), some (.int a2), some (.int (nI 0)), some (.int (nI 0))] hX dX10_unlikeAt_23 (Nat.le_of_ble_eq_true rfl) rfl rfl <|
        l_X10_unlikeAt_25z hX hE (fun k67_a3 h => ?_) _ _ _ _ _ ha0 h
      · refine z_iload_n 67 hX dX10_unlikeAt_67 rfl <|
          z_endI 68 hE rfl h dX10_unlikeAt_68
    · refine z_weak (L' := [none, none, none, none, none]) (zsub_n (zsub_n (zsub_n (zsub_n (zsub_n zsub_0))))) <|
        j_X10_unlikeAt_17z hX hE h
def l_X1_leastInto_6 (w : zW) (K47 : Int32 → Option Int32) : Nat → Int32 → Int32 → Int32 → Int32 → Option Int32
  | 0, _, _, _, _ => none
  | n + 1, a1, a2, a3, a4 =>
    if a4 < (nI 5) then
      ztld 2 5 a1 fun x2 =>
      if (x2 &&& ((nI 1) <<< (a4 &&& 31))) = nI 0 then
        zlet (a4 + nI 1) fun x4 =>
        (l_X1_leastInto_6 w K47 n) a1 a2 a3 x4
      else
        zld w 114 245 ((a2 * (nI 5)) + a4) fun x5 =>
        zlet (if x5 < a3 then x5 else a3) fun x6 =>
        zlet (a4 + nI 1) fun x7 =>
        (l_X1_leastInto_6 w K47 n) a1 a2 x6 x7
    else
      K47 a3
theorem l_X1_leastInto_6z {K47 : Int32 → Option Int32} {G : zG} {X : zX} {w : zW} {re : Int32} (hX : zOk G X cX1_leastInto 5 RX1 1) (hE : zEI G X cX1_leastInto .int re w) (hK47 : ∀ (a3 : Int32) , K47 a3 = some re → zZ G X w 47 [none, none, none, some (.int a3), none] []) : ∀ (n : Nat) (a1 : Int32) (a2 : Int32) (a3 : Int32) (a4 : Int32) , l_X1_leastInto_6 w K47 n a1 a2 a3 a4 = some re → zZ G X w 6 [some (.ref (zα G 112)), some (.int a1), some (.int a2), some (.int a3), some (.int a4)] [] := by
  intro n
  induction n with
  | zero =>
    intro a1 a2 a3 a4  h
    rw [l_X1_leastInto_6.eq_1] at h
    cases h
  | succ n ih =>
    intro a1 a2 a3 a4  h
    rw [l_X1_leastInto_6.eq_2] at h
    refine z_iload 6 hX dX1_leastInto_6 rfl <|
      z_iconst 8 hX dX1_leastInto_8 zki5 <|
      z_icmp_ge 9 47 hX dX1_leastInto_9 rfl h (fun q1 h => ?_) (fun q1 h => ?_)
    · refine z_weak (L' := [none, none, none, some (.int a3), none]) (zsub_n (zsub_n (zsub_n (zsub_s (zsub_n zsub_0))))) <|
        hK47 _ h
    · refine z_gets (C := RX11) 12 hX dX1_leastInto_12 zSz2 (Or.inr ⟨rfl, rfl, by decide +kernel⟩) <|
        z_iload_n 15 hX dX1_leastInto_15 rfl <|
        z_sald 16 hX dX1_leastInto_16 zSt2 h fun x2 h =>
        z_iconst 17 hX dX1_leastInto_17 zki1 <|
        z_iload 18 hX dX1_leastInto_18 rfl <|
        z_ishl 20 hX dX1_leastInto_20 <|
        z_iand 21 hX dX1_leastInto_21 <|
        z_if_eq 22 41 hX dX1_leastInto_22 rfl h (fun q3 h => ?_) (fun q3 h => ?_)
      · refine z_iincG 41 (fun x4 => [some (.ref (zα G 112)), some (.int a1), some (.int a2), some (.int a3), some (.int x4)]) hX dX1_leastInto_41 rfl zki1 rfl (fun _ => rfl) h fun x4 h =>
          z_goto 44 6 hX dX1_leastInto_44 rfl <|
          ih _ _ _ _ h
      · refine z_iload_n 25 hX dX1_leastInto_25 rfl <|
          z_aload_n 26 hX dX1_leastInto_26 rfl <|
          zgX1_15 27 hX dX1_leastInto_27 (rfl : shp 112 = (1, 0)) <|
          z_iload_n 30 hX dX1_leastInto_30 rfl <|
          z_iconst 31 hX dX1_leastInto_31 zki5 <|
          z_imul 32 hX dX1_leastInto_32 <|
          z_iload 33 hX dX1_leastInto_33 rfl <|
          z_iadd 35 hX dX1_leastInto_35 <|
          z_iald 36 hX dX1_leastInto_36 (rfl : shp 114 = (20, 245)) h fun x5 _ h =>
          z_mmin 37 hX dX1_leastInto_37 zw537 zw538 zw86 zw539 rfl (Nat.le_of_ble_eq_true rfl) (Nat.le_of_ble_eq_true rfl) <|
          z_top h fun x6 h =>
          z_istore_n 40 [some (.ref (zα G 112)), some (.int a1), some (.int a2), some (.int x6), some (.int a4)] hX dX1_leastInto_40 (Nat.le_of_ble_eq_true rfl) rfl rfl <|
          z_iincG 41 (fun x7 => [some (.ref (zα G 112)), some (.int a1), some (.int a2), some (.int x6), some (.int x7)]) hX dX1_leastInto_41 rfl zki1 rfl (fun _ => rfl) h fun x7 h =>
          z_goto 44 6 hX dX1_leastInto_44 rfl <|
          ih _ _ _ _ h
def f_X1_leastInto (a1 : Int32) (a2 : Int32) (w : zW) : Option Int32 :=
  l_X1_leastInto_6 w (fun k47_a3 =>
    some k47_a3) zfuel a1 a2 (nI 1000000) (nI 0)
theorem c_X1_leastInto {G : zG} {l : Launch} (hG : zgood G) {w : zW} {re : Int32} {a1 : Int32} {a2 : Int32}  (h : f_X1_leastInto a1 a2 w = some re) : zMet G l yX1_leastInto cX1_leastInto 5 (some .int) 1 [.ref (zα G 112), .int a1, .int a2] w (some (.int re)) w := by
  refine zMet_of (L0 := [some (.ref (zα G 112)), some (.int a1), some (.int a2), none, none]) hG zplX1 (Nat.le_of_ble_eq_true rfl) rfl rfl (fun X hl hX hEI hEV hEA => ?_)
  subst hl
  have hX : zOk G X cX1_leastInto 5 RX1 1 := hX
  have hE := hEI _ _ rfl rfl
  rw [f_X1_leastInto] at h
  refine z_ldc 0 hX dX1_leastInto_0 zw811 zkl1000000 <|
    z_istore_n 2 [some (.ref (zα G 112)), some (.int a1), some (.int a2), some (.int (nI 1000000)), none] hX dX1_leastInto_2 (Nat.le_of_ble_eq_true rfl) rfl rfl <|
    z_iconst 3 hX dX1_leastInto_3 zki0 <|
    z_istore 4 [some (.ref (zα G 112)), some (.int a1), some (.int a2), some (.int (nI 1000000)), some (.int (nI 0))] hX dX1_leastInto_4 (Nat.le_of_ble_eq_true rfl) rfl rfl <|
    l_X1_leastInto_6z hX hE (fun k47_a3 h => ?_) _ _ _ _ _ h
  · refine z_iload_n 47 hX dX1_leastInto_47 rfl <|
      z_endI 48 hE rfl h dX1_leastInto_48
def l_X1_fewestUnlike_29 (K127 : Int32 → zW → Option (Int32 × zW)) : Nat → Int32 → Int32 → zW → Option (Int32 × zW)
  | 0, _, _, _ => none
  | n + 1, a3, a4, w =>
    if a4 < (w 3 1) then
      zguard (zin a4 12) (
      if ((w 116 1) - a3) < (w (5 + 2 * a4.toNatClampNeg) 2) then
        zlet (a4 + nI 1) fun x4 =>
        (l_X1_fewestUnlike_29 K127 n) a3 x4 w
      else
        ztld 1 5 (w (5 + 2 * a4.toNatClampNeg) 1) fun x5 =>
        zlet (((a3 + (w (5 + 2 * a4.toNatClampNeg) 2)) * (nI 5)) + x5) fun x6 =>
        zb (f_X1_leastInto (w (5 + 2 * a4.toNatClampNeg) 1) a3 w) fun x8 =>
        zb (f_X10_unlikeAt (5 + 2 * a4.toNatClampNeg) a3 w) fun x10 =>
        zlet (x8 + x10) fun x11 =>
        zld w 114 245 x6 fun x12 =>
        zsto w 114 245 x6 (if x11 < x12 then x11 else x12) fun w1 =>
        zlet (a4 + nI 1) fun x13 =>
        (l_X1_fewestUnlike_29 K127 n) a3 x13 w1)
    else
      K127 a3 w
theorem l_X1_fewestUnlike_29z {K127 : Int32 → zW → Option (Int32 × zW)} {G : zG} {X : zX} {re : Int32} {we : zW} (hX : zOk G X cX1_fewestUnlike 8 RX1 2) (hE : zEI G X cX1_fewestUnlike .int re we) (hK127 : ∀ (a3 : Int32) (w3 : zW) , K127 a3 w3 = some (re, we) → zZ G X w3 127 [some (.ref (zα G 112)), some (.ref (zα G 3)), some (.ref (zα G 116)), some (.int a3), none, none, none, none] []) : ∀ (n : Nat) (a3 : Int32) (a4 : Int32) (w : zW) , l_X1_fewestUnlike_29 K127 n a3 a4 w = some (re, we) → zZ G X w 29 [some (.ref (zα G 112)), some (.ref (zα G 3)), some (.ref (zα G 116)), some (.int a3), some (.int a4), none, none, none] [] := by
  intro n
  induction n with
  | zero =>
    intro a3 a4 w  h
    rw [l_X1_fewestUnlike_29.eq_1] at h
    cases h
  | succ n ih =>
    intro a3 a4 w  h
    rw [l_X1_fewestUnlike_29.eq_2] at h
    refine z_iload 29 hX dX1_fewestUnlike_29 rfl <|
      z_aload_n 31 hX dX1_fewestUnlike_31 rfl <|
      zgX1_33 32 hX dX1_fewestUnlike_32 (rfl : shp 3 = (7, 0)) <|
      z_icmp_ge 35 127 hX dX1_fewestUnlike_35 rfl h (fun q1 h => ?_) (fun q1 h => ?_)
    · refine z_weak (L' := [some (.ref (zα G 112)), some (.ref (zα G 3)), some (.ref (zα G 116)), some (.int a3), none, none, none, none]) (zsub_s (zsub_s (zsub_s (zsub_s (zsub_n (zsub_n (zsub_n (zsub_n zsub_0)))))))) <|
        hK127 _ _ h
    · refine z_aload_n 38 hX dX1_fewestUnlike_38 rfl <|
        zgX1_36 39 hX dX1_fewestUnlike_39 (rfl : shp 3 = (7, 0)) <|
        z_iload 42 hX dX1_fewestUnlike_42 rfl <|
        z_aald 44 hX dX1_fewestUnlike_44 (rfl : shp 4 = (22, 12)) (by decide) h fun q2 h =>
        z_astore 45 [some (.ref (zα G 112)), some (.ref (zα G 3)), some (.ref (zα G 116)), some (.int a3), some (.int a4), some (.ref (zα G (5 + 2 * a4.toNatClampNeg))), none, none] hX dX1_fewestUnlike_45 (Nat.le_of_ble_eq_true rfl) rfl rfl <|
        z_aload 47 hX dX1_fewestUnlike_47 rfl <|
        zgX1_56 49 hX dX1_fewestUnlike_49 (ze22 _ (rfl : shp 4 = (22, 12)) _ q2) <|
        z_aload_n 52 hX dX1_fewestUnlike_52 rfl <|
        zgX1_27 53 hX dX1_fewestUnlike_53 (rfl : shp 116 = (3, 0)) <|
        z_iload_n 56 hX dX1_fewestUnlike_56 rfl <|
        z_isub 57 hX dX1_fewestUnlike_57 <|
        z_icmp_gt 58 121 hX dX1_fewestUnlike_58 rfl h (fun q3 h => ?_) (fun q3 h => ?_)
      · refine z_iincG 121 (fun x4 => [some (.ref (zα G 112)), some (.ref (zα G 3)), some (.ref (zα G 116)), some (.int a3), some (.int x4), some (.ref (zα G (5 + 2 * a4.toNatClampNeg))), none, none]) hX dX1_fewestUnlike_121 rfl zki1 rfl (fun _ => rfl) h fun x4 h =>
          z_goto 124 29 hX dX1_fewestUnlike_124 rfl <|
          z_weak (L' := [some (.ref (zα G 112)), some (.ref (zα G 3)), some (.ref (zα G 116)), some (.int a3), some (.int x4), none, none, none]) (zsub_s (zsub_s (zsub_s (zsub_s (zsub_s (zsub_n (zsub_n (zsub_n zsub_0)))))))) <|
          ih _ _ _ h
      · refine z_iload_n 61 hX dX1_fewestUnlike_61 rfl <|
          z_aload 62 hX dX1_fewestUnlike_62 rfl <|
          zgX1_56 64 hX dX1_fewestUnlike_64 (ze22 _ (rfl : shp 4 = (22, 12)) _ q2) <|
          z_iadd 67 hX dX1_fewestUnlike_67 <|
          z_iconst 68 hX dX1_fewestUnlike_68 zki5 <|
          z_imul 69 hX dX1_fewestUnlike_69 <|
          z_gets (C := RX11) 70 hX dX1_fewestUnlike_70 zSz1 (Or.inr ⟨rfl, rfl, by decide +kernel⟩) <|
          z_aload 73 hX dX1_fewestUnlike_73 rfl <|
          zgX1_47 75 hX dX1_fewestUnlike_75 (ze22 _ (rfl : shp 4 = (22, 12)) _ q2) <|
          z_sald 78 hX dX1_fewestUnlike_78 zSt1 h fun x5 h =>
          z_iadd 79 hX dX1_fewestUnlike_79 <|
          z_top h fun x6 h =>
          z_istore 80 [some (.ref (zα G 112)), some (.ref (zα G 3)), some (.ref (zα G 116)), some (.int a3), some (.int a4), some (.ref (zα G (5 + 2 * a4.toNatClampNeg))), some (.int x6), none] hX dX1_fewestUnlike_80 (Nat.le_of_ble_eq_true rfl) rfl rfl <|
          z_aload_n 82 hX dX1_fewestUnlike_82 rfl <|
          z_aload 83 hX dX1_fewestUnlike_83 rfl <|
          zgX1_47 85 hX dX1_fewestUnlike_85 (ze22 _ (rfl : shp 4 = (22, 12)) _ q2) <|
          z_iload_n 88 hX dX1_fewestUnlike_88 rfl <|
          zb1 h fun x8 r7 h => zcX1_86 89 [.int (w (5 + 2 * a4.toNatClampNeg) 1), .int a3] [] hX dX1_fewestUnlike_89 (c_X1_leastInto (zgd0 hX) r7) (rfl : shp 112 = (1, 0)) rfl rfl rfl (Nat.le_of_ble_eq_true rfl) (Nat.le_of_ble_eq_true rfl) <|
          z_aload 92 hX dX1_fewestUnlike_92 rfl <|
          z_aload_n 94 hX dX1_fewestUnlike_94 rfl <|
          z_iload_n 95 hX dX1_fewestUnlike_95 rfl <|
          zb1 h fun x10 r9 h => zcX1_89 96 [.ref (zα G 116), .int a3] [.int x8] hX dX1_fewestUnlike_96 (c_X10_unlikeAt (zgd0 hX) (ze22 _ (rfl : shp 4 = (22, 12)) _ q2) r9) (ze22 _ (rfl : shp 4 = (22, 12)) _ q2) rfl rfl rfl (Nat.le_of_ble_eq_true rfl) (Nat.le_of_ble_eq_true rfl) <|
          z_iadd 99 hX dX1_fewestUnlike_99 <|
          z_top h fun x11 h =>
          z_istore 100 [some (.ref (zα G 112)), some (.ref (zα G 3)), some (.ref (zα G 116)), some (.int a3), some (.int a4), some (.ref (zα G (5 + 2 * a4.toNatClampNeg))), some (.int x6), some (.int x11)] hX dX1_fewestUnlike_100 (Nat.le_of_ble_eq_true rfl) rfl rfl <|
          z_aload_n 102 hX dX1_fewestUnlike_102 rfl <|
          zgX1_15 103 hX dX1_fewestUnlike_103 (rfl : shp 112 = (1, 0)) <|
          z_iload 106 hX dX1_fewestUnlike_106 rfl <|
          z_aload_n 108 hX dX1_fewestUnlike_108 rfl <|
          zgX1_15 109 hX dX1_fewestUnlike_109 (rfl : shp 112 = (1, 0)) <|
          z_iload 112 hX dX1_fewestUnlike_112 rfl <|
          z_iald 114 hX dX1_fewestUnlike_114 (rfl : shp 114 = (20, 245)) h fun x12 _ h =>
          z_iload 115 hX dX1_fewestUnlike_115 rfl <|
          z_mmin 117 hX dX1_fewestUnlike_117 zw537 zw538 zw86 zw539 rfl (Nat.le_of_ble_eq_true rfl) (Nat.le_of_ble_eq_true rfl) <|
          z_iast 120 hX dX1_fewestUnlike_120 (rfl : shp 114 = (20, 245)) h fun w1 h =>
          z_iincG 121 (fun x13 => [some (.ref (zα G 112)), some (.ref (zα G 3)), some (.ref (zα G 116)), some (.int a3), some (.int x13), some (.ref (zα G (5 + 2 * a4.toNatClampNeg))), some (.int x6), some (.int x11)]) hX dX1_fewestUnlike_121 rfl zki1 rfl (fun _ => rfl) h fun x13 h =>
          z_goto 124 29 hX dX1_fewestUnlike_124 rfl <|
          z_weak (L' := [some (.ref (zα G 112)), some (.ref (zα G 3)), some (.ref (zα G 116)), some (.int a3), some (.int x13), none, none, none]) (zsub_s (zsub_s (zsub_s (zsub_s (zsub_s (zsub_n (zsub_n (zsub_n zsub_0)))))))) <|
          ih _ _ _ h
