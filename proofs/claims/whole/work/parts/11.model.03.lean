def l_X12_readsWithDoor_3 (K51 : Int32 → Int32 → Int32 → zW → Option (Int32 × zW)) : Nat → Int32 → Int32 → Int32 → Int32 → zW → Option (Int32 × zW)
  | 0, _, _, _, _, _ => none
  | n + 1, a1, a2, a3, a4, w =>
    if a4 < a3 then
      zb (f_X12_at a1 (a2 + a4)) fun x3 =>
      zld w 129 628 x3 fun x4 =>
      zsto w 138 24 a4 x4 fun w1 =>
      zb (f_X12_at a1 (a2 + a4)) fun x6 =>
      zsto w1 129 628 x6 (nI 0) fun w2 =>
      zlet (a4 + nI 1) fun x7 =>
      (l_X12_readsWithDoor_3 K51 n) a1 a2 a3 x7 w2
    else
      K51 a1 a2 a3 w
theorem l_X12_readsWithDoor_3z {K51 : Int32 → Int32 → Int32 → zW → Option (Int32 × zW)} {G : zG} {X : zX} {re : Int32} {we : zW} (hX : zOk G X cX12_readsWithDoor 6 RX12 4) (hE : zEI G X cX12_readsWithDoor .boolean re we) (hK51 : ∀ (a1 : Int32) (a2 : Int32) (a3 : Int32) (w3 : zW) , K51 a1 a2 a3 w3 = some (re, we) → zZ G X w3 51 [some (.ref (zα G 128)), some (.int a1), some (.int a2), some (.int a3), none, none] []) : ∀ (n : Nat) (a1 : Int32) (a2 : Int32) (a3 : Int32) (a4 : Int32) (w : zW) , l_X12_readsWithDoor_3 K51 n a1 a2 a3 a4 w = some (re, we) → zZ G X w 3 [some (.ref (zα G 128)), some (.int a1), some (.int a2), some (.int a3), some (.int a4), none] [] := by
  intro n
  induction n with
  | zero =>
    intro a1 a2 a3 a4 w  h
    rw [l_X12_readsWithDoor_3.eq_1] at h
    cases h
  | succ n ih =>
    intro a1 a2 a3 a4 w  h
    rw [l_X12_readsWithDoor_3.eq_2] at h
    refine z_iload 3 hX dX12_readsWithDoor_3 rfl <|
      z_iload_n 5 hX dX12_readsWithDoor_5 rfl <|
      z_icmp_ge 6 51 hX dX12_readsWithDoor_6 rfl h (fun q1 h => ?_) (fun q1 h => ?_)
    · refine z_weak (L' := [some (.ref (zα G 128)), some (.int a1), some (.int a2), some (.int a3), none, none]) (zsub_s (zsub_s (zsub_s (zsub_s (zsub_n (zsub_n zsub_0)))))) <|
        hK51 _ _ _ _ h
    · refine z_aload_n 9 hX dX12_readsWithDoor_9 rfl <|
        zgX12_37 10 hX dX12_readsWithDoor_10 (rfl : shp 128 = (12, 0)) <|
        z_iload 13 hX dX12_readsWithDoor_13 rfl <|
        z_aload_n 15 hX dX12_readsWithDoor_15 rfl <|
        zgX12_7 16 hX dX12_readsWithDoor_16 (rfl : shp 128 = (12, 0)) <|
        z_aload_n 19 hX dX12_readsWithDoor_19 rfl <|
        z_iload_n 20 hX dX12_readsWithDoor_20 rfl <|
        z_iload_n 21 hX dX12_readsWithDoor_21 rfl <|
        z_iload 22 hX dX12_readsWithDoor_22 rfl <|
        z_iadd 24 hX dX12_readsWithDoor_24 <|
        zb1 h fun x3 r2 h => zcX12_124 25 [.int a1, .int (a2 + a4)] [.ref (zα G 129), .int a4, .ref (zα G 138)] hX dX12_readsWithDoor_25 (c_X12_at (zgd0 hX) r2) (rfl : shp 128 = (12, 0)) rfl rfl rfl (Nat.le_of_ble_eq_true rfl) (Nat.le_of_ble_eq_true rfl) <|
        z_iald 28 hX dX12_readsWithDoor_28 (rfl : shp 129 = (20, 628)) h fun x4 _ h =>
        z_iast 29 hX dX12_readsWithDoor_29 (rfl : shp 138 = (20, 24)) h fun w1 h =>
        z_aload_n 30 hX dX12_readsWithDoor_30 rfl <|
        zgX12_7 31 hX dX12_readsWithDoor_31 (rfl : shp 128 = (12, 0)) <|
        z_aload_n 34 hX dX12_readsWithDoor_34 rfl <|
        z_iload_n 35 hX dX12_readsWithDoor_35 rfl <|
        z_iload_n 36 hX dX12_readsWithDoor_36 rfl <|
        z_iload 37 hX dX12_readsWithDoor_37 rfl <|
        z_iadd 39 hX dX12_readsWithDoor_39 <|
        zb1 h fun x6 r5 h => zcX12_124 40 [.int a1, .int (a2 + a4)] [.ref (zα G 129)] hX dX12_readsWithDoor_40 (c_X12_at (zgd0 hX) r5) (rfl : shp 128 = (12, 0)) rfl rfl rfl (Nat.le_of_ble_eq_true rfl) (Nat.le_of_ble_eq_true rfl) <|
        z_iconst 43 hX dX12_readsWithDoor_43 zki0 <|
        z_iast 44 hX dX12_readsWithDoor_44 (rfl : shp 129 = (20, 628)) h fun w2 h =>
        z_iincG 45 (fun x7 => [some (.ref (zα G 128)), some (.int a1), some (.int a2), some (.int a3), some (.int x7), none]) hX dX12_readsWithDoor_45 rfl zki1 rfl (fun _ => rfl) h fun x7 h =>
        z_goto 48 3 hX dX12_readsWithDoor_48 rfl <|
        ih _ _ _ _ _ h
def l_X12_readsWithDoor_61 (K94 : Int32 → zW → Option (Int32 × zW)) : Nat → Int32 → Int32 → Int32 → Int32 → Int32 → zW → Option (Int32 × zW)
  | 0, _, _, _, _, _, _ => none
  | n + 1, a1, a2, a3, a4, a5, w =>
    if a5 < a3 then
      zb (f_X12_at a1 (a2 + a5)) fun x3 =>
      zld w 138 24 a5 fun x4 =>
      zsto w 129 628 x3 x4 fun w1 =>
      zlet (a5 + nI 1) fun x5 =>
      (l_X12_readsWithDoor_61 K94 n) a1 a2 a3 a4 x5 w1
    else
      K94 a4 w
theorem l_X12_readsWithDoor_61z {K94 : Int32 → zW → Option (Int32 × zW)} {G : zG} {X : zX} {re : Int32} {we : zW} (hX : zOk G X cX12_readsWithDoor 6 RX12 4) (hE : zEI G X cX12_readsWithDoor .boolean re we) (hK94 : ∀ (a4 : Int32) (w3 : zW) , K94 a4 w3 = some (re, we) → zZ G X w3 94 [none, none, none, none, some (.int a4), none] []) : ∀ (n : Nat) (a1 : Int32) (a2 : Int32) (a3 : Int32) (a4 : Int32) (a5 : Int32) (w : zW) , l_X12_readsWithDoor_61 K94 n a1 a2 a3 a4 a5 w = some (re, we) → zZ G X w 61 [some (.ref (zα G 128)), some (.int a1), some (.int a2), some (.int a3), some (.int a4), some (.int a5)] [] := by
  intro n
  induction n with
  | zero =>
    intro a1 a2 a3 a4 a5 w  h
    rw [l_X12_readsWithDoor_61.eq_1] at h
    cases h
  | succ n ih =>
    intro a1 a2 a3 a4 a5 w  h
    rw [l_X12_readsWithDoor_61.eq_2] at h
    refine z_iload 61 hX dX12_readsWithDoor_61 rfl <|
      z_iload_n 63 hX dX12_readsWithDoor_63 rfl <|
      z_icmp_ge 64 94 hX dX12_readsWithDoor_64 rfl h (fun q1 h => ?_) (fun q1 h => ?_)
    · refine z_weak (L' := [none, none, none, none, some (.int a4), none]) (zsub_n (zsub_n (zsub_n (zsub_n (zsub_s (zsub_n zsub_0)))))) <|
        hK94 _ _ h
    · refine z_aload_n 67 hX dX12_readsWithDoor_67 rfl <|
        zgX12_7 68 hX dX12_readsWithDoor_68 (rfl : shp 128 = (12, 0)) <|
        z_aload_n 71 hX dX12_readsWithDoor_71 rfl <|
        z_iload_n 72 hX dX12_readsWithDoor_72 rfl <|
        z_iload_n 73 hX dX12_readsWithDoor_73 rfl <|
        z_iload 74 hX dX12_readsWithDoor_74 rfl <|
        z_iadd 76 hX dX12_readsWithDoor_76 <|
        zb1 h fun x3 r2 h => zcX12_124 77 [.int a1, .int (a2 + a5)] [.ref (zα G 129)] hX dX12_readsWithDoor_77 (c_X12_at (zgd0 hX) r2) (rfl : shp 128 = (12, 0)) rfl rfl rfl (Nat.le_of_ble_eq_true rfl) (Nat.le_of_ble_eq_true rfl) <|
        z_aload_n 80 hX dX12_readsWithDoor_80 rfl <|
        zgX12_37 81 hX dX12_readsWithDoor_81 (rfl : shp 128 = (12, 0)) <|
        z_iload 84 hX dX12_readsWithDoor_84 rfl <|
        z_iald 86 hX dX12_readsWithDoor_86 (rfl : shp 138 = (20, 24)) h fun x4 _ h =>
        z_iast 87 hX dX12_readsWithDoor_87 (rfl : shp 129 = (20, 628)) h fun w1 h =>
        z_iincG 88 (fun x5 => [some (.ref (zα G 128)), some (.int a1), some (.int a2), some (.int a3), some (.int a4), some (.int x5)]) hX dX12_readsWithDoor_88 rfl zki1 rfl (fun _ => rfl) h fun x5 h =>
        z_goto 91 61 hX dX12_readsWithDoor_91 rfl <|
        ih _ _ _ _ _ _ h
def f_X12_readsWithDoor (a1 : Int32) (a2 : Int32) (a3 : Int32) (w : zW) : Option (Int32 × zW) :=
  l_X12_readsWithDoor_3 (fun k51_a1 k51_a2 k51_a3 w11 =>
    zb2 (f_X12_doesRead k51_a1 w11) fun x102 w12 =>
    l_X12_readsWithDoor_61 (fun k94_a4 w23 =>
      zguard (zbool k94_a4) (
      some (k94_a4, w23))) zfuel k51_a1 k51_a2 k51_a3 x102 (nI 0) w12) zfuel a1 a2 a3 (nI 0) w
theorem c_X12_readsWithDoor {G : zG} {l : Launch} (hG : zgood G) {w : zW} {re : Int32} {we : zW} {a1 : Int32} {a2 : Int32} {a3 : Int32}  (h : f_X12_readsWithDoor a1 a2 a3 w = some (re, we)) : zMet G l yX12_readsWithDoor cX12_readsWithDoor 6 (some .boolean) 4 [.ref (zα G 128), .int a1, .int a2, .int a3] w (some (.int re)) we := by
  refine zMet_of (L0 := [some (.ref (zα G 128)), some (.int a1), some (.int a2), some (.int a3), none, none]) hG zplX12 (Nat.le_of_ble_eq_true rfl) rfl rfl (fun X hl hX hEI hEV hEA => ?_)
  subst hl
  have hX : zOk G X cX12_readsWithDoor 6 RX12 4 := hX
  have hE := hEI _ _ rfl rfl
  rw [f_X12_readsWithDoor] at h
  refine z_iconst 0 hX dX12_readsWithDoor_0 zki0 <|
    z_istore 1 [some (.ref (zα G 128)), some (.int a1), some (.int a2), some (.int a3), some (.int (nI 0)), none] hX dX12_readsWithDoor_1 (Nat.le_of_ble_eq_true rfl) rfl rfl <|
    l_X12_readsWithDoor_3z hX hE (fun k51_a1 k51_a2 k51_a3 w11 h => ?_) _ _ _ _ _ _ h
  · refine z_aload_n 51 hX dX12_readsWithDoor_51 rfl <|
      z_iload_n 52 hX dX12_readsWithDoor_52 rfl <|
      zb12 h fun x102 w12 r101 h => zcX12_173 53 [.int k51_a1] [] hX dX12_readsWithDoor_53 (c_X12_doesRead (zgd0 hX) r101) (rfl : shp 128 = (12, 0)) rfl rfl rfl (Nat.le_of_ble_eq_true rfl) (Nat.le_of_ble_eq_true rfl) <|
      z_istore 56 [some (.ref (zα G 128)), some (.int k51_a1), some (.int k51_a2), some (.int k51_a3), some (.int x102), none] hX dX12_readsWithDoor_56 (Nat.le_of_ble_eq_true rfl) rfl rfl <|
      z_iconst 58 hX dX12_readsWithDoor_58 zki0 <|
      z_istore 59 [some (.ref (zα G 128)), some (.int k51_a1), some (.int k51_a2), some (.int k51_a3), some (.int x102), some (.int (nI 0))] hX dX12_readsWithDoor_59 (Nat.le_of_ble_eq_true rfl) rfl rfl <|
      l_X12_readsWithDoor_61z hX hE (fun k94_a4 w23 h => ?_) _ _ _ _ _ _ _ h
    · refine z_iload 94 hX dX12_readsWithDoor_94 rfl <|
        zgd2 h fun q203 h =>
        z_endI2 96 hE (znar_bool q203) h dX12_readsWithDoor_96
def j_X12_doors_18  (w : zW) : Option (Int32 × zW) :=
  zb2 (f_X12_error (nI 1) w) fun x2 w1 =>
  some (x2, w1)
theorem j_X12_doors_18z {G : zG} {X : zX} {w : zW} {re : Int32} {we : zW}  (hX : zOk G X cX12_doors 5 RX12 5) (hE : zEI G X cX12_doors .int re we)  (h : j_X12_doors_18 w = some (re, we)) : zZ G X w 18 [some (.ref (zα G 128)), none, none, none, none] [] := by
  rw [j_X12_doors_18] at h
  refine z_aload_n 18 hX dX12_doors_18 rfl <|
    z_iconst 19 hX dX12_doors_19 zki1 <|
    zb12 h fun x2 w1 r1 h => zcX12_64 20 [.int (nI 1)] [] hX dX12_doors_20 (c_X12_error (zgd0 hX) r1) (rfl : shp 128 = (12, 0)) rfl rfl rfl (Nat.le_of_ble_eq_true rfl) (Nat.le_of_ble_eq_true rfl) <|
    z_endI2 23 hE rfl h dX12_doors_23
def j_X12_doors_62 (rc : Int32 → Int32 → Int32 → Int32 → zW → Option (Int32 × zW)) (K70 : Int32 → zW → Option (Int32 × zW)) (a1 : Int32) (a2 : Int32) (a4 : Int32) (b0 : Int32) (b1 : Int32) (w : zW) : Option (Int32 × zW) :=
  zlet (b0 ||| b1) fun x1 =>
  zlet (a4 + nI 1) fun x2 =>
  rc a1 a2 x1 x2 w
theorem j_X12_doors_62z {rc : Int32 → Int32 → Int32 → Int32 → zW → Option (Int32 × zW)} {K70 : Int32 → zW → Option (Int32 × zW)} {G : zG} {X : zX} {w : zW} {re : Int32} {we : zW} {a1 : Int32} {a2 : Int32} {a4 : Int32} {b0 : Int32} {b1 : Int32} (hX : zOk G X cX12_doors 5 RX12 5) (hE : zEI G X cX12_doors .int re we) (hrc : ∀ (a1 : Int32) (a2 : Int32) (a3 : Int32) (a4 : Int32) (w3 : zW) , rc a1 a2 a3 a4 w3 = some (re, we) → zZ G X w3 29 [some (.ref (zα G 128)), some (.int a1), some (.int a2), some (.int a3), some (.int a4)] []) (hK70 : ∀ (a3 : Int32) (w3 : zW) , K70 a3 w3 = some (re, we) → zZ G X w3 70 [none, none, none, some (.int a3), none] [])  (h : j_X12_doors_62 rc K70 a1 a2 a4 b0 b1 w = some (re, we)) : zZ G X w 62 [some (.ref (zα G 128)), some (.int a1), some (.int a2), none, some (.int a4)] [.int b1, .int b0] := by
  rw [j_X12_doors_62] at h
  refine z_ior 62 hX dX12_doors_62 <|
    z_top h fun x1 h =>
    z_istore_n 63 [some (.ref (zα G 128)), some (.int a1), some (.int a2), some (.int x1), some (.int a4)] hX dX12_doors_63 (Nat.le_of_ble_eq_true rfl) rfl rfl <|
    z_iincG 64 (fun x2 => [some (.ref (zα G 128)), some (.int a1), some (.int a2), some (.int x1), some (.int x2)]) hX dX12_doors_64 rfl zki1 rfl (fun _ => rfl) h fun x2 h =>
    z_goto 67 29 hX dX12_doors_67 rfl <|
    hrc _ _ _ _ _ h
def l_X12_doors_29 (K70 : Int32 → zW → Option (Int32 × zW)) : Nat → Int32 → Int32 → Int32 → Int32 → zW → Option (Int32 × zW)
  | 0, _, _, _, _, _ => none
  | n + 1, a1, a2, a3, a4, w =>
    zb (f_X12_its a1 (nI 2) w) fun x2 =>
    if x2 < (a4 + a2) then
      K70 a3 w
    else
      zb2 (f_X12_readsWithDoor a1 a4 a2 w) fun x5 w1 =>
      if x5 = nI 0 then
        j_X12_doors_62 (l_X12_doors_29 K70 n) K70 a1 a2 a4 a3 (nI 0) w1
      else
        j_X12_doors_62 (l_X12_doors_29 K70 n) K70 a1 a2 a4 a3 ((nI 1) <<< (a4 &&& 31)) w1
theorem l_X12_doors_29z {K70 : Int32 → zW → Option (Int32 × zW)} {G : zG} {X : zX} {re : Int32} {we : zW} (hX : zOk G X cX12_doors 5 RX12 5) (hE : zEI G X cX12_doors .int re we) (hK70 : ∀ (a3 : Int32) (w3 : zW) , K70 a3 w3 = some (re, we) → zZ G X w3 70 [none, none, none, some (.int a3), none] []) : ∀ (n : Nat) (a1 : Int32) (a2 : Int32) (a3 : Int32) (a4 : Int32) (w : zW) , l_X12_doors_29 K70 n a1 a2 a3 a4 w = some (re, we) → zZ G X w 29 [some (.ref (zα G 128)), some (.int a1), some (.int a2), some (.int a3), some (.int a4)] [] := by
  intro n
  induction n with
  | zero =>
    intro a1 a2 a3 a4 w  h
    rw [l_X12_doors_29.eq_1] at h
    cases h
  | succ n ih =>
    intro a1 a2 a3 a4 w  h
    rw [l_X12_doors_29.eq_2] at h
    refine z_iload 29 hX dX12_doors_29 rfl <|
      z_iload_n 31 hX dX12_doors_31 rfl <|
      z_iadd 32 hX dX12_doors_32 <|
      z_aload_n 33 hX dX12_doors_33 rfl <|
      z_iload_n 34 hX dX12_doors_34 rfl <|
      z_iconst 35 hX dX12_doors_35 zki2 <|
      zb1 h fun x2 r1 h => zcX12_60 36 [.int a1, .int (nI 2)] [.int (a4 + a2)] hX dX12_doors_36 (c_X12_its (zgd0 hX) r1) (rfl : shp 128 = (12, 0)) rfl rfl rfl (Nat.le_of_ble_eq_true rfl) (Nat.le_of_ble_eq_true rfl) <|
      z_icmp_gt 39 70 hX dX12_doors_39 rfl h (fun q3 h => ?_) (fun q3 h => ?_)
    · refine z_weak (L' := [none, none, none, some (.int a3), none]) (zsub_n (zsub_n (zsub_n (zsub_s (zsub_n zsub_0))))) <|
        hK70 _ _ h
    · refine z_iload_n 42 hX dX12_doors_42 rfl <|
        z_aload_n 43 hX dX12_doors_43 rfl <|
        z_iload_n 44 hX dX12_doors_44 rfl <|
        z_iload 45 hX dX12_doors_45 rfl <|
        z_iload_n 47 hX dX12_doors_47 rfl <|
        zb12 h fun x5 w1 r4 h => zcX12_195 48 [.int a1, .int a4, .int a2] [.int a3] hX dX12_doors_48 (c_X12_readsWithDoor (zgd0 hX) r4) (rfl : shp 128 = (12, 0)) rfl rfl rfl (Nat.le_of_ble_eq_true rfl) (Nat.le_of_ble_eq_true rfl) <|
        z_if_eq 51 61 hX dX12_doors_51 rfl h (fun q6 h => ?_) (fun q6 h => ?_)
      · refine z_iconst 61 hX dX12_doors_61 zki0 <|
          z_weak (L' := [some (.ref (zα G 128)), some (.int a1), some (.int a2), none, some (.int a4)]) (zsub_s (zsub_s (zsub_s (zsub_n (zsub_s zsub_0))))) <|
          j_X12_doors_62z hX hE ih hK70 h
      · refine z_iconst 54 hX dX12_doors_54 zki1 <|
          z_iload 55 hX dX12_doors_55 rfl <|
          z_ishl 57 hX dX12_doors_57 <|
          z_goto 58 62 hX dX12_doors_58 rfl <|
          z_weak (L' := [some (.ref (zα G 128)), some (.int a1), some (.int a2), none, some (.int a4)]) (zsub_s (zsub_s (zsub_s (zsub_n (zsub_s zsub_0))))) <|
          j_X12_doors_62z hX hE ih hK70 h
def f_X12_doors (a1 : Int32) (a2 : Int32) (w : zW) : Option (Int32 × zW) :=
  zb (f_X12_isWall a1 w) fun x2 =>
  if x2 = nI 0 then
    j_X12_doors_18 w
  else
    zb (f_X12_in a2 (nI 1) (nI 12)) fun x5 =>
    if x5 = nI 0 then
      j_X12_doors_18 w
    else
      l_X12_doors_29 (fun k70_a3 w11 =>
        some (k70_a3, w11)) zfuel a1 a2 (nI 0) (nI 0) w
theorem c_X12_doors {G : zG} {l : Launch} (hG : zgood G) {w : zW} {re : Int32} {we : zW} {a1 : Int32} {a2 : Int32}  (h : f_X12_doors a1 a2 w = some (re, we)) : zMet G l yX12_doors cX12_doors 5 (some .int) 5 [.ref (zα G 128), .int a1, .int a2] w (some (.int re)) we := by
  refine zMet_of (L0 := [some (.ref (zα G 128)), some (.int a1), some (.int a2), none, none]) hG zplX12 (Nat.le_of_ble_eq_true rfl) rfl rfl (fun X hl hX hEI hEV hEA => ?_)
  subst hl
  have hX : zOk G X cX12_doors 5 RX12 5 := hX
  have hE := hEI _ _ rfl rfl
  rw [f_X12_doors] at h
  refine z_aload_n 0 hX dX12_doors_0 rfl <|
    z_iload_n 1 hX dX12_doors_1 rfl <|
    zb1 h fun x2 r1 h => zcX12_133 2 [.int a1] [] hX dX12_doors_2 (c_X12_isWall (zgd0 hX) r1) (rfl : shp 128 = (12, 0)) rfl rfl rfl (Nat.le_of_ble_eq_true rfl) (Nat.le_of_ble_eq_true rfl) <|
    z_if_eq 5 18 hX dX12_doors_5 rfl h (fun q3 h => ?_) (fun q3 h => ?_)
  · refine z_weak (L' := [some (.ref (zα G 128)), none, none, none, none]) (zsub_s (zsub_n (zsub_n (zsub_n (zsub_n zsub_0))))) <|
      j_X12_doors_18z hX hE h
  · refine z_iload_n 8 hX dX12_doors_8 rfl <|
      z_iconst 9 hX dX12_doors_9 zki1 <|
      z_bipush 10 hX dX12_doors_10 zkb12 <|
      zb1 h fun x5 r4 h => zcX12_56 12 [.int a2, .int (nI 1), .int (nI 12)] [] hX dX12_doors_12 (c_X12_in (zgd0 hX) r4) rfl rfl rfl (Nat.le_of_ble_eq_true rfl) (Nat.le_of_ble_eq_true rfl) <|
      z_if_ne 15 24 hX dX12_doors_15 rfl h (fun q6 h => ?_) (fun q6 h => ?_)
    · refine z_iconst 24 hX dX12_doors_24 zki0 <|
        z_istore_n 25 [some (.ref (zα G 128)), some (.int a1), some (.int a2), some (.int (nI 0)), none] hX dX12_doors_25 (Nat.le_of_ble_eq_true rfl) rfl rfl <|
        z_iconst 26 hX dX12_doors_26 zki0 <|
        z_istore 27 [some (.ref (zα G 128)), some (.int a1), some (.int a2), some (.int (nI 0)), some (.int (nI 0))] hX dX12_doors_27 (Nat.le_of_ble_eq_true rfl) rfl rfl <|
        l_X12_doors_29z hX hE (fun k70_a3 w11 h => ?_) _ _ _ _ _ _ h
      · refine z_iload_n 70 hX dX12_doors_70 rfl <|
          z_endI2 71 hE rfl h dX12_doors_71
    · refine z_weak (L' := [some (.ref (zα G 128)), none, none, none, none]) (zsub_s (zsub_n (zsub_n (zsub_n (zsub_n zsub_0))))) <|
        j_X12_doors_18z hX hE h
def j_X12_spare_60 (rc : Int32 → Int32 → Int32 → zW → Option (Int32 × zW)) (K68 : Int32 → zW → Option (Int32 × zW)) (a1 : Int32) (a3 : Int32) (b0 : Int32) (b1 : Int32) (w : zW) : Option (Int32 × zW) :=
  zlet (b0 ||| b1) fun x1 =>
  zlet (a3 + nI 1) fun x2 =>
  rc a1 x1 x2 w
theorem j_X12_spare_60z {rc : Int32 → Int32 → Int32 → zW → Option (Int32 × zW)} {K68 : Int32 → zW → Option (Int32 × zW)} {G : zG} {X : zX} {w : zW} {re : Int32} {we : zW} {a1 : Int32} {a3 : Int32} {b0 : Int32} {b1 : Int32} (hX : zOk G X cX12_spare 4 RX12 5) (hE : zEI G X cX12_spare .int re we) (hrc : ∀ (a1 : Int32) (a2 : Int32) (a3 : Int32) (w3 : zW) , rc a1 a2 a3 w3 = some (re, we) → zZ G X w3 18 [some (.ref (zα G 128)), some (.int a1), some (.int a2), some (.int a3)] []) (hK68 : ∀ (a2 : Int32) (w3 : zW) , K68 a2 w3 = some (re, we) → zZ G X w3 68 [none, none, some (.int a2), none] [])  (h : j_X12_spare_60 rc K68 a1 a3 b0 b1 w = some (re, we)) : zZ G X w 60 [some (.ref (zα G 128)), some (.int a1), none, some (.int a3)] [.int b1, .int b0] := by
  rw [j_X12_spare_60] at h
  refine z_ior 60 hX dX12_spare_60 <|
    z_top h fun x1 h =>
    z_istore_n 61 [some (.ref (zα G 128)), some (.int a1), some (.int x1), some (.int a3)] hX dX12_spare_61 (Nat.le_of_ble_eq_true rfl) rfl rfl <|
    z_iincG 62 (fun x2 => [some (.ref (zα G 128)), some (.int a1), some (.int x1), some (.int x2)]) hX dX12_spare_62 rfl zki1 rfl (fun _ => rfl) h fun x2 h =>
    z_goto 65 18 hX dX12_spare_65 rfl <|
    hrc _ _ _ _ h
def j_X12_spare_59 (rc : Int32 → Int32 → Int32 → zW → Option (Int32 × zW)) (K68 : Int32 → zW → Option (Int32 × zW)) (a1 : Int32) (a3 : Int32) (b0 : Int32) (w : zW) : Option (Int32 × zW) :=
  j_X12_spare_60 rc K68 a1 a3 b0 (nI 0) w
theorem j_X12_spare_59z {rc : Int32 → Int32 → Int32 → zW → Option (Int32 × zW)} {K68 : Int32 → zW → Option (Int32 × zW)} {G : zG} {X : zX} {w : zW} {re : Int32} {we : zW} {a1 : Int32} {a3 : Int32} {b0 : Int32} (hX : zOk G X cX12_spare 4 RX12 5) (hE : zEI G X cX12_spare .int re we) (hrc : ∀ (a1 : Int32) (a2 : Int32) (a3 : Int32) (w3 : zW) , rc a1 a2 a3 w3 = some (re, we) → zZ G X w3 18 [some (.ref (zα G 128)), some (.int a1), some (.int a2), some (.int a3)] []) (hK68 : ∀ (a2 : Int32) (w3 : zW) , K68 a2 w3 = some (re, we) → zZ G X w3 68 [none, none, some (.int a2), none] [])  (h : j_X12_spare_59 rc K68 a1 a3 b0 w = some (re, we)) : zZ G X w 59 [some (.ref (zα G 128)), some (.int a1), none, some (.int a3)] [.int b0] := by
  rw [j_X12_spare_59] at h
  refine z_iconst 59 hX dX12_spare_59 zki0 <|
    j_X12_spare_60z hX hE hrc hK68 h
def l_X12_spare_18 (K68 : Int32 → zW → Option (Int32 × zW)) : Nat → Int32 → Int32 → Int32 → zW → Option (Int32 × zW)
  | 0, _, _, _, _ => none
  | n + 1, a1, a2, a3, w =>
    zb (f_X12_its a1 (nI 2) w) fun x2 =>
    if a3 < x2 then
      zb (f_X12_at a1 a3) fun x5 =>
      zld w 129 628 x5 fun x6 =>
      if nI 0 < x6 then
        zb2 (f_X12_readsWithDoor a1 a3 (nI 1) w) fun x9 w1 =>
        if x9 = nI 0 then
          j_X12_spare_59 (l_X12_spare_18 K68 n) K68 a1 a3 a2 w1
        else
          j_X12_spare_60 (l_X12_spare_18 K68 n) K68 a1 a3 a2 ((nI 1) <<< (a3 &&& 31)) w1
      else
        j_X12_spare_59 (l_X12_spare_18 K68 n) K68 a1 a3 a2 w
    else
      K68 a2 w
theorem l_X12_spare_18z {K68 : Int32 → zW → Option (Int32 × zW)} {G : zG} {X : zX} {re : Int32} {we : zW} (hX : zOk G X cX12_spare 4 RX12 5) (hE : zEI G X cX12_spare .int re we) (hK68 : ∀ (a2 : Int32) (w3 : zW) , K68 a2 w3 = some (re, we) → zZ G X w3 68 [none, none, some (.int a2), none] []) : ∀ (n : Nat) (a1 : Int32) (a2 : Int32) (a3 : Int32) (w : zW) , l_X12_spare_18 K68 n a1 a2 a3 w = some (re, we) → zZ G X w 18 [some (.ref (zα G 128)), some (.int a1), some (.int a2), some (.int a3)] [] := by
  intro n
  induction n with
  | zero =>
    intro a1 a2 a3 w  h
    rw [l_X12_spare_18.eq_1] at h
    cases h
  | succ n ih =>
    intro a1 a2 a3 w  h
    rw [l_X12_spare_18.eq_2] at h
    refine z_iload_n 18 hX dX12_spare_18 rfl <|
      z_aload_n 19 hX dX12_spare_19 rfl <|
      z_iload_n 20 hX dX12_spare_20 rfl <|
      z_iconst 21 hX dX12_spare_21 zki2 <|
      zb1 h fun x2 r1 h => zcX12_60 22 [.int a1, .int (nI 2)] [.int a3] hX dX12_spare_22 (c_X12_its (zgd0 hX) r1) (rfl : shp 128 = (12, 0)) rfl rfl rfl (Nat.le_of_ble_eq_true rfl) (Nat.le_of_ble_eq_true rfl) <|
      z_icmp_ge 25 68 hX dX12_spare_25 rfl h (fun q3 h => ?_) (fun q3 h => ?_)
    · refine z_weak (L' := [none, none, some (.int a2), none]) (zsub_n (zsub_n (zsub_s (zsub_n zsub_0)))) <|
        hK68 _ _ h
    · refine z_iload_n 28 hX dX12_spare_28 rfl <|
        z_aload_n 29 hX dX12_spare_29 rfl <|
        zgX12_7 30 hX dX12_spare_30 (rfl : shp 128 = (12, 0)) <|
        z_aload_n 33 hX dX12_spare_33 rfl <|
        z_iload_n 34 hX dX12_spare_34 rfl <|
        z_iload_n 35 hX dX12_spare_35 rfl <|
        zb1 h fun x5 r4 h => zcX12_124 36 [.int a1, .int a3] [.ref (zα G 129), .int a2] hX dX12_spare_36 (c_X12_at (zgd0 hX) r4) (rfl : shp 128 = (12, 0)) rfl rfl rfl (Nat.le_of_ble_eq_true rfl) (Nat.le_of_ble_eq_true rfl) <|
        z_iald 39 hX dX12_spare_39 (rfl : shp 129 = (20, 628)) h fun x6 _ h =>
        z_if_le 40 59 hX dX12_spare_40 rfl h (fun q7 h => ?_) (fun q7 h => ?_)
      · refine z_weak (L' := [some (.ref (zα G 128)), some (.int a1), none, some (.int a3)]) (zsub_s (zsub_s (zsub_n (zsub_s zsub_0)))) <|
          j_X12_spare_59z hX hE ih hK68 h
      · refine z_aload_n 43 hX dX12_spare_43 rfl <|
          z_iload_n 44 hX dX12_spare_44 rfl <|
          z_iload_n 45 hX dX12_spare_45 rfl <|
          z_iconst 46 hX dX12_spare_46 zki1 <|
          zb12 h fun x9 w1 r8 h => zcX12_195 47 [.int a1, .int a3, .int (nI 1)] [.int a2] hX dX12_spare_47 (c_X12_readsWithDoor (zgd0 hX) r8) (rfl : shp 128 = (12, 0)) rfl rfl rfl (Nat.le_of_ble_eq_true rfl) (Nat.le_of_ble_eq_true rfl) <|
          z_if_eq 50 59 hX dX12_spare_50 rfl h (fun q10 h => ?_) (fun q10 h => ?_)
        · refine z_weak (L' := [some (.ref (zα G 128)), some (.int a1), none, some (.int a3)]) (zsub_s (zsub_s (zsub_n (zsub_s zsub_0)))) <|
            j_X12_spare_59z hX hE ih hK68 h
        · refine z_iconst 53 hX dX12_spare_53 zki1 <|
            z_iload_n 54 hX dX12_spare_54 rfl <|
            z_ishl 55 hX dX12_spare_55 <|
            z_goto 56 60 hX dX12_spare_56 rfl <|
            z_weak (L' := [some (.ref (zα G 128)), some (.int a1), none, some (.int a3)]) (zsub_s (zsub_s (zsub_n (zsub_s zsub_0)))) <|
            j_X12_spare_60z hX hE ih hK68 h
def f_X12_spare (a1 : Int32) (w : zW) : Option (Int32 × zW) :=
  zb (f_X12_isWall a1 w) fun x2 =>
  if x2 = nI 0 then
    zb2 (f_X12_error (nI 1) w) fun x5 w1 =>
    some (x5, w1)
  else
    l_X12_spare_18 (fun k68_a2 w11 =>
      some (k68_a2, w11)) zfuel a1 (nI 0) (nI 0) w
theorem c_X12_spare {G : zG} {l : Launch} (hG : zgood G) {w : zW} {re : Int32} {we : zW} {a1 : Int32}  (h : f_X12_spare a1 w = some (re, we)) : zMet G l yX12_spare cX12_spare 4 (some .int) 5 [.ref (zα G 128), .int a1] w (some (.int re)) we := by
  refine zMet_of (L0 := [some (.ref (zα G 128)), some (.int a1), none, none]) hG zplX12 (Nat.le_of_ble_eq_true rfl) rfl rfl (fun X hl hX hEI hEV hEA => ?_)
  subst hl
  have hX : zOk G X cX12_spare 4 RX12 5 := hX
  have hE := hEI _ _ rfl rfl
  rw [f_X12_spare] at h
  refine z_aload_n 0 hX dX12_spare_0 rfl <|
    z_iload_n 1 hX dX12_spare_1 rfl <|
    zb1 h fun x2 r1 h => zcX12_133 2 [.int a1] [] hX dX12_spare_2 (c_X12_isWall (zgd0 hX) r1) (rfl : shp 128 = (12, 0)) rfl rfl rfl (Nat.le_of_ble_eq_true rfl) (Nat.le_of_ble_eq_true rfl) <|
    z_if_ne 5 14 hX dX12_spare_5 rfl h (fun q3 h => ?_) (fun q3 h => ?_)
  · refine z_iconst 14 hX dX12_spare_14 zki0 <|
      z_istore_n 15 [some (.ref (zα G 128)), some (.int a1), some (.int (nI 0)), none] hX dX12_spare_15 (Nat.le_of_ble_eq_true rfl) rfl rfl <|
      z_iconst 16 hX dX12_spare_16 zki0 <|
      z_istore_n 17 [some (.ref (zα G 128)), some (.int a1), some (.int (nI 0)), some (.int (nI 0))] hX dX12_spare_17 (Nat.le_of_ble_eq_true rfl) rfl rfl <|
      l_X12_spare_18z hX hE (fun k68_a2 w11 h => ?_) _ _ _ _ _ h
    · refine z_iload_n 68 hX dX12_spare_68 rfl <|
        z_endI2 69 hE rfl h dX12_spare_69
  · refine z_aload_n 8 hX dX12_spare_8 rfl <|
      z_iconst 9 hX dX12_spare_9 zki1 <|
      zb12 h fun x5 w1 r4 h => zcX12_64 10 [.int (nI 1)] [] hX dX12_spare_10 (c_X12_error (zgd0 hX) r4) (rfl : shp 128 = (12, 0)) rfl rfl rfl (Nat.le_of_ble_eq_true rfl) (Nat.le_of_ble_eq_true rfl) <|
      z_endI2 13 hE rfl h dX12_spare_13
def j_X12_othersAt_62 (rc : Int32 → Int32 → Int32 → Int32 → Int32 → zW → Option (Int32 × zW)) (K71 : Int32 → Int32 → Int32 → Int32 → zW → Option (Int32 × zW)) (a1 : Int32) (a2 : Int32) (a3 : Int32) (a5 : Int32) (b0 : Int32) (b1 : Int32) (w : zW) : Option (Int32 × zW) :=
  zlet (b0 ||| b1) fun x1 =>
  zlet (a5 + nI 1) fun x2 =>
  rc a1 a2 a3 x1 x2 w
theorem j_X12_othersAt_62z {rc : Int32 → Int32 → Int32 → Int32 → Int32 → zW → Option (Int32 × zW)} {K71 : Int32 → Int32 → Int32 → Int32 → zW → Option (Int32 × zW)} {G : zG} {X : zX} {w : zW} {re : Int32} {we : zW} {a1 : Int32} {a2 : Int32} {a3 : Int32} {a5 : Int32} {b0 : Int32} {b1 : Int32} (hX : zOk G X cX12_othersAt 6 RX12 4) (hE : zEI G X cX12_othersAt .int re we) (hrc : ∀ (a1 : Int32) (a2 : Int32) (a3 : Int32) (a4 : Int32) (a5 : Int32) (w3 : zW) , rc a1 a2 a3 a4 a5 w3 = some (re, we) → zZ G X w3 18 [some (.ref (zα G 128)), some (.int a1), some (.int a2), some (.int a3), some (.int a4), some (.int a5)] []) (hK71 : ∀ (a1 : Int32) (a2 : Int32) (a3 : Int32) (a4 : Int32) (w3 : zW) , K71 a1 a2 a3 a4 w3 = some (re, we) → zZ G X w3 71 [some (.ref (zα G 128)), some (.int a1), some (.int a2), some (.int a3), some (.int a4), none] [])  (h : j_X12_othersAt_62 rc K71 a1 a2 a3 a5 b0 b1 w = some (re, we)) : zZ G X w 62 [some (.ref (zα G 128)), some (.int a1), some (.int a2), some (.int a3), none, some (.int a5)] [.int b1, .int b0] := by
  rw [j_X12_othersAt_62] at h
  refine z_ior 62 hX dX12_othersAt_62 <|
    z_top h fun x1 h =>
    z_istore 63 [some (.ref (zα G 128)), some (.int a1), some (.int a2), some (.int a3), some (.int x1), some (.int a5)] hX dX12_othersAt_63 (Nat.le_of_ble_eq_true rfl) rfl rfl <|
    z_iincG 65 (fun x2 => [some (.ref (zα G 128)), some (.int a1), some (.int a2), some (.int a3), some (.int x1), some (.int x2)]) hX dX12_othersAt_65 rfl zki1 rfl (fun _ => rfl) h fun x2 h =>
    z_goto 68 18 hX dX12_othersAt_68 rfl <|
    hrc _ _ _ _ _ _ h
def j_X12_othersAt_61 (rc : Int32 → Int32 → Int32 → Int32 → Int32 → zW → Option (Int32 × zW)) (K71 : Int32 → Int32 → Int32 → Int32 → zW → Option (Int32 × zW)) (a1 : Int32) (a2 : Int32) (a3 : Int32) (a5 : Int32) (b0 : Int32) (w : zW) : Option (Int32 × zW) :=
  j_X12_othersAt_62 rc K71 a1 a2 a3 a5 b0 (nI 0) w
theorem j_X12_othersAt_61z {rc : Int32 → Int32 → Int32 → Int32 → Int32 → zW → Option (Int32 × zW)} {K71 : Int32 → Int32 → Int32 → Int32 → zW → Option (Int32 × zW)} {G : zG} {X : zX} {w : zW} {re : Int32} {we : zW} {a1 : Int32} {a2 : Int32} {a3 : Int32} {a5 : Int32} {b0 : Int32} (hX : zOk G X cX12_othersAt 6 RX12 4) (hE : zEI G X cX12_othersAt .int re we) (hrc : ∀ (a1 : Int32) (a2 : Int32) (a3 : Int32) (a4 : Int32) (a5 : Int32) (w3 : zW) , rc a1 a2 a3 a4 a5 w3 = some (re, we) → zZ G X w3 18 [some (.ref (zα G 128)), some (.int a1), some (.int a2), some (.int a3), some (.int a4), some (.int a5)] []) (hK71 : ∀ (a1 : Int32) (a2 : Int32) (a3 : Int32) (a4 : Int32) (w3 : zW) , K71 a1 a2 a3 a4 w3 = some (re, we) → zZ G X w3 71 [some (.ref (zα G 128)), some (.int a1), some (.int a2), some (.int a3), some (.int a4), none] [])  (h : j_X12_othersAt_61 rc K71 a1 a2 a3 a5 b0 w = some (re, we)) : zZ G X w 61 [some (.ref (zα G 128)), some (.int a1), some (.int a2), some (.int a3), none, some (.int a5)] [.int b0] := by
  rw [j_X12_othersAt_61] at h
  refine z_iconst 61 hX dX12_othersAt_61 zki0 <|
    j_X12_othersAt_62z hX hE hrc hK71 h
def l_X12_othersAt_18 (K71 : Int32 → Int32 → Int32 → Int32 → zW → Option (Int32 × zW)) : Nat → Int32 → Int32 → Int32 → Int32 → Int32 → zW → Option (Int32 × zW)
  | 0, _, _, _, _, _, _ => none
  | n + 1, a1, a2, a3, a4, a5, w =>
    if (nI 26) < a5 then
      K71 a1 a2 a3 a4 w
    else
      zb (f_X12_at a1 a2) fun x3 =>
      zsto w 129 628 x3 a5 fun w1 =>
      if a5 = a3 then
        j_X12_othersAt_61 (l_X12_othersAt_18 K71 n) K71 a1 a2 a3 a5 a4 w1
      else
        zb2 (f_X12_doesRead a1 w1) fun x6 w2 =>
        if x6 = nI 0 then
          j_X12_othersAt_61 (l_X12_othersAt_18 K71 n) K71 a1 a2 a3 a5 a4 w2
        else
          j_X12_othersAt_62 (l_X12_othersAt_18 K71 n) K71 a1 a2 a3 a5 a4 ((nI 1) <<< (a5 &&& 31)) w2
theorem l_X12_othersAt_18z {K71 : Int32 → Int32 → Int32 → Int32 → zW → Option (Int32 × zW)} {G : zG} {X : zX} {re : Int32} {we : zW} (hX : zOk G X cX12_othersAt 6 RX12 4) (hE : zEI G X cX12_othersAt .int re we) (hK71 : ∀ (a1 : Int32) (a2 : Int32) (a3 : Int32) (a4 : Int32) (w3 : zW) , K71 a1 a2 a3 a4 w3 = some (re, we) → zZ G X w3 71 [some (.ref (zα G 128)), some (.int a1), some (.int a2), some (.int a3), some (.int a4), none] []) : ∀ (n : Nat) (a1 : Int32) (a2 : Int32) (a3 : Int32) (a4 : Int32) (a5 : Int32) (w : zW) , l_X12_othersAt_18 K71 n a1 a2 a3 a4 a5 w = some (re, we) → zZ G X w 18 [some (.ref (zα G 128)), some (.int a1), some (.int a2), some (.int a3), some (.int a4), some (.int a5)] [] := by
  intro n
  induction n with
  | zero =>
    intro a1 a2 a3 a4 a5 w  h
    rw [l_X12_othersAt_18.eq_1] at h
    cases h
  | succ n ih =>
    intro a1 a2 a3 a4 a5 w  h
    rw [l_X12_othersAt_18.eq_2] at h
    refine z_iload 18 hX dX12_othersAt_18 rfl <|
      z_bipush 20 hX dX12_othersAt_20 zkb26 <|
      z_icmp_gt 22 71 hX dX12_othersAt_22 rfl h (fun q1 h => ?_) (fun q1 h => ?_)
    · refine z_weak (L' := [some (.ref (zα G 128)), some (.int a1), some (.int a2), some (.int a3), some (.int a4), none]) (zsub_s (zsub_s (zsub_s (zsub_s (zsub_s (zsub_n zsub_0)))))) <|
        hK71 _ _ _ _ _ h
    · refine z_aload_n 25 hX dX12_othersAt_25 rfl <|
        zgX12_7 26 hX dX12_othersAt_26 (rfl : shp 128 = (12, 0)) <|
        z_aload_n 29 hX dX12_othersAt_29 rfl <|
        z_iload_n 30 hX dX12_othersAt_30 rfl <|
        z_iload_n 31 hX dX12_othersAt_31 rfl <|
        zb1 h fun x3 r2 h => zcX12_124 32 [.int a1, .int a2] [.ref (zα G 129)] hX dX12_othersAt_32 (c_X12_at (zgd0 hX) r2) (rfl : shp 128 = (12, 0)) rfl rfl rfl (Nat.le_of_ble_eq_true rfl) (Nat.le_of_ble_eq_true rfl) <|
        z_iload 35 hX dX12_othersAt_35 rfl <|
        z_iast 37 hX dX12_othersAt_37 (rfl : shp 129 = (20, 628)) h fun w1 h =>
        z_iload 38 hX dX12_othersAt_38 rfl <|
        z_iload 40 hX dX12_othersAt_40 rfl <|
        z_iload_n 42 hX dX12_othersAt_42 rfl <|
        z_icmp_eq 43 61 hX dX12_othersAt_43 rfl h (fun q4 h => ?_) (fun q4 h => ?_)
      · refine z_weak (L' := [some (.ref (zα G 128)), some (.int a1), some (.int a2), some (.int a3), none, some (.int a5)]) (zsub_s (zsub_s (zsub_s (zsub_s (zsub_n (zsub_s zsub_0)))))) <|
          j_X12_othersAt_61z hX hE ih hK71 h
      · refine z_aload_n 46 hX dX12_othersAt_46 rfl <|
          z_iload_n 47 hX dX12_othersAt_47 rfl <|
          zb12 h fun x6 w2 r5 h => zcX12_173 48 [.int a1] [.int a4] hX dX12_othersAt_48 (c_X12_doesRead (zgd0 hX) r5) (rfl : shp 128 = (12, 0)) rfl rfl rfl (Nat.le_of_ble_eq_true rfl) (Nat.le_of_ble_eq_true rfl) <|
          z_if_eq 51 61 hX dX12_othersAt_51 rfl h (fun q7 h => ?_) (fun q7 h => ?_)
        · refine z_weak (L' := [some (.ref (zα G 128)), some (.int a1), some (.int a2), some (.int a3), none, some (.int a5)]) (zsub_s (zsub_s (zsub_s (zsub_s (zsub_n (zsub_s zsub_0)))))) <|
            j_X12_othersAt_61z hX hE ih hK71 h
        · refine z_iconst 54 hX dX12_othersAt_54 zki1 <|
            z_iload 55 hX dX12_othersAt_55 rfl <|
            z_ishl 57 hX dX12_othersAt_57 <|
            z_goto 58 62 hX dX12_othersAt_58 rfl <|
            z_weak (L' := [some (.ref (zα G 128)), some (.int a1), some (.int a2), some (.int a3), none, some (.int a5)]) (zsub_s (zsub_s (zsub_s (zsub_s (zsub_n (zsub_s zsub_0)))))) <|
            j_X12_othersAt_62z hX hE ih hK71 h
def f_X12_othersAt (a1 : Int32) (a2 : Int32) (w : zW) : Option (Int32 × zW) :=
  zb (f_X12_at a1 a2) fun x2 =>
  zld w 129 628 x2 fun x3 =>
  l_X12_othersAt_18 (fun k71_a1 k71_a2 k71_a3 k71_a4 w11 =>
    zb (f_X12_at k71_a1 k71_a2) fun x105 =>
    zsto w11 129 628 x105 k71_a3 fun w12 =>
    some (k71_a4, w12)) zfuel a1 a2 x3 (nI 0) (nI 1) w
theorem c_X12_othersAt {G : zG} {l : Launch} (hG : zgood G) {w : zW} {re : Int32} {we : zW} {a1 : Int32} {a2 : Int32}  (h : f_X12_othersAt a1 a2 w = some (re, we)) : zMet G l yX12_othersAt cX12_othersAt 6 (some .int) 4 [.ref (zα G 128), .int a1, .int a2] w (some (.int re)) we := by
  refine zMet_of (L0 := [some (.ref (zα G 128)), some (.int a1), some (.int a2), none, none, none]) hG zplX12 (Nat.le_of_ble_eq_true rfl) rfl rfl (fun X hl hX hEI hEV hEA => ?_)
  subst hl
  have hX : zOk G X cX12_othersAt 6 RX12 4 := hX
  have hE := hEI _ _ rfl rfl
  rw [f_X12_othersAt] at h
  refine z_aload_n 0 hX dX12_othersAt_0 rfl <|
    zgX12_7 1 hX dX12_othersAt_1 (rfl : shp 128 = (12, 0)) <|
    z_aload_n 4 hX dX12_othersAt_4 rfl <|
    z_iload_n 5 hX dX12_othersAt_5 rfl <|
    z_iload_n 6 hX dX12_othersAt_6 rfl <|
    zb1 h fun x2 r1 h => zcX12_124 7 [.int a1, .int a2] [.ref (zα G 129)] hX dX12_othersAt_7 (c_X12_at (zgd0 hX) r1) (rfl : shp 128 = (12, 0)) rfl rfl rfl (Nat.le_of_ble_eq_true rfl) (Nat.le_of_ble_eq_true rfl) <|
    z_iald 10 hX dX12_othersAt_10 (rfl : shp 129 = (20, 628)) h fun x3 _ h =>
    z_istore_n 11 [some (.ref (zα G 128)), some (.int a1), some (.int a2), some (.int x3), none, none] hX dX12_othersAt_11 (Nat.le_of_ble_eq_true rfl) rfl rfl <|
    z_iconst 12 hX dX12_othersAt_12 zki0 <|
    z_istore 13 [some (.ref (zα G 128)), some (.int a1), some (.int a2), some (.int x3), some (.int (nI 0)), none] hX dX12_othersAt_13 (Nat.le_of_ble_eq_true rfl) rfl rfl <|
    z_iconst 15 hX dX12_othersAt_15 zki1 <|
    z_istore 16 [some (.ref (zα G 128)), some (.int a1), some (.int a2), some (.int x3), some (.int (nI 0)), some (.int (nI 1))] hX dX12_othersAt_16 (Nat.le_of_ble_eq_true rfl) rfl rfl <|
    l_X12_othersAt_18z hX hE (fun k71_a1 k71_a2 k71_a3 k71_a4 w11 h => ?_) _ _ _ _ _ _ _ h
  · refine z_aload_n 71 hX dX12_othersAt_71 rfl <|
      zgX12_7 72 hX dX12_othersAt_72 (rfl : shp 128 = (12, 0)) <|
      z_aload_n 75 hX dX12_othersAt_75 rfl <|
      z_iload_n 76 hX dX12_othersAt_76 rfl <|
      z_iload_n 77 hX dX12_othersAt_77 rfl <|
      zb1 h fun x105 r104 h => zcX12_124 78 [.int k71_a1, .int k71_a2] [.ref (zα G 129)] hX dX12_othersAt_78 (c_X12_at (zgd0 hX) r104) (rfl : shp 128 = (12, 0)) rfl rfl rfl (Nat.le_of_ble_eq_true rfl) (Nat.le_of_ble_eq_true rfl) <|
      z_iload_n 81 hX dX12_othersAt_81 rfl <|
      z_iast 82 hX dX12_othersAt_82 (rfl : shp 129 = (20, 628)) h fun w12 h =>
      z_iload 83 hX dX12_othersAt_83 rfl <|
      z_endI2 85 hE rfl h dX12_othersAt_85
def j_X12_others_26  (w : zW) : Option (Int32 × zW) :=
  zb2 (f_X12_error (nI 1) w) fun x2 w1 =>
  some (x2, w1)
theorem j_X12_others_26z {G : zG} {X : zX} {w : zW} {re : Int32} {we : zW}  (hX : zOk G X cX12_others 3 RX12 5) (hE : zEI G X cX12_others .int re we)  (h : j_X12_others_26 w = some (re, we)) : zZ G X w 26 [some (.ref (zα G 128)), none, none] [] := by
  rw [j_X12_others_26] at h
  refine z_aload_n 26 hX dX12_others_26 rfl <|
    z_iconst 27 hX dX12_others_27 zki1 <|
    zb12 h fun x2 w1 r1 h => zcX12_64 28 [.int (nI 1)] [] hX dX12_others_28 (c_X12_error (zgd0 hX) r1) (rfl : shp 128 = (12, 0)) rfl rfl rfl (Nat.le_of_ble_eq_true rfl) (Nat.le_of_ble_eq_true rfl) <|
    z_endI2 31 hE rfl h dX12_others_31
def f_X12_others (a1 : Int32) (a2 : Int32) (w : zW) : Option (Int32 × zW) :=
  zb (f_X12_isWall a1 w) fun x2 =>
  if x2 = nI 0 then
    j_X12_others_26 w
  else
    zb (f_X12_isPlace a1 a2 w) fun x5 =>
    if x5 = nI 0 then
      j_X12_others_26 w
    else
      zb2 (f_X12_othersAt a1 a2 w) fun x8 w1 =>
      some (x8, w1)
theorem c_X12_others {G : zG} {l : Launch} (hG : zgood G) {w : zW} {re : Int32} {we : zW} {a1 : Int32} {a2 : Int32}  (h : f_X12_others a1 a2 w = some (re, we)) : zMet G l yX12_others cX12_others 3 (some .int) 5 [.ref (zα G 128), .int a1, .int a2] w (some (.int re)) we := by
  refine zMet_of (L0 := [some (.ref (zα G 128)), some (.int a1), some (.int a2)]) hG zplX12 (Nat.le_of_ble_eq_true rfl) rfl rfl (fun X hl hX hEI hEV hEA => ?_)
  subst hl
  have hX : zOk G X cX12_others 3 RX12 5 := hX
  have hE := hEI _ _ rfl rfl
  rw [f_X12_others] at h
  refine z_aload_n 0 hX dX12_others_0 rfl <|
    z_iload_n 1 hX dX12_others_1 rfl <|
    zb1 h fun x2 r1 h => zcX12_133 2 [.int a1] [] hX dX12_others_2 (c_X12_isWall (zgd0 hX) r1) (rfl : shp 128 = (12, 0)) rfl rfl rfl (Nat.le_of_ble_eq_true rfl) (Nat.le_of_ble_eq_true rfl) <|
    z_if_eq 5 26 hX dX12_others_5 rfl h (fun q3 h => ?_) (fun q3 h => ?_)
  · refine z_weak (L' := [some (.ref (zα G 128)), none, none]) (zsub_s (zsub_n (zsub_n zsub_0))) <|
      j_X12_others_26z hX hE h
  · refine z_aload_n 8 hX dX12_others_8 rfl <|
      z_iload_n 9 hX dX12_others_9 rfl <|
      z_iload_n 10 hX dX12_others_10 rfl <|
      zb1 h fun x5 r4 h => zcX12_186 11 [.int a1, .int a2] [] hX dX12_others_11 (c_X12_isPlace (zgd0 hX) r4) (rfl : shp 128 = (12, 0)) rfl rfl rfl (Nat.le_of_ble_eq_true rfl) (Nat.le_of_ble_eq_true rfl) <|
      z_if_eq 14 26 hX dX12_others_14 rfl h (fun q6 h => ?_) (fun q6 h => ?_)
    · refine z_weak (L' := [some (.ref (zα G 128)), none, none]) (zsub_s (zsub_n (zsub_n zsub_0))) <|
        j_X12_others_26z hX hE h
    · refine z_aload_n 17 hX dX12_others_17 rfl <|
        z_iload_n 18 hX dX12_others_18 rfl <|
        z_iload_n 19 hX dX12_others_19 rfl <|
        zb12 h fun x8 w1 r7 h => zcX12_198 20 [.int a1, .int a2] [] hX dX12_others_20 (c_X12_othersAt (zgd0 hX) r7) (rfl : shp 128 = (12, 0)) rfl rfl rfl (Nat.le_of_ble_eq_true rfl) (Nat.le_of_ble_eq_true rfl) <|
        z_goto 23 31 hX dX12_others_23 rfl <|
        z_endI2 31 hE rfl h dX12_others_31
def l_X12_bitsOf_4 (K20 : Int32 → Option Int32) : Nat → Int32 → Int32 → Option Int32
  | 0, _, _ => none
  | n + 1, a1, a2 =>
    if a2 = nI 0 then
      K20 a1
    else
      zlet (a1 + nI 1) fun x2 =>
      zlet (a2 &&& (a2 - (nI 1))) fun x3 =>
      (l_X12_bitsOf_4 K20 n) x2 x3
theorem l_X12_bitsOf_4z {K20 : Int32 → Option Int32} {G : zG} {X : zX} {w : zW} {re : Int32} (hX : zOk G X cX12_bitsOf 3 RX12 0) (hE : zEI G X cX12_bitsOf .int re w) (hK20 : ∀ (a1 : Int32) , K20 a1 = some re → zZ G X w 20 [none, some (.int a1), none] []) : ∀ (n : Nat) (a1 : Int32) (a2 : Int32) , l_X12_bitsOf_4 K20 n a1 a2 = some re → zZ G X w 4 [none, some (.int a1), some (.int a2)] [] := by
  intro n
  induction n with
  | zero =>
    intro a1 a2  h
    rw [l_X12_bitsOf_4.eq_1] at h
    cases h
  | succ n ih =>
    intro a1 a2  h
    rw [l_X12_bitsOf_4.eq_2] at h
    refine z_iload_n 4 hX dX12_bitsOf_4 rfl <|
      z_if_eq 5 20 hX dX12_bitsOf_5 rfl h (fun q1 h => ?_) (fun q1 h => ?_)
    · refine z_weak (L' := [none, some (.int a1), none]) (zsub_n (zsub_s (zsub_n zsub_0))) <|
        hK20 _ h
    · refine z_iincG 8 (fun x2 => [none, some (.int x2), some (.int a2)]) hX dX12_bitsOf_8 rfl zki1 rfl (fun _ => rfl) h fun x2 h =>
        z_iload_n 11 hX dX12_bitsOf_11 rfl <|
        z_iload_n 12 hX dX12_bitsOf_12 rfl <|
        z_iconst 13 hX dX12_bitsOf_13 zki1 <|
        z_isub 14 hX dX12_bitsOf_14 <|
        z_iand 15 hX dX12_bitsOf_15 <|
        z_top h fun x3 h =>
        z_istore_n 16 [none, some (.int x2), some (.int x3)] hX dX12_bitsOf_16 (Nat.le_of_ble_eq_true rfl) rfl rfl <|
        z_goto 17 4 hX dX12_bitsOf_17 rfl <|
        ih _ _ h
def f_X12_bitsOf (a0 : Int32)  : Option Int32 :=
  l_X12_bitsOf_4 (fun k20_a1 =>
    some k20_a1) zfuel (nI 0) a0
theorem c_X12_bitsOf {G : zG} {l : Launch} (hG : zgood G) {w : zW} {re : Int32} {a0 : Int32}  (h : f_X12_bitsOf a0 = some re) : zMet G l yX12_bitsOf cX12_bitsOf 3 (some .int) 0 [.int a0] w (some (.int re)) w := by
  refine zMet_of (L0 := [some (.int a0), none, none]) hG zplX12 (Nat.le_of_ble_eq_true rfl) rfl rfl (fun X hl hX hEI hEV hEA => ?_)
  subst hl
  have hX : zOk G X cX12_bitsOf 3 RX12 0 := hX
  have hE := hEI _ _ rfl rfl
  rw [f_X12_bitsOf] at h
  refine z_iconst 0 hX dX12_bitsOf_0 zki0 <|
    z_istore_n 1 [some (.int a0), some (.int (nI 0)), none] hX dX12_bitsOf_1 (Nat.le_of_ble_eq_true rfl) rfl rfl <|
    z_iload_n 2 hX dX12_bitsOf_2 rfl <|
    z_istore_n 3 [some (.int a0), some (.int (nI 0)), some (.int a0)] hX dX12_bitsOf_3 (Nat.le_of_ble_eq_true rfl) rfl rfl <|
    z_weak (L' := [none, some (.int (nI 0)), some (.int a0)]) (zsub_n (zsub_s (zsub_s zsub_0))) <|
    l_X12_bitsOf_4z hX hE (fun k20_a1 h => ?_) _ _ _ h
  · refine z_iload_n 20 hX dX12_bitsOf_20 rfl <|
      z_endI 21 hE rfl h dX12_bitsOf_21
def j_X12_steps_56 (rc : Int32 → Int32 → Int32 → zW → Option (Int32 × zW)) (K64 : Int32 → zW → Option (Int32 × zW)) (a1 : Int32) (a3 : Int32) (b0 : Int32) (b1 : Int32) (w : zW) : Option (Int32 × zW) :=
  zlet (b0 + b1) fun x1 =>
  zlet (a3 + nI 1) fun x2 =>
  rc a1 x1 x2 w
theorem j_X12_steps_56z {rc : Int32 → Int32 → Int32 → zW → Option (Int32 × zW)} {K64 : Int32 → zW → Option (Int32 × zW)} {G : zG} {X : zX} {w : zW} {re : Int32} {we : zW} {a1 : Int32} {a3 : Int32} {b0 : Int32} {b1 : Int32} (hX : zOk G X cX12_steps 4 RX12 5) (hE : zEI G X cX12_steps .int re we) (hrc : ∀ (a1 : Int32) (a2 : Int32) (a3 : Int32) (w3 : zW) , rc a1 a2 a3 w3 = some (re, we) → zZ G X w3 18 [some (.ref (zα G 128)), some (.int a1), some (.int a2), some (.int a3)] []) (hK64 : ∀ (a2 : Int32) (w3 : zW) , K64 a2 w3 = some (re, we) → zZ G X w3 64 [none, none, some (.int a2), none] [])  (h : j_X12_steps_56 rc K64 a1 a3 b0 b1 w = some (re, we)) : zZ G X w 56 [some (.ref (zα G 128)), some (.int a1), none, some (.int a3)] [.int b1, .int b0] := by
  rw [j_X12_steps_56] at h
  refine z_iadd 56 hX dX12_steps_56 <|
    z_top h fun x1 h =>
    z_istore_n 57 [some (.ref (zα G 128)), some (.int a1), some (.int x1), some (.int a3)] hX dX12_steps_57 (Nat.le_of_ble_eq_true rfl) rfl rfl <|
    z_iincG 58 (fun x2 => [some (.ref (zα G 128)), some (.int a1), some (.int x1), some (.int x2)]) hX dX12_steps_58 rfl zki1 rfl (fun _ => rfl) h fun x2 h =>
    z_goto 61 18 hX dX12_steps_61 rfl <|
    hrc _ _ _ _ h
def l_X12_steps_18 (K64 : Int32 → zW → Option (Int32 × zW)) : Nat → Int32 → Int32 → Int32 → zW → Option (Int32 × zW)
  | 0, _, _, _, _ => none
  | n + 1, a1, a2, a3, w =>
    zb (f_X12_its a1 (nI 2) w) fun x2 =>
    if a3 < x2 then
      zb (f_X12_at a1 a3) fun x5 =>
      zld w 129 628 x5 fun x6 =>
      if nI 0 < x6 then
        zb2 (f_X12_othersAt a1 a3 w) fun x9 w1 =>
        zb (f_X12_bitsOf x9) fun x11 =>
        j_X12_steps_56 (l_X12_steps_18 K64 n) K64 a1 a3 a2 x11 w1
      else
        j_X12_steps_56 (l_X12_steps_18 K64 n) K64 a1 a3 a2 (nI 0) w
    else
      K64 a2 w
theorem l_X12_steps_18z {K64 : Int32 → zW → Option (Int32 × zW)} {G : zG} {X : zX} {re : Int32} {we : zW} (hX : zOk G X cX12_steps 4 RX12 5) (hE : zEI G X cX12_steps .int re we) (hK64 : ∀ (a2 : Int32) (w3 : zW) , K64 a2 w3 = some (re, we) → zZ G X w3 64 [none, none, some (.int a2), none] []) : ∀ (n : Nat) (a1 : Int32) (a2 : Int32) (a3 : Int32) (w : zW) , l_X12_steps_18 K64 n a1 a2 a3 w = some (re, we) → zZ G X w 18 [some (.ref (zα G 128)), some (.int a1), some (.int a2), some (.int a3)] [] := by
  intro n
  induction n with
  | zero =>
    intro a1 a2 a3 w  h
    rw [l_X12_steps_18.eq_1] at h
    cases h
  | succ n ih =>
    intro a1 a2 a3 w  h
    rw [l_X12_steps_18.eq_2] at h
    refine z_iload_n 18 hX dX12_steps_18 rfl <|
      z_aload_n 19 hX dX12_steps_19 rfl <|
      z_iload_n 20 hX dX12_steps_20 rfl <|
      z_iconst 21 hX dX12_steps_21 zki2 <|
      zb1 h fun x2 r1 h => zcX12_60 22 [.int a1, .int (nI 2)] [.int a3] hX dX12_steps_22 (c_X12_its (zgd0 hX) r1) (rfl : shp 128 = (12, 0)) rfl rfl rfl (Nat.le_of_ble_eq_true rfl) (Nat.le_of_ble_eq_true rfl) <|
      z_icmp_ge 25 64 hX dX12_steps_25 rfl h (fun q3 h => ?_) (fun q3 h => ?_)
    · refine z_weak (L' := [none, none, some (.int a2), none]) (zsub_n (zsub_n (zsub_s (zsub_n zsub_0)))) <|
        hK64 _ _ h
    · refine z_iload_n 28 hX dX12_steps_28 rfl <|
        z_aload_n 29 hX dX12_steps_29 rfl <|
        zgX12_7 30 hX dX12_steps_30 (rfl : shp 128 = (12, 0)) <|
        z_aload_n 33 hX dX12_steps_33 rfl <|
        z_iload_n 34 hX dX12_steps_34 rfl <|
        z_iload_n 35 hX dX12_steps_35 rfl <|
        zb1 h fun x5 r4 h => zcX12_124 36 [.int a1, .int a3] [.ref (zα G 129), .int a2] hX dX12_steps_36 (c_X12_at (zgd0 hX) r4) (rfl : shp 128 = (12, 0)) rfl rfl rfl (Nat.le_of_ble_eq_true rfl) (Nat.le_of_ble_eq_true rfl) <|
        z_iald 39 hX dX12_steps_39 (rfl : shp 129 = (20, 628)) h fun x6 _ h =>
        z_if_le 40 55 hX dX12_steps_40 rfl h (fun q7 h => ?_) (fun q7 h => ?_)
      · refine z_iconst 55 hX dX12_steps_55 zki0 <|
          z_weak (L' := [some (.ref (zα G 128)), some (.int a1), none, some (.int a3)]) (zsub_s (zsub_s (zsub_n (zsub_s zsub_0)))) <|
          j_X12_steps_56z hX hE ih hK64 h
      · refine z_aload_n 43 hX dX12_steps_43 rfl <|
          z_iload_n 44 hX dX12_steps_44 rfl <|
          z_iload_n 45 hX dX12_steps_45 rfl <|
          zb12 h fun x9 w1 r8 h => zcX12_198 46 [.int a1, .int a3] [.int a2] hX dX12_steps_46 (c_X12_othersAt (zgd0 hX) r8) (rfl : shp 128 = (12, 0)) rfl rfl rfl (Nat.le_of_ble_eq_true rfl) (Nat.le_of_ble_eq_true rfl) <|
          zb1 h fun x11 r10 h => zcX12_201 49 [.int x9] [.int a2] hX dX12_steps_49 (c_X12_bitsOf (zgd0 hX) r10) rfl rfl rfl (Nat.le_of_ble_eq_true rfl) (Nat.le_of_ble_eq_true rfl) <|
          z_goto 52 56 hX dX12_steps_52 rfl <|
          z_weak (L' := [some (.ref (zα G 128)), some (.int a1), none, some (.int a3)]) (zsub_s (zsub_s (zsub_n (zsub_s zsub_0)))) <|
          j_X12_steps_56z hX hE ih hK64 h
def f_X12_steps (a1 : Int32) (w : zW) : Option (Int32 × zW) :=
  zb (f_X12_isWall a1 w) fun x2 =>
  if x2 = nI 0 then
    zb2 (f_X12_error (nI 1) w) fun x5 w1 =>
    some (x5, w1)
  else
    l_X12_steps_18 (fun k64_a2 w11 =>
      some (k64_a2, w11)) zfuel a1 (nI 0) (nI 0) w
theorem c_X12_steps {G : zG} {l : Launch} (hG : zgood G) {w : zW} {re : Int32} {we : zW} {a1 : Int32}  (h : f_X12_steps a1 w = some (re, we)) : zMet G l yX12_steps cX12_steps 4 (some .int) 5 [.ref (zα G 128), .int a1] w (some (.int re)) we := by
  refine zMet_of (L0 := [some (.ref (zα G 128)), some (.int a1), none, none]) hG zplX12 (Nat.le_of_ble_eq_true rfl) rfl rfl (fun X hl hX hEI hEV hEA => ?_)
  subst hl
  have hX : zOk G X cX12_steps 4 RX12 5 := hX
  have hE := hEI _ _ rfl rfl
  rw [f_X12_steps] at h
  refine z_aload_n 0 hX dX12_steps_0 rfl <|
    z_iload_n 1 hX dX12_steps_1 rfl <|
    zb1 h fun x2 r1 h => zcX12_133 2 [.int a1] [] hX dX12_steps_2 (c_X12_isWall (zgd0 hX) r1) (rfl : shp 128 = (12, 0)) rfl rfl rfl (Nat.le_of_ble_eq_true rfl) (Nat.le_of_ble_eq_true rfl) <|
    z_if_ne 5 14 hX dX12_steps_5 rfl h (fun q3 h => ?_) (fun q3 h => ?_)
  · refine z_iconst 14 hX dX12_steps_14 zki0 <|
      z_istore_n 15 [some (.ref (zα G 128)), some (.int a1), some (.int (nI 0)), none] hX dX12_steps_15 (Nat.le_of_ble_eq_true rfl) rfl rfl <|
      z_iconst 16 hX dX12_steps_16 zki0 <|
      z_istore_n 17 [some (.ref (zα G 128)), some (.int a1), some (.int (nI 0)), some (.int (nI 0))] hX dX12_steps_17 (Nat.le_of_ble_eq_true rfl) rfl rfl <|
      l_X12_steps_18z hX hE (fun k64_a2 w11 h => ?_) _ _ _ _ _ h
    · refine z_iload_n 64 hX dX12_steps_64 rfl <|
        z_endI2 65 hE rfl h dX12_steps_65
  · refine z_aload_n 8 hX dX12_steps_8 rfl <|
      z_iconst 9 hX dX12_steps_9 zki1 <|
      zb12 h fun x5 w1 r4 h => zcX12_64 10 [.int (nI 1)] [] hX dX12_steps_10 (c_X12_error (zgd0 hX) r4) (rfl : shp 128 = (12, 0)) rfl rfl rfl (Nat.le_of_ble_eq_true rfl) (Nat.le_of_ble_eq_true rfl) <|
      z_endI2 13 hE rfl h dX12_steps_13
def j_X12_mends_49 (rc : Int32 → zW → Option (Int32 × zW)) (K56 : zW → Option (Int32 × zW)) (a2 : Int32) (b1 : Int32) (b2 : Int32) (w : zW) : Option (Int32 × zW) :=
  zsto w 136 245 b1 b2 fun w1 =>
  zlet (a2 + nI 1) fun x1 =>
  rc x1 w1
theorem j_X12_mends_49z {rc : Int32 → zW → Option (Int32 × zW)} {K56 : zW → Option (Int32 × zW)} {G : zG} {X : zX} {w : zW} {re : Int32} {we : zW} {a2 : Int32} {b1 : Int32} {b2 : Int32} (hX : zOk G X cX12_mends 9 RX12 3) (hE : zEI G X cX12_mends .int re we) (hrc : ∀ (a2 : Int32) (w3 : zW) , rc a2 w3 = some (re, we) → zZ G X w3 21 [some (.ref (zα G 128)), none, some (.int a2), none, none, none, none, none, none] []) (hK56 : ∀ (w3 : zW) , K56 w3 = some (re, we) → zZ G X w3 56 [some (.ref (zα G 128)), none, none, none, none, none, none, none, none] [])  (h : j_X12_mends_49 rc K56 a2 b1 b2 w = some (re, we)) : zZ G X w 49 [some (.ref (zα G 128)), none, some (.int a2), none, none, none, none, none, none] [.int b2, .int b1, .ref (zα G 136)] := by
  rw [j_X12_mends_49] at h
  refine z_iast 49 hX dX12_mends_49 (rfl : shp 136 = (20, 245)) h fun w1 h =>
    z_iincG 50 (fun x1 => [some (.ref (zα G 128)), none, some (.int x1), none, none, none, none, none, none]) hX dX12_mends_50 rfl zki1 rfl (fun _ => rfl) h fun x1 h =>
    z_goto 53 21 hX dX12_mends_53 rfl <|
    hrc _ _ h
def l_X12_mends_21 (K56 : zW → Option (Int32 × zW)) : Nat → Int32 → zW → Option (Int32 × zW)
  | 0, _, _ => none
  | n + 1, a2, w =>
    if (((nI 5) * (w 128 12)) + (nI 4)) < a2 then
      K56 w
    else
    if a2 = nI 0 then
      j_X12_mends_49 (l_X12_mends_21 K56 n) K56 a2 a2 (nI 0) w
    else
      j_X12_mends_49 (l_X12_mends_21 K56 n) K56 a2 a2 (nI 9999) w
theorem l_X12_mends_21z {K56 : zW → Option (Int32 × zW)} {G : zG} {X : zX} {re : Int32} {we : zW} (hX : zOk G X cX12_mends 9 RX12 3) (hE : zEI G X cX12_mends .int re we) (hK56 : ∀ (w3 : zW) , K56 w3 = some (re, we) → zZ G X w3 56 [some (.ref (zα G 128)), none, none, none, none, none, none, none, none] []) : ∀ (n : Nat) (a2 : Int32) (w : zW) , l_X12_mends_21 K56 n a2 w = some (re, we) → zZ G X w 21 [some (.ref (zα G 128)), none, some (.int a2), none, none, none, none, none, none] [] := by
  intro n
  induction n with
  | zero =>
    intro a2 w  h
    rw [l_X12_mends_21.eq_1] at h
    cases h
  | succ n ih =>
    intro a2 w  h
    rw [l_X12_mends_21.eq_2] at h
    refine z_iload_n 21 hX dX12_mends_21 rfl <|
      z_iconst 22 hX dX12_mends_22 zki5 <|
      z_aload_n 23 hX dX12_mends_23 rfl <|
      zgX12_126 24 hX dX12_mends_24 (rfl : shp 128 = (12, 0)) <|
      z_imul 27 hX dX12_mends_27 <|
      z_iconst 28 hX dX12_mends_28 zki4 <|
      z_iadd 29 hX dX12_mends_29 <|
      z_icmp_gt 30 56 hX dX12_mends_30 rfl h (fun q1 h => ?_) (fun q1 h => ?_)
    · refine z_weak (L' := [some (.ref (zα G 128)), none, none, none, none, none, none, none, none]) (zsub_s (zsub_n (zsub_n (zsub_n (zsub_n (zsub_n (zsub_n (zsub_n (zsub_n zsub_0))))))))) <|
        hK56 _ h
    · refine z_aload_n 33 hX dX12_mends_33 rfl <|
        zgX12_31 34 hX dX12_mends_34 (rfl : shp 128 = (12, 0)) <|
        z_iload_n 37 hX dX12_mends_37 rfl <|
        z_iload_n 38 hX dX12_mends_38 rfl <|
        z_if_ne 39 46 hX dX12_mends_39 rfl h (fun q2 h => ?_) (fun q2 h => ?_)
      · refine z_sipush 46 hX dX12_mends_46 zks9999 <|
          j_X12_mends_49z hX hE ih hK56 h
      · refine z_iconst 42 hX dX12_mends_42 zki0 <|
          z_goto 43 49 hX dX12_mends_43 rfl <|
          j_X12_mends_49z hX hE ih hK56 h
def j_X12_mends_198 (rc : Int32 → Int32 → Int32 → zW → Option (Int32 × zW)) (K205 : Int32 → Int32 → zW → Option (Int32 × zW)) (a2 : Int32) (a3 : Int32) (a4 : Int32) (b1 : Int32) (b2 : Int32) (w : zW) : Option (Int32 × zW) :=
  zsto w 136 245 b1 b2 fun w1 =>
  zlet (a4 + nI 1) fun x1 =>
  rc a2 a3 x1 w1
theorem j_X12_mends_198z {rc : Int32 → Int32 → Int32 → zW → Option (Int32 × zW)} {K205 : Int32 → Int32 → zW → Option (Int32 × zW)} {G : zG} {X : zX} {w : zW} {re : Int32} {we : zW} {a2 : Int32} {a3 : Int32} {a4 : Int32} {b1 : Int32} {b2 : Int32} (hX : zOk G X cX12_mends 9 RX12 3) (hE : zEI G X cX12_mends .int re we) (hrc : ∀ (a2 : Int32) (a3 : Int32) (a4 : Int32) (w3 : zW) , rc a2 a3 a4 w3 = some (re, we) → zZ G X w3 76 [some (.ref (zα G 128)), none, some (.int a2), some (.int a3), some (.int a4), none, none, none, none] []) (hK205 : ∀ (a2 : Int32) (a3 : Int32) (w3 : zW) , K205 a2 a3 w3 = some (re, we) → zZ G X w3 205 [some (.ref (zα G 128)), none, some (.int a2), some (.int a3), none, none, none, none, none] [])  (h : j_X12_mends_198 rc K205 a2 a3 a4 b1 b2 w = some (re, we)) : zZ G X w 198 [some (.ref (zα G 128)), none, some (.int a2), some (.int a3), some (.int a4), none, none, none, none] [.int b2, .int b1, .ref (zα G 136)] := by
  rw [j_X12_mends_198] at h
  refine z_iast 198 hX dX12_mends_198 (rfl : shp 136 = (20, 245)) h fun w1 h =>
    z_iincG 199 (fun x1 => [some (.ref (zα G 128)), none, some (.int a2), some (.int a3), some (.int x1), none, none, none, none]) hX dX12_mends_199 rfl zki1 rfl (fun _ => rfl) h fun x1 h =>
    z_goto 202 76 hX dX12_mends_202 rfl <|
    hrc _ _ _ _ h
def l_X12_mends_76 (K205 : Int32 → Int32 → zW → Option (Int32 × zW)) : Nat → Int32 → Int32 → Int32 → zW → Option (Int32 × zW)
  | 0, _, _, _, _ => none
  | n + 1, a2, a3, a4, w =>
    if a4 < (w 129 1) then
      zld w 136 245 (((nI 5) * a2) + a3) fun x2 =>
      if x2 < (nI 9999) then
        zb (f_X12_sortOf a4 w) fun x5 =>
        zb (f_X12_behind a3 x5) fun x7 =>
        zb (f_X12_unlike a4 a2 w) fun x9 =>
        if x7 = (mI 1) then
          zlet (a4 + nI 1) fun x11 =>
          (l_X12_mends_76 K205 n) a2 a3 x11 w
        else
        if x9 < (nI 9999) then
          zb (f_X12_lengthOf a4 w) fun x15 =>
          zlet (((nI 5) * (a2 + x15)) + x7) fun x16 =>
          zld w 136 245 (((nI 5) * a2) + a3) fun x17 =>
          zlet (x17 + x9) fun x18 =>
          zld w 136 245 x16 fun x19 =>
          if x18 < x19 then
            j_X12_mends_198 (l_X12_mends_76 K205 n) K205 a2 a3 a4 x16 x18 w
          else
            zld w 136 245 x16 fun x21 =>
            j_X12_mends_198 (l_X12_mends_76 K205 n) K205 a2 a3 a4 x16 x21 w
        else
          zlet (a4 + nI 1) fun x13 =>
          (l_X12_mends_76 K205 n) a2 a3 x13 w
      else
        K205 a2 a3 w
    else
      K205 a2 a3 w
theorem l_X12_mends_76z {K205 : Int32 → Int32 → zW → Option (Int32 × zW)} {G : zG} {X : zX} {re : Int32} {we : zW} (hX : zOk G X cX12_mends 9 RX12 3) (hE : zEI G X cX12_mends .int re we) (hK205 : ∀ (a2 : Int32) (a3 : Int32) (w3 : zW) , K205 a2 a3 w3 = some (re, we) → zZ G X w3 205 [some (.ref (zα G 128)), none, some (.int a2), some (.int a3), none, none, none, none, none] []) : ∀ (n : Nat) (a2 : Int32) (a3 : Int32) (a4 : Int32) (w : zW) , l_X12_mends_76 K205 n a2 a3 a4 w = some (re, we) → zZ G X w 76 [some (.ref (zα G 128)), none, some (.int a2), some (.int a3), some (.int a4), none, none, none, none] [] := by
  intro n
  induction n with
  | zero =>
    intro a2 a3 a4 w  h
    rw [l_X12_mends_76.eq_1] at h
    cases h
  | succ n ih =>
    intro a2 a3 a4 w  h
    rw [l_X12_mends_76.eq_2] at h
    refine z_iload 76 hX dX12_mends_76 rfl <|
      z_aload_n 78 hX dX12_mends_78 rfl <|
      zgX12_7 79 hX dX12_mends_79 (rfl : shp 128 = (12, 0)) <|
      z_iconst 82 hX dX12_mends_82 zki1 <|
      z_ialdc (j := 1) 83 hX dX12_mends_83 (rfl : shp 129 = (20, 628)) (zink 1 628 (by decide) (by decide)) (nI_clamp (by decide)) <|
      z_icmp_ge 84 205 hX dX12_mends_84 rfl h (fun q1 h => ?_) (fun q1 h => ?_)
    · refine z_weak (L' := [some (.ref (zα G 128)), none, some (.int a2), some (.int a3), none, none, none, none, none]) (zsub_s (zsub_n (zsub_s (zsub_s (zsub_n (zsub_n (zsub_n (zsub_n (zsub_n zsub_0))))))))) <|
        hK205 _ _ _ h
    · refine z_aload_n 87 hX dX12_mends_87 rfl <|
        zgX12_31 88 hX dX12_mends_88 (rfl : shp 128 = (12, 0)) <|
        z_iconst 91 hX dX12_mends_91 zki5 <|
        z_iload_n 92 hX dX12_mends_92 rfl <|
        z_imul 93 hX dX12_mends_93 <|
        z_iload_n 94 hX dX12_mends_94 rfl <|
        z_iadd 95 hX dX12_mends_95 <|
        z_iald 96 hX dX12_mends_96 (rfl : shp 136 = (20, 245)) h fun x2 _ h =>
        z_sipush 97 hX dX12_mends_97 zks9999 <|
        z_icmp_ge 100 205 hX dX12_mends_100 rfl h (fun q3 h => ?_) (fun q3 h => ?_)
      · refine z_weak (L' := [some (.ref (zα G 128)), none, some (.int a2), some (.int a3), none, none, none, none, none]) (zsub_s (zsub_n (zsub_s (zsub_s (zsub_n (zsub_n (zsub_n (zsub_n (zsub_n zsub_0))))))))) <|
          hK205 _ _ _ h
      · refine z_iload_n 103 hX dX12_mends_103 rfl <|
          z_aload_n 104 hX dX12_mends_104 rfl <|
          z_iload 105 hX dX12_mends_105 rfl <|
          zb1 h fun x5 r4 h => zcX12_151 107 [.int a4] [.int a3] hX dX12_mends_107 (c_X12_sortOf (zgd0 hX) r4) (rfl : shp 128 = (12, 0)) rfl rfl rfl (Nat.le_of_ble_eq_true rfl) (Nat.le_of_ble_eq_true rfl) <|
          zb1 h fun x7 r6 h => zcX12_154 110 [.int a3, .int x5] [] hX dX12_mends_110 (c_X12_behind (zgd0 hX) r6) rfl rfl rfl (Nat.le_of_ble_eq_true rfl) (Nat.le_of_ble_eq_true rfl) <|
          z_istore 113 [some (.ref (zα G 128)), none, some (.int a2), some (.int a3), some (.int a4), some (.int x7), none, none, none] hX dX12_mends_113 (Nat.le_of_ble_eq_true rfl) rfl rfl <|
          z_aload_n 115 hX dX12_mends_115 rfl <|
          z_iload 116 hX dX12_mends_116 rfl <|
          z_iload_n 118 hX dX12_mends_118 rfl <|
          zb1 h fun x9 r8 h => zcX12_157 119 [.int a4, .int a2] [] hX dX12_mends_119 (c_X12_unlike (zgd0 hX) r8) (rfl : shp 128 = (12, 0)) rfl rfl rfl (Nat.le_of_ble_eq_true rfl) (Nat.le_of_ble_eq_true rfl) <|
          z_istore 122 [some (.ref (zα G 128)), none, some (.int a2), some (.int a3), some (.int a4), some (.int x7), some (.int x9), none, none] hX dX12_mends_122 (Nat.le_of_ble_eq_true rfl) rfl rfl <|
          z_iload 124 hX dX12_mends_124 rfl <|
          z_iconst 126 hX dX12_mends_126 zkim1 <|
          z_icmp_eq 127 199 hX dX12_mends_127 rfl h (fun q10 h => ?_) (fun q10 h => ?_)
        · refine z_iincG 199 (fun x11 => [some (.ref (zα G 128)), none, some (.int a2), some (.int a3), some (.int x11), some (.int x7), some (.int x9), none, none]) hX dX12_mends_199 rfl zki1 rfl (fun _ => rfl) h fun x11 h =>
            z_goto 202 76 hX dX12_mends_202 rfl <|
            z_weak (L' := [some (.ref (zα G 128)), none, some (.int a2), some (.int a3), some (.int x11), none, none, none, none]) (zsub_s (zsub_n (zsub_s (zsub_s (zsub_s (zsub_n (zsub_n (zsub_n (zsub_n zsub_0))))))))) <|
            ih _ _ _ _ h
        · refine z_iload 130 hX dX12_mends_130 rfl <|
            z_sipush 132 hX dX12_mends_132 zks9999 <|
            z_icmp_ge 135 199 hX dX12_mends_135 rfl h (fun q12 h => ?_) (fun q12 h => ?_)
          · refine z_iincG 199 (fun x13 => [some (.ref (zα G 128)), none, some (.int a2), some (.int a3), some (.int x13), some (.int x7), some (.int x9), none, none]) hX dX12_mends_199 rfl zki1 rfl (fun _ => rfl) h fun x13 h =>
              z_goto 202 76 hX dX12_mends_202 rfl <|
              z_weak (L' := [some (.ref (zα G 128)), none, some (.int a2), some (.int a3), some (.int x13), none, none, none, none]) (zsub_s (zsub_n (zsub_s (zsub_s (zsub_s (zsub_n (zsub_n (zsub_n (zsub_n zsub_0))))))))) <|
              ih _ _ _ _ h
          · refine z_iconst 138 hX dX12_mends_138 zki5 <|
              z_iload_n 139 hX dX12_mends_139 rfl <|
              z_aload_n 140 hX dX12_mends_140 rfl <|
              z_iload 141 hX dX12_mends_141 rfl <|
              zb1 h fun x15 r14 h => zcX12_145 143 [.int a4] [.int a2, .int (nI 5)] hX dX12_mends_143 (c_X12_lengthOf (zgd0 hX) r14) (rfl : shp 128 = (12, 0)) rfl rfl rfl (Nat.le_of_ble_eq_true rfl) (Nat.le_of_ble_eq_true rfl) <|
              z_iadd 146 hX dX12_mends_146 <|
              z_imul 147 hX dX12_mends_147 <|
              z_iload 148 hX dX12_mends_148 rfl <|
              z_iadd 150 hX dX12_mends_150 <|
              z_top h fun x16 h =>
              z_istore 151 [some (.ref (zα G 128)), none, some (.int a2), some (.int a3), some (.int a4), some (.int x7), some (.int x9), some (.int x16), none] hX dX12_mends_151 (Nat.le_of_ble_eq_true rfl) rfl rfl <|
              z_aload_n 153 hX dX12_mends_153 rfl <|
              zgX12_31 154 hX dX12_mends_154 (rfl : shp 128 = (12, 0)) <|
              z_iconst 157 hX dX12_mends_157 zki5 <|
              z_iload_n 158 hX dX12_mends_158 rfl <|
              z_imul 159 hX dX12_mends_159 <|
              z_iload_n 160 hX dX12_mends_160 rfl <|
              z_iadd 161 hX dX12_mends_161 <|
              z_iald 162 hX dX12_mends_162 (rfl : shp 136 = (20, 245)) h fun x17 _ h =>
              z_iload 163 hX dX12_mends_163 rfl <|
              z_iadd 165 hX dX12_mends_165 <|
              z_top h fun x18 h =>
              z_istore 166 [some (.ref (zα G 128)), none, some (.int a2), some (.int a3), some (.int a4), some (.int x7), some (.int x9), some (.int x16), some (.int x18)] hX dX12_mends_166 (Nat.le_of_ble_eq_true rfl) rfl rfl <|
              z_aload_n 168 hX dX12_mends_168 rfl <|
              zgX12_31 169 hX dX12_mends_169 (rfl : shp 128 = (12, 0)) <|
              z_iload 172 hX dX12_mends_172 rfl <|
              z_iload 174 hX dX12_mends_174 rfl <|
              z_aload_n 176 hX dX12_mends_176 rfl <|
              zgX12_31 177 hX dX12_mends_177 (rfl : shp 128 = (12, 0)) <|
              z_iload 180 hX dX12_mends_180 rfl <|
              z_iald 182 hX dX12_mends_182 (rfl : shp 136 = (20, 245)) h fun x19 _ h =>
              z_icmp_ge 183 191 hX dX12_mends_183 rfl h (fun q20 h => ?_) (fun q20 h => ?_)
            · refine z_aload_n 191 hX dX12_mends_191 rfl <|
                zgX12_31 192 hX dX12_mends_192 (rfl : shp 128 = (12, 0)) <|
                z_iload 195 hX dX12_mends_195 rfl <|
                z_iald 197 hX dX12_mends_197 (rfl : shp 136 = (20, 245)) h fun x21 _ h =>
                z_weak (L' := [some (.ref (zα G 128)), none, some (.int a2), some (.int a3), some (.int a4), none, none, none, none]) (zsub_s (zsub_n (zsub_s (zsub_s (zsub_s (zsub_n (zsub_n (zsub_n (zsub_n zsub_0))))))))) <|
                j_X12_mends_198z hX hE ih hK205 h
            · refine z_iload 186 hX dX12_mends_186 rfl <|
                z_goto 188 198 hX dX12_mends_188 rfl <|
                z_weak (L' := [some (.ref (zα G 128)), none, some (.int a2), some (.int a3), some (.int a4), none, none, none, none]) (zsub_s (zsub_n (zsub_s (zsub_s (zsub_s (zsub_n (zsub_n (zsub_n (zsub_n zsub_0))))))))) <|
                j_X12_mends_198z hX hE ih hK205 h
def l_X12_mends_68 (K211 : Int32 → zW → Option (Int32 × zW)) : Nat → Int32 → Int32 → zW → Option (Int32 × zW)
  | 0, _, _, _ => none
  | n + 1, a2, a3, w =>
    if a3 < (nI 5) then
      l_X12_mends_76 (fun k205_a2 k205_a3 w11 =>
        zlet (k205_a3 + nI 1) fun x102 =>
        (l_X12_mends_68 K211 n) k205_a2 x102 w11) zfuel a2 a3 (nI 0) w
    else
      K211 a2 w
theorem l_X12_mends_68z {K211 : Int32 → zW → Option (Int32 × zW)} {G : zG} {X : zX} {re : Int32} {we : zW} (hX : zOk G X cX12_mends 9 RX12 3) (hE : zEI G X cX12_mends .int re we) (hK211 : ∀ (a2 : Int32) (w3 : zW) , K211 a2 w3 = some (re, we) → zZ G X w3 211 [some (.ref (zα G 128)), none, some (.int a2), none, none, none, none, none, none] []) : ∀ (n : Nat) (a2 : Int32) (a3 : Int32) (w : zW) , l_X12_mends_68 K211 n a2 a3 w = some (re, we) → zZ G X w 68 [some (.ref (zα G 128)), none, some (.int a2), some (.int a3), none, none, none, none, none] [] := by
  intro n
  induction n with
  | zero =>
    intro a2 a3 w  h
    rw [l_X12_mends_68.eq_1] at h
    cases h
  | succ n ih =>
    intro a2 a3 w  h
    rw [l_X12_mends_68.eq_2] at h
    refine z_iload_n 68 hX dX12_mends_68 rfl <|
      z_iconst 69 hX dX12_mends_69 zki5 <|
      z_icmp_ge 70 211 hX dX12_mends_70 rfl h (fun q1 h => ?_) (fun q1 h => ?_)
    · refine z_weak (L' := [some (.ref (zα G 128)), none, some (.int a2), none, none, none, none, none, none]) (zsub_s (zsub_n (zsub_s (zsub_n (zsub_n (zsub_n (zsub_n (zsub_n (zsub_n zsub_0))))))))) <|
        hK211 _ _ h
    · refine z_iconst 73 hX dX12_mends_73 zki0 <|
        z_istore 74 [some (.ref (zα G 128)), none, some (.int a2), some (.int a3), some (.int (nI 0)), none, none, none, none] hX dX12_mends_74 (Nat.le_of_ble_eq_true rfl) rfl rfl <|
        l_X12_mends_76z hX hE (fun k205_a2 k205_a3 w11 h => ?_) _ _ _ _ _ h
      · refine z_iincG 205 (fun x102 => [some (.ref (zα G 128)), none, some (.int k205_a2), some (.int x102), none, none, none, none, none]) hX dX12_mends_205 rfl zki1 rfl (fun _ => rfl) h fun x102 h =>
          z_goto 208 68 hX dX12_mends_208 rfl <|
          ih _ _ _ h
def l_X12_mends_58 (K217 : zW → Option (Int32 × zW)) : Nat → Int32 → zW → Option (Int32 × zW)
  | 0, _, _ => none
  | n + 1, a2, w =>
    if a2 < (w 128 12) then
      l_X12_mends_68 (fun k211_a2 w11 =>
        zlet (k211_a2 + nI 1) fun x102 =>
        (l_X12_mends_58 K217 n) x102 w11) zfuel a2 (nI 0) w
    else
      K217 w
theorem l_X12_mends_58z {K217 : zW → Option (Int32 × zW)} {G : zG} {X : zX} {re : Int32} {we : zW} (hX : zOk G X cX12_mends 9 RX12 3) (hE : zEI G X cX12_mends .int re we) (hK217 : ∀ (w3 : zW) , K217 w3 = some (re, we) → zZ G X w3 217 [some (.ref (zα G 128)), none, none, none, none, none, none, none, none] []) : ∀ (n : Nat) (a2 : Int32) (w : zW) , l_X12_mends_58 K217 n a2 w = some (re, we) → zZ G X w 58 [some (.ref (zα G 128)), none, some (.int a2), none, none, none, none, none, none] [] := by
  intro n
  induction n with
  | zero =>
    intro a2 w  h
    rw [l_X12_mends_58.eq_1] at h
    cases h
  | succ n ih =>
    intro a2 w  h
    rw [l_X12_mends_58.eq_2] at h
    refine z_iload_n 58 hX dX12_mends_58 rfl <|
      z_aload_n 59 hX dX12_mends_59 rfl <|
      zgX12_126 60 hX dX12_mends_60 (rfl : shp 128 = (12, 0)) <|
      z_icmp_ge 63 217 hX dX12_mends_63 rfl h (fun q1 h => ?_) (fun q1 h => ?_)
    · refine z_weak (L' := [some (.ref (zα G 128)), none, none, none, none, none, none, none, none]) (zsub_s (zsub_n (zsub_n (zsub_n (zsub_n (zsub_n (zsub_n (zsub_n (zsub_n zsub_0))))))))) <|
        hK217 _ h
    · refine z_iconst 66 hX dX12_mends_66 zki0 <|
        z_istore_n 67 [some (.ref (zα G 128)), none, some (.int a2), some (.int (nI 0)), none, none, none, none, none] hX dX12_mends_67 (Nat.le_of_ble_eq_true rfl) rfl rfl <|
        l_X12_mends_68z hX hE (fun k211_a2 w11 h => ?_) _ _ _ _ h
      · refine z_iincG 211 (fun x102 => [some (.ref (zα G 128)), none, some (.int x102), none, none, none, none, none, none]) hX dX12_mends_211 rfl zki1 rfl (fun _ => rfl) h fun x102 h =>
          z_goto 214 58 hX dX12_mends_214 rfl <|
          ih _ _ h
def j_X12_mends_245  (w : zW) : Option (Int32 × zW) :=
  zb2 (f_X12_error (nI 2) w) fun x2 w1 =>
  some (x2, w1)
theorem j_X12_mends_245z {G : zG} {X : zX} {w : zW} {re : Int32} {we : zW}  (hX : zOk G X cX12_mends 9 RX12 3) (hE : zEI G X cX12_mends .int re we)  (h : j_X12_mends_245 w = some (re, we)) : zZ G X w 245 [some (.ref (zα G 128)), none, none, none, none, none, none, none, none] [] := by
  rw [j_X12_mends_245] at h
  refine z_aload_n 245 hX dX12_mends_245 rfl <|
    z_iconst 246 hX dX12_mends_246 zki2 <|
    zb12 h fun x2 w1 r1 h => zcX12_64 247 [.int (nI 2)] [] hX dX12_mends_247 (c_X12_error (zgd0 hX) r1) (rfl : shp 128 = (12, 0)) rfl rfl rfl (Nat.le_of_ble_eq_true rfl) (Nat.le_of_ble_eq_true rfl) <|
    z_goto 250 254 hX dX12_mends_250 rfl <|
    z_endI2 254 hE rfl h dX12_mends_254
def f_X12_mends (a1 : Int32) (w : zW) : Option (Int32 × zW) :=
  zb (f_X12_isWall a1 w) fun x2 =>
  if x2 = nI 0 then
    zb2 (f_X12_error (nI 1) w) fun x6 w2 =>
    some (x6, w2)
  else
    zb (f_X12_reads a1 w) fun w1 =>
    l_X12_mends_21 (fun w12 =>
      l_X12_mends_58 (fun w23 =>
        zld w23 136 245 (((nI 5) * (w23 128 12)) + (nI 4)) fun x205 =>
        if (w23 128 12) = nI 0 then
          j_X12_mends_245 w23
        else
        if x205 < (nI 9999) then
          some (x205, w23)
        else
          j_X12_mends_245 w23) zfuel (nI 0) w12) zfuel (nI 0) w1
theorem c_X12_mends {G : zG} {l : Launch} (hG : zgood G) {w : zW} {re : Int32} {we : zW} {a1 : Int32}  (h : f_X12_mends a1 w = some (re, we)) : zMet G l yX12_mends cX12_mends 9 (some .int) 3 [.ref (zα G 128), .int a1] w (some (.int re)) we := by
  refine zMet_of (L0 := [some (.ref (zα G 128)), some (.int a1), none, none, none, none, none, none, none]) hG zplX12 (Nat.le_of_ble_eq_true rfl) rfl rfl (fun X hl hX hEI hEV hEA => ?_)
  subst hl
  have hX : zOk G X cX12_mends 9 RX12 3 := hX
  have hE := hEI _ _ rfl rfl
  rw [f_X12_mends] at h
  refine z_aload_n 0 hX dX12_mends_0 rfl <|
    z_iload_n 1 hX dX12_mends_1 rfl <|
    zb1 h fun x2 r1 h => zcX12_133 2 [.int a1] [] hX dX12_mends_2 (c_X12_isWall (zgd0 hX) r1) (rfl : shp 128 = (12, 0)) rfl rfl rfl (Nat.le_of_ble_eq_true rfl) (Nat.le_of_ble_eq_true rfl) <|
    z_if_ne 5 14 hX dX12_mends_5 rfl h (fun q3 h => ?_) (fun q3 h => ?_)
  · refine z_aload_n 14 hX dX12_mends_14 rfl <|
      z_iload_n 15 hX dX12_mends_15 rfl <|
      zb1 h fun w1 r4 h => zcX12_164 16 [.int a1] [] hX dX12_mends_16 (c_X12_reads (zgd0 hX) r4) (rfl : shp 128 = (12, 0)) rfl rfl rfl (Nat.le_of_ble_eq_true rfl) (Nat.le_of_ble_eq_true rfl) <|
      z_iconst 19 hX dX12_mends_19 zki0 <|
      z_istore_n 20 [some (.ref (zα G 128)), some (.int a1), some (.int (nI 0)), none, none, none, none, none, none] hX dX12_mends_20 (Nat.le_of_ble_eq_true rfl) rfl rfl <|
      z_weak (L' := [some (.ref (zα G 128)), none, some (.int (nI 0)), none, none, none, none, none, none]) (zsub_s (zsub_n (zsub_s (zsub_n (zsub_n (zsub_n (zsub_n (zsub_n (zsub_n zsub_0))))))))) <|
      l_X12_mends_21z hX hE (fun w12 h => ?_) _ _ _ h
    · refine z_iconst 56 hX dX12_mends_56 zki0 <|
        z_istore_n 57 [some (.ref (zα G 128)), none, some (.int (nI 0)), none, none, none, none, none, none] hX dX12_mends_57 (Nat.le_of_ble_eq_true rfl) rfl rfl <|
        l_X12_mends_58z hX hE (fun w23 h => ?_) _ _ _ h
      · refine z_aload_n 217 hX dX12_mends_217 rfl <|
          zgX12_31 218 hX dX12_mends_218 (rfl : shp 128 = (12, 0)) <|
          z_iconst 221 hX dX12_mends_221 zki5 <|
          z_aload_n 222 hX dX12_mends_222 rfl <|
          zgX12_126 223 hX dX12_mends_223 (rfl : shp 128 = (12, 0)) <|
          z_imul 226 hX dX12_mends_226 <|
          z_iconst 227 hX dX12_mends_227 zki4 <|
          z_iadd 228 hX dX12_mends_228 <|
          z_iald 229 hX dX12_mends_229 (rfl : shp 136 = (20, 245)) h fun x205 _ h =>
          z_istore_n 230 [some (.ref (zα G 128)), none, some (.int x205), none, none, none, none, none, none] hX dX12_mends_230 (Nat.le_of_ble_eq_true rfl) rfl rfl <|
          z_aload_n 231 hX dX12_mends_231 rfl <|
          zgX12_126 232 hX dX12_mends_232 (rfl : shp 128 = (12, 0)) <|
          z_if_eq 235 245 hX dX12_mends_235 rfl h (fun q206 h => ?_) (fun q206 h => ?_)
        · refine z_weak (L' := [some (.ref (zα G 128)), none, none, none, none, none, none, none, none]) (zsub_s (zsub_n (zsub_n (zsub_n (zsub_n (zsub_n (zsub_n (zsub_n (zsub_n zsub_0))))))))) <|
            j_X12_mends_245z hX hE h
        · refine z_iload_n 238 hX dX12_mends_238 rfl <|
            z_sipush 239 hX dX12_mends_239 zks9999 <|
            z_icmp_lt 242 253 hX dX12_mends_242 rfl h (fun q207 h => ?_) (fun q207 h => ?_)
          · refine z_iload_n 253 hX dX12_mends_253 rfl <|
              z_endI2 254 hE rfl h dX12_mends_254
          · refine z_weak (L' := [some (.ref (zα G 128)), none, none, none, none, none, none, none, none]) (zsub_s (zsub_n (zsub_n (zsub_n (zsub_n (zsub_n (zsub_n (zsub_n (zsub_n zsub_0))))))))) <|
              j_X12_mends_245z hX hE h
  · refine z_aload_n 8 hX dX12_mends_8 rfl <|
      z_iconst 9 hX dX12_mends_9 zki1 <|
      zb12 h fun x6 w2 r5 h => zcX12_64 10 [.int (nI 1)] [] hX dX12_mends_10 (c_X12_error (zgd0 hX) r5) (rfl : shp 128 = (12, 0)) rfl rfl rfl (Nat.le_of_ble_eq_true rfl) (Nat.le_of_ble_eq_true rfl) <|
      z_endI2 13 hE rfl h dX12_mends_13
def f_X12_isSheet (a0 : Int32)  : Option Int32 :=
  zb (f_X12_in a0 (nI 0) (nI 3)) fun x2 =>
  zguard (zbool x2) (
  some x2)
theorem c_X12_isSheet {G : zG} {l : Launch} (hG : zgood G) {w : zW} {re : Int32} {a0 : Int32}  (h : f_X12_isSheet a0 = some re) : zMet G l yX12_isSheet cX12_isSheet 1 (some .boolean) 1 [.int a0] w (some (.int re)) w := by
  refine zMet_of (L0 := [some (.int a0)]) hG zplX12 (Nat.le_of_ble_eq_true rfl) rfl rfl (fun X hl hX hEI hEV hEA => ?_)
  subst hl
  have hX : zOk G X cX12_isSheet 1 RX12 1 := hX
  have hE := hEI _ _ rfl rfl
  rw [f_X12_isSheet] at h
  refine z_iload_n 0 hX dX12_isSheet_0 rfl <|
    z_iconst 1 hX dX12_isSheet_1 zki0 <|
    z_iconst 2 hX dX12_isSheet_2 zki3 <|
    zb1 h fun x2 r1 h => zcX12_56 3 [.int a0, .int (nI 0), .int (nI 3)] [] hX dX12_isSheet_3 (c_X12_in (zgd0 hX) r1) rfl rfl rfl (Nat.le_of_ble_eq_true rfl) (Nat.le_of_ble_eq_true rfl) <|
    zgd2 h fun q3 h =>
    z_endI 6 hE (znar_bool q3) h dX12_isSheet_6
def j_X12_wish_15  (w : zW) : Option (Int32 × zW) :=
  zb2 (f_X12_error (nI 1) w) fun x2 w1 =>
  some (x2, w1)
theorem j_X12_wish_15z {G : zG} {X : zX} {w : zW} {re : Int32} {we : zW}  (hX : zOk G X cX12_wish 7 RX12 3) (hE : zEI G X cX12_wish .int re we)  (h : j_X12_wish_15 w = some (re, we)) : zZ G X w 15 [some (.ref (zα G 128)), none, none, none, none, none, none] [] := by
  rw [j_X12_wish_15] at h
  refine z_aload_n 15 hX dX12_wish_15 rfl <|
    z_iconst 16 hX dX12_wish_16 zki1 <|
    zb12 h fun x2 w1 r1 h => zcX12_64 17 [.int (nI 1)] [] hX dX12_wish_17 (c_X12_error (zgd0 hX) r1) (rfl : shp 128 = (12, 0)) rfl rfl rfl (Nat.le_of_ble_eq_true rfl) (Nat.le_of_ble_eq_true rfl) <|
    z_endI2 20 hE rfl h dX12_wish_20
def l_X12_wish_41 (K71 : zW → Option (Int32 × zW)) (K102 : Int32 → Int32 → Int32 → zW → Option (Int32 × zW)) : Nat → Int32 → Int32 → Int32 → Int32 → zW → Option (Int32 × zW)
  | 0, _, _, _, _, _ => none
  | n + 1, a1, a2, a3, a4, w =>
    zld w 141 4 a2 fun x1 =>
    if a4 < x1 then
      zld w 142 96 (((nI 24) * a2) + a4) fun x3 =>
      zb (f_X12_isWord x3 w) fun x5 =>
      if x5 = nI 0 then
        K71 w
      else
        zld w 142 96 (((nI 24) * a2) + a4) fun x7 =>
        zb (f_X12_lengthOf x7 w) fun x9 =>
        zlet (a3 + x9) fun x10 =>
        zlet (a4 + nI 1) fun x11 =>
        (l_X12_wish_41 K71 K102 n) a1 a2 x10 x11 w
    else
      K102 a1 a2 a3 w
theorem l_X12_wish_41z {K71 : zW → Option (Int32 × zW)} {K102 : Int32 → Int32 → Int32 → zW → Option (Int32 × zW)} {G : zG} {X : zX} {re : Int32} {we : zW} (hX : zOk G X cX12_wish 7 RX12 3) (hE : zEI G X cX12_wish .int re we) (hK71 : ∀ (w3 : zW) , K71 w3 = some (re, we) → zZ G X w3 71 [some (.ref (zα G 128)), none, none, none, none, none, none] []) (hK102 : ∀ (a1 : Int32) (a2 : Int32) (a3 : Int32) (w3 : zW) , K102 a1 a2 a3 w3 = some (re, we) → zZ G X w3 102 [some (.ref (zα G 128)), some (.int a1), some (.int a2), some (.int a3), none, none, none] []) : ∀ (n : Nat) (a1 : Int32) (a2 : Int32) (a3 : Int32) (a4 : Int32) (w : zW) , l_X12_wish_41 K71 K102 n a1 a2 a3 a4 w = some (re, we) → zZ G X w 41 [some (.ref (zα G 128)), some (.int a1), some (.int a2), some (.int a3), some (.int a4), none, none] [] := by
  intro n
  induction n with
  | zero =>
    intro a1 a2 a3 a4 w  h
    rw [l_X12_wish_41.eq_1] at h
    cases h
  | succ n ih =>
    intro a1 a2 a3 a4 w  h
    rw [l_X12_wish_41.eq_2] at h
    refine z_iload 41 hX dX12_wish_41 rfl <|
      z_aload_n 43 hX dX12_wish_43 rfl <|
      zgX12_46 44 hX dX12_wish_44 (rfl : shp 128 = (12, 0)) <|
      z_iload_n 47 hX dX12_wish_47 rfl <|
      z_iald 48 hX dX12_wish_48 (rfl : shp 141 = (20, 4)) h fun x1 _ h =>
      z_icmp_ge 49 102 hX dX12_wish_49 rfl h (fun q2 h => ?_) (fun q2 h => ?_)
    · refine z_weak (L' := [some (.ref (zα G 128)), some (.int a1), some (.int a2), some (.int a3), none, none, none]) (zsub_s (zsub_s (zsub_s (zsub_s (zsub_n (zsub_n (zsub_n zsub_0))))))) <|
        hK102 _ _ _ _ h
    · refine z_aload_n 52 hX dX12_wish_52 rfl <|
        z_aload_n 53 hX dX12_wish_53 rfl <|
        zgX12_49 54 hX dX12_wish_54 (rfl : shp 128 = (12, 0)) <|
        z_bipush 57 hX dX12_wish_57 zkb24 <|
        z_iload_n 59 hX dX12_wish_59 rfl <|
        z_imul 60 hX dX12_wish_60 <|
        z_iload 61 hX dX12_wish_61 rfl <|
        z_iadd 63 hX dX12_wish_63 <|
        z_iald 64 hX dX12_wish_64 (rfl : shp 142 = (20, 96)) h fun x3 _ h =>
        zb1 h fun x5 r4 h => zcX12_189 65 [.int x3] [] hX dX12_wish_65 (c_X12_isWord (zgd0 hX) r4) (rfl : shp 128 = (12, 0)) rfl rfl rfl (Nat.le_of_ble_eq_true rfl) (Nat.le_of_ble_eq_true rfl) <|
        z_if_ne 68 77 hX dX12_wish_68 rfl h (fun q6 h => ?_) (fun q6 h => ?_)
      · refine z_iload_n 77 hX dX12_wish_77 rfl <|
          z_aload_n 78 hX dX12_wish_78 rfl <|
          z_aload_n 79 hX dX12_wish_79 rfl <|
          zgX12_49 80 hX dX12_wish_80 (rfl : shp 128 = (12, 0)) <|
          z_bipush 83 hX dX12_wish_83 zkb24 <|
          z_iload_n 85 hX dX12_wish_85 rfl <|
          z_imul 86 hX dX12_wish_86 <|
          z_iload 87 hX dX12_wish_87 rfl <|
          z_iadd 89 hX dX12_wish_89 <|
          z_iald 90 hX dX12_wish_90 (rfl : shp 142 = (20, 96)) h fun x7 _ h =>
          zb1 h fun x9 r8 h => zcX12_145 91 [.int x7] [.int a3] hX dX12_wish_91 (c_X12_lengthOf (zgd0 hX) r8) (rfl : shp 128 = (12, 0)) rfl rfl rfl (Nat.le_of_ble_eq_true rfl) (Nat.le_of_ble_eq_true rfl) <|
          z_iadd 94 hX dX12_wish_94 <|
          z_top h fun x10 h =>
          z_istore_n 95 [some (.ref (zα G 128)), some (.int a1), some (.int a2), some (.int x10), some (.int a4), none, none] hX dX12_wish_95 (Nat.le_of_ble_eq_true rfl) rfl rfl <|
          z_iincG 96 (fun x11 => [some (.ref (zα G 128)), some (.int a1), some (.int a2), some (.int x10), some (.int x11), none, none]) hX dX12_wish_96 rfl zki1 rfl (fun _ => rfl) h fun x11 h =>
          z_goto 99 41 hX dX12_wish_99 rfl <|
          ih _ _ _ _ _ h
      · refine z_weak (L' := [some (.ref (zα G 128)), none, none, none, none, none, none]) (zsub_s (zsub_n (zsub_n (zsub_n (zsub_n (zsub_n (zsub_n zsub_0))))))) <|
          hK71 _ h
def l_X12_wish_130 (K191 : Int32 → zW → Option (Int32 × zW)) : Nat → Int32 → Int32 → Int32 → Int32 → zW → Option (Int32 × zW)
  | 0, _, _, _, _, _ => none
  | n + 1, a2, a4, a5, a6, w =>
    zld w 141 4 a2 fun x1 =>
    if a6 < x1 then
      zld w 142 96 (((nI 24) * a2) + a6) fun x3 =>
      zb (f_X12_unlike x3 a5 w) fun x5 =>
      zlet (a4 + x5) fun x6 =>
      zld w 142 96 (((nI 24) * a2) + a6) fun x7 =>
      zb (f_X12_lengthOf x7 w) fun x9 =>
      zlet (a5 + x9) fun x10 =>
      zlet (a6 + nI 1) fun x11 =>
      (l_X12_wish_130 K191 n) a2 x6 x10 x11 w
    else
      K191 a4 w
theorem l_X12_wish_130z {K191 : Int32 → zW → Option (Int32 × zW)} {G : zG} {X : zX} {re : Int32} {we : zW} (hX : zOk G X cX12_wish 7 RX12 3) (hE : zEI G X cX12_wish .int re we) (hK191 : ∀ (a4 : Int32) (w3 : zW) , K191 a4 w3 = some (re, we) → zZ G X w3 191 [none, none, none, none, some (.int a4), none, none] []) : ∀ (n : Nat) (a2 : Int32) (a4 : Int32) (a5 : Int32) (a6 : Int32) (w : zW) , l_X12_wish_130 K191 n a2 a4 a5 a6 w = some (re, we) → zZ G X w 130 [some (.ref (zα G 128)), none, some (.int a2), none, some (.int a4), some (.int a5), some (.int a6)] [] := by
  intro n
  induction n with
  | zero =>
    intro a2 a4 a5 a6 w  h
    rw [l_X12_wish_130.eq_1] at h
    cases h
  | succ n ih =>
    intro a2 a4 a5 a6 w  h
    rw [l_X12_wish_130.eq_2] at h
    refine z_iload 130 hX dX12_wish_130 rfl <|
      z_aload_n 132 hX dX12_wish_132 rfl <|
      zgX12_46 133 hX dX12_wish_133 (rfl : shp 128 = (12, 0)) <|
      z_iload_n 136 hX dX12_wish_136 rfl <|
      z_iald 137 hX dX12_wish_137 (rfl : shp 141 = (20, 4)) h fun x1 _ h =>
      z_icmp_ge 138 191 hX dX12_wish_138 rfl h (fun q2 h => ?_) (fun q2 h => ?_)
    · refine z_weak (L' := [none, none, none, none, some (.int a4), none, none]) (zsub_n (zsub_n (zsub_n (zsub_n (zsub_s (zsub_n (zsub_n zsub_0))))))) <|
        hK191 _ _ h
    · refine z_iload 141 hX dX12_wish_141 rfl <|
        z_aload_n 143 hX dX12_wish_143 rfl <|
        z_aload_n 144 hX dX12_wish_144 rfl <|
        zgX12_49 145 hX dX12_wish_145 (rfl : shp 128 = (12, 0)) <|
        z_bipush 148 hX dX12_wish_148 zkb24 <|
        z_iload_n 150 hX dX12_wish_150 rfl <|
        z_imul 151 hX dX12_wish_151 <|
        z_iload 152 hX dX12_wish_152 rfl <|
        z_iadd 154 hX dX12_wish_154 <|
        z_iald 155 hX dX12_wish_155 (rfl : shp 142 = (20, 96)) h fun x3 _ h =>
        z_iload 156 hX dX12_wish_156 rfl <|
        zb1 h fun x5 r4 h => zcX12_157 158 [.int x3, .int a5] [.int a4] hX dX12_wish_158 (c_X12_unlike (zgd0 hX) r4) (rfl : shp 128 = (12, 0)) rfl rfl rfl (Nat.le_of_ble_eq_true rfl) (Nat.le_of_ble_eq_true rfl) <|
        z_iadd 161 hX dX12_wish_161 <|
        z_top h fun x6 h =>
        z_istore 162 [some (.ref (zα G 128)), none, some (.int a2), none, some (.int x6), some (.int a5), some (.int a6)] hX dX12_wish_162 (Nat.le_of_ble_eq_true rfl) rfl rfl <|
        z_iload 164 hX dX12_wish_164 rfl <|
        z_aload_n 166 hX dX12_wish_166 rfl <|
        z_aload_n 167 hX dX12_wish_167 rfl <|
        zgX12_49 168 hX dX12_wish_168 (rfl : shp 128 = (12, 0)) <|
        z_bipush 171 hX dX12_wish_171 zkb24 <|
        z_iload_n 173 hX dX12_wish_173 rfl <|
        z_imul 174 hX dX12_wish_174 <|
        z_iload 175 hX dX12_wish_175 rfl <|
        z_iadd 177 hX dX12_wish_177 <|
        z_iald 178 hX dX12_wish_178 (rfl : shp 142 = (20, 96)) h fun x7 _ h =>
        zb1 h fun x9 r8 h => zcX12_145 179 [.int x7] [.int a5] hX dX12_wish_179 (c_X12_lengthOf (zgd0 hX) r8) (rfl : shp 128 = (12, 0)) rfl rfl rfl (Nat.le_of_ble_eq_true rfl) (Nat.le_of_ble_eq_true rfl) <|
        z_iadd 182 hX dX12_wish_182 <|
        z_top h fun x10 h =>
        z_istore 183 [some (.ref (zα G 128)), none, some (.int a2), none, some (.int x6), some (.int x10), some (.int a6)] hX dX12_wish_183 (Nat.le_of_ble_eq_true rfl) rfl rfl <|
        z_iincG 185 (fun x11 => [some (.ref (zα G 128)), none, some (.int a2), none, some (.int x6), some (.int x10), some (.int x11)]) hX dX12_wish_185 rfl zki1 rfl (fun _ => rfl) h fun x11 h =>
        z_goto 188 130 hX dX12_wish_188 rfl <|
        ih _ _ _ _ _ h
def f_X12_wish (a1 : Int32) (a2 : Int32) (w : zW) : Option (Int32 × zW) :=
  zb (f_X12_isWall a1 w) fun x2 =>
  if x2 = nI 0 then
    j_X12_wish_15 w
  else
    zb (f_X12_isSheet a2) fun x5 =>
    if x5 = nI 0 then
      j_X12_wish_15 w
    else
      zld w 140 4 a2 fun x7 =>
      if x7 = nI 0 then
        zb2 (f_X12_error (nI 2) w) fun x10 w1 =>
        some (x10, w1)
      else
        l_X12_wish_41 (fun w11 =>
          zb2 (f_X12_error (nI 1) w11) fun x110 w12 =>
          some (x110, w12)) (fun k102_a1 k102_a2 k102_a3 w21 =>
          zb (f_X12_reads k102_a1 w21) fun w22 =>
          if k102_a3 = (w22 128 12) then
            l_X12_wish_130 (fun k191_a4 w33 =>
              some (k191_a4, w33)) zfuel k102_a2 (nI 0) (nI 0) (nI 0) w22
          else
            zb2 (f_X12_error (nI 2) w22) fun x212 w23 =>
            some (x212, w23)) zfuel a1 a2 (nI 0) (nI 0) w
theorem c_X12_wish {G : zG} {l : Launch} (hG : zgood G) {w : zW} {re : Int32} {we : zW} {a1 : Int32} {a2 : Int32}  (h : f_X12_wish a1 a2 w = some (re, we)) : zMet G l yX12_wish cX12_wish 7 (some .int) 3 [.ref (zα G 128), .int a1, .int a2] w (some (.int re)) we := by
  refine zMet_of (L0 := [some (.ref (zα G 128)), some (.int a1), some (.int a2), none, none, none, none]) hG zplX12 (Nat.le_of_ble_eq_true rfl) rfl rfl (fun X hl hX hEI hEV hEA => ?_)
  subst hl
  have hX : zOk G X cX12_wish 7 RX12 3 := hX
  have hE := hEI _ _ rfl rfl
  rw [f_X12_wish] at h
  refine z_aload_n 0 hX dX12_wish_0 rfl <|
    z_iload_n 1 hX dX12_wish_1 rfl <|
    zb1 h fun x2 r1 h => zcX12_133 2 [.int a1] [] hX dX12_wish_2 (c_X12_isWall (zgd0 hX) r1) (rfl : shp 128 = (12, 0)) rfl rfl rfl (Nat.le_of_ble_eq_true rfl) (Nat.le_of_ble_eq_true rfl) <|
    z_if_eq 5 15 hX dX12_wish_5 rfl h (fun q3 h => ?_) (fun q3 h => ?_)
  · refine z_weak (L' := [some (.ref (zα G 128)), none, none, none, none, none, none]) (zsub_s (zsub_n (zsub_n (zsub_n (zsub_n (zsub_n (zsub_n zsub_0))))))) <|
      j_X12_wish_15z hX hE h
  · refine z_iload_n 8 hX dX12_wish_8 rfl <|
      zb1 h fun x5 r4 h => zcX12_204 9 [.int a2] [] hX dX12_wish_9 (c_X12_isSheet (zgd0 hX) r4) rfl rfl rfl (Nat.le_of_ble_eq_true rfl) (Nat.le_of_ble_eq_true rfl) <|
      z_if_ne 12 21 hX dX12_wish_12 rfl h (fun q6 h => ?_) (fun q6 h => ?_)
    · refine z_aload_n 21 hX dX12_wish_21 rfl <|
        zgX12_43 22 hX dX12_wish_22 (rfl : shp 128 = (12, 0)) <|
        z_iload_n 25 hX dX12_wish_25 rfl <|
        z_iald 26 hX dX12_wish_26 (rfl : shp 140 = (20, 4)) h fun x7 _ h =>
        z_if_ne 27 36 hX dX12_wish_27 rfl h (fun q8 h => ?_) (fun q8 h => ?_)
      · refine z_iconst 36 hX dX12_wish_36 zki0 <|
          z_istore_n 37 [some (.ref (zα G 128)), some (.int a1), some (.int a2), some (.int (nI 0)), none, none, none] hX dX12_wish_37 (Nat.le_of_ble_eq_true rfl) rfl rfl <|
          z_iconst 38 hX dX12_wish_38 zki0 <|
          z_istore 39 [some (.ref (zα G 128)), some (.int a1), some (.int a2), some (.int (nI 0)), some (.int (nI 0)), none, none] hX dX12_wish_39 (Nat.le_of_ble_eq_true rfl) rfl rfl <|
          l_X12_wish_41z hX hE (fun w11 h => ?_) (fun k102_a1 k102_a2 k102_a3 w21 h => ?_) _ _ _ _ _ _ h
        · refine z_aload_n 71 hX dX12_wish_71 rfl <|
            z_iconst 72 hX dX12_wish_72 zki1 <|
            zb12 h fun x110 w12 r109 h => zcX12_64 73 [.int (nI 1)] [] hX dX12_wish_73 (c_X12_error (zgd0 hX) r109) (rfl : shp 128 = (12, 0)) rfl rfl rfl (Nat.le_of_ble_eq_true rfl) (Nat.le_of_ble_eq_true rfl) <|
            z_endI2 76 hE rfl h dX12_wish_76
        · refine z_aload_n 102 hX dX12_wish_102 rfl <|
            z_iload_n 103 hX dX12_wish_103 rfl <|
            zb1 h fun w22 r209 h => zcX12_164 104 [.int k102_a1] [] hX dX12_wish_104 (c_X12_reads (zgd0 hX) r209) (rfl : shp 128 = (12, 0)) rfl rfl rfl (Nat.le_of_ble_eq_true rfl) (Nat.le_of_ble_eq_true rfl) <|
            z_iload_n 107 hX dX12_wish_107 rfl <|
            z_aload_n 108 hX dX12_wish_108 rfl <|
            zgX12_126 109 hX dX12_wish_109 (rfl : shp 128 = (12, 0)) <|
            z_icmp_eq 112 121 hX dX12_wish_112 rfl h (fun q210 h => ?_) (fun q210 h => ?_)
          · refine z_iconst 121 hX dX12_wish_121 zki0 <|
              z_istore 122 [some (.ref (zα G 128)), some (.int k102_a1), some (.int k102_a2), some (.int k102_a3), some (.int (nI 0)), none, none] hX dX12_wish_122 (Nat.le_of_ble_eq_true rfl) rfl rfl <|
              z_iconst 124 hX dX12_wish_124 zki0 <|
              z_istore 125 [some (.ref (zα G 128)), some (.int k102_a1), some (.int k102_a2), some (.int k102_a3), some (.int (nI 0)), some (.int (nI 0)), none] hX dX12_wish_125 (Nat.le_of_ble_eq_true rfl) rfl rfl <|
              z_iconst 127 hX dX12_wish_127 zki0 <|
              z_istore 128 [some (.ref (zα G 128)), some (.int k102_a1), some (.int k102_a2), some (.int k102_a3), some (.int (nI 0)), some (.int (nI 0)), some (.int (nI 0))] hX dX12_wish_128 (Nat.le_of_ble_eq_true rfl) rfl rfl <|
              z_weak (L' := [some (.ref (zα G 128)), none, some (.int k102_a2), none, some (.int (nI 0)), some (.int (nI 0)), some (.int (nI 0))]) (zsub_s (zsub_n (zsub_s (zsub_n (zsub_s (zsub_s (zsub_s zsub_0))))))) <|
              l_X12_wish_130z hX hE (fun k191_a4 w33 h => ?_) _ _ _ _ _ _ h
            · refine z_iload 191 hX dX12_wish_191 rfl <|
                z_endI2 193 hE rfl h dX12_wish_193
          · refine z_aload_n 115 hX dX12_wish_115 rfl <|
              z_iconst 116 hX dX12_wish_116 zki2 <|
              zb12 h fun x212 w23 r211 h => zcX12_64 117 [.int (nI 2)] [] hX dX12_wish_117 (c_X12_error (zgd0 hX) r211) (rfl : shp 128 = (12, 0)) rfl rfl rfl (Nat.le_of_ble_eq_true rfl) (Nat.le_of_ble_eq_true rfl) <|
              z_endI2 120 hE rfl h dX12_wish_120
      · refine z_aload_n 30 hX dX12_wish_30 rfl <|
          z_iconst 31 hX dX12_wish_31 zki2 <|
          zb12 h fun x10 w1 r9 h => zcX12_64 32 [.int (nI 2)] [] hX dX12_wish_32 (c_X12_error (zgd0 hX) r9) (rfl : shp 128 = (12, 0)) rfl rfl rfl (Nat.le_of_ble_eq_true rfl) (Nat.le_of_ble_eq_true rfl) <|
          z_endI2 35 hE rfl h dX12_wish_35
    · refine z_weak (L' := [some (.ref (zα G 128)), none, none, none, none, none, none]) (zsub_s (zsub_n (zsub_n (zsub_n (zsub_n (zsub_n (zsub_n zsub_0))))))) <|
        j_X12_wish_15z hX hE h
def j_X12_heap_17  (w : zW) : Option (Int32 × zW) :=
  zb2 (f_X12_error (nI 1) w) fun x2 w1 =>
  some (x2, w1)
theorem j_X12_heap_17z {G : zG} {X : zX} {w : zW} {re : Int32} {we : zW}  (hX : zOk G X cX12_heap 4 RX12 2) (hE : zEI G X cX12_heap .int re we)  (h : j_X12_heap_17 w = some (re, we)) : zZ G X w 17 [some (.ref (zα G 128)), none, none, none] [] := by
  rw [j_X12_heap_17] at h
  refine z_aload_n 17 hX dX12_heap_17 rfl <|
    z_iconst 18 hX dX12_heap_18 zki1 <|
    zb12 h fun x2 w1 r1 h => zcX12_64 19 [.int (nI 1)] [] hX dX12_heap_19 (c_X12_error (zgd0 hX) r1) (rfl : shp 128 = (12, 0)) rfl rfl rfl (Nat.le_of_ble_eq_true rfl) (Nat.le_of_ble_eq_true rfl) <|
    z_endI2 22 hE rfl h dX12_heap_22
def j_X12_heap_53 (a3 : Int32) (b1 : Int32) (b2 : Int32) (w : zW) : Option (Int32 × zW) :=
  zsto w 129 628 b1 b2 fun w1 =>
  some (a3, w1)
theorem j_X12_heap_53z {G : zG} {X : zX} {w : zW} {re : Int32} {we : zW} {a3 : Int32} {b1 : Int32} {b2 : Int32} (hX : zOk G X cX12_heap 4 RX12 2) (hE : zEI G X cX12_heap .int re we)  (h : j_X12_heap_53 a3 b1 b2 w = some (re, we)) : zZ G X w 53 [none, none, none, some (.int a3)] [.int b2, .int b1, .ref (zα G 129)] := by
  rw [j_X12_heap_53] at h
  refine z_iast 53 hX dX12_heap_53 (rfl : shp 129 = (20, 628)) h fun w1 h =>
    z_iload_n 54 hX dX12_heap_54 rfl <|
    z_endI2 55 hE rfl h dX12_heap_55
def f_X12_heap (a1 : Int32) (a2 : Int32) (w : zW) : Option (Int32 × zW) :=
  zb (f_X12_isLetter a1) fun x2 =>
  if x2 = nI 0 then
    j_X12_heap_17 w
  else
    zb (f_X12_in a2 (mI 1) (nI 99)) fun x5 =>
    if x5 = nI 0 then
      j_X12_heap_17 w
    else
      zld w 129 628 ((nI 266) + a1) fun x7 =>
      if a2 = (mI 1) then
        j_X12_heap_53 x7 ((nI 266) + a1) x7 w
      else
        j_X12_heap_53 x7 ((nI 266) + a1) a2 w
theorem c_X12_heap {G : zG} {l : Launch} (hG : zgood G) {w : zW} {re : Int32} {we : zW} {a1 : Int32} {a2 : Int32}  (h : f_X12_heap a1 a2 w = some (re, we)) : zMet G l yX12_heap cX12_heap 4 (some .int) 2 [.ref (zα G 128), .int a1, .int a2] w (some (.int re)) we := by
  refine zMet_of (L0 := [some (.ref (zα G 128)), some (.int a1), some (.int a2), none]) hG zplX12 (Nat.le_of_ble_eq_true rfl) rfl rfl (fun X hl hX hEI hEV hEA => ?_)
  subst hl
  have hX : zOk G X cX12_heap 4 RX12 2 := hX
  have hE := hEI _ _ rfl rfl
  rw [f_X12_heap] at h
  refine z_iload_n 0 hX dX12_heap_0 rfl <|
    zb1 h fun x2 r1 h => zcX12_142 1 [.int a1] [] hX dX12_heap_1 (c_X12_isLetter (zgd0 hX) r1) rfl rfl rfl (Nat.le_of_ble_eq_true rfl) (Nat.le_of_ble_eq_true rfl) <|
    z_if_eq 4 17 hX dX12_heap_4 rfl h (fun q3 h => ?_) (fun q3 h => ?_)
  · refine z_weak (L' := [some (.ref (zα G 128)), none, none, none]) (zsub_s (zsub_n (zsub_n (zsub_n zsub_0)))) <|
      j_X12_heap_17z hX hE h
  · refine z_iload_n 7 hX dX12_heap_7 rfl <|
      z_iconst 8 hX dX12_heap_8 zkim1 <|
      z_bipush 9 hX dX12_heap_9 zkb99 <|
      zb1 h fun x5 r4 h => zcX12_56 11 [.int a2, .int (mI 1), .int (nI 99)] [] hX dX12_heap_11 (c_X12_in (zgd0 hX) r4) rfl rfl rfl (Nat.le_of_ble_eq_true rfl) (Nat.le_of_ble_eq_true rfl) <|
      z_if_ne 14 23 hX dX12_heap_14 rfl h (fun q6 h => ?_) (fun q6 h => ?_)
    · refine z_aload_n 23 hX dX12_heap_23 rfl <|
        zgX12_7 24 hX dX12_heap_24 (rfl : shp 128 = (12, 0)) <|
        z_sipush 27 hX dX12_heap_27 zks266 <|
        z_iload_n 30 hX dX12_heap_30 rfl <|
        z_iadd 31 hX dX12_heap_31 <|
        z_iald 32 hX dX12_heap_32 (rfl : shp 129 = (20, 628)) h fun x7 _ h =>
        z_istore_n 33 [some (.ref (zα G 128)), some (.int a1), some (.int a2), some (.int x7)] hX dX12_heap_33 (Nat.le_of_ble_eq_true rfl) rfl rfl <|
        z_aload_n 34 hX dX12_heap_34 rfl <|
        zgX12_7 35 hX dX12_heap_35 (rfl : shp 128 = (12, 0)) <|
        z_sipush 38 hX dX12_heap_38 zks266 <|
        z_iload_n 41 hX dX12_heap_41 rfl <|
        z_iadd 42 hX dX12_heap_42 <|
        z_iload_n 43 hX dX12_heap_43 rfl <|
        z_iconst 44 hX dX12_heap_44 zkim1 <|
        z_icmp_ne 45 52 hX dX12_heap_45 rfl h (fun q8 h => ?_) (fun q8 h => ?_)
      · refine z_iload_n 52 hX dX12_heap_52 rfl <|
          z_weak (L' := [none, none, none, some (.int x7)]) (zsub_n (zsub_n (zsub_n (zsub_s zsub_0)))) <|
          j_X12_heap_53z hX hE h
      · refine z_iload_n 48 hX dX12_heap_48 rfl <|
          z_goto 49 53 hX dX12_heap_49 rfl <|
          z_weak (L' := [none, none, none, some (.int x7)]) (zsub_n (zsub_n (zsub_n (zsub_s zsub_0)))) <|
          j_X12_heap_53z hX hE h
    · refine z_weak (L' := [some (.ref (zα G 128)), none, none, none]) (zsub_s (zsub_n (zsub_n (zsub_n zsub_0)))) <|
        j_X12_heap_17z hX hE h
def f_X12_price (a1 : Int32) (w : zW) : Option (Int32 × zW) :=
  zb (f_X12_isLetter a1) fun x2 =>
  if x2 = nI 0 then
    zb2 (f_X12_error (nI 1) w) fun x5 w1 =>
    some (x5, w1)
  else
    zb2 (f_X12_priceOf a1 w) fun x7 w2 =>
    some (x7, w2)
theorem c_X12_price {G : zG} {l : Launch} (hG : zgood G) {w : zW} {re : Int32} {we : zW} {a1 : Int32}  (h : f_X12_price a1 w = some (re, we)) : zMet G l yX12_price cX12_price 2 (some .int) 3 [.ref (zα G 128), .int a1] w (some (.int re)) we := by
  refine zMet_of (L0 := [some (.ref (zα G 128)), some (.int a1)]) hG zplX12 (Nat.le_of_ble_eq_true rfl) rfl rfl (fun X hl hX hEI hEV hEA => ?_)
  subst hl
  have hX : zOk G X cX12_price 2 RX12 3 := hX
  have hE := hEI _ _ rfl rfl
  rw [f_X12_price] at h
  refine z_iload_n 0 hX dX12_price_0 rfl <|
    zb1 h fun x2 r1 h => zcX12_142 1 [.int a1] [] hX dX12_price_1 (c_X12_isLetter (zgd0 hX) r1) rfl rfl rfl (Nat.le_of_ble_eq_true rfl) (Nat.le_of_ble_eq_true rfl) <|
    z_if_eq 4 15 hX dX12_price_4 rfl h (fun q3 h => ?_) (fun q3 h => ?_)
  · refine z_aload_n 15 hX dX12_price_15 rfl <|
      z_iconst 16 hX dX12_price_16 zki1 <|
      zb12 h fun x5 w1 r4 h => zcX12_64 17 [.int (nI 1)] [] hX dX12_price_17 (c_X12_error (zgd0 hX) r4) (rfl : shp 128 = (12, 0)) rfl rfl rfl (Nat.le_of_ble_eq_true rfl) (Nat.le_of_ble_eq_true rfl) <|
      z_endI2 20 hE rfl h dX12_price_20
  · refine z_aload_n 7 hX dX12_price_7 rfl <|
      z_iload_n 8 hX dX12_price_8 rfl <|
      zb12 h fun x7 w2 r6 h => zcX12_207 9 [.int a1] [] hX dX12_price_9 (c_X12_priceOf (zgd0 hX) r6) (rfl : shp 128 = (12, 0)) rfl rfl rfl (Nat.le_of_ble_eq_true rfl) (Nat.le_of_ble_eq_true rfl) <|
      z_goto 12 20 hX dX12_price_12 rfl <|
      z_endI2 20 hE rfl h dX12_price_20
def j_X12_have_27  (w : zW) : Option (Int32 × zW) :=
  zb2 (f_X12_error (nI 1) w) fun x2 w1 =>
  some (x2, w1)
theorem j_X12_have_27z {G : zG} {X : zX} {w : zW} {re : Int32} {we : zW}  (hX : zOk G X cX12_have 4 RX12 1) (hE : zEI G X cX12_have .int re we)  (h : j_X12_have_27 w = some (re, we)) : zZ G X w 27 [some (.ref (zα G 128)), none, none, none] [] := by
  rw [j_X12_have_27] at h
  refine z_aload_n 27 hX dX12_have_27 rfl <|
    z_iconst 28 hX dX12_have_28 zki1 <|
    zb12 h fun x2 w1 r1 h => zcX12_64 29 [.int (nI 1)] [] hX dX12_have_29 (c_X12_error (zgd0 hX) r1) (rfl : shp 128 = (12, 0)) rfl rfl rfl (Nat.le_of_ble_eq_true rfl) (Nat.le_of_ble_eq_true rfl) <|
    z_endI2 32 hE rfl h dX12_have_32
def j_X12_have_21 (a1 : Int32) (a2 : Int32) (b0 : Int32) (b1 : Int32) (b2 : Int32) (w : zW) : Option (Int32 × zW) :=
  zb (f_X12_in b0 b1 b2) fun x2 =>
  if x2 = nI 0 then
    j_X12_have_27 w
  else
    zld w 129 628 ((nI 2) + a1) fun x4 =>
    zsto w 129 628 ((nI 2) + a1) a2 fun w1 =>
    some (x4, w1)
theorem j_X12_have_21z {G : zG} {X : zX} {w : zW} {re : Int32} {we : zW} {a1 : Int32} {a2 : Int32} {b0 : Int32} {b1 : Int32} {b2 : Int32} (hX : zOk G X cX12_have 4 RX12 1) (hE : zEI G X cX12_have .int re we)  (h : j_X12_have_21 a1 a2 b0 b1 b2 w = some (re, we)) : zZ G X w 21 [some (.ref (zα G 128)), some (.int a1), some (.int a2), none] [.int b2, .int b1, .int b0] := by
  rw [j_X12_have_21] at h
  refine zb1 h fun x2 r1 h => zcX12_56 21 [.int b0, .int b1, .int b2] [] hX dX12_have_21 (c_X12_in (zgd0 hX) r1) rfl rfl rfl (Nat.le_of_ble_eq_true rfl) (Nat.le_of_ble_eq_true rfl) <|
    z_if_ne 24 33 hX dX12_have_24 rfl h (fun q3 h => ?_) (fun q3 h => ?_)
  · refine z_aload_n 33 hX dX12_have_33 rfl <|
      zgX12_7 34 hX dX12_have_34 (rfl : shp 128 = (12, 0)) <|
      z_iconst 37 hX dX12_have_37 zki2 <|
      z_iload_n 38 hX dX12_have_38 rfl <|
      z_iadd 39 hX dX12_have_39 <|
      z_iald 40 hX dX12_have_40 (rfl : shp 129 = (20, 628)) h fun x4 _ h =>
      z_istore_n 41 [some (.ref (zα G 128)), some (.int a1), some (.int a2), some (.int x4)] hX dX12_have_41 (Nat.le_of_ble_eq_true rfl) rfl rfl <|
      z_aload_n 42 hX dX12_have_42 rfl <|
      zgX12_7 43 hX dX12_have_43 (rfl : shp 128 = (12, 0)) <|
      z_iconst 46 hX dX12_have_46 zki2 <|
      z_iload_n 47 hX dX12_have_47 rfl <|
      z_iadd 48 hX dX12_have_48 <|
      z_iload_n 49 hX dX12_have_49 rfl <|
      z_iast 50 hX dX12_have_50 (rfl : shp 129 = (20, 628)) h fun w1 h =>
      z_iload_n 51 hX dX12_have_51 rfl <|
      z_endI2 52 hE rfl h dX12_have_52
  · refine z_weak (L' := [some (.ref (zα G 128)), none, none, none]) (zsub_s (zsub_n (zsub_n (zsub_n zsub_0)))) <|
      j_X12_have_27z hX hE h
def f_X12_have (a1 : Int32) (a2 : Int32) (w : zW) : Option (Int32 × zW) :=
  zb (f_X12_in a1 (nI 0) (nI 1)) fun x2 =>
  if x2 = nI 0 then
    j_X12_have_27 w
  else
  if a1 = nI 0 then
    j_X12_have_21 a1 a2 a2 (nI 0) (nI 3) w
  else
    j_X12_have_21 a1 a2 a2 (nI 0) (nI 99999) w
theorem c_X12_have {G : zG} {l : Launch} (hG : zgood G) {w : zW} {re : Int32} {we : zW} {a1 : Int32} {a2 : Int32}  (h : f_X12_have a1 a2 w = some (re, we)) : zMet G l yX12_have cX12_have 4 (some .int) 1 [.ref (zα G 128), .int a1, .int a2] w (some (.int re)) we := by
  refine zMet_of (L0 := [some (.ref (zα G 128)), some (.int a1), some (.int a2), none]) hG zplX12 (Nat.le_of_ble_eq_true rfl) rfl rfl (fun X hl hX hEI hEV hEA => ?_)
  subst hl
  have hX : zOk G X cX12_have 4 RX12 1 := hX
  have hE := hEI _ _ rfl rfl
  rw [f_X12_have] at h
  refine z_iload_n 0 hX dX12_have_0 rfl <|
    z_iconst 1 hX dX12_have_1 zki0 <|
    z_iconst 2 hX dX12_have_2 zki1 <|
    zb1 h fun x2 r1 h => zcX12_56 3 [.int a1, .int (nI 0), .int (nI 1)] [] hX dX12_have_3 (c_X12_in (zgd0 hX) r1) rfl rfl rfl (Nat.le_of_ble_eq_true rfl) (Nat.le_of_ble_eq_true rfl) <|
    z_if_eq 6 27 hX dX12_have_6 rfl h (fun q3 h => ?_) (fun q3 h => ?_)
  · refine z_weak (L' := [some (.ref (zα G 128)), none, none, none]) (zsub_s (zsub_n (zsub_n (zsub_n zsub_0)))) <|
      j_X12_have_27z hX hE h
  · refine z_iload_n 9 hX dX12_have_9 rfl <|
      z_iconst 10 hX dX12_have_10 zki0 <|
      z_iload_n 11 hX dX12_have_11 rfl <|
      z_if_ne 12 19 hX dX12_have_12 rfl h (fun q4 h => ?_) (fun q4 h => ?_)
    · refine z_ldc 19 hX dX12_have_19 zw1369 zkl99999 <|
        j_X12_have_21z hX hE h
    · refine z_iconst 15 hX dX12_have_15 zki3 <|
        z_goto 16 21 hX dX12_have_16 rfl <|
        j_X12_have_21z hX hE h
def j_X12_letters_34 (rc : Int32 → Int32 → Int32 → Option Int32) (K42 : Int32 → Option Int32) (w : zW) (a1 : Int32) (a3 : Int32) (b0 : Int32) (b1 : Int32)  : Option Int32 :=
  zlet (b0 + b1) fun x1 =>
  zlet (a3 + nI 1) fun x2 =>
  rc a1 x1 x2
theorem j_X12_letters_34z {rc : Int32 → Int32 → Int32 → Option Int32} {K42 : Int32 → Option Int32} {G : zG} {X : zX} {w : zW} {re : Int32} {a1 : Int32} {a3 : Int32} {b0 : Int32} {b1 : Int32} (hX : zOk G X cX12_letters 4 RX12 1) (hE : zEI G X cX12_letters .int re w) (hrc : ∀ (a1 : Int32) (a2 : Int32) (a3 : Int32) , rc a1 a2 a3 = some re → zZ G X w 4 [some (.ref (zα G 128)), some (.int a1), some (.int a2), some (.int a3)] []) (hK42 : ∀ (a2 : Int32) , K42 a2 = some re → zZ G X w 42 [none, none, some (.int a2), none] [])  (h : j_X12_letters_34 rc K42 w a1 a3 b0 b1 = some re) : zZ G X w 34 [some (.ref (zα G 128)), some (.int a1), none, some (.int a3)] [.int b1, .int b0] := by
  rw [j_X12_letters_34] at h
  refine z_iadd 34 hX dX12_letters_34 <|
    z_top h fun x1 h =>
    z_istore_n 35 [some (.ref (zα G 128)), some (.int a1), some (.int x1), some (.int a3)] hX dX12_letters_35 (Nat.le_of_ble_eq_true rfl) rfl rfl <|
    z_iincG 36 (fun x2 => [some (.ref (zα G 128)), some (.int a1), some (.int x1), some (.int x2)]) hX dX12_letters_36 rfl zki1 rfl (fun _ => rfl) h fun x2 h =>
    z_goto 39 4 hX dX12_letters_39 rfl <|
    hrc _ _ _ h
def l_X12_letters_4 (w : zW) (K42 : Int32 → Option Int32) : Nat → Int32 → Int32 → Int32 → Option Int32
  | 0, _, _, _ => none
  | n + 1, a1, a2, a3 =>
    zb (f_X12_its a1 (nI 2) w) fun x2 =>
    if a3 < x2 then
      zb (f_X12_at a1 a3) fun x5 =>
      zld w 129 628 x5 fun x6 =>
      if nI 0 < x6 then
        j_X12_letters_34 (l_X12_letters_4 w K42 n) K42 w a1 a3 a2 (nI 1)
      else
        j_X12_letters_34 (l_X12_letters_4 w K42 n) K42 w a1 a3 a2 (nI 0)
    else
      K42 a2
theorem l_X12_letters_4z {K42 : Int32 → Option Int32} {G : zG} {X : zX} {w : zW} {re : Int32} (hX : zOk G X cX12_letters 4 RX12 1) (hE : zEI G X cX12_letters .int re w) (hK42 : ∀ (a2 : Int32) , K42 a2 = some re → zZ G X w 42 [none, none, some (.int a2), none] []) : ∀ (n : Nat) (a1 : Int32) (a2 : Int32) (a3 : Int32) , l_X12_letters_4 w K42 n a1 a2 a3 = some re → zZ G X w 4 [some (.ref (zα G 128)), some (.int a1), some (.int a2), some (.int a3)] [] := by
  intro n
  induction n with
  | zero =>
    intro a1 a2 a3  h
    rw [l_X12_letters_4.eq_1] at h
    cases h
  | succ n ih =>
    intro a1 a2 a3  h
    rw [l_X12_letters_4.eq_2] at h
    refine z_iload_n 4 hX dX12_letters_4 rfl <|
      z_aload_n 5 hX dX12_letters_5 rfl <|
      z_iload_n 6 hX dX12_letters_6 rfl <|
      z_iconst 7 hX dX12_letters_7 zki2 <|
      zb1 h fun x2 r1 h => zcX12_60 8 [.int a1, .int (nI 2)] [.int a3] hX dX12_letters_8 (c_X12_its (zgd0 hX) r1) (rfl : shp 128 = (12, 0)) rfl rfl rfl (Nat.le_of_ble_eq_true rfl) (Nat.le_of_ble_eq_true rfl) <|
      z_icmp_ge 11 42 hX dX12_letters_11 rfl h (fun q3 h => ?_) (fun q3 h => ?_)
    · refine z_weak (L' := [none, none, some (.int a2), none]) (zsub_n (zsub_n (zsub_s (zsub_n zsub_0)))) <|
        hK42 _ h
    · refine z_iload_n 14 hX dX12_letters_14 rfl <|
        z_aload_n 15 hX dX12_letters_15 rfl <|
        zgX12_7 16 hX dX12_letters_16 (rfl : shp 128 = (12, 0)) <|
        z_aload_n 19 hX dX12_letters_19 rfl <|
        z_iload_n 20 hX dX12_letters_20 rfl <|
        z_iload_n 21 hX dX12_letters_21 rfl <|
        zb1 h fun x5 r4 h => zcX12_124 22 [.int a1, .int a3] [.ref (zα G 129), .int a2] hX dX12_letters_22 (c_X12_at (zgd0 hX) r4) (rfl : shp 128 = (12, 0)) rfl rfl rfl (Nat.le_of_ble_eq_true rfl) (Nat.le_of_ble_eq_true rfl) <|
        z_iald 25 hX dX12_letters_25 (rfl : shp 129 = (20, 628)) h fun x6 _ h =>
        z_if_le 26 33 hX dX12_letters_26 rfl h (fun q7 h => ?_) (fun q7 h => ?_)
      · refine z_iconst 33 hX dX12_letters_33 zki0 <|
          z_weak (L' := [some (.ref (zα G 128)), some (.int a1), none, some (.int a3)]) (zsub_s (zsub_s (zsub_n (zsub_s zsub_0)))) <|
          j_X12_letters_34z hX hE ih hK42 h
      · refine z_iconst 29 hX dX12_letters_29 zki1 <|
          z_goto 30 34 hX dX12_letters_30 rfl <|
          z_weak (L' := [some (.ref (zα G 128)), some (.int a1), none, some (.int a3)]) (zsub_s (zsub_s (zsub_n (zsub_s zsub_0)))) <|
          j_X12_letters_34z hX hE ih hK42 h
def f_X12_letters (a1 : Int32) (w : zW) : Option Int32 :=
  l_X12_letters_4 w (fun k42_a2 =>
    some k42_a2) zfuel a1 (nI 0) (nI 0)
theorem c_X12_letters {G : zG} {l : Launch} (hG : zgood G) {w : zW} {re : Int32} {a1 : Int32}  (h : f_X12_letters a1 w = some re) : zMet G l yX12_letters cX12_letters 4 (some .int) 1 [.ref (zα G 128), .int a1] w (some (.int re)) w := by
  refine zMet_of (L0 := [some (.ref (zα G 128)), some (.int a1), none, none]) hG zplX12 (Nat.le_of_ble_eq_true rfl) rfl rfl (fun X hl hX hEI hEV hEA => ?_)
  subst hl
  have hX : zOk G X cX12_letters 4 RX12 1 := hX
  have hE := hEI _ _ rfl rfl
  rw [f_X12_letters] at h
  refine z_iconst 0 hX dX12_letters_0 zki0 <|
    z_istore_n 1 [some (.ref (zα G 128)), some (.int a1), some (.int (nI 0)), none] hX dX12_letters_1 (Nat.le_of_ble_eq_true rfl) rfl rfl <|
    z_iconst 2 hX dX12_letters_2 zki0 <|
    z_istore_n 3 [some (.ref (zα G 128)), some (.int a1), some (.int (nI 0)), some (.int (nI 0))] hX dX12_letters_3 (Nat.le_of_ble_eq_true rfl) rfl rfl <|
    l_X12_letters_4z hX hE (fun k42_a2 h => ?_) _ _ _ _ h
  · refine z_iload_n 42 hX dX12_letters_42 rfl <|
      z_endI 43 hE rfl h dX12_letters_43
def j_X12_lay_34  (w : zW) : Option (Int32 × zW) :=
  zb2 (f_X12_error (nI 1) w) fun x2 w1 =>
  some (x2, w1)
theorem j_X12_lay_34z {G : zG} {X : zX} {w : zW} {re : Int32} {we : zW}  (hX : zOk G X cX12_lay 7 RX12 3) (hE : zEI G X cX12_lay .int re we)  (h : j_X12_lay_34 w = some (re, we)) : zZ G X w 34 [some (.ref (zα G 128)), none, none, none, none, none, none] [] := by
  rw [j_X12_lay_34] at h
  refine z_aload_n 34 hX dX12_lay_34 rfl <|
    z_iconst 35 hX dX12_lay_35 zki1 <|
    zb12 h fun x2 w1 r1 h => zcX12_64 36 [.int (nI 1)] [] hX dX12_lay_36 (c_X12_error (zgd0 hX) r1) (rfl : shp 128 = (12, 0)) rfl rfl rfl (Nat.le_of_ble_eq_true rfl) (Nat.le_of_ble_eq_true rfl) <|
    z_endI2 39 hE rfl h dX12_lay_39
def j_X12_lay_110  (w : zW) : Option (Int32 × zW) :=
  zb2 (f_X12_error (nI 3) w) fun x2 w1 =>
  some (x2, w1)
theorem j_X12_lay_110z {G : zG} {X : zX} {w : zW} {re : Int32} {we : zW}  (hX : zOk G X cX12_lay 7 RX12 3) (hE : zEI G X cX12_lay .int re we)  (h : j_X12_lay_110 w = some (re, we)) : zZ G X w 110 [some (.ref (zα G 128)), none, none, none, none, none, none] [] := by
  rw [j_X12_lay_110] at h
  refine z_aload_n 110 hX dX12_lay_110 rfl <|
    z_iconst 111 hX dX12_lay_111 zki3 <|
    zb12 h fun x2 w1 r1 h => zcX12_64 112 [.int (nI 3)] [] hX dX12_lay_112 (c_X12_error (zgd0 hX) r1) (rfl : shp 128 = (12, 0)) rfl rfl rfl (Nat.le_of_ble_eq_true rfl) (Nat.le_of_ble_eq_true rfl) <|
    z_endI2 115 hE rfl h dX12_lay_115
def j_X12_lay_157 (a1 : Int32) (a2 : Int32) (a3 : Int32) (b1 : Int32) (b2 : Int32) (b3 : Int32) (w : zW) : Option (Int32 × zW) :=
  zsto w 129 628 b1 (b2 - b3) fun w1 =>
  zb (f_X12_at a1 a2) fun x2 =>
  zsto w1 129 628 x2 a3 fun w2 =>
  zb (f_X12_letters a1 w2) fun x4 =>
  some (x4, w2)
theorem j_X12_lay_157z {G : zG} {X : zX} {w : zW} {re : Int32} {we : zW} {a1 : Int32} {a2 : Int32} {a3 : Int32} {b1 : Int32} {b2 : Int32} {b3 : Int32} (hX : zOk G X cX12_lay 7 RX12 3) (hE : zEI G X cX12_lay .int re we)  (h : j_X12_lay_157 a1 a2 a3 b1 b2 b3 w = some (re, we)) : zZ G X w 157 [some (.ref (zα G 128)), some (.int a1), some (.int a2), some (.int a3), none, none, none] [.int b3, .int b2, .int b1, .ref (zα G 129)] := by
  rw [j_X12_lay_157] at h
  refine z_isub 157 hX dX12_lay_157 <|
    z_iast 158 hX dX12_lay_158 (rfl : shp 129 = (20, 628)) h fun w1 h =>
    z_aload_n 159 hX dX12_lay_159 rfl <|
    zgX12_7 160 hX dX12_lay_160 (rfl : shp 128 = (12, 0)) <|
    z_aload_n 163 hX dX12_lay_163 rfl <|
    z_iload_n 164 hX dX12_lay_164 rfl <|
    z_iload_n 165 hX dX12_lay_165 rfl <|
    zb1 h fun x2 r1 h => zcX12_124 166 [.int a1, .int a2] [.ref (zα G 129)] hX dX12_lay_166 (c_X12_at (zgd0 hX) r1) (rfl : shp 128 = (12, 0)) rfl rfl rfl (Nat.le_of_ble_eq_true rfl) (Nat.le_of_ble_eq_true rfl) <|
    z_iload_n 169 hX dX12_lay_169 rfl <|
    z_iast 170 hX dX12_lay_170 (rfl : shp 129 = (20, 628)) h fun w2 h =>
    z_aload_n 171 hX dX12_lay_171 rfl <|
    z_iload_n 172 hX dX12_lay_172 rfl <|
    zb1 h fun x4 r3 h => zcX12_211 173 [.int a1] [] hX dX12_lay_173 (c_X12_letters (zgd0 hX) r3) (rfl : shp 128 = (12, 0)) rfl rfl rfl (Nat.le_of_ble_eq_true rfl) (Nat.le_of_ble_eq_true rfl) <|
    z_endI2 176 hE rfl h dX12_lay_176
def j_X12_lay_137 (a1 : Int32) (a2 : Int32) (a3 : Int32) (a4 : Int32) (a5 : Int32) (b1 : Int32) (b2 : Int32) (b3 : Int32) (w : zW) : Option (Int32 × zW) :=
  zsto w 129 628 b1 (b2 - b3) fun w1 =>
  if a4 = nI 0 then
    j_X12_lay_157 a1 a2 a3 (nI 3) (w1 129 3) (nI 0) w1
  else
    j_X12_lay_157 a1 a2 a3 (nI 3) (w1 129 3) a5 w1
theorem j_X12_lay_137z {G : zG} {X : zX} {w : zW} {re : Int32} {we : zW} {a1 : Int32} {a2 : Int32} {a3 : Int32} {a4 : Int32} {a5 : Int32} {b1 : Int32} {b2 : Int32} {b3 : Int32} (hX : zOk G X cX12_lay 7 RX12 3) (hE : zEI G X cX12_lay .int re we)  (h : j_X12_lay_137 a1 a2 a3 a4 a5 b1 b2 b3 w = some (re, we)) : zZ G X w 137 [some (.ref (zα G 128)), some (.int a1), some (.int a2), some (.int a3), some (.int a4), some (.int a5), none] [.int b3, .int b2, .int b1, .ref (zα G 129)] := by
  rw [j_X12_lay_137] at h
  refine z_isub 137 hX dX12_lay_137 <|
    z_iast 138 hX dX12_lay_138 (rfl : shp 129 = (20, 628)) h fun w1 h =>
    z_aload_n 139 hX dX12_lay_139 rfl <|
    zgX12_7 140 hX dX12_lay_140 (rfl : shp 128 = (12, 0)) <|
    z_iconst 143 hX dX12_lay_143 zki3 <|
    z_dup2 144 hX dX12_lay_144 rfl rfl <|
    z_ialdc (j := 3) 145 hX dX12_lay_145 (rfl : shp 129 = (20, 628)) (zink 3 628 (by decide) (by decide)) (nI_clamp (by decide)) <|
    z_iload 146 hX dX12_lay_146 rfl <|
    z_if_ne 148 155 hX dX12_lay_148 rfl h (fun q1 h => ?_) (fun q1 h => ?_)
  · refine z_iload 155 hX dX12_lay_155 rfl <|
      z_weak (L' := [some (.ref (zα G 128)), some (.int a1), some (.int a2), some (.int a3), none, none, none]) (zsub_s (zsub_s (zsub_s (zsub_s (zsub_n (zsub_n (zsub_n zsub_0))))))) <|
      j_X12_lay_157z hX hE h
  · refine z_iconst 151 hX dX12_lay_151 zki0 <|
      z_goto 152 157 hX dX12_lay_152 rfl <|
      z_weak (L' := [some (.ref (zα G 128)), some (.int a1), some (.int a2), some (.int a3), none, none, none]) (zsub_s (zsub_s (zsub_s (zsub_s (zsub_n (zsub_n (zsub_n zsub_0))))))) <|
      j_X12_lay_157z hX hE h
def j_X12_lay_89 (a1 : Int32) (a2 : Int32) (a3 : Int32) (a4 : Int32) (a5 : Int32) (b0 : Int32) (w : zW) : Option (Int32 × zW) :=
  zb (f_X12_at a1 a2) fun x2 =>
  zld w 129 628 x2 fun x3 =>
  if x3 = nI 0 then
    if b0 = nI 0 then
      j_X12_lay_110 w
    else
      zld w 129 628 ((nI 266) + a3) fun x6 =>
      if a4 = nI 0 then
        j_X12_lay_137 a1 a2 a3 a4 a5 ((nI 266) + a3) x6 (nI 1) w
      else
        j_X12_lay_137 a1 a2 a3 a4 a5 ((nI 266) + a3) x6 (nI 0) w
  else
    j_X12_lay_110 w
