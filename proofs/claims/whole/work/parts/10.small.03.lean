theorem j_X8_costOf_36z {rc : Nat → Int32 → Int32 → zW → Option (Int32 × zW)} {K44 : Int32 → zW → Option (Int32 × zW)} {G : zG} {X : zX} {w : zW} {re : Int32} {we : zW} {a1 : Nat} {a3 : Int32} {b0 : Int32} {b1 : Int32} (hX : zOk G X cX8_costOf 4 RX8 3) (hE : zEI G X cX8_costOf .int re we) (hrc : ∀ (a1 : Nat) (a2 : Int32) (a3 : Int32) (w3 : zW) (ha1 : shp a1 = (9, 0)), rc a1 a2 a3 w3 = some (re, we) → zZ G X w3 4 [some (.ref (zα G 1)), some (.ref (zα G a1)), some (.int a2), some (.int a3)] []) (hK44 : ∀ (a2 : Int32) (w3 : zW) , K44 a2 w3 = some (re, we) → zZ G X w3 44 [none, none, some (.int a2), none] []) (ha1 : shp a1 = (9, 0)) (h : j_X8_costOf_36 rc K44 a1 a3 b0 b1 w = some (re, we)) : zZ G X w 36 [some (.ref (zα G 1)), some (.ref (zα G a1)), none, some (.int a3)] [.int b1, .int b0] := by
  rw [j_X8_costOf_36] at h
  refine z_iadd 36 hX dX8_costOf_36 <|
    z_top h fun x1 h =>
    z_istore_n 37 [some (.ref (zα G 1)), some (.ref (zα G a1)), some (.int x1), some (.int a3)] hX dX8_costOf_37 (Nat.le_of_ble_eq_true rfl) rfl rfl <|
    z_iincG 38 (fun x2 => [some (.ref (zα G 1)), some (.ref (zα G a1)), some (.int x1), some (.int x2)]) hX dX8_costOf_38 rfl zki1 rfl (fun _ => rfl) h fun x2 h =>
    z_goto 41 4 hX dX8_costOf_41 rfl <|
    hrc _ _ _ _ ha1 h
def l_X8_costOf_4 (K44 : Int32 → zW → Option (Int32 × zW)) : Nat → Nat → Int32 → Int32 → zW → Option (Int32 × zW)
  | 0, _, _, _, _ => none
  | n + 1, a1, a2, a3, w =>
    if a3 < (w a1 3) then
      zld w (a1 + 1) 24 a3 fun x2 =>
      if x2 = nI 0 then
        j_X8_costOf_36 (l_X8_costOf_4 K44 n) K44 a1 a3 a2 (nI 0) w
      else
        zld w (a1 + 1) 24 a3 fun x4 =>
        zb2 (f_X8_priceOf x4 w) fun x6 w1 =>
        j_X8_costOf_36 (l_X8_costOf_4 K44 n) K44 a1 a3 a2 x6 w1
    else
      K44 a2 w
theorem l_X8_costOf_4z {K44 : Int32 → zW → Option (Int32 × zW)} {G : zG} {X : zX} {re : Int32} {we : zW} (hX : zOk G X cX8_costOf 4 RX8 3) (hE : zEI G X cX8_costOf .int re we) (hK44 : ∀ (a2 : Int32) (w3 : zW) , K44 a2 w3 = some (re, we) → zZ G X w3 44 [none, none, some (.int a2), none] []) : ∀ (n : Nat) (a1 : Nat) (a2 : Int32) (a3 : Int32) (w : zW) (ha1 : shp a1 = (9, 0)), l_X8_costOf_4 K44 n a1 a2 a3 w = some (re, we) → zZ G X w 4 [some (.ref (zα G 1)), some (.ref (zα G a1)), some (.int a2), some (.int a3)] [] := by
  intro n
  induction n with
  | zero =>
    intro a1 a2 a3 w ha1 h
    rw [l_X8_costOf_4.eq_1] at h
    cases h
  | succ n ih =>
    intro a1 a2 a3 w ha1 h
    rw [l_X8_costOf_4.eq_2] at h
    refine z_iload_n 4 hX dX8_costOf_4 rfl <|
      z_aload_n 5 hX dX8_costOf_5 rfl <|
      zgX8_84 6 hX dX8_costOf_6 ha1 <|
      z_icmp_ge 9 44 hX dX8_costOf_9 rfl h (fun q1 h => ?_) (fun q1 h => ?_)
    · refine z_weak (L' := [none, none, some (.int a2), none]) (zsub_n (zsub_n (zsub_s (zsub_n zsub_0)))) <|
        hK44 _ _ h
    · refine z_iload_n 12 hX dX8_costOf_12 rfl <|
        z_aload_n 13 hX dX8_costOf_13 rfl <|
        zgX8_133 14 hX dX8_costOf_14 ha1 <|
        z_iload_n 17 hX dX8_costOf_17 rfl <|
        z_iald 18 hX dX8_costOf_18 (zr9_stones _ ha1) h fun x2 _ h =>
        z_if_eq 19 35 hX dX8_costOf_19 rfl h (fun q3 h => ?_) (fun q3 h => ?_)
      · refine z_iconst 35 hX dX8_costOf_35 zki0 <|
          z_weak (L' := [some (.ref (zα G 1)), some (.ref (zα G a1)), none, some (.int a3)]) (zsub_s (zsub_s (zsub_n (zsub_s zsub_0)))) <|
          j_X8_costOf_36z hX hE ih hK44 ha1 h
      · refine z_aload_n 22 hX dX8_costOf_22 rfl <|
          z_aload_n 23 hX dX8_costOf_23 rfl <|
          zgX8_133 24 hX dX8_costOf_24 ha1 <|
          z_iload_n 27 hX dX8_costOf_27 rfl <|
          z_iald 28 hX dX8_costOf_28 (zr9_stones _ ha1) h fun x4 _ h =>
          zb12 h fun x6 w1 r5 h => zcX8_136 29 [.int x4] [.int a2] hX dX8_costOf_29 (c_X8_priceOf (zgd0 hX) r5) (rfl : shp 1 = (8, 0)) rfl rfl rfl (Nat.le_of_ble_eq_true rfl) (Nat.le_of_ble_eq_true rfl) <|
          z_goto 32 36 hX dX8_costOf_32 rfl <|
          z_weak (L' := [some (.ref (zα G 1)), some (.ref (zα G a1)), none, some (.int a3)]) (zsub_s (zsub_s (zsub_n (zsub_s zsub_0)))) <|
          j_X8_costOf_36z hX hE ih hK44 ha1 h
def f_X8_costOf (a1 : Nat) (w : zW) : Option (Int32 × zW) :=
  l_X8_costOf_4 (fun k44_a2 w11 =>
    some (k44_a2, w11)) zfuel a1 (nI 0) (nI 0) w
theorem c_X8_costOf {G : zG} {l : Launch} (hG : zgood G) {w : zW} {re : Int32} {we : zW} {a1 : Nat} (ha1 : shp a1 = (9, 0)) (h : f_X8_costOf a1 w = some (re, we)) : zMet G l yX8_costOf cX8_costOf 4 (some .int) 3 [.ref (zα G 1), .ref (zα G a1)] w (some (.int re)) we := by
  refine zMet_of (L0 := [some (.ref (zα G 1)), some (.ref (zα G a1)), none, none]) hG zplX8 (Nat.le_of_ble_eq_true rfl) rfl rfl (fun X hl hX hEI hEV hEA => ?_)
  subst hl
  have hX : zOk G X cX8_costOf 4 RX8 3 := hX
  have hE := hEI _ _ rfl rfl
  rw [f_X8_costOf] at h
  refine z_iconst 0 hX dX8_costOf_0 zki0 <|
    z_istore_n 1 [some (.ref (zα G 1)), some (.ref (zα G a1)), some (.int (nI 0)), none] hX dX8_costOf_1 (Nat.le_of_ble_eq_true rfl) rfl rfl <|
    z_iconst 2 hX dX8_costOf_2 zki0 <|
    z_istore_n 3 [some (.ref (zα G 1)), some (.ref (zα G a1)), some (.int (nI 0)), some (.int (nI 0))] hX dX8_costOf_3 (Nat.le_of_ble_eq_true rfl) rfl rfl <|
    l_X8_costOf_4z hX hE (fun k44_a2 w11 h => ?_) _ _ _ _ _ ha1 h
  · refine z_iload_n 44 hX dX8_costOf_44 rfl <|
      z_endI2 45 hE rfl h dX8_costOf_45
def l_X8_countHeap_4 (w : zW) (K25 : Int32 → Option Int32) : Nat → Int32 → Int32 → Option Int32
  | 0, _, _ => none
  | n + 1, a1, a2 =>
    if (nI 26) < a2 then
      K25 a1
    else
      zld w 38 27 a2 fun x2 =>
      zlet (a1 + x2) fun x3 =>
      zlet (a2 + nI 1) fun x4 =>
      (l_X8_countHeap_4 w K25 n) x3 x4
theorem l_X8_countHeap_4z {K25 : Int32 → Option Int32} {G : zG} {X : zX} {w : zW} {re : Int32} (hX : zOk G X cX8_countHeap 3 RX8 0) (hE : zEI G X cX8_countHeap .int re w) (hK25 : ∀ (a1 : Int32) , K25 a1 = some re → zZ G X w 25 [none, some (.int a1), none] []) : ∀ (n : Nat) (a1 : Int32) (a2 : Int32) , l_X8_countHeap_4 w K25 n a1 a2 = some re → zZ G X w 4 [some (.ref (zα G 1)), some (.int a1), some (.int a2)] [] := by
  intro n
  induction n with
  | zero =>
    intro a1 a2  h
    rw [l_X8_countHeap_4.eq_1] at h
    cases h
  | succ n ih =>
    intro a1 a2  h
    rw [l_X8_countHeap_4.eq_2] at h
    refine z_iload_n 4 hX dX8_countHeap_4 rfl <|
      z_bipush 5 hX dX8_countHeap_5 zkb26 <|
      z_icmp_gt 7 25 hX dX8_countHeap_7 rfl h (fun q1 h => ?_) (fun q1 h => ?_)
    · refine z_weak (L' := [none, some (.int a1), none]) (zsub_n (zsub_s (zsub_n zsub_0))) <|
        hK25 _ h
    · refine z_iload_n 10 hX dX8_countHeap_10 rfl <|
        z_aload_n 11 hX dX8_countHeap_11 rfl <|
        zgX8_38 12 hX dX8_countHeap_12 (rfl : shp 1 = (8, 0)) <|
        z_iload_n 15 hX dX8_countHeap_15 rfl <|
        z_iald 16 hX dX8_countHeap_16 (rfl : shp 38 = (20, 27)) h fun x2 _ h =>
        z_iadd 17 hX dX8_countHeap_17 <|
        z_top h fun x3 h =>
        z_istore_n 18 [some (.ref (zα G 1)), some (.int x3), some (.int a2)] hX dX8_countHeap_18 (Nat.le_of_ble_eq_true rfl) rfl rfl <|
        z_iincG 19 (fun x4 => [some (.ref (zα G 1)), some (.int x3), some (.int x4)]) hX dX8_countHeap_19 rfl zki1 rfl (fun _ => rfl) h fun x4 h =>
        z_goto 22 4 hX dX8_countHeap_22 rfl <|
        ih _ _ h
def f_X8_countHeap  (w : zW) : Option Int32 :=
  l_X8_countHeap_4 w (fun k25_a1 =>
    some k25_a1) zfuel (nI 0) (nI 1)
theorem c_X8_countHeap {G : zG} {l : Launch} (hG : zgood G) {w : zW} {re : Int32}   (h : f_X8_countHeap w = some re) : zMet G l yX8_countHeap cX8_countHeap 3 (some .int) 0 [.ref (zα G 1)] w (some (.int re)) w := by
  refine zMet_of (L0 := [some (.ref (zα G 1)), none, none]) hG zplX8 (Nat.le_of_ble_eq_true rfl) rfl rfl (fun X hl hX hEI hEV hEA => ?_)
  subst hl
  have hX : zOk G X cX8_countHeap 3 RX8 0 := hX
  have hE := hEI _ _ rfl rfl
  rw [f_X8_countHeap] at h
  refine z_iconst 0 hX dX8_countHeap_0 zki0 <|
    z_istore_n 1 [some (.ref (zα G 1)), some (.int (nI 0)), none] hX dX8_countHeap_1 (Nat.le_of_ble_eq_true rfl) rfl rfl <|
    z_iconst 2 hX dX8_countHeap_2 zki1 <|
    z_istore_n 3 [some (.ref (zα G 1)), some (.int (nI 0)), some (.int (nI 1))] hX dX8_countHeap_3 (Nat.le_of_ble_eq_true rfl) rfl rfl <|
    l_X8_countHeap_4z hX hE (fun k25_a1 h => ?_) _ _ _ h
  · refine z_iload_n 25 hX dX8_countHeap_25 rfl <|
      z_endI 26 hE rfl h dX8_countHeap_26
def f_X8_dropBrick (a1 : Nat) (a2 : Int32) (w : zW) : Option zW :=
  zld w (a1 + 1) 24 a2 fun x1 =>
  if x1 = nI 0 then
    some w
  else
    zld w 38 27 x1 fun x3 =>
    zsto w 38 27 x1 (if (x3 + (nI 1)) < (nI 99) then (x3 + (nI 1)) else (nI 99)) fun w1 =>
    zsto w1 (a1 + 1) 24 a2 (nI 0) fun w2 =>
    some w2
theorem c_X8_dropBrick {G : zG} {l : Launch} (hG : zgood G) {w : zW} {we : zW} {a1 : Nat} {a2 : Int32} (ha1 : shp a1 = (9, 0)) (h : f_X8_dropBrick a1 a2 w = some we) : zMet G l yX8_dropBrick cX8_dropBrick 4 none 1 [.ref (zα G 1), .ref (zα G a1), .int a2] w none we := by
  refine zMet_of (L0 := [some (.ref (zα G 1)), some (.ref (zα G a1)), some (.int a2), none]) hG zplX8 (Nat.le_of_ble_eq_true rfl) rfl rfl (fun X hl hX hEI hEV hEA => ?_)
  subst hl
  have hX : zOk G X cX8_dropBrick 4 RX8 1 := hX
  have hE := hEV rfl rfl
  rw [f_X8_dropBrick] at h
  refine z_aload_n 0 hX dX8_dropBrick_0 rfl <|
    zgX8_133 1 hX dX8_dropBrick_1 ha1 <|
    z_iload_n 4 hX dX8_dropBrick_4 rfl <|
    z_iald 5 hX dX8_dropBrick_5 (zr9_stones _ ha1) h fun x1 _ h =>
    z_istore_n 6 [some (.ref (zα G 1)), some (.ref (zα G a1)), some (.int a2), some (.int x1)] hX dX8_dropBrick_6 (Nat.le_of_ble_eq_true rfl) rfl rfl <|
    z_iload_n 7 hX dX8_dropBrick_7 rfl <|
    z_if_eq 8 37 hX dX8_dropBrick_8 rfl h (fun q2 h => ?_) (fun q2 h => ?_)
  · refine z_endV 37 hE h dX8_dropBrick_37
  · refine z_aload_n 11 hX dX8_dropBrick_11 rfl <|
      zgX8_38 12 hX dX8_dropBrick_12 (rfl : shp 1 = (8, 0)) <|
      z_iload_n 15 hX dX8_dropBrick_15 rfl <|
      z_bipush 16 hX dX8_dropBrick_16 zkb99 <|
      z_aload_n 18 hX dX8_dropBrick_18 rfl <|
      zgX8_38 19 hX dX8_dropBrick_19 (rfl : shp 1 = (8, 0)) <|
      z_iload_n 22 hX dX8_dropBrick_22 rfl <|
      z_iald 23 hX dX8_dropBrick_23 (rfl : shp 38 = (20, 27)) h fun x3 _ h =>
      z_iconst 24 hX dX8_dropBrick_24 zki1 <|
      z_iadd 25 hX dX8_dropBrick_25 <|
      z_mmin 26 hX dX8_dropBrick_26 zw553 zw538 zw86 zw539 rfl (Nat.le_of_ble_eq_true rfl) (Nat.le_of_ble_eq_true rfl) <|
      z_iast 29 hX dX8_dropBrick_29 (rfl : shp 38 = (20, 27)) h fun w1 h =>
      z_aload_n 30 hX dX8_dropBrick_30 rfl <|
      zgX8_133 31 hX dX8_dropBrick_31 ha1 <|
      z_iload_n 34 hX dX8_dropBrick_34 rfl <|
      z_iconst 35 hX dX8_dropBrick_35 zki0 <|
      z_iast 36 hX dX8_dropBrick_36 (zr9_stones _ ha1) h fun w2 h =>
      z_endV 37 hE h dX8_dropBrick_37
def f_X8_draw  (w : zW) : Option (Int32 × zW) :=
  zlet (zupd w 1 12 (((w 1 12) * (nI 1103515245)) + (nI 12345))) fun w1 =>
  some (((w1 1 12).toUInt32 >>> ((nI 8).toUInt32 &&& Int32.toUInt32 31)).toInt32, w1)
theorem c_X8_draw {G : zG} {l : Launch} (hG : zgood G) {w : zW} {re : Int32} {we : zW}   (h : f_X8_draw w = some (re, we)) : zMet G l yX8_draw cX8_draw 1 (some .int) 0 [.ref (zα G 1)] w (some (.int re)) we := by
  refine zMet_of (L0 := [some (.ref (zα G 1))]) hG zplX8 (Nat.le_of_ble_eq_true rfl) rfl rfl (fun X hl hX hEI hEV hEA => ?_)
  subst hl
  have hX : zOk G X cX8_draw 1 RX8 0 := hX
  have hE := hEI _ _ rfl rfl
  rw [f_X8_draw] at h
  refine z_aload_n 0 hX dX8_draw_0 rfl <|
    z_aload_n 1 hX dX8_draw_1 rfl <|
    zgX8_48 2 hX dX8_draw_2 (rfl : shp 1 = (8, 0)) <|
    z_ldc 5 hX dX8_draw_5 zw908 zkl1103515245 <|
    z_imul 7 hX dX8_draw_7 <|
    z_sipush 8 hX dX8_draw_8 zks12345 <|
    z_iadd 11 hX dX8_draw_11 <|
    zpX8_48 12 hX dX8_draw_12 (rfl : shp 1 = (8, 0)) <|
    z_w h fun w1 h =>
    z_aload_n 15 hX dX8_draw_15 rfl <|
    zgX8_48 16 hX dX8_draw_16 (rfl : shp 1 = (8, 0)) <|
    z_bipush 19 hX dX8_draw_19 zkb8 <|
    z_iushr 21 hX dX8_draw_21 <|
    z_endI2 22 hE rfl h dX8_draw_22
def f_X9_begin (a0 : Nat) (a1 : Int32) (a2 : Int32) (a3 : Int32) (w : zW) : Option zW :=
  zlet (zupd w a0 1 a1) fun w1 =>
  zlet (zupd w1 a0 2 a2) fun w2 =>
  zlet (zupd w2 a0 3 a3) fun w3 =>
  zb (f_J7_fill_53178 (a0 + 1) 24 (nI 0) w3) fun w4 =>
  some w4
theorem c_X9_begin {G : zG} {l : Launch} (hG : zgood G) {w : zW} {we : zW} {a0 : Nat} {a1 : Int32} {a2 : Int32} {a3 : Int32} (ha0 : shp a0 = (9, 0)) (h : f_X9_begin a0 a1 a2 a3 w = some we) : zMet G l yX9_begin cX9_begin 4 none 1 [.ref (zα G a0), .int a1, .int a2, .int a3] w none we := by
  refine zMet_of (L0 := [some (.ref (zα G a0)), some (.int a1), some (.int a2), some (.int a3)]) hG zplX9 (Nat.le_of_ble_eq_true rfl) rfl rfl (fun X hl hX hEI hEV hEA => ?_)
  subst hl
  have hX : zOk G X cX9_begin 4 RX9 1 := hX
  have hE := hEV rfl rfl
  rw [f_X9_begin] at h
  refine z_aload_n 0 hX dX9_begin_0 rfl <|
    z_iload_n 1 hX dX9_begin_1 rfl <|
    zpX9_15 2 hX dX9_begin_2 ha0 <|
    z_w h fun w1 h =>
    z_aload_n 5 hX dX9_begin_5 rfl <|
    z_iload_n 6 hX dX9_begin_6 rfl <|
    zpX9_19 7 hX dX9_begin_7 ha0 <|
    z_w h fun w2 h =>
    z_aload_n 10 hX dX9_begin_10 rfl <|
    z_iload_n 11 hX dX9_begin_11 rfl <|
    zpX9_22 12 hX dX9_begin_12 ha0 <|
    z_w h fun w3 h =>
    z_aload_n 15 hX dX9_begin_15 rfl <|
    zgX9_9 16 hX dX9_begin_16 ha0 <|
    z_iconst 19 hX dX9_begin_19 zki0 <|
    zb1 h fun w4 r1 h => zcX9_25 20 [.ref (zα G (a0 + 1)), .int (nI 0)] [] hX dX9_begin_20 (c_J7_fill_53178 (zgd0 hX) (zr9_stones _ ha0) r1) rfl rfl rfl (Nat.le_of_ble_eq_true rfl) (Nat.le_of_ble_eq_true rfl) <|
    z_endV 23 hE h dX9_begin_23
def l_X9_openFrom_18 (K38 : zW → Option zW) : Nat → Nat → Int32 → Int32 → zW → Option zW
  | 0, _, _, _, _ => none
  | n + 1, a0, a3, a4, w =>
    if a4 < a3 then
      zsto w (a0 + 1) 24 a4 (nI 0) fun w1 =>
      zlet (a4 + nI 1) fun x2 =>
      (l_X9_openFrom_18 K38 n) a0 a3 x2 w1
    else
      K38 w
theorem l_X9_openFrom_18z {K38 : zW → Option zW} {G : zG} {X : zX} {we : zW} (hX : zOk G X cX9_openFrom 5 RX9 1) (hE : zEV G X cX9_openFrom we) (hK38 : ∀ (w3 : zW) , K38 w3 = some we → zZ G X w3 38 [none, none, none, none, none] []) : ∀ (n : Nat) (a0 : Nat) (a3 : Int32) (a4 : Int32) (w : zW) (ha0 : shp a0 = (9, 0)), l_X9_openFrom_18 K38 n a0 a3 a4 w = some we → zZ G X w 18 [some (.ref (zα G a0)), none, none, some (.int a3), some (.int a4)] [] := by
  intro n
  induction n with
  | zero =>
    intro a0 a3 a4 w ha0 h
    rw [l_X9_openFrom_18.eq_1] at h
    cases h
  | succ n ih =>
    intro a0 a3 a4 w ha0 h
    rw [l_X9_openFrom_18.eq_2] at h
    refine z_iload 18 hX dX9_openFrom_18 rfl <|
      z_iload_n 20 hX dX9_openFrom_20 rfl <|
      z_icmp_ge 21 38 hX dX9_openFrom_21 rfl h (fun q1 h => ?_) (fun q1 h => ?_)
    · refine z_weak (L' := [none, none, none, none, none]) (zsub_n (zsub_n (zsub_n (zsub_n (zsub_n zsub_0))))) <|
        hK38 _ h
    · refine z_aload_n 24 hX dX9_openFrom_24 rfl <|
        zgX9_9 25 hX dX9_openFrom_25 ha0 <|
        z_iload 28 hX dX9_openFrom_28 rfl <|
        z_iconst 30 hX dX9_openFrom_30 zki0 <|
        z_iast 31 hX dX9_openFrom_31 (zr9_stones _ ha0) h fun w1 h =>
        z_iincG 32 (fun x2 => [some (.ref (zα G a0)), none, none, some (.int a3), some (.int x2)]) hX dX9_openFrom_32 rfl zki1 rfl (fun _ => rfl) h fun x2 h =>
        z_goto 35 18 hX dX9_openFrom_35 rfl <|
        ih _ _ _ _ ha0 h
def f_X9_openFrom (a0 : Nat) (a1 : Int32) (a2 : Int32) (w : zW) : Option zW :=
  zlet (if (a1 + a2) < (w a0 3) then (a1 + a2) else (w a0 3)) fun x1 =>
  zlet (if a1 < (nI 0) then (nI 0) else a1) fun x2 =>
  l_X9_openFrom_18 (fun w11 =>
    some w11) zfuel a0 x1 x2 w
theorem c_X9_openFrom {G : zG} {l : Launch} (hG : zgood G) {w : zW} {we : zW} {a0 : Nat} {a1 : Int32} {a2 : Int32} (ha0 : shp a0 = (9, 0)) (h : f_X9_openFrom a0 a1 a2 w = some we) : zMet G l yX9_openFrom cX9_openFrom 5 none 1 [.ref (zα G a0), .int a1, .int a2] w none we := by
  refine zMet_of (L0 := [some (.ref (zα G a0)), some (.int a1), some (.int a2), none, none]) hG zplX9 (Nat.le_of_ble_eq_true rfl) rfl rfl (fun X hl hX hEI hEV hEA => ?_)
  subst hl
  have hX : zOk G X cX9_openFrom 5 RX9 1 := hX
  have hE := hEV rfl rfl
  rw [f_X9_openFrom] at h
  refine z_aload_n 0 hX dX9_openFrom_0 rfl <|
    zgX9_22 1 hX dX9_openFrom_1 ha0 <|
    z_iload_n 4 hX dX9_openFrom_4 rfl <|
    z_iload_n 5 hX dX9_openFrom_5 rfl <|
    z_iadd 6 hX dX9_openFrom_6 <|
    z_mmin 7 hX dX9_openFrom_7 zw775 zw538 zw86 zw539 rfl (Nat.le_of_ble_eq_true rfl) (Nat.le_of_ble_eq_true rfl) <|
    z_top h fun x1 h =>
    z_istore_n 10 [some (.ref (zα G a0)), some (.int a1), some (.int a2), some (.int x1), none] hX dX9_openFrom_10 (Nat.le_of_ble_eq_true rfl) rfl rfl <|
    z_iload_n 11 hX dX9_openFrom_11 rfl <|
    z_iconst 12 hX dX9_openFrom_12 zki0 <|
    z_mmax 13 hX dX9_openFrom_13 zw776 zw555 zw86 zw556 rfl (Nat.le_of_ble_eq_true rfl) (Nat.le_of_ble_eq_true rfl) <|
    z_top h fun x2 h =>
    z_istore 16 [some (.ref (zα G a0)), some (.int a1), some (.int a2), some (.int x1), some (.int x2)] hX dX9_openFrom_16 (Nat.le_of_ble_eq_true rfl) rfl rfl <|
    z_weak (L' := [some (.ref (zα G a0)), none, none, some (.int x1), some (.int x2)]) (zsub_s (zsub_n (zsub_n (zsub_s (zsub_s zsub_0))))) <|
    l_X9_openFrom_18z hX hE (fun w11 h => ?_) _ _ _ _ _ ha0 h
  · refine z_endV 38 hE h dX9_openFrom_38
def j_X9_countLetters_27 (rc : Nat → Int32 → Int32 → Option Int32) (K35 : Int32 → Option Int32) (w : zW) (a0 : Nat) (a2 : Int32) (b0 : Int32) (b1 : Int32)  : Option Int32 :=
  zlet (b0 + b1) fun x1 =>
  zlet (a2 + nI 1) fun x2 =>
  rc a0 x1 x2
theorem j_X9_countLetters_27z {rc : Nat → Int32 → Int32 → Option Int32} {K35 : Int32 → Option Int32} {G : zG} {X : zX} {w : zW} {re : Int32} {a0 : Nat} {a2 : Int32} {b0 : Int32} {b1 : Int32} (hX : zOk G X cX9_countLetters 3 RX9 0) (hE : zEI G X cX9_countLetters .int re w) (hrc : ∀ (a0 : Nat) (a1 : Int32) (a2 : Int32) (ha0 : shp a0 = (9, 0)), rc a0 a1 a2 = some re → zZ G X w 4 [some (.ref (zα G a0)), some (.int a1), some (.int a2)] []) (hK35 : ∀ (a1 : Int32) , K35 a1 = some re → zZ G X w 35 [none, some (.int a1), none] []) (ha0 : shp a0 = (9, 0)) (h : j_X9_countLetters_27 rc K35 w a0 a2 b0 b1 = some re) : zZ G X w 27 [some (.ref (zα G a0)), none, some (.int a2)] [.int b1, .int b0] := by
  rw [j_X9_countLetters_27] at h
  refine z_iadd 27 hX dX9_countLetters_27 <|
    z_top h fun x1 h =>
    z_istore_n 28 [some (.ref (zα G a0)), some (.int x1), some (.int a2)] hX dX9_countLetters_28 (Nat.le_of_ble_eq_true rfl) rfl rfl <|
    z_iincG 29 (fun x2 => [some (.ref (zα G a0)), some (.int x1), some (.int x2)]) hX dX9_countLetters_29 rfl zki1 rfl (fun _ => rfl) h fun x2 h =>
    z_goto 32 4 hX dX9_countLetters_32 rfl <|
    hrc _ _ _ ha0 h
def l_X9_countLetters_4 (w : zW) (K35 : Int32 → Option Int32) : Nat → Nat → Int32 → Int32 → Option Int32
  | 0, _, _, _ => none
  | n + 1, a0, a1, a2 =>
    if a2 < (w a0 3) then
      zld w (a0 + 1) 24 a2 fun x2 =>
      if x2 = nI 0 then
        j_X9_countLetters_27 (l_X9_countLetters_4 w K35 n) K35 w a0 a2 a1 (nI 0)
      else
        j_X9_countLetters_27 (l_X9_countLetters_4 w K35 n) K35 w a0 a2 a1 (nI 1)
    else
      K35 a1
theorem l_X9_countLetters_4z {K35 : Int32 → Option Int32} {G : zG} {X : zX} {w : zW} {re : Int32} (hX : zOk G X cX9_countLetters 3 RX9 0) (hE : zEI G X cX9_countLetters .int re w) (hK35 : ∀ (a1 : Int32) , K35 a1 = some re → zZ G X w 35 [none, some (.int a1), none] []) : ∀ (n : Nat) (a0 : Nat) (a1 : Int32) (a2 : Int32) (ha0 : shp a0 = (9, 0)), l_X9_countLetters_4 w K35 n a0 a1 a2 = some re → zZ G X w 4 [some (.ref (zα G a0)), some (.int a1), some (.int a2)] [] := by
  intro n
  induction n with
  | zero =>
    intro a0 a1 a2 ha0 h
    rw [l_X9_countLetters_4.eq_1] at h
    cases h
  | succ n ih =>
    intro a0 a1 a2 ha0 h
    rw [l_X9_countLetters_4.eq_2] at h
    refine z_iload_n 4 hX dX9_countLetters_4 rfl <|
      z_aload_n 5 hX dX9_countLetters_5 rfl <|
      zgX9_22 6 hX dX9_countLetters_6 ha0 <|
      z_icmp_ge 9 35 hX dX9_countLetters_9 rfl h (fun q1 h => ?_) (fun q1 h => ?_)
    · refine z_weak (L' := [none, some (.int a1), none]) (zsub_n (zsub_s (zsub_n zsub_0))) <|
        hK35 _ h
    · refine z_iload_n 12 hX dX9_countLetters_12 rfl <|
        z_aload_n 13 hX dX9_countLetters_13 rfl <|
        zgX9_9 14 hX dX9_countLetters_14 ha0 <|
        z_iload_n 17 hX dX9_countLetters_17 rfl <|
        z_iald 18 hX dX9_countLetters_18 (zr9_stones _ ha0) h fun x2 _ h =>
        z_if_eq 19 26 hX dX9_countLetters_19 rfl h (fun q3 h => ?_) (fun q3 h => ?_)
      · refine z_iconst 26 hX dX9_countLetters_26 zki0 <|
          z_weak (L' := [some (.ref (zα G a0)), none, some (.int a2)]) (zsub_s (zsub_n (zsub_s zsub_0))) <|
          j_X9_countLetters_27z hX hE ih hK35 ha0 h
      · refine z_iconst 22 hX dX9_countLetters_22 zki1 <|
          z_goto 23 27 hX dX9_countLetters_23 rfl <|
          z_weak (L' := [some (.ref (zα G a0)), none, some (.int a2)]) (zsub_s (zsub_n (zsub_s zsub_0))) <|
          j_X9_countLetters_27z hX hE ih hK35 ha0 h
def f_X9_countLetters (a0 : Nat) (w : zW) : Option Int32 :=
  l_X9_countLetters_4 w (fun k35_a1 =>
    some k35_a1) zfuel a0 (nI 0) (nI 0)
theorem c_X9_countLetters {G : zG} {l : Launch} (hG : zgood G) {w : zW} {re : Int32} {a0 : Nat} (ha0 : shp a0 = (9, 0)) (h : f_X9_countLetters a0 w = some re) : zMet G l yX9_countLetters cX9_countLetters 3 (some .int) 0 [.ref (zα G a0)] w (some (.int re)) w := by
  refine zMet_of (L0 := [some (.ref (zα G a0)), none, none]) hG zplX9 (Nat.le_of_ble_eq_true rfl) rfl rfl (fun X hl hX hEI hEV hEA => ?_)
  subst hl
  have hX : zOk G X cX9_countLetters 3 RX9 0 := hX
  have hE := hEI _ _ rfl rfl
  rw [f_X9_countLetters] at h
  refine z_iconst 0 hX dX9_countLetters_0 zki0 <|
    z_istore_n 1 [some (.ref (zα G a0)), some (.int (nI 0)), none] hX dX9_countLetters_1 (Nat.le_of_ble_eq_true rfl) rfl rfl <|
    z_iconst 2 hX dX9_countLetters_2 zki0 <|
    z_istore_n 3 [some (.ref (zα G a0)), some (.int (nI 0)), some (.int (nI 0))] hX dX9_countLetters_3 (Nat.le_of_ble_eq_true rfl) rfl rfl <|
    l_X9_countLetters_4z hX hE (fun k35_a1 h => ?_) _ _ _ _ ha0 h
  · refine z_iload_n 35 hX dX9_countLetters_35 rfl <|
      z_endI 36 hE rfl h dX9_countLetters_36
def f_X10_begin (a0 : Nat) (a1 : Int32) (a2 : Int32) (w : zW) : Option zW :=
  zlet (zupd w a0 1 a1) fun w1 =>
  zlet (zupd w1 (a0 + 1) 0 a2) fun w2 =>
  zlet (zupd w2 a0 2 (nI 1)) fun w3 =>
  some w3
theorem c_X10_begin {G : zG} {l : Launch} (hG : zgood G) {w : zW} {we : zW} {a0 : Nat} {a1 : Int32} {a2 : Int32} (ha0 : shp a0 = (10, 0)) (h : f_X10_begin a0 a1 a2 w = some we) : zMet G l yX10_begin cX10_begin 3 none 0 [.ref (zα G a0), .int a1, .int a2] w none we := by
  refine zMet_of (L0 := [some (.ref (zα G a0)), some (.int a1), some (.int a2)]) hG zplX10 (Nat.le_of_ble_eq_true rfl) rfl rfl (fun X hl hX hEI hEV hEA => ?_)
  subst hl
  have hX : zOk G X cX10_begin 3 RX10 0 := hX
  have hE := hEV rfl rfl
  rw [f_X10_begin] at h
  refine z_aload_n 0 hX dX10_begin_0 rfl <|
    z_iload_n 1 hX dX10_begin_1 rfl <|
    zpX10_15 2 hX dX10_begin_2 ha0 <|
    z_w h fun w1 h =>
    z_aload_n 5 hX dX10_begin_5 rfl <|
    zgX10_9 6 hX dX10_begin_6 ha0 <|
    z_iconst 9 hX dX10_begin_9 zki0 <|
    z_iload_n 10 hX dX10_begin_10 rfl <|
    z_iastc (j := 0) 11 hX dX10_begin_11 (zr10_letters _ ha0) (zink 0 6 (by decide) (by decide)) (nI_clamp (by decide)) <|
    z_w h fun w2 h =>
    z_aload_n 12 hX dX10_begin_12 rfl <|
    z_iconst 13 hX dX10_begin_13 zki1 <|
    zpX10_19 14 hX dX10_begin_14 ha0 <|
    z_w h fun w3 h =>
    z_endV 17 hE h dX10_begin_17
def f_J6_bitCount_0f7a4 (a0 : Int32)  : Option Int32 :=
  zlet (a0 - (((a0.toUInt32 >>> ((nI 1).toUInt32 &&& Int32.toUInt32 31)).toInt32) &&& (nI 1431655765))) fun x1 =>
  zlet ((x1 &&& (nI 858993459)) + (((x1.toUInt32 >>> ((nI 2).toUInt32 &&& Int32.toUInt32 31)).toInt32) &&& (nI 858993459))) fun x2 =>
  zlet ((x2 + ((x2.toUInt32 >>> ((nI 4).toUInt32 &&& Int32.toUInt32 31)).toInt32)) &&& (nI 252645135)) fun x3 =>
  zlet (x3 + ((x3.toUInt32 >>> ((nI 8).toUInt32 &&& Int32.toUInt32 31)).toInt32)) fun x4 =>
  zlet (x4 + ((x4.toUInt32 >>> ((nI 16).toUInt32 &&& Int32.toUInt32 31)).toInt32)) fun x5 =>
  some (x5 &&& (nI 63))
theorem c_J6_bitCount_0f7a4 {G : zG} {l : Launch} (hG : zgood G) {w : zW} {re : Int32} {a0 : Int32}  (h : f_J6_bitCount_0f7a4 a0 = some re) : zMet G l yJ6_bitCount_0f7a4 cJ6_bitCount_0f7a4 1 (some .int) 0 [.int a0] w (some (.int re)) w := by
  refine zMet_of (L0 := [some (.int a0)]) hG zplJ6 (Nat.le_of_ble_eq_true rfl) rfl rfl (fun X hl hX hEI hEV hEA => ?_)
  subst hl
  have hX : zOk G X cJ6_bitCount_0f7a4 1 RJ6 0 := hX
  have hE := hEI _ _ rfl rfl
  rw [f_J6_bitCount_0f7a4] at h
  refine z_iload_n 0 hX dJ6_bitCount_0f7a4_0 rfl <|
    z_iload_n 1 hX dJ6_bitCount_0f7a4_1 rfl <|
    z_iconst 2 hX dJ6_bitCount_0f7a4_2 zki1 <|
    z_iushr 3 hX dJ6_bitCount_0f7a4_3 <|
    z_ldc_w 4 hX dJ6_bitCount_0f7a4_4 zw800 zkl1431655765 <|
    z_iand 7 hX dJ6_bitCount_0f7a4_7 <|
    z_isub 8 hX dJ6_bitCount_0f7a4_8 <|
    z_top h fun x1 h =>
    z_istore_n 9 [some (.int x1)] hX dJ6_bitCount_0f7a4_9 (Nat.le_of_ble_eq_true rfl) rfl rfl <|
    z_iload_n 10 hX dJ6_bitCount_0f7a4_10 rfl <|
    z_ldc_w 11 hX dJ6_bitCount_0f7a4_11 zw801 zkl858993459 <|
    z_iand 14 hX dJ6_bitCount_0f7a4_14 <|
    z_iload_n 15 hX dJ6_bitCount_0f7a4_15 rfl <|
    z_iconst 16 hX dJ6_bitCount_0f7a4_16 zki2 <|
    z_iushr 17 hX dJ6_bitCount_0f7a4_17 <|
    z_ldc_w 18 hX dJ6_bitCount_0f7a4_18 zw801 zkl858993459 <|
    z_iand 21 hX dJ6_bitCount_0f7a4_21 <|
    z_iadd 22 hX dJ6_bitCount_0f7a4_22 <|
    z_top h fun x2 h =>
    z_istore_n 23 [some (.int x2)] hX dJ6_bitCount_0f7a4_23 (Nat.le_of_ble_eq_true rfl) rfl rfl <|
    z_iload_n 24 hX dJ6_bitCount_0f7a4_24 rfl <|
    z_iload_n 25 hX dJ6_bitCount_0f7a4_25 rfl <|
    z_iconst 26 hX dJ6_bitCount_0f7a4_26 zki4 <|
    z_iushr 27 hX dJ6_bitCount_0f7a4_27 <|
    z_iadd 28 hX dJ6_bitCount_0f7a4_28 <|
    z_ldc_w 29 hX dJ6_bitCount_0f7a4_29 zw802 zkl252645135 <|
    z_iand 32 hX dJ6_bitCount_0f7a4_32 <|
    z_top h fun x3 h =>
    z_istore_n 33 [some (.int x3)] hX dJ6_bitCount_0f7a4_33 (Nat.le_of_ble_eq_true rfl) rfl rfl <|
    z_iload_n 34 hX dJ6_bitCount_0f7a4_34 rfl <|
    z_iload_n 35 hX dJ6_bitCount_0f7a4_35 rfl <|
    z_bipush 36 hX dJ6_bitCount_0f7a4_36 zkb8 <|
    z_iushr 38 hX dJ6_bitCount_0f7a4_38 <|
    z_iadd 39 hX dJ6_bitCount_0f7a4_39 <|
    z_top h fun x4 h =>
    z_istore_n 40 [some (.int x4)] hX dJ6_bitCount_0f7a4_40 (Nat.le_of_ble_eq_true rfl) rfl rfl <|
    z_iload_n 41 hX dJ6_bitCount_0f7a4_41 rfl <|
    z_iload_n 42 hX dJ6_bitCount_0f7a4_42 rfl <|
    z_bipush 43 hX dJ6_bitCount_0f7a4_43 zkb16 <|
    z_iushr 45 hX dJ6_bitCount_0f7a4_45 <|
    z_iadd 46 hX dJ6_bitCount_0f7a4_46 <|
    z_top h fun x5 h =>
    z_istore_n 47 [some (.int x5)] hX dJ6_bitCount_0f7a4_47 (Nat.le_of_ble_eq_true rfl) rfl rfl <|
    z_iload_n 48 hX dJ6_bitCount_0f7a4_48 rfl <|
    z_bipush 49 hX dJ6_bitCount_0f7a4_49 zkb63 <|
    z_iand 51 hX dJ6_bitCount_0f7a4_51 <|
    z_endI 52 hE rfl h dJ6_bitCount_0f7a4_52
