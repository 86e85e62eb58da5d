def l_X1_fewestUnlike_18 (K133 : zW → Option (Int32 × zW)) : Nat → Int32 → zW → Option (Int32 × zW)
  | 0, _, _ => none
  | n + 1, a3, w =>
    if a3 < (w 116 1) then
      l_X1_fewestUnlike_29 (fun k127_a3 w11 =>
        zlet (k127_a3 + nI 1) fun x102 =>
        (l_X1_fewestUnlike_18 K133 n) x102 w11) zfuel a3 (nI 0) w
    else
      K133 w
theorem l_X1_fewestUnlike_18z {K133 : zW → Option (Int32 × zW)} {G : zG} {X : zX} {re : Int32} {we : zW} (hX : zOk G X cX1_fewestUnlike 8 RX1 2) (hE : zEI G X cX1_fewestUnlike .int re we) (hK133 : ∀ (w3 : zW) , K133 w3 = some (re, we) → zZ G X w3 133 [some (.ref (zα G 112)), none, some (.ref (zα G 116)), none, none, none, none, none] []) : ∀ (n : Nat) (a3 : Int32) (w : zW) , l_X1_fewestUnlike_18 K133 n a3 w = some (re, we) → zZ G X w 18 [some (.ref (zα G 112)), some (.ref (zα G 3)), some (.ref (zα G 116)), some (.int a3), none, none, none, none] [] := by
  intro n
  induction n with
  | zero =>
    intro a3 w  h
    rw [l_X1_fewestUnlike_18.eq_1] at h
    cases h
  | succ n ih =>
    intro a3 w  h
    rw [l_X1_fewestUnlike_18.eq_2] at h
    refine z_iload_n 18 hX dX1_fewestUnlike_18 rfl <|
      z_aload_n 19 hX dX1_fewestUnlike_19 rfl <|
      zgX1_27 20 hX dX1_fewestUnlike_20 (rfl : shp 116 = (3, 0)) <|
      z_icmp_ge 23 133 hX dX1_fewestUnlike_23 rfl h (fun q1 h => ?_) (fun q1 h => ?_)
    · refine z_weak (L' := [some (.ref (zα G 112)), none, some (.ref (zα G 116)), none, none, none, none, none]) (zsub_s (zsub_n (zsub_s (zsub_n (zsub_n (zsub_n (zsub_n (zsub_n zsub_0)))))))) <|
        hK133 _ h
    · refine z_iconst 26 hX dX1_fewestUnlike_26 zki0 <|
        z_istore 27 [some (.ref (zα G 112)), some (.ref (zα G 3)), some (.ref (zα G 116)), some (.int a3), some (.int (nI 0)), none, none, none] hX dX1_fewestUnlike_27 (Nat.le_of_ble_eq_true rfl) rfl rfl <|
        l_X1_fewestUnlike_29z hX hE (fun k127_a3 w11 h => ?_) _ _ _ _ h
      · refine z_iincG 127 (fun x102 => [some (.ref (zα G 112)), some (.ref (zα G 3)), some (.ref (zα G 116)), some (.int x102), none, none, none, none]) hX dX1_fewestUnlike_127 rfl zki1 rfl (fun _ => rfl) h fun x102 h =>
          z_goto 130 18 hX dX1_fewestUnlike_130 rfl <|
          ih _ _ h
def f_X1_fewestUnlike  (w : zW) : Option (Int32 × zW) :=
  zb (f_J7_fill_53178 114 245 (nI 1000000) w) fun w1 =>
  zlet (zupd w1 114 0 (nI 0)) fun w2 =>
  l_X1_fewestUnlike_18 (fun w13 =>
    zld w13 114 245 (((w13 116 1) * (nI 5)) + (nI 4)) fun x102 =>
    some (x102, w13)) zfuel (nI 0) w2
theorem c_X1_fewestUnlike {G : zG} {l : Launch} (hG : zgood G) {w : zW} {re : Int32} {we : zW}   (h : f_X1_fewestUnlike w = some (re, we)) : zMet G l yX1_fewestUnlike cX1_fewestUnlike 8 (some .int) 2 [.ref (zα G 112), .ref (zα G 3), .ref (zα G 116)] w (some (.int re)) we := by
  refine zMet_of (L0 := [some (.ref (zα G 112)), some (.ref (zα G 3)), some (.ref (zα G 116)), none, none, none, none, none]) hG zplX1 (Nat.le_of_ble_eq_true rfl) rfl rfl (fun X hl hX hEI hEV hEA => ?_)
  subst hl
  have hX : zOk G X cX1_fewestUnlike 8 RX1 2 := hX
  have hE := hEI _ _ rfl rfl
  rw [f_X1_fewestUnlike] at h
  refine z_aload_n 0 hX dX1_fewestUnlike_0 rfl <|
    zgX1_15 1 hX dX1_fewestUnlike_1 (rfl : shp 112 = (1, 0)) <|
    z_ldc 4 hX dX1_fewestUnlike_4 zw811 zkl1000000 <|
    zb1 h fun w1 r1 h => zcX1_21 6 [.ref (zα G 114), .int (nI 1000000)] [] hX dX1_fewestUnlike_6 (c_J7_fill_53178 (zgd0 hX) (rfl : shp 114 = (20, 245)) r1) rfl rfl rfl (Nat.le_of_ble_eq_true rfl) (Nat.le_of_ble_eq_true rfl) <|
    z_aload_n 9 hX dX1_fewestUnlike_9 rfl <|
    zgX1_15 10 hX dX1_fewestUnlike_10 (rfl : shp 112 = (1, 0)) <|
    z_iconst 13 hX dX1_fewestUnlike_13 zki0 <|
    z_iconst 14 hX dX1_fewestUnlike_14 zki0 <|
    z_iastc (j := 0) 15 hX dX1_fewestUnlike_15 (rfl : shp 114 = (20, 245)) (zink 0 245 (by decide) (by decide)) (nI_clamp (by decide)) <|
    z_w h fun w2 h =>
    z_iconst 16 hX dX1_fewestUnlike_16 zki0 <|
    z_istore_n 17 [some (.ref (zα G 112)), some (.ref (zα G 3)), some (.ref (zα G 116)), some (.int (nI 0)), none, none, none, none] hX dX1_fewestUnlike_17 (Nat.le_of_ble_eq_true rfl) rfl rfl <|
    l_X1_fewestUnlike_18z hX hE (fun w13 h => ?_) _ _ _ h
  · refine z_aload_n 133 hX dX1_fewestUnlike_133 rfl <|
      zgX1_15 134 hX dX1_fewestUnlike_134 (rfl : shp 112 = (1, 0)) <|
      z_aload_n 137 hX dX1_fewestUnlike_137 rfl <|
      zgX1_27 138 hX dX1_fewestUnlike_138 (rfl : shp 116 = (3, 0)) <|
      z_iconst 141 hX dX1_fewestUnlike_141 zki5 <|
      z_imul 142 hX dX1_fewestUnlike_142 <|
      z_iconst 143 hX dX1_fewestUnlike_143 zki4 <|
      z_iadd 144 hX dX1_fewestUnlike_144 <|
      z_iald 145 hX dX1_fewestUnlike_145 (rfl : shp 114 = (20, 245)) h fun x102 _ h =>
      z_endI2 146 hE rfl h dX1_fewestUnlike_146
def f_X2_failHere  (w : zW) : Option zW :=
  if (w 120 5) < nI 0 then
    zlet (zupd w 120 5 (w 120 3)) fun w1 =>
    some w1
  else
    some w
theorem c_X2_failHere {G : zG} {l : Launch} (hG : zgood G) {w : zW} {we : zW}   (h : f_X2_failHere w = some we) : zMet G l yX2_failHere cX2_failHere 1 none 0 [.ref (zα G 120)] w none we := by
  refine zMet_of (L0 := [some (.ref (zα G 120))]) hG zplX2 (Nat.le_of_ble_eq_true rfl) rfl rfl (fun X hl hX hEI hEV hEA => ?_)
  subst hl
  have hX : zOk G X cX2_failHere 1 RX2 0 := hX
  have hE := hEV rfl rfl
  rw [f_X2_failHere] at h
  refine z_aload_n 0 hX dX2_failHere_0 rfl <|
    zgX2_40 1 hX dX2_failHere_1 (rfl : shp 120 = (2, 0)) <|
    z_if_ge 4 15 hX dX2_failHere_4 rfl h (fun q1 h => ?_) (fun q1 h => ?_)
  · refine z_endV 15 hE h dX2_failHere_15
  · refine z_aload_n 7 hX dX2_failHere_7 rfl <|
      z_aload_n 8 hX dX2_failHere_8 rfl <|
      zgX2_34 9 hX dX2_failHere_9 (rfl : shp 120 = (2, 0)) <|
      zpX2_40 12 hX dX2_failHere_12 (rfl : shp 120 = (2, 0)) <|
      z_w h fun w1 h =>
      z_endV 15 hE h dX2_failHere_15
def f_X2_emit (a1 : Int32) (w : zW) : Option zW :=
  if (w 120 4) < (nI 60) then
    zsto w 122 60 (w 120 4) a1 fun w1 =>
    zlet (zupd w1 120 4 ((w1 120 4) + (nI 1))) fun w2 =>
    some w2
  else
    some w
theorem c_X2_emit {G : zG} {l : Launch} (hG : zgood G) {w : zW} {we : zW} {a1 : Int32}  (h : f_X2_emit a1 w = some we) : zMet G l yX2_emit cX2_emit 2 none 0 [.ref (zα G 120), .int a1] w none we := by
  refine zMet_of (L0 := [some (.ref (zα G 120)), some (.int a1)]) hG zplX2 (Nat.le_of_ble_eq_true rfl) rfl rfl (fun X hl hX hEI hEV hEA => ?_)
  subst hl
  have hX : zOk G X cX2_emit 2 RX2 0 := hX
  have hE := hEV rfl rfl
  rw [f_X2_emit] at h
  refine z_aload_n 0 hX dX2_emit_0 rfl <|
    zgX2_37 1 hX dX2_emit_1 (rfl : shp 120 = (2, 0)) <|
    z_bipush 4 hX dX2_emit_4 zkb60 <|
    z_icmp_ge 6 29 hX dX2_emit_6 rfl h (fun q1 h => ?_) (fun q1 h => ?_)
  · refine z_endV 29 hE h dX2_emit_29
  · refine z_aload_n 9 hX dX2_emit_9 rfl <|
      zgX2_15 10 hX dX2_emit_10 (rfl : shp 120 = (2, 0)) <|
      z_aload_n 13 hX dX2_emit_13 rfl <|
      zgX2_37 14 hX dX2_emit_14 (rfl : shp 120 = (2, 0)) <|
      z_iload_n 17 hX dX2_emit_17 rfl <|
      z_iast 18 hX dX2_emit_18 (rfl : shp 122 = (20, 60)) h fun w1 h =>
      z_aload_n 19 hX dX2_emit_19 rfl <|
      z_dup 20 hX dX2_emit_20 rfl <|
      zgX2_37 21 hX dX2_emit_21 (rfl : shp 120 = (2, 0)) <|
      z_iconst 24 hX dX2_emit_24 zki1 <|
      z_iadd 25 hX dX2_emit_25 <|
      zpX2_37 26 hX dX2_emit_26 (rfl : shp 120 = (2, 0)) <|
      z_w h fun w2 h =>
      z_endV 29 hE h dX2_emit_29
def f_X2_next  (w : zW) : Option Int32 :=
  if (w 120 5) < nI 0 then
    if (w 120 3) < (w 120 2) then
      zld w 121 60 (w 120 3) fun x3 =>
      some x3
    else
      some (mI 1)
  else
    some (mI 1)
theorem c_X2_next {G : zG} {l : Launch} (hG : zgood G) {w : zW} {re : Int32}   (h : f_X2_next w = some re) : zMet G l yX2_next cX2_next 1 (some .int) 0 [.ref (zα G 120)] w (some (.int re)) w := by
  refine zMet_of (L0 := [some (.ref (zα G 120))]) hG zplX2 (Nat.le_of_ble_eq_true rfl) rfl rfl (fun X hl hX hEI hEV hEA => ?_)
  subst hl
  have hX : zOk G X cX2_next 1 RX2 0 := hX
  have hE := hEI _ _ rfl rfl
  rw [f_X2_next] at h
  refine z_aload_n 0 hX dX2_next_0 rfl <|
    zgX2_40 1 hX dX2_next_1 (rfl : shp 120 = (2, 0)) <|
    z_if_ge 4 30 hX dX2_next_4 rfl h (fun q1 h => ?_) (fun q1 h => ?_)
  · refine z_iconst 30 hX dX2_next_30 zkim1 <|
      z_endI 31 hE rfl h dX2_next_31
  · refine z_aload_n 7 hX dX2_next_7 rfl <|
      zgX2_34 8 hX dX2_next_8 (rfl : shp 120 = (2, 0)) <|
      z_aload_n 11 hX dX2_next_11 rfl <|
      zgX2_30 12 hX dX2_next_12 (rfl : shp 120 = (2, 0)) <|
      z_icmp_ge 15 30 hX dX2_next_15 rfl h (fun q2 h => ?_) (fun q2 h => ?_)
    · refine z_iconst 30 hX dX2_next_30 zkim1 <|
        z_endI 31 hE rfl h dX2_next_31
    · refine z_aload_n 18 hX dX2_next_18 rfl <|
        zgX2_9 19 hX dX2_next_19 (rfl : shp 120 = (2, 0)) <|
        z_aload_n 22 hX dX2_next_22 rfl <|
        zgX2_34 23 hX dX2_next_23 (rfl : shp 120 = (2, 0)) <|
        z_iald 26 hX dX2_next_26 (rfl : shp 121 = (20, 60)) h fun x3 _ h =>
        z_goto 27 31 hX dX2_next_27 rfl <|
        z_endI 31 hE rfl h dX2_next_31
def f_J0_isLatin1_aae02 (a0 : Int32)  : Option Int32 :=
  if (nI 1) = nI 0 then
    some (nI 0)
  else
  if (nI 0) = nI 0 then
    some (nI 1)
  else
    some (nI 0)
theorem c_J0_isLatin1_aae02 {G : zG} {l : Launch} (hG : zgood G) {w : zW} {re : Int32} {a0 : Int32}  (h : f_J0_isLatin1_aae02 a0 = some re) : zMet G l yJ0_isLatin1_aae02 cJ0_isLatin1_aae02 1 (some .boolean) 0 [.ref (zstr G a0)] w (some (.int re)) w := by
  refine zMet_of (L0 := [some (.ref (zstr G a0))]) hG zplJ0 (Nat.le_of_ble_eq_true rfl) rfl rfl (fun X hl hX hEI hEV hEA => ?_)
  subst hl
  have hX : zOk G X cJ0_isLatin1_aae02 1 RJ0 0 := hX
  have hE := hEI _ _ rfl rfl
  rw [f_J0_isLatin1_aae02] at h
  refine z_gets 0 hX dJ0_isLatin1_aae02_0 zSco (Or.inl zw655) <|
    z_if_eq 3 17 hX dJ0_isLatin1_aae02_3 rfl h (fun q1 h => ?_) (fun q1 h => ?_)
  · refine z_iconst 17 hX dJ0_isLatin1_aae02_17 zki0 <|
      z_endI 18 hE (znar_bool (by decide)) h dJ0_isLatin1_aae02_18
  · refine z_aload_n 6 hX dJ0_isLatin1_aae02_6 rfl <|
      z_getT 7 hX dJ0_isLatin1_aae02_7 (zSc _) zw1498 <|
      z_if_ne 10 17 hX dJ0_isLatin1_aae02_10 rfl h (fun q2 h => ?_) (fun q2 h => ?_)
    · refine z_iconst 17 hX dJ0_isLatin1_aae02_17 zki0 <|
        z_endI 18 hE (znar_bool (by decide)) h dJ0_isLatin1_aae02_18
    · refine z_iconst 13 hX dJ0_isLatin1_aae02_13 zki1 <|
        z_goto 14 18 hX dJ0_isLatin1_aae02_14 rfl <|
        z_endI 18 hE (znar_bool (by decide)) h dJ0_isLatin1_aae02_18
def f_J0_coder_7d493 (a0 : Int32)  : Option Int32 :=
  if (nI 1) = nI 0 then
    some (nI 1)
  else
    some (nI 0)
theorem c_J0_coder_7d493 {G : zG} {l : Launch} (hG : zgood G) {w : zW} {re : Int32} {a0 : Int32}  (h : f_J0_coder_7d493 a0 = some re) : zMet G l yJ0_coder_7d493 cJ0_coder_7d493 1 (some .byte) 0 [.ref (zstr G a0)] w (some (.int re)) w := by
  refine zMet_of (L0 := [some (.ref (zstr G a0))]) hG zplJ0 (Nat.le_of_ble_eq_true rfl) rfl rfl (fun X hl hX hEI hEV hEA => ?_)
  subst hl
  have hX : zOk G X cJ0_coder_7d493 1 RJ0 0 := hX
  have hE := hEI _ _ rfl rfl
  rw [f_J0_coder_7d493] at h
  refine z_gets 0 hX dJ0_coder_7d493_0 zSco (Or.inl zw655) <|
    z_if_eq 3 13 hX dJ0_coder_7d493_3 rfl h (fun q1 h => ?_) (fun q1 h => ?_)
  · refine z_iconst 13 hX dJ0_coder_7d493_13 zki1 <|
      z_endI 14 hE (by decide) h dJ0_coder_7d493_14
  · refine z_aload_n 6 hX dJ0_coder_7d493_6 rfl <|
      z_getT 7 hX dJ0_coder_7d493_7 (zSc _) zw1498 <|
      z_goto 10 14 hX dJ0_coder_7d493_10 rfl <|
      z_endI 14 hE (by decide) h dJ0_coder_7d493_14
def f_J0_length_8abf5 (a0 : Int32)  : Option Int32 :=
  zb (f_J0_coder_7d493 a0) fun x2 =>
  some ((nI (zslen a0)) >>> (x2 &&& 31))
theorem c_J0_length_8abf5 {G : zG} {l : Launch} (hG : zgood G) {w : zW} {re : Int32} {a0 : Int32}  (h : f_J0_length_8abf5 a0 = some re) : zMet G l yJ0_length_8abf5 cJ0_length_8abf5 1 (some .int) 1 [.ref (zstr G a0)] w (some (.int re)) w := by
  refine zMet_of (L0 := [some (.ref (zstr G a0))]) hG zplJ0 (Nat.le_of_ble_eq_true rfl) rfl rfl (fun X hl hX hEI hEV hEA => ?_)
  subst hl
  have hX : zOk G X cJ0_length_8abf5 1 RJ0 1 := hX
  have hE := hEI _ _ rfl rfl
  rw [f_J0_length_8abf5] at h
  refine z_aload_n 0 hX dJ0_length_8abf5_0 rfl <|
    z_getT 1 hX dJ0_length_8abf5_1 (zSv _) zw1499 <|
    z_blen (c := a0) 4 hX dJ0_length_8abf5_4 <|
    z_aload_n 5 hX dJ0_length_8abf5_5 rfl <|
    zb1 h fun x2 r1 h => zcJ0_335 6 [] [.int (nI (zslen a0))] hX dJ0_length_8abf5_6 (c_J0_coder_7d493 (zgd0 hX) r1) rfl rfl rfl (Nat.le_of_ble_eq_true rfl) (Nat.le_of_ble_eq_true rfl) <|
    z_ishr 9 hX dJ0_length_8abf5_9 <|
    z_endI 10 hE rfl h dJ0_length_8abf5_10
def f_J1_canEncode_9a6ad (a0 : Int32)  : Option Int32 :=
  if a0 < nI 0 then
    some (nI 0)
  else
  if (nI 255) < a0 then
    some (nI 0)
  else
    some (nI 1)
theorem c_J1_canEncode_9a6ad {G : zG} {l : Launch} (hG : zgood G) {w : zW} {re : Int32} {a0 : Int32}  (h : f_J1_canEncode_9a6ad a0 = some re) : zMet G l yJ1_canEncode_9a6ad cJ1_canEncode_9a6ad 1 (some .boolean) 0 [.int a0] w (some (.int re)) w := by
  refine zMet_of (L0 := [some (.int a0)]) hG zplJ1 (Nat.le_of_ble_eq_true rfl) rfl rfl (fun X hl hX hEI hEV hEA => ?_)
  subst hl
  have hX : zOk G X cJ1_canEncode_9a6ad 1 RJ1 0 := hX
  have hE := hEI _ _ rfl rfl
  rw [f_J1_canEncode_9a6ad] at h
  refine z_iload_n 0 hX dJ1_canEncode_9a6ad_0 rfl <|
    z_if_lt 1 15 hX dJ1_canEncode_9a6ad_1 rfl h (fun q1 h => ?_) (fun q1 h => ?_)
  · refine z_iconst 15 hX dJ1_canEncode_9a6ad_15 zki0 <|
      z_endI 16 hE (znar_bool (by decide)) h dJ1_canEncode_9a6ad_16
  · refine z_iload_n 4 hX dJ1_canEncode_9a6ad_4 rfl <|
      z_sipush 5 hX dJ1_canEncode_9a6ad_5 zks255 <|
      z_icmp_gt 8 15 hX dJ1_canEncode_9a6ad_8 rfl h (fun q2 h => ?_) (fun q2 h => ?_)
    · refine z_iconst 15 hX dJ1_canEncode_9a6ad_15 zki0 <|
        z_endI 16 hE (znar_bool (by decide)) h dJ1_canEncode_9a6ad_16
    · refine z_iconst 11 hX dJ1_canEncode_9a6ad_11 zki1 <|
        z_goto 12 16 hX dJ1_canEncode_9a6ad_12 rfl <|
        z_endI 16 hE (znar_bool (by decide)) h dJ1_canEncode_9a6ad_16
def l_J1_indexOfChar_4cfef_7 (K22 : Int32 → Option Int32) (K31 : Option Int32) : Nat → Int32 → Int32 → Int32 → Int32 → Option Int32
  | 0, _, _, _, _ => none
  | n + 1, a0, a3, a4, a5 =>
    if a5 < a3 then
      zbld a0 a5 fun x2 =>
      if x2 = a4 then
        K22 a5
      else
        zlet (a5 + nI 1) fun x4 =>
        (l_J1_indexOfChar_4cfef_7 K22 K31 n) a0 a3 a4 x4
    else
      K31
theorem l_J1_indexOfChar_4cfef_7z {K22 : Int32 → Option Int32} {K31 : Option Int32} {G : zG} {X : zX} {w : zW} {re : Int32} (hX : zOk G X cJ1_indexOfChar_4cfef 6 RJ1 0) (hE : zEI G X cJ1_indexOfChar_4cfef .int re w) (hK22 : ∀ (a5 : Int32) , K22 a5 = some re → zZ G X w 22 [none, none, none, none, none, some (.int a5)] []) (hK31 : K31 = some re → zZ G X w 31 [none, none, none, none, none, none] []) : ∀ (n : Nat) (a0 : Int32) (a3 : Int32) (a4 : Int32) (a5 : Int32) , l_J1_indexOfChar_4cfef_7 K22 K31 n a0 a3 a4 a5 = some re → zZ G X w 7 [some (.ref (zaV G (zsi a0))), none, none, some (.int a3), some (.int a4), some (.int a5)] [] := by
  intro n
  induction n with
  | zero =>
    intro a0 a3 a4 a5  h
    rw [l_J1_indexOfChar_4cfef_7.eq_1] at h
    cases h
  | succ n ih =>
    intro a0 a3 a4 a5  h
    rw [l_J1_indexOfChar_4cfef_7.eq_2] at h
    refine z_iload 7 hX dJ1_indexOfChar_4cfef_7 rfl <|
      z_iload_n 9 hX dJ1_indexOfChar_4cfef_9 rfl <|
      z_icmp_ge 10 31 hX dJ1_indexOfChar_4cfef_10 rfl h (fun q1 h => ?_) (fun q1 h => ?_)
    · refine z_weak (L' := [none, none, none, none, none, none]) (zsub_n (zsub_n (zsub_n (zsub_n (zsub_n (zsub_n zsub_0)))))) <|
        hK31 h
    · refine z_aload_n 13 hX dJ1_indexOfChar_4cfef_13 rfl <|
        z_iload 14 hX dJ1_indexOfChar_4cfef_14 rfl <|
        z_bald (c := a0) 16 hX dJ1_indexOfChar_4cfef_16 h fun x2 h =>
        z_iload 17 hX dJ1_indexOfChar_4cfef_17 rfl <|
        z_icmp_ne 19 25 hX dJ1_indexOfChar_4cfef_19 rfl h (fun q3 h => ?_) (fun q3 h => ?_)
      · refine z_iincG 25 (fun x4 => [some (.ref (zaV G (zsi a0))), none, none, some (.int a3), some (.int a4), some (.int x4)]) hX dJ1_indexOfChar_4cfef_25 rfl zki1 rfl (fun _ => rfl) h fun x4 h =>
          z_goto 28 7 hX dJ1_indexOfChar_4cfef_28 rfl <|
          ih _ _ _ _ h
      · refine z_weak (L' := [none, none, none, none, none, some (.int a5)]) (zsub_n (zsub_n (zsub_n (zsub_n (zsub_n (zsub_s zsub_0)))))) <|
          hK22 _ h
def f_J1_indexOfChar_4cfef (a0 : Int32) (a1 : Int32) (a2 : Int32) (a3 : Int32)  : Option Int32 :=
  zlet a1.toInt8.toInt32 fun x1 =>
  l_J1_indexOfChar_4cfef_7 (fun k22_a5 =>
    some k22_a5) (
    some (mI 1)) zfuel a0 a3 x1 a2
theorem c_J1_indexOfChar_4cfef {G : zG} {l : Launch} (hG : zgood G) {w : zW} {re : Int32} {a0 : Int32} {a1 : Int32} {a2 : Int32} {a3 : Int32}  (h : f_J1_indexOfChar_4cfef a0 a1 a2 a3 = some re) : zMet G l yJ1_indexOfChar_4cfef cJ1_indexOfChar_4cfef 6 (some .int) 0 [.ref (zaV G (zsi a0)), .int a1, .int a2, .int a3] w (some (.int re)) w := by
  refine zMet_of (L0 := [some (.ref (zaV G (zsi a0))), some (.int a1), some (.int a2), some (.int a3), none, none]) hG zplJ1 (Nat.le_of_ble_eq_true rfl) rfl rfl (fun X hl hX hEI hEV hEA => ?_)
  subst hl
  have hX : zOk G X cJ1_indexOfChar_4cfef 6 RJ1 0 := hX
  have hE := hEI _ _ rfl rfl
  rw [f_J1_indexOfChar_4cfef] at h
  refine z_iload_n 0 hX dJ1_indexOfChar_4cfef_0 rfl <|
    z_i2b 1 hX dJ1_indexOfChar_4cfef_1 <|
    z_top h fun x1 h =>
    z_istore 2 [some (.ref (zaV G (zsi a0))), some (.int a1), some (.int a2), some (.int a3), some (.int x1), none] hX dJ1_indexOfChar_4cfef_2 (Nat.le_of_ble_eq_true rfl) rfl rfl <|
    z_iload_n 4 hX dJ1_indexOfChar_4cfef_4 rfl <|
    z_istore 5 [some (.ref (zaV G (zsi a0))), some (.int a1), some (.int a2), some (.int a3), some (.int x1), some (.int a2)] hX dJ1_indexOfChar_4cfef_5 (Nat.le_of_ble_eq_true rfl) rfl rfl <|
    z_weak (L' := [some (.ref (zaV G (zsi a0))), none, none, some (.int a3), some (.int x1), some (.int a2)]) (zsub_s (zsub_n (zsub_n (zsub_s (zsub_s (zsub_s zsub_0)))))) <|
    l_J1_indexOfChar_4cfef_7z hX hE (fun k22_a5 h => ?_) (fun h => ?_) _ _ _ _ _ h
  · refine z_iload 22 hX dJ1_indexOfChar_4cfef_22 rfl <|
      z_endI 24 hE rfl h dJ1_indexOfChar_4cfef_24
  · refine z_iconst 31 hX dJ1_indexOfChar_4cfef_31 zkim1 <|
      z_endI 32 hE rfl h dJ1_indexOfChar_4cfef_32
def f_J1_indexOf_4cfef (a0 : Int32) (a1 : Int32) (a2 : Int32) (a3 : Int32)  : Option Int32 :=
  zb (f_J1_canEncode_9a6ad a1) fun x2 =>
  if x2 = nI 0 then
    some (mI 1)
  else
    zlet (if a2 < (nI 0) then (nI 0) else a2) fun x4 =>
    zlet (if (nI (zslen a0)) < a3 then (nI (zslen a0)) else a3) fun x5 =>
    if x4 < x5 then
      zb (f_J1_indexOfChar_4cfef a0 a1 x4 x5) fun x8 =>
      some x8
    else
      some (mI 1)
theorem c_J1_indexOf_4cfef {G : zG} {l : Launch} (hG : zgood G) {w : zW} {re : Int32} {a0 : Int32} {a1 : Int32} {a2 : Int32} {a3 : Int32}  (h : f_J1_indexOf_4cfef a0 a1 a2 a3 = some re) : zMet G l yJ1_indexOf_4cfef cJ1_indexOf_4cfef 4 (some .int) 1 [.ref (zaV G (zsi a0)), .int a1, .int a2, .int a3] w (some (.int re)) w := by
  refine zMet_of (L0 := [some (.ref (zaV G (zsi a0))), some (.int a1), some (.int a2), some (.int a3)]) hG zplJ1 (Nat.le_of_ble_eq_true rfl) rfl rfl (fun X hl hX hEI hEV hEA => ?_)
  subst hl
  have hX : zOk G X cJ1_indexOf_4cfef 4 RJ1 1 := hX
  have hE := hEI _ _ rfl rfl
  rw [f_J1_indexOf_4cfef] at h
  refine z_iload_n 0 hX dJ1_indexOf_4cfef_0 rfl <|
    zb1 h fun x2 r1 h => zcJ1_88 1 [.int a1] [] hX dJ1_indexOf_4cfef_1 (c_J1_canEncode_9a6ad (zgd0 hX) r1) rfl rfl rfl (Nat.le_of_ble_eq_true rfl) (Nat.le_of_ble_eq_true rfl) <|
    z_if_ne 4 9 hX dJ1_indexOf_4cfef_4 rfl h (fun q3 h => ?_) (fun q3 h => ?_)
  · refine z_iload_n 9 hX dJ1_indexOf_4cfef_9 rfl <|
      z_iconst 10 hX dJ1_indexOf_4cfef_10 zki0 <|
      z_mmax 11 hX dJ1_indexOf_4cfef_11 zw671 zw555 zw86 zw556 rfl (Nat.le_of_ble_eq_true rfl) (Nat.le_of_ble_eq_true rfl) <|
      z_top h fun x4 h =>
      z_istore_n 14 [some (.ref (zaV G (zsi a0))), some (.int a1), some (.int x4), some (.int a3)] hX dJ1_indexOf_4cfef_14 (Nat.le_of_ble_eq_true rfl) rfl rfl <|
      z_iload_n 15 hX dJ1_indexOf_4cfef_15 rfl <|
      z_aload_n 16 hX dJ1_indexOf_4cfef_16 rfl <|
      z_blen (c := a0) 17 hX dJ1_indexOf_4cfef_17 <|
      z_mmin 18 hX dJ1_indexOf_4cfef_18 zw672 zw538 zw86 zw539 rfl (Nat.le_of_ble_eq_true rfl) (Nat.le_of_ble_eq_true rfl) <|
      z_top h fun x5 h =>
      z_istore_n 21 [some (.ref (zaV G (zsi a0))), some (.int a1), some (.int x4), some (.int x5)] hX dJ1_indexOf_4cfef_21 (Nat.le_of_ble_eq_true rfl) rfl rfl <|
      z_iload_n 22 hX dJ1_indexOf_4cfef_22 rfl <|
      z_iload_n 23 hX dJ1_indexOf_4cfef_23 rfl <|
      z_icmp_lt 24 29 hX dJ1_indexOf_4cfef_24 rfl h (fun q6 h => ?_) (fun q6 h => ?_)
    · refine z_aload_n 29 hX dJ1_indexOf_4cfef_29 rfl <|
        z_iload_n 30 hX dJ1_indexOf_4cfef_30 rfl <|
        z_iload_n 31 hX dJ1_indexOf_4cfef_31 rfl <|
        z_iload_n 32 hX dJ1_indexOf_4cfef_32 rfl <|
        zb1 h fun x8 r7 h => zcJ1_95 33 [.ref (zaV G (zsi a0)), .int a1, .int x4, .int x5] [] hX dJ1_indexOf_4cfef_33 (c_J1_indexOfChar_4cfef (zgd0 hX) r7) rfl rfl rfl (Nat.le_of_ble_eq_true rfl) (Nat.le_of_ble_eq_true rfl) <|
        z_endI 36 hE rfl h dJ1_indexOf_4cfef_36
    · refine z_iconst 27 hX dJ1_indexOf_4cfef_27 zkim1 <|
        z_endI 28 hE rfl h dJ1_indexOf_4cfef_28
  · refine z_iconst 7 hX dJ1_indexOf_4cfef_7 zkim1 <|
      z_endI 8 hE rfl h dJ1_indexOf_4cfef_8
def f_J0_indexOf_7cf53 (a0 : Int32) (a1 : Int32) (a2 : Int32)  : Option Int32 :=
  zb (f_J0_isLatin1_aae02 a0) fun x2 =>
  if x2 = nI 0 then
    zb (f_J0_length_8abf5 a0) fun x5 =>
    none
  else
    zb (f_J0_length_8abf5 a0) fun x7 =>
    zb (f_J1_indexOf_4cfef a0 a1 a2 x7) fun x9 =>
    some x9
theorem c_J0_indexOf_7cf53 {G : zG} {l : Launch} (hG : zgood G) {w : zW} {re : Int32} {a0 : Int32} {a1 : Int32} {a2 : Int32}  (h : f_J0_indexOf_7cf53 a0 a1 a2 = some re) : zMet G l yJ0_indexOf_7cf53 cJ0_indexOf_7cf53 3 (some .int) 2 [.ref (zstr G a0), .int a1, .int a2] w (some (.int re)) w := by
  refine zMet_of (L0 := [some (.ref (zstr G a0)), some (.int a1), some (.int a2)]) hG zplJ0 (Nat.le_of_ble_eq_true rfl) rfl rfl (fun X hl hX hEI hEV hEA => ?_)
  subst hl
  have hX : zOk G X cJ0_indexOf_7cf53 3 RJ0 2 := hX
  have hE := hEI _ _ rfl rfl
  rw [f_J0_indexOf_7cf53] at h
  refine z_aload_n 0 hX dJ0_indexOf_7cf53_0 rfl <|
    zb1 h fun x2 r1 h => zcJ0_492 1 [] [] hX dJ0_indexOf_7cf53_1 (c_J0_isLatin1_aae02 (zgd0 hX) r1) rfl rfl rfl (Nat.le_of_ble_eq_true rfl) (Nat.le_of_ble_eq_true rfl) <|
    z_if_eq 4 23 hX dJ0_indexOf_7cf53_4 rfl h (fun q3 h => ?_) (fun q3 h => ?_)
  · refine z_aload_n 23 hX dJ0_indexOf_7cf53_23 rfl <|
      z_getT 24 hX dJ0_indexOf_7cf53_24 (zSv _) zw1499 <|
      z_iload_n 27 hX dJ0_indexOf_7cf53_27 rfl <|
      z_iload_n 28 hX dJ0_indexOf_7cf53_28 rfl <|
      z_aload_n 29 hX dJ0_indexOf_7cf53_29 rfl <|
      zb1 h fun x5 r4 h => zcJ0_505 30 [] [.int a2, .int a1, .ref (zaV G (zsi a0))] hX dJ0_indexOf_7cf53_30 (c_J0_length_8abf5 (zgd0 hX) r4) rfl rfl rfl (Nat.le_of_ble_eq_true rfl) (Nat.le_of_ble_eq_true rfl) <|
      ?_
    cases h
  · refine z_aload_n 7 hX dJ0_indexOf_7cf53_7 rfl <|
      z_getT 8 hX dJ0_indexOf_7cf53_8 (zSv _) zw1499 <|
      z_iload_n 11 hX dJ0_indexOf_7cf53_11 rfl <|
      z_iload_n 12 hX dJ0_indexOf_7cf53_12 rfl <|
      z_aload_n 13 hX dJ0_indexOf_7cf53_13 rfl <|
      zb1 h fun x7 r6 h => zcJ0_505 14 [] [.int a2, .int a1, .ref (zaV G (zsi a0))] hX dJ0_indexOf_7cf53_14 (c_J0_length_8abf5 (zgd0 hX) r6) rfl rfl rfl (Nat.le_of_ble_eq_true rfl) (Nat.le_of_ble_eq_true rfl) <|
      zb1 h fun x9 r8 h => zcJ0_637 17 [.ref (zaV G (zsi a0)), .int a1, .int a2, .int x7] [] hX dJ0_indexOf_7cf53_17 (c_J1_indexOf_4cfef (zgd0 hX) r8) rfl rfl rfl (Nat.le_of_ble_eq_true rfl) (Nat.le_of_ble_eq_true rfl) <|
      z_goto 20 36 hX dJ0_indexOf_7cf53_20 rfl <|
      z_endI 36 hE rfl h dJ0_indexOf_7cf53_36
def f_J0_indexOf_0f7a4 (a0 : Int32) (a1 : Int32)  : Option Int32 :=
  zb (f_J0_indexOf_7cf53 a0 a1 (nI 0)) fun x2 =>
  some x2
theorem c_J0_indexOf_0f7a4 {G : zG} {l : Launch} (hG : zgood G) {w : zW} {re : Int32} {a0 : Int32} {a1 : Int32}  (h : f_J0_indexOf_0f7a4 a0 a1 = some re) : zMet G l yJ0_indexOf_0f7a4 cJ0_indexOf_0f7a4 2 (some .int) 3 [.ref (zstr G a0), .int a1] w (some (.int re)) w := by
  refine zMet_of (L0 := [some (.ref (zstr G a0)), some (.int a1)]) hG zplJ0 (Nat.le_of_ble_eq_true rfl) rfl rfl (fun X hl hX hEI hEV hEA => ?_)
  subst hl
  have hX : zOk G X cJ0_indexOf_0f7a4 2 RJ0 3 := hX
  have hE := hEI _ _ rfl rfl
  rw [f_J0_indexOf_0f7a4] at h
  refine z_aload_n 0 hX dJ0_indexOf_0f7a4_0 rfl <|
    z_iload_n 1 hX dJ0_indexOf_0f7a4_1 rfl <|
    z_iconst 2 hX dJ0_indexOf_0f7a4_2 zki0 <|
    zb1 h fun x2 r1 h => zcJ0_633 3 [.int a1, .int (nI 0)] [] hX dJ0_indexOf_0f7a4_3 (c_J0_indexOf_7cf53 (zgd0 hX) r1) rfl rfl rfl (Nat.le_of_ble_eq_true rfl) (Nat.le_of_ble_eq_true rfl) <|
    z_endI 6 hE rfl h dJ0_indexOf_0f7a4_6
def f_X2_close  (w : zW) : Option zW :=
  zb (f_X2_next w) fun x2 =>
  if x2 = (nI 41) then
    zlet (zupd w 120 3 ((w 120 3) + (nI 1))) fun w2 =>
    some w2
  else
    zb (f_X2_failHere w) fun w1 =>
    some w1
theorem c_X2_close {G : zG} {l : Launch} (hG : zgood G) {w : zW} {we : zW}   (h : f_X2_close w = some we) : zMet G l yX2_close cX2_close 1 none 1 [.ref (zα G 120)] w none we := by
  refine zMet_of (L0 := [some (.ref (zα G 120))]) hG zplX2 (Nat.le_of_ble_eq_true rfl) rfl rfl (fun X hl hX hEI hEV hEA => ?_)
  subst hl
  have hX : zOk G X cX2_close 1 RX2 1 := hX
  have hE := hEV rfl rfl
  rw [f_X2_close] at h
  refine z_aload_n 0 hX dX2_close_0 rfl <|
    zb1 h fun x2 r1 h => zcX2_58 1 [] [] hX dX2_close_1 (c_X2_next (zgd0 hX) r1) (rfl : shp 120 = (2, 0)) rfl rfl rfl (Nat.le_of_ble_eq_true rfl) (Nat.le_of_ble_eq_true rfl) <|
    z_bipush 4 hX dX2_close_4 zkb41 <|
    z_icmp_ne 6 22 hX dX2_close_6 rfl h (fun q3 h => ?_) (fun q3 h => ?_)
  · refine z_aload_n 22 hX dX2_close_22 rfl <|
      zb1 h fun w1 r4 h => zcX2_47 23 [] [] hX dX2_close_23 (c_X2_failHere (zgd0 hX) r4) (rfl : shp 120 = (2, 0)) rfl rfl rfl (Nat.le_of_ble_eq_true rfl) (Nat.le_of_ble_eq_true rfl) <|
      z_endV 26 hE h dX2_close_26
  · refine z_aload_n 9 hX dX2_close_9 rfl <|
      z_dup 10 hX dX2_close_10 rfl <|
      zgX2_34 11 hX dX2_close_11 (rfl : shp 120 = (2, 0)) <|
      z_iconst 14 hX dX2_close_14 zki1 <|
      z_iadd 15 hX dX2_close_15 <|
      zpX2_34 16 hX dX2_close_16 (rfl : shp 120 = (2, 0)) <|
      z_w h fun w2 h =>
      z_goto 19 26 hX dX2_close_19 rfl <|
      z_endV 26 hE h dX2_close_26
def f_X2_isDigit (a0 : Int32)  : Option Int32 :=
  if a0 < (nI 48) then
    some (nI 0)
  else
  if (nI 57) < a0 then
    some (nI 0)
  else
    some (nI 1)
theorem c_X2_isDigit {G : zG} {l : Launch} (hG : zgood G) {w : zW} {re : Int32} {a0 : Int32}  (h : f_X2_isDigit a0 = some re) : zMet G l yX2_isDigit cX2_isDigit 1 (some .boolean) 0 [.int a0] w (some (.int re)) w := by
  refine zMet_of (L0 := [some (.int a0)]) hG zplX2 (Nat.le_of_ble_eq_true rfl) rfl rfl (fun X hl hX hEI hEV hEA => ?_)
  subst hl
  have hX : zOk G X cX2_isDigit 1 RX2 0 := hX
  have hE := hEI _ _ rfl rfl
  rw [f_X2_isDigit] at h
  refine z_iload_n 0 hX dX2_isDigit_0 rfl <|
    z_bipush 1 hX dX2_isDigit_1 zkb48 <|
    z_icmp_lt 3 16 hX dX2_isDigit_3 rfl h (fun q1 h => ?_) (fun q1 h => ?_)
  · refine z_iconst 16 hX dX2_isDigit_16 zki0 <|
      z_endI 17 hE (znar_bool (by decide)) h dX2_isDigit_17
  · refine z_iload_n 6 hX dX2_isDigit_6 rfl <|
      z_bipush 7 hX dX2_isDigit_7 zkb57 <|
      z_icmp_gt 9 16 hX dX2_isDigit_9 rfl h (fun q2 h => ?_) (fun q2 h => ?_)
    · refine z_iconst 16 hX dX2_isDigit_16 zki0 <|
        z_endI 17 hE (znar_bool (by decide)) h dX2_isDigit_17
    · refine z_iconst 12 hX dX2_isDigit_12 zki1 <|
        z_goto 13 17 hX dX2_isDigit_13 rfl <|
        z_endI 17 hE (znar_bool (by decide)) h dX2_isDigit_17
def l_X2_number_4 (K48 : Int32 → zW → Option zW) : Nat → Int32 → Int32 → zW → Option zW
  | 0, _, _, _ => none
  | n + 1, a1, a2, w =>
    if a2 < (nI 4) then
      zb (f_X2_next w) fun x3 =>
      zb (f_X2_isDigit x3) fun x5 =>
      if x5 = nI 0 then
        K48 a1 w
      else
        zb (f_X2_next w) fun x8 =>
        zlet (((a1 * (nI 10)) + x8) - (nI 48)) fun x9 =>
        zlet (zupd w 120 3 ((w 120 3) + (nI 1))) fun w1 =>
        zlet (a2 + nI 1) fun x10 =>
        (l_X2_number_4 K48 n) x9 x10 w1
    else
      K48 a1 w
theorem l_X2_number_4z {K48 : Int32 → zW → Option zW} {G : zG} {X : zX} {we : zW} (hX : zOk G X cX2_number 3 RX2 1) (hE : zEV G X cX2_number we) (hK48 : ∀ (a1 : Int32) (w3 : zW) , K48 a1 w3 = some we → zZ G X w3 48 [some (.ref (zα G 120)), some (.int a1), none] []) : ∀ (n : Nat) (a1 : Int32) (a2 : Int32) (w : zW) , l_X2_number_4 K48 n a1 a2 w = some we → zZ G X w 4 [some (.ref (zα G 120)), some (.int a1), some (.int a2)] [] := by
  intro n
  induction n with
  | zero =>
    intro a1 a2 w  h
    rw [l_X2_number_4.eq_1] at h
    cases h
  | succ n ih =>
    intro a1 a2 w  h
    rw [l_X2_number_4.eq_2] at h
    refine z_iload_n 4 hX dX2_number_4 rfl <|
      z_iconst 5 hX dX2_number_5 zki4 <|
      z_icmp_ge 6 48 hX dX2_number_6 rfl h (fun q1 h => ?_) (fun q1 h => ?_)
    · refine z_weak (L' := [some (.ref (zα G 120)), some (.int a1), none]) (zsub_s (zsub_s (zsub_n zsub_0))) <|
        hK48 _ _ h
    · refine z_aload_n 9 hX dX2_number_9 rfl <|
        zb1 h fun x3 r2 h => zcX2_58 10 [] [] hX dX2_number_10 (c_X2_next (zgd0 hX) r2) (rfl : shp 120 = (2, 0)) rfl rfl rfl (Nat.le_of_ble_eq_true rfl) (Nat.le_of_ble_eq_true rfl) <|
        zb1 h fun x5 r4 h => zcX2_69 13 [.int x3] [] hX dX2_number_13 (c_X2_isDigit (zgd0 hX) r4) rfl rfl rfl (Nat.le_of_ble_eq_true rfl) (Nat.le_of_ble_eq_true rfl) <|
        z_if_eq 16 48 hX dX2_number_16 rfl h (fun q6 h => ?_) (fun q6 h => ?_)
      · refine z_weak (L' := [some (.ref (zα G 120)), some (.int a1), none]) (zsub_s (zsub_s (zsub_n zsub_0))) <|
          hK48 _ _ h
      · refine z_iload_n 19 hX dX2_number_19 rfl <|
          z_bipush 20 hX dX2_number_20 zkb10 <|
          z_imul 22 hX dX2_number_22 <|
          z_aload_n 23 hX dX2_number_23 rfl <|
          zb1 h fun x8 r7 h => zcX2_58 24 [] [.int (a1 * (nI 10))] hX dX2_number_24 (c_X2_next (zgd0 hX) r7) (rfl : shp 120 = (2, 0)) rfl rfl rfl (Nat.le_of_ble_eq_true rfl) (Nat.le_of_ble_eq_true rfl) <|
          z_iadd 27 hX dX2_number_27 <|
          z_bipush 28 hX dX2_number_28 zkb48 <|
          z_isub 30 hX dX2_number_30 <|
          z_top h fun x9 h =>
          z_istore_n 31 [some (.ref (zα G 120)), some (.int x9), some (.int a2)] hX dX2_number_31 (Nat.le_of_ble_eq_true rfl) rfl rfl <|
          z_aload_n 32 hX dX2_number_32 rfl <|
          z_dup 33 hX dX2_number_33 rfl <|
          zgX2_34 34 hX dX2_number_34 (rfl : shp 120 = (2, 0)) <|
          z_iconst 37 hX dX2_number_37 zki1 <|
          z_iadd 38 hX dX2_number_38 <|
          zpX2_34 39 hX dX2_number_39 (rfl : shp 120 = (2, 0)) <|
          z_w h fun w1 h =>
          z_iincG 42 (fun x10 => [some (.ref (zα G 120)), some (.int x9), some (.int x10)]) hX dX2_number_42 rfl zki1 rfl (fun _ => rfl) h fun x10 h =>
          z_goto 45 4 hX dX2_number_45 rfl <|
          ih _ _ _ h
def j_X2_number_48 (a1 : Int32) (w : zW) : Option zW :=
  zb (f_X2_emit a1 w) fun w1 =>
  some w1
theorem j_X2_number_48z {G : zG} {X : zX} {w : zW} {we : zW} {a1 : Int32} (hX : zOk G X cX2_number 3 RX2 1) (hE : zEV G X cX2_number we)  (h : j_X2_number_48 a1 w = some we) : zZ G X w 48 [some (.ref (zα G 120)), some (.int a1), none] [] := by
  rw [j_X2_number_48] at h
  refine z_aload_n 48 hX dX2_number_48 rfl <|
    z_iload_n 49 hX dX2_number_49 rfl <|
    zb1 h fun w1 r1 h => zcX2_66 50 [.int a1] [] hX dX2_number_50 (c_X2_emit (zgd0 hX) r1) (rfl : shp 120 = (2, 0)) rfl rfl rfl (Nat.le_of_ble_eq_true rfl) (Nat.le_of_ble_eq_true rfl) <|
    z_endV 53 hE h dX2_number_53
def f_X2_number  (w : zW) : Option zW :=
  l_X2_number_4 (fun k48_a1 w11 =>
    j_X2_number_48 k48_a1 w11) zfuel (nI 0) (nI 0) w
theorem c_X2_number {G : zG} {l : Launch} (hG : zgood G) {w : zW} {we : zW}   (h : f_X2_number w = some we) : zMet G l yX2_number cX2_number 3 none 1 [.ref (zα G 120)] w none we := by
  refine zMet_of (L0 := [some (.ref (zα G 120)), none, none]) hG zplX2 (Nat.le_of_ble_eq_true rfl) rfl rfl (fun X hl hX hEI hEV hEA => ?_)
  subst hl
  have hX : zOk G X cX2_number 3 RX2 1 := hX
  have hE := hEV rfl rfl
  rw [f_X2_number] at h
  refine z_iconst 0 hX dX2_number_0 zki0 <|
    z_istore_n 1 [some (.ref (zα G 120)), some (.int (nI 0)), none] hX dX2_number_1 (Nat.le_of_ble_eq_true rfl) rfl rfl <|
    z_iconst 2 hX dX2_number_2 zki0 <|
    z_istore_n 3 [some (.ref (zα G 120)), some (.int (nI 0)), some (.int (nI 0))] hX dX2_number_3 (Nat.le_of_ble_eq_true rfl) rfl rfl <|
    l_X2_number_4z hX hE (fun k48_a1 w11 h => ?_) _ _ _ _ h
  · refine j_X2_number_48z hX hE h
def f_X2_rankOf (a0 : Int32)  : Option Int32 :=
  if a0 = nI 37 then
    some (nI 4)
  else
  if a0 = nI 38 then
    some (nI 1)
  else
  if a0 = nI 42 then
    some (nI 4)
  else
  if a0 = nI 43 then
    some (nI 3)
  else
  if a0 = nI 45 then
    some (nI 3)
  else
  if a0 = nI 47 then
    some (nI 4)
  else
  if a0 = nI 60 then
    some (nI 2)
  else
  if a0 = nI 61 then
    some (nI 2)
  else
  if a0 = nI 62 then
    some (nI 2)
  else
  if a0 = nI 124 then
    some (nI 0)
  else
    some (mI 1)
theorem c_X2_rankOf {G : zG} {l : Launch} (hG : zgood G) {w : zW} {re : Int32} {a0 : Int32}  (h : f_X2_rankOf a0 = some re) : zMet G l yX2_rankOf cX2_rankOf 1 (some .int) 0 [.int a0] w (some (.int re)) w := by
  refine zMet_of (L0 := [some (.int a0)]) hG zplX2 (Nat.le_of_ble_eq_true rfl) rfl rfl (fun X hl hX hEI hEV hEA => ?_)
  subst hl
  have hX : zOk G X cX2_rankOf 1 RX2 0 := hX
  have hE := hEI _ _ rfl rfl
  rw [f_X2_rankOf] at h
  refine z_iload_n 0 hX dX2_rankOf_0 rfl <|
    ?_
  rcases zif h with ⟨q1, h⟩ | ⟨q1, h⟩
  · refine z_lsw (off := 99) 1 100 hX dX2_rankOf_1 (by decide) (by rw [zti 37 (by decide) q1]; decide) rfl <|
      z_iconst 100 hX dX2_rankOf_100 zki4 <|
      z_endI 101 hE rfl h dX2_rankOf_101
  rcases zif h with ⟨q2, h⟩ | ⟨q2, h⟩
  · refine z_lsw (off := 93) 1 94 hX dX2_rankOf_1 (by decide) (by rw [zti 38 (by decide) q2]; decide) rfl <|
      z_iconst 94 hX dX2_rankOf_94 zki1 <|
      z_endI 95 hE rfl h dX2_rankOf_95
  rcases zif h with ⟨q3, h⟩ | ⟨q3, h⟩
  · refine z_lsw (off := 99) 1 100 hX dX2_rankOf_1 (by decide) (by rw [zti 42 (by decide) q3]; decide) rfl <|
      z_iconst 100 hX dX2_rankOf_100 zki4 <|
      z_endI 101 hE rfl h dX2_rankOf_101
  rcases zif h with ⟨q4, h⟩ | ⟨q4, h⟩
  · refine z_lsw (off := 97) 1 98 hX dX2_rankOf_1 (by decide) (by rw [zti 43 (by decide) q4]; decide) rfl <|
      z_iconst 98 hX dX2_rankOf_98 zki3 <|
      z_endI 99 hE rfl h dX2_rankOf_99
  rcases zif h with ⟨q5, h⟩ | ⟨q5, h⟩
  · refine z_lsw (off := 97) 1 98 hX dX2_rankOf_1 (by decide) (by rw [zti 45 (by decide) q5]; decide) rfl <|
      z_iconst 98 hX dX2_rankOf_98 zki3 <|
      z_endI 99 hE rfl h dX2_rankOf_99
  rcases zif h with ⟨q6, h⟩ | ⟨q6, h⟩
  · refine z_lsw (off := 99) 1 100 hX dX2_rankOf_1 (by decide) (by rw [zti 47 (by decide) q6]; decide) rfl <|
      z_iconst 100 hX dX2_rankOf_100 zki4 <|
      z_endI 101 hE rfl h dX2_rankOf_101
  rcases zif h with ⟨q7, h⟩ | ⟨q7, h⟩
  · refine z_lsw (off := 95) 1 96 hX dX2_rankOf_1 (by decide) (by rw [zti 60 (by decide) q7]; decide) rfl <|
      z_iconst 96 hX dX2_rankOf_96 zki2 <|
      z_endI 97 hE rfl h dX2_rankOf_97
  rcases zif h with ⟨q8, h⟩ | ⟨q8, h⟩
  · refine z_lsw (off := 95) 1 96 hX dX2_rankOf_1 (by decide) (by rw [zti 61 (by decide) q8]; decide) rfl <|
      z_iconst 96 hX dX2_rankOf_96 zki2 <|
      z_endI 97 hE rfl h dX2_rankOf_97
  rcases zif h with ⟨q9, h⟩ | ⟨q9, h⟩
  · refine z_lsw (off := 95) 1 96 hX dX2_rankOf_1 (by decide) (by rw [zti 62 (by decide) q9]; decide) rfl <|
      z_iconst 96 hX dX2_rankOf_96 zki2 <|
      z_endI 97 hE rfl h dX2_rankOf_97
  rcases zif h with ⟨q10, h⟩ | ⟨q10, h⟩
  · refine z_lsw (off := 91) 1 92 hX dX2_rankOf_1 (by decide) (by rw [zti 124 (by decide) q10]; decide) rfl <|
      z_iconst 92 hX dX2_rankOf_92 zki0 <|
      z_endI 93 hE rfl h dX2_rankOf_93
  refine z_lsw (off := 101) 1 102 hX dX2_rankOf_1 (by decide) (Eq.trans (lv_osw q1 (by decide)) <| Eq.trans (lv_osw q2 (by decide)) <| Eq.trans (lv_osw q3 (by decide)) <| Eq.trans (lv_osw q4 (by decide)) <| Eq.trans (lv_osw q5 (by decide)) <| Eq.trans (lv_osw q6 (by decide)) <| Eq.trans (lv_osw q7 (by decide)) <| Eq.trans (lv_osw q8 (by decide)) <| Eq.trans (lv_osw q9 (by decide)) <| Eq.trans (lv_osw q10 (by decide)) rfl) rfl <|
    z_iconst 102 hX dX2_rankOf_102 zkim1 <|
    z_endI 103 hE rfl h dX2_rankOf_103
abbrev zrec_X2_level (G : zG) (l : Launch) (F : Nat → Int32 → Int32 → zW → Option zW) (hd : Nat) : Prop :=
  (∀ {w we : zW} {a1 a2 : Int32}, F 0 a1 a2 w = some we → zMet G l yX2_level cX2_level 6 none hd [.ref (zα G 120), .int a1, .int a2] w none we) ∧
  (∀ {w we : zW} {a1 : Int32}, F 1 a1 (nI 0) w = some we → zMet G l yX2_operand cX2_operand 3 none hd [.ref (zα G 120), .int a1] w none we)
def l_X2_level_34 (F : Nat → Int32 → Int32 → zW → Option zW) (K88 : zW → Option zW) : Nat → Int32 → Int32 → Int32 → Int32 → zW → Option zW
  | 0, _, _, _, _, _ => none
  | n + 1, a1, a2, a3, a4, w =>
    if a4 < a3 then
      zb (f_X2_next w) fun x3 =>
      zb (f_X2_rankOf x3) fun x5 =>
      if x5 = a1 then
        zb (f_X2_next w) fun x8 =>
        zlet (zupd w 120 3 ((w 120 3) + (nI 1))) fun w1 =>
        zb (F 0 (a1 + (nI 1)) a2 w1) fun w2 =>
        zb (f_X2_emit (-x8) w2) fun w3 =>
        zlet (a4 + nI 1) fun x11 =>
        (l_X2_level_34 F K88 n) a1 a2 a3 x11 w3
      else
        K88 w
    else
      K88 w
theorem l_X2_level_34z {F : Nat → Int32 → Int32 → zW → Option zW} {K88 : zW → Option zW} {G : zG} {X : zX} {we : zW} (hd : Nat) (hb : 4 ≤ hd) (hF : zrec_X2_level G X.2.1 F hd) (hX : zOk G X cX2_level 6 RX2 (hd + 1)) (hE : zEV G X cX2_level we) (hK88 : ∀ (w3 : zW) , K88 w3 = some we → zZ G X w3 88 [none, none, none, none, none, none] []) : ∀ (n : Nat) (a1 : Int32) (a2 : Int32) (a3 : Int32) (a4 : Int32) (w : zW) , l_X2_level_34 F K88 n a1 a2 a3 a4 w = some we → zZ G X w 34 [some (.ref (zα G 120)), some (.int a1), some (.int a2), some (.int a3), some (.int a4), none] [] := by
  intro n
  induction n with
  | zero =>
    intro a1 a2 a3 a4 w  h
    rw [l_X2_level_34.eq_1] at h
    cases h
  | succ n ih =>
    intro a1 a2 a3 a4 w  h
    rw [l_X2_level_34.eq_2] at h
    refine z_iload 34 hX dX2_level_34 rfl <|
      z_iload_n 36 hX dX2_level_36 rfl <|
      z_icmp_ge 37 88 hX dX2_level_37 rfl h (fun q1 h => ?_) (fun q1 h => ?_)
    · refine z_weak (L' := [none, none, none, none, none, none]) (zsub_n (zsub_n (zsub_n (zsub_n (zsub_n (zsub_n zsub_0)))))) <|
        hK88 _ h
    · refine z_aload_n 40 hX dX2_level_40 rfl <|
        zb1 h fun x3 r2 h => zcX2_58 41 [] [] hX dX2_level_41 (c_X2_next (zgd0 hX) r2) (rfl : shp 120 = (2, 0)) rfl rfl rfl (Nat.le_of_ble_eq_true rfl) (by omega) <|
        zb1 h fun x5 r4 h => zcX2_62 44 [.int x3] [] hX dX2_level_44 (c_X2_rankOf (zgd0 hX) r4) rfl rfl rfl (Nat.le_of_ble_eq_true rfl) (by omega) <|
        z_iload_n 47 hX dX2_level_47 rfl <|
        z_icmp_ne 48 88 hX dX2_level_48 rfl h (fun q6 h => ?_) (fun q6 h => ?_)
      · refine z_weak (L' := [none, none, none, none, none, none]) (zsub_n (zsub_n (zsub_n (zsub_n (zsub_n (zsub_n zsub_0)))))) <|
          hK88 _ h
      · refine z_aload_n 51 hX dX2_level_51 rfl <|
          zb1 h fun x8 r7 h => zcX2_58 52 [] [] hX dX2_level_52 (c_X2_next (zgd0 hX) r7) (rfl : shp 120 = (2, 0)) rfl rfl rfl (Nat.le_of_ble_eq_true rfl) (by omega) <|
          z_istore 55 [some (.ref (zα G 120)), some (.int a1), some (.int a2), some (.int a3), some (.int a4), some (.int x8)] hX dX2_level_55 (Nat.le_of_ble_eq_true rfl) rfl rfl <|
          z_aload_n 57 hX dX2_level_57 rfl <|
          z_dup 58 hX dX2_level_58 rfl <|
          zgX2_34 59 hX dX2_level_59 (rfl : shp 120 = (2, 0)) <|
          z_iconst 62 hX dX2_level_62 zki1 <|
          z_iadd 63 hX dX2_level_63 <|
          zpX2_34 64 hX dX2_level_64 (rfl : shp 120 = (2, 0)) <|
          z_w h fun w1 h =>
          z_aload_n 67 hX dX2_level_67 rfl <|
          z_iload_n 68 hX dX2_level_68 rfl <|
          z_iconst 69 hX dX2_level_69 zki1 <|
          z_iadd 70 hX dX2_level_70 <|
          z_iload_n 71 hX dX2_level_71 rfl <|
          zb1 h fun w2 r9 h => zcX2_43 72 [.int (a1 + (nI 1)), .int a2] [] hX dX2_level_72 (hF.1 r9) (rfl : shp 120 = (2, 0)) rfl rfl rfl (Nat.le_of_ble_eq_true rfl) (by omega) <|
          z_aload_n 75 hX dX2_level_75 rfl <|
          z_iload 76 hX dX2_level_76 rfl <|
          z_ineg 78 hX dX2_level_78 <|
          zb1 h fun w3 r10 h => zcX2_66 79 [.int (-x8)] [] hX dX2_level_79 (c_X2_emit (zgd0 hX) r10) (rfl : shp 120 = (2, 0)) rfl rfl rfl (Nat.le_of_ble_eq_true rfl) (by omega) <|
          z_iincG 82 (fun x11 => [some (.ref (zα G 120)), some (.int a1), some (.int a2), some (.int a3), some (.int x11), some (.int x8)]) hX dX2_level_82 rfl zki1 rfl (fun _ => rfl) h fun x11 h =>
          z_goto 85 34 hX dX2_level_85 rfl <|
          z_weak (L' := [some (.ref (zα G 120)), some (.int a1), some (.int a2), some (.int a3), some (.int x11), none]) (zsub_s (zsub_s (zsub_s (zsub_s (zsub_s (zsub_n zsub_0)))))) <|
          ih _ _ _ _ _ h
def j_X2_level_30 (F : Nat → Int32 → Int32 → zW → Option zW) (a1 : Int32) (a2 : Int32) (b0 : Int32) (w : zW) : Option zW :=
  l_X2_level_34 F (fun w11 =>
    some w11) zfuel a1 a2 b0 (nI 0) w
theorem j_X2_level_30z {F : Nat → Int32 → Int32 → zW → Option zW} {G : zG} {X : zX} {w : zW} {we : zW} {a1 : Int32} {a2 : Int32} {b0 : Int32} (hd : Nat) (hb : 4 ≤ hd) (hF : zrec_X2_level G X.2.1 F hd) (hX : zOk G X cX2_level 6 RX2 (hd + 1)) (hE : zEV G X cX2_level we)  (h : j_X2_level_30 F a1 a2 b0 w = some we) : zZ G X w 30 [some (.ref (zα G 120)), some (.int a1), some (.int a2), none, none, none] [.int b0] := by
  rw [j_X2_level_30] at h
  refine z_istore_n 30 [some (.ref (zα G 120)), some (.int a1), some (.int a2), some (.int b0), none, none] hX dX2_level_30 (Nat.le_of_ble_eq_true rfl) rfl rfl <|
    z_iconst 31 hX dX2_level_31 zki0 <|
    z_istore 32 [some (.ref (zα G 120)), some (.int a1), some (.int a2), some (.int b0), some (.int (nI 0)), none] hX dX2_level_32 (Nat.le_of_ble_eq_true rfl) rfl rfl <|
    l_X2_level_34z hd hb hF hX hE (fun w11 h => ?_) _ _ _ _ _ _ h
  · refine z_endV 88 hE h dX2_level_88
def b_X2_level (F : Nat → Int32 → Int32 → zW → Option zW) (a1 : Int32) (a2 : Int32) (w : zW) : Option zW :=
  if a1 < (nI 5) then
    zb (F 0 (a1 + (nI 1)) a2 w) fun w1 =>
    if a1 = (nI 2) then
      j_X2_level_30 F a1 a2 (nI 1) w1
    else
      j_X2_level_30 F a1 a2 (nI 60) w1
  else
    zb (F 1 a2 (nI 0) w) fun w2 =>
    some w2
theorem cb_X2_level {F : Nat → Int32 → Int32 → zW → Option zW} {G : zG} {l : Launch} (hG : zgood G) {w : zW} {we : zW} {a1 : Int32} {a2 : Int32} (hd : Nat) (hb : 4 ≤ hd) (hF : zrec_X2_level G l F hd)  (h : b_X2_level F a1 a2 w = some we) : zMet G l yX2_level cX2_level 6 none (hd + 1) [.ref (zα G 120), .int a1, .int a2] w none we := by
  refine zMet_of (L0 := [some (.ref (zα G 120)), some (.int a1), some (.int a2), none, none, none]) hG zplX2 (Nat.le_of_ble_eq_true rfl) rfl rfl (fun X hl hX hEI hEV hEA => ?_)
  subst hl
  have hX : zOk G X cX2_level 6 RX2 (hd + 1) := hX
  have hE := hEV rfl rfl
  rw [b_X2_level] at h
  refine z_iload_n 0 hX dX2_level_0 rfl <|
    z_iconst 1 hX dX2_level_1 zki5 <|
    z_icmp_lt 2 11 hX dX2_level_2 rfl h (fun q1 h => ?_) (fun q1 h => ?_)
  · refine z_aload_n 11 hX dX2_level_11 rfl <|
      z_iload_n 12 hX dX2_level_12 rfl <|
      z_iconst 13 hX dX2_level_13 zki1 <|
      z_iadd 14 hX dX2_level_14 <|
      z_iload_n 15 hX dX2_level_15 rfl <|
      zb1 h fun w1 r2 h => zcX2_43 16 [.int (a1 + (nI 1)), .int a2] [] hX dX2_level_16 (hF.1 r2) (rfl : shp 120 = (2, 0)) rfl rfl rfl (Nat.le_of_ble_eq_true rfl) (by omega) <|
      z_iload_n 19 hX dX2_level_19 rfl <|
      z_iconst 20 hX dX2_level_20 zki2 <|
      z_icmp_ne 21 28 hX dX2_level_21 rfl h (fun q3 h => ?_) (fun q3 h => ?_)
    · refine z_bipush 28 hX dX2_level_28 zkb60 <|
        j_X2_level_30z hd hb hF hX hE h
    · refine z_iconst 24 hX dX2_level_24 zki1 <|
        z_goto 25 30 hX dX2_level_25 rfl <|
        j_X2_level_30z hd hb hF hX hE h
  · refine z_aload_n 5 hX dX2_level_5 rfl <|
      z_iload_n 6 hX dX2_level_6 rfl <|
      zb1 h fun w2 r4 h => zcX2_54 7 [.int a2] [] hX dX2_level_7 (hF.2 r4) (rfl : shp 120 = (2, 0)) rfl rfl rfl (Nat.le_of_ble_eq_true rfl) (by omega) <|
      z_endV 10 hE h dX2_level_10
def j_X2_operand_136 (F : Nat → Int32 → Int32 → zW → Option zW)  (w : zW) : Option zW :=
  zb (f_X2_failHere w) fun w1 =>
  some w1
theorem j_X2_operand_136z {F : Nat → Int32 → Int32 → zW → Option zW} {G : zG} {X : zX} {w : zW} {we : zW}  (hd : Nat) (hb : 4 ≤ hd) (hF : zrec_X2_level G X.2.1 F hd) (hX : zOk G X cX2_operand 3 RX2 (hd + 1)) (hE : zEV G X cX2_operand we)  (h : j_X2_operand_136 F w = some we) : zZ G X w 136 [some (.ref (zα G 120)), none, none] [] := by
  rw [j_X2_operand_136] at h
  refine z_aload_n 136 hX dX2_operand_136 rfl <|
    zb1 h fun w1 r1 h => zcX2_47 137 [] [] hX dX2_operand_137 (c_X2_failHere (zgd0 hX) r1) (rfl : shp 120 = (2, 0)) rfl rfl rfl (Nat.le_of_ble_eq_true rfl) (by omega) <|
    z_endV 140 hE h dX2_operand_140
def j_X2_operand_100 (F : Nat → Int32 → Int32 → zW → Option zW) (a1 : Int32) (a2 : Int32) (w : zW) : Option zW :=
  if a2 = (nI 40) then
    if a1 < (nI 5) then
      zlet (zupd w 120 3 ((w 120 3) + (nI 1))) fun w1 =>
      zb (F 0 (nI 0) (a1 + (nI 1)) w1) fun w2 =>
      zb (f_X2_close w2) fun w3 =>
      some w3
    else
      j_X2_operand_136 F w
  else
    j_X2_operand_136 F w
theorem j_X2_operand_100z {F : Nat → Int32 → Int32 → zW → Option zW} {G : zG} {X : zX} {w : zW} {we : zW} {a1 : Int32} {a2 : Int32} (hd : Nat) (hb : 4 ≤ hd) (hF : zrec_X2_level G X.2.1 F hd) (hX : zOk G X cX2_operand 3 RX2 (hd + 1)) (hE : zEV G X cX2_operand we)  (h : j_X2_operand_100 F a1 a2 w = some we) : zZ G X w 100 [some (.ref (zα G 120)), some (.int a1), some (.int a2)] [] := by
  rw [j_X2_operand_100] at h
  refine z_iload_n 100 hX dX2_operand_100 rfl <|
    z_bipush 101 hX dX2_operand_101 zkb40 <|
    z_icmp_ne 103 136 hX dX2_operand_103 rfl h (fun q1 h => ?_) (fun q1 h => ?_)
  · refine z_weak (L' := [some (.ref (zα G 120)), none, none]) (zsub_s (zsub_n (zsub_n zsub_0))) <|
      j_X2_operand_136z hd hb hF hX hE h
  · refine z_iload_n 106 hX dX2_operand_106 rfl <|
      z_iconst 107 hX dX2_operand_107 zki5 <|
      z_icmp_ge 108 136 hX dX2_operand_108 rfl h (fun q2 h => ?_) (fun q2 h => ?_)
    · refine z_weak (L' := [some (.ref (zα G 120)), none, none]) (zsub_s (zsub_n (zsub_n zsub_0))) <|
        j_X2_operand_136z hd hb hF hX hE h
    · refine z_aload_n 111 hX dX2_operand_111 rfl <|
        z_dup 112 hX dX2_operand_112 rfl <|
        zgX2_34 113 hX dX2_operand_113 (rfl : shp 120 = (2, 0)) <|
        z_iconst 116 hX dX2_operand_116 zki1 <|
        z_iadd 117 hX dX2_operand_117 <|
        zpX2_34 118 hX dX2_operand_118 (rfl : shp 120 = (2, 0)) <|
        z_w h fun w1 h =>
        z_aload_n 121 hX dX2_operand_121 rfl <|
        z_iconst 122 hX dX2_operand_122 zki0 <|
        z_iload_n 123 hX dX2_operand_123 rfl <|
        z_iconst 124 hX dX2_operand_124 zki1 <|
        z_iadd 125 hX dX2_operand_125 <|
        zb1 h fun w2 r3 h => zcX2_43 126 [.int (nI 0), .int (a1 + (nI 1))] [] hX dX2_operand_126 (hF.1 r3) (rfl : shp 120 = (2, 0)) rfl rfl rfl (Nat.le_of_ble_eq_true rfl) (by omega) <|
        z_aload_n 129 hX dX2_operand_129 rfl <|
        zb1 h fun w3 r4 h => zcX2_81 130 [] [] hX dX2_operand_130 (c_X2_close (zgd0 hX) r4) (rfl : shp 120 = (2, 0)) rfl rfl rfl (Nat.le_of_ble_eq_true rfl) (by omega) <|
        z_goto 133 140 hX dX2_operand_133 rfl <|
        z_endV 140 hE h dX2_operand_140
def j_X2_operand_63 (F : Nat → Int32 → Int32 → zW → Option zW) (a1 : Int32) (a2 : Int32) (w : zW) : Option zW :=
  if a2 = (nI 33) then
    if a1 < (nI 5) then
      zlet (zupd w 120 3 ((w 120 3) + (nI 1))) fun w1 =>
      zb (F 1 (a1 + (nI 1)) (nI 0) w1) fun w2 =>
      zb (f_X2_emit (mI 33) w2) fun w3 =>
      some w3
    else
      j_X2_operand_100 F a1 a2 w
  else
    j_X2_operand_100 F a1 a2 w
theorem j_X2_operand_63z {F : Nat → Int32 → Int32 → zW → Option zW} {G : zG} {X : zX} {w : zW} {we : zW} {a1 : Int32} {a2 : Int32} (hd : Nat) (hb : 4 ≤ hd) (hF : zrec_X2_level G X.2.1 F hd) (hX : zOk G X cX2_operand 3 RX2 (hd + 1)) (hE : zEV G X cX2_operand we)  (h : j_X2_operand_63 F a1 a2 w = some we) : zZ G X w 63 [some (.ref (zα G 120)), some (.int a1), some (.int a2)] [] := by
  rw [j_X2_operand_63] at h
  refine z_iload_n 63 hX dX2_operand_63 rfl <|
    z_bipush 64 hX dX2_operand_64 zkb33 <|
    z_icmp_ne 66 100 hX dX2_operand_66 rfl h (fun q1 h => ?_) (fun q1 h => ?_)
  · refine j_X2_operand_100z hd hb hF hX hE h
  · refine z_iload_n 69 hX dX2_operand_69 rfl <|
      z_iconst 70 hX dX2_operand_70 zki5 <|
      z_icmp_ge 71 100 hX dX2_operand_71 rfl h (fun q2 h => ?_) (fun q2 h => ?_)
    · refine j_X2_operand_100z hd hb hF hX hE h
    · refine z_aload_n 74 hX dX2_operand_74 rfl <|
        z_dup 75 hX dX2_operand_75 rfl <|
        zgX2_34 76 hX dX2_operand_76 (rfl : shp 120 = (2, 0)) <|
        z_iconst 79 hX dX2_operand_79 zki1 <|
        z_iadd 80 hX dX2_operand_80 <|
        zpX2_34 81 hX dX2_operand_81 (rfl : shp 120 = (2, 0)) <|
        z_w h fun w1 h =>
        z_aload_n 84 hX dX2_operand_84 rfl <|
        z_iload_n 85 hX dX2_operand_85 rfl <|
        z_iconst 86 hX dX2_operand_86 zki1 <|
        z_iadd 87 hX dX2_operand_87 <|
        zb1 h fun w2 r3 h => zcX2_54 88 [.int (a1 + (nI 1))] [] hX dX2_operand_88 (hF.2 r3) (rfl : shp 120 = (2, 0)) rfl rfl rfl (Nat.le_of_ble_eq_true rfl) (by omega) <|
        z_aload_n 91 hX dX2_operand_91 rfl <|
        z_bipush 92 hX dX2_operand_92 zkbm33 <|
        zb1 h fun w3 r4 h => zcX2_66 94 [.int (mI 33)] [] hX dX2_operand_94 (c_X2_emit (zgd0 hX) r4) (rfl : shp 120 = (2, 0)) rfl rfl rfl (Nat.le_of_ble_eq_true rfl) (by omega) <|
        z_goto 97 140 hX dX2_operand_97 rfl <|
        z_endV 140 hE h dX2_operand_140
def b_X2_operand (F : Nat → Int32 → Int32 → zW → Option zW) (a1 : Int32) (w : zW) : Option zW :=
  zb (f_X2_next w) fun x2 =>
  zb (f_X2_isDigit x2) fun x4 =>
  if x4 = nI 0 then
    if x2 < nI 0 then
      j_X2_operand_63 F a1 x2 w
    else
      zb (f_J0_indexOf_0f7a4 (w 120 6) ((x2.toUInt32 % 65536).toInt32)) fun x8 =>
      if x8 < nI 0 then
        j_X2_operand_63 F a1 x2 w
      else
        zlet (zupd w 120 3 ((w 120 3) + (nI 1))) fun w1 =>
        zb (f_J0_indexOf_0f7a4 (w1 120 6) ((x2.toUInt32 % 65536).toInt32)) fun x11 =>
        zb (f_X2_emit ((mI 1) - x11) w1) fun w2 =>
        some w2
  else
    zb (f_X2_number w) fun w3 =>
    some w3
theorem cb_X2_operand {F : Nat → Int32 → Int32 → zW → Option zW} {G : zG} {l : Launch} (hG : zgood G) {w : zW} {we : zW} {a1 : Int32} (hd : Nat) (hb : 4 ≤ hd) (hF : zrec_X2_level G l F hd)  (h : b_X2_operand F a1 w = some we) : zMet G l yX2_operand cX2_operand 3 none (hd + 1) [.ref (zα G 120), .int a1] w none we := by
  refine zMet_of (L0 := [some (.ref (zα G 120)), some (.int a1), none]) hG zplX2 (Nat.le_of_ble_eq_true rfl) rfl rfl (fun X hl hX hEI hEV hEA => ?_)
  subst hl
  have hX : zOk G X cX2_operand 3 RX2 (hd + 1) := hX
  have hE := hEV rfl rfl
  rw [b_X2_operand] at h
  refine z_aload_n 0 hX dX2_operand_0 rfl <|
    zb1 h fun x2 r1 h => zcX2_58 1 [] [] hX dX2_operand_1 (c_X2_next (zgd0 hX) r1) (rfl : shp 120 = (2, 0)) rfl rfl rfl (Nat.le_of_ble_eq_true rfl) (by omega) <|
    z_istore_n 4 [some (.ref (zα G 120)), some (.int a1), some (.int x2)] hX dX2_operand_4 (Nat.le_of_ble_eq_true rfl) rfl rfl <|
    z_iload_n 5 hX dX2_operand_5 rfl <|
    zb1 h fun x4 r3 h => zcX2_69 6 [.int x2] [] hX dX2_operand_6 (c_X2_isDigit (zgd0 hX) r3) rfl rfl rfl (Nat.le_of_ble_eq_true rfl) (by omega) <|
    z_if_eq 9 19 hX dX2_operand_9 rfl h (fun q5 h => ?_) (fun q5 h => ?_)
  · refine z_iload_n 19 hX dX2_operand_19 rfl <|
      z_if_lt 20 63 hX dX2_operand_20 rfl h (fun q6 h => ?_) (fun q6 h => ?_)
    · refine j_X2_operand_63z hd hb hF hX hE h
    · refine z_aload_n 23 hX dX2_operand_23 rfl <|
        zgX2_20 24 hX dX2_operand_24 (rfl : shp 120 = (2, 0)) <|
        z_iload_n 27 hX dX2_operand_27 rfl <|
        z_i2c 28 hX dX2_operand_28 <|
        zb1 h fun x8 r7 h => zcX2_76 29 [.int ((x2.toUInt32 % 65536).toInt32)] [] hX dX2_operand_29 (c_J0_indexOf_0f7a4 (zgd0 hX) r7) rfl rfl rfl (Nat.le_of_ble_eq_true rfl) (by omega) <|
        z_if_lt 32 63 hX dX2_operand_32 rfl h (fun q9 h => ?_) (fun q9 h => ?_)
      · refine j_X2_operand_63z hd hb hF hX hE h
      · refine z_aload_n 35 hX dX2_operand_35 rfl <|
          z_dup 36 hX dX2_operand_36 rfl <|
          zgX2_34 37 hX dX2_operand_37 (rfl : shp 120 = (2, 0)) <|
          z_iconst 40 hX dX2_operand_40 zki1 <|
          z_iadd 41 hX dX2_operand_41 <|
          zpX2_34 42 hX dX2_operand_42 (rfl : shp 120 = (2, 0)) <|
          z_w h fun w1 h =>
          z_aload_n 45 hX dX2_operand_45 rfl <|
          z_iconst 46 hX dX2_operand_46 zkim1 <|
          z_aload_n 47 hX dX2_operand_47 rfl <|
          zgX2_20 48 hX dX2_operand_48 (rfl : shp 120 = (2, 0)) <|
          z_iload_n 51 hX dX2_operand_51 rfl <|
          z_i2c 52 hX dX2_operand_52 <|
          zb1 h fun x11 r10 h => zcX2_76 53 [.int ((x2.toUInt32 % 65536).toInt32)] [.int (mI 1), .ref (zα G 120)] hX dX2_operand_53 (c_J0_indexOf_0f7a4 (zgd0 hX) r10) rfl rfl rfl (Nat.le_of_ble_eq_true rfl) (by omega) <|
          z_isub 56 hX dX2_operand_56 <|
          zb1 h fun w2 r12 h => zcX2_66 57 [.int ((mI 1) - x11)] [] hX dX2_operand_57 (c_X2_emit (zgd0 hX) r12) (rfl : shp 120 = (2, 0)) rfl rfl rfl (Nat.le_of_ble_eq_true rfl) (by omega) <|
          z_goto 60 140 hX dX2_operand_60 rfl <|
          z_endV 140 hE h dX2_operand_140
  · refine z_aload_n 12 hX dX2_operand_12 rfl <|
      zb1 h fun w3 r13 h => zcX2_73 13 [] [] hX dX2_operand_13 (c_X2_number (zgd0 hX) r13) (rfl : shp 120 = (2, 0)) rfl rfl rfl (Nat.le_of_ble_eq_true rfl) (by omega) <|
      z_goto 16 140 hX dX2_operand_16 rfl <|
      z_endV 140 hE h dX2_operand_140
def F_X2_level : Nat → Nat → Int32 → Int32 → zW → Option zW
  | 0, _, _, _, _ => none
  | d + 1, 0, x0, x1, w => b_X2_level (F_X2_level d) x0 x1 w
  | d + 1, _, x0, _, w => b_X2_operand (F_X2_level d) x0 w
theorem cF_X2_level {G : zG} {l : Launch} (hG : zgood G) : ∀ d : Nat, zrec_X2_level G l (F_X2_level d) (4 + d) := by
  intro d
  induction d with
  | zero => exact ⟨fun h => (by cases h), fun h => (by cases h)⟩
  | succ d ih => exact ⟨fun h => cb_X2_level hG _ (Nat.le_add_right _ _) ih h, fun h => cb_X2_operand hG _ (Nat.le_add_right _ _) ih h⟩
def f_X2_level (a1 : Int32) (a2 : Int32) (w : zW) : Option zW := F_X2_level 100 0 a1 a2 w
theorem c_X2_level {G : zG} {l : Launch} (hG : zgood G) {w : zW} {we : zW} {a1 : Int32} {a2 : Int32} (h : f_X2_level a1 a2 w = some we) : zMet G l yX2_level cX2_level 6 none 104 [.ref (zα G 120), .int a1, .int a2] w none we := (cF_X2_level hG 100).1 h
def f_X2_operand (a1 : Int32) (w : zW) : Option zW := F_X2_level 100 1 a1 (nI 0) w
theorem c_X2_operand {G : zG} {l : Launch} (hG : zgood G) {w : zW} {we : zW} {a1 : Int32} (h : f_X2_operand a1 w = some we) : zMet G l yX2_operand cX2_operand 3 none 104 [.ref (zα G 120), .int a1] w none we := (cF_X2_level hG 100).2 h
def j_X2_faultOf_58  (w : zW) : Option (Int32 × zW) :=
  some (w 120 5, w)
theorem j_X2_faultOf_58z {G : zG} {X : zX} {w : zW} {re : Int32} {we : zW}  (hX : zOk G X cX2_faultOf 4 RX2 105) (hE : zEI G X cX2_faultOf .int re we)  (h : j_X2_faultOf_58 w = some (re, we)) : zZ G X w 58 [some (.ref (zα G 120)), none, none, none] [] := by
  rw [j_X2_faultOf_58] at h
  refine z_aload_n 58 hX dX2_faultOf_58 rfl <|
    zgX2_40 59 hX dX2_faultOf_59 (rfl : shp 120 = (2, 0)) <|
    z_endI2 62 hE rfl h dX2_faultOf_62
def f_X2_faultOf (a1 : Nat) (na1 : Nat) (a2 : Int32) (a3 : Int32) (w : zW) : Option (Int32 × zW) :=
  zguard (zcpyok (nI 0) (nI 0) (nI 60) na1 60) (zlet (zcopy w a1 121 (nI 0) (nI 0) (nI 60)) fun w1 =>
  zlet (zupd w1 120 2 a2) fun w2 =>
  zlet (zupd w2 120 6 a3) fun w3 =>
  zlet (zupd w3 120 3 (nI 0)) fun w4 =>
  zlet (zupd w4 120 4 (nI 0)) fun w5 =>
  zlet (zupd w5 120 5 (mI 1)) fun w6 =>
  zb (f_X2_level (nI 0) (nI 0) w6) fun w7 =>
  if (w7 120 3) < (w7 120 2) then
    zb (f_X2_failHere w7) fun w8 =>
    j_X2_faultOf_58 w8
  else
    j_X2_faultOf_58 w7)
theorem c_X2_faultOf {G : zG} {l : Launch} (hG : zgood G) {w : zW} {re : Int32} {we : zW} {a1 : Nat} {na1 : Nat} {a2 : Int32} {a3 : Int32} (ha1 : shp a1 = (20, na1)) (h : f_X2_faultOf a1 na1 a2 a3 w = some (re, we)) : zMet G l yX2_faultOf cX2_faultOf 4 (some .int) 105 [.ref (zα G 120), .ref (zα G a1), .int a2, .ref (zstr G a3)] w (some (.int re)) we := by
  refine zMet_of (L0 := [some (.ref (zα G 120)), some (.ref (zα G a1)), some (.int a2), some (.ref (zstr G a3))]) hG zplX2 (Nat.le_of_ble_eq_true rfl) rfl rfl (fun X hl hX hEI hEV hEA => ?_)
  subst hl
  have hX : zOk G X cX2_faultOf 4 RX2 105 := hX
  have hE := hEI _ _ rfl rfl
  rw [f_X2_faultOf] at h
  refine z_aload_n 0 hX dX2_faultOf_0 rfl <|
    z_iconst 1 hX dX2_faultOf_1 zki0 <|
    z_aload_n 2 hX dX2_faultOf_2 rfl <|
    zgX2_9 3 hX dX2_faultOf_3 (rfl : shp 120 = (2, 0)) <|
    z_iconst 6 hX dX2_faultOf_6 zki0 <|
    z_bipush 7 hX dX2_faultOf_7 zkb60 <|
    z_copy 9 hX dX2_faultOf_9 zw617 zw619 zw618 zw87 ha1 (rfl : shp 121 = (20, 60)) rfl (Nat.le_of_ble_eq_true rfl) (Nat.le_of_ble_eq_true rfl) h fun h =>
    z_w h fun w1 h =>
    z_aload_n 12 hX dX2_faultOf_12 rfl <|
    z_iload_n 13 hX dX2_faultOf_13 rfl <|
    zpX2_30 14 hX dX2_faultOf_14 (rfl : shp 120 = (2, 0)) <|
    z_w h fun w2 h =>
    z_aload_n 17 hX dX2_faultOf_17 rfl <|
    z_aload_n 18 hX dX2_faultOf_18 rfl <|
    zpX2_20 19 hX dX2_faultOf_19 (rfl : shp 120 = (2, 0)) <|
    z_w h fun w3 h =>
    z_aload_n 22 hX dX2_faultOf_22 rfl <|
    z_iconst 23 hX dX2_faultOf_23 zki0 <|
    zpX2_34 24 hX dX2_faultOf_24 (rfl : shp 120 = (2, 0)) <|
    z_w h fun w4 h =>
    z_aload_n 27 hX dX2_faultOf_27 rfl <|
    z_iconst 28 hX dX2_faultOf_28 zki0 <|
    zpX2_37 29 hX dX2_faultOf_29 (rfl : shp 120 = (2, 0)) <|
    z_w h fun w5 h =>
    z_aload_n 32 hX dX2_faultOf_32 rfl <|
    z_iconst 33 hX dX2_faultOf_33 zkim1 <|
    zpX2_40 34 hX dX2_faultOf_34 (rfl : shp 120 = (2, 0)) <|
    z_w h fun w6 h =>
    z_aload_n 37 hX dX2_faultOf_37 rfl <|
    z_iconst 38 hX dX2_faultOf_38 zki0 <|
    z_iconst 39 hX dX2_faultOf_39 zki0 <|
    zb1 h fun w7 r1 h => zcX2_43 40 [.int (nI 0), .int (nI 0)] [] hX dX2_faultOf_40 (c_X2_level (zgd0 hX) r1) (rfl : shp 120 = (2, 0)) rfl rfl rfl (Nat.le_of_ble_eq_true rfl) (Nat.le_of_ble_eq_true rfl) <|
    z_aload_n 43 hX dX2_faultOf_43 rfl <|
    zgX2_34 44 hX dX2_faultOf_44 (rfl : shp 120 = (2, 0)) <|
    z_aload_n 47 hX dX2_faultOf_47 rfl <|
    zgX2_30 48 hX dX2_faultOf_48 (rfl : shp 120 = (2, 0)) <|
    z_icmp_ge 51 58 hX dX2_faultOf_51 rfl h (fun q2 h => ?_) (fun q2 h => ?_)
  · refine z_weak (L' := [some (.ref (zα G 120)), none, none, none]) (zsub_s (zsub_n (zsub_n (zsub_n zsub_0)))) <|
      j_X2_faultOf_58z hX hE h
  · refine z_aload_n 54 hX dX2_faultOf_54 rfl <|
      zb1 h fun w8 r3 h => zcX2_47 55 [] [] hX dX2_faultOf_55 (c_X2_failHere (zgd0 hX) r3) (rfl : shp 120 = (2, 0)) rfl rfl rfl (Nat.le_of_ble_eq_true rfl) (Nat.le_of_ble_eq_true rfl) <|
      z_weak (L' := [some (.ref (zα G 120)), none, none, none]) (zsub_s (zsub_n (zsub_n (zsub_n zsub_0)))) <|
      j_X2_faultOf_58z hX hE h
def f_X2_handTo (a1 : Nat) (w : zW) : Option zW :=
  zguard (zcpyok (nI 0) (nI 0) (nI 60) 60 60) (zlet (zcopy w 122 (a1 + 1) (nI 0) (nI 0) (nI 60)) fun w1 =>
  zlet (zupd w1 a1 3 (w1 120 4)) fun w2 =>
  some w2)
theorem c_X2_handTo {G : zG} {l : Launch} (hG : zgood G) {w : zW} {we : zW} {a1 : Nat} (ha1 : shp a1 = (6, 0)) (h : f_X2_handTo a1 w = some we) : zMet G l yX2_handTo cX2_handTo 2 none 1 [.ref (zα G 120), .ref (zα G a1)] w none we := by
  refine zMet_of (L0 := [some (.ref (zα G 120)), some (.ref (zα G a1))]) hG zplX2 (Nat.le_of_ble_eq_true rfl) rfl rfl (fun X hl hX hEI hEV hEA => ?_)
  subst hl
  have hX : zOk G X cX2_handTo 2 RX2 1 := hX
  have hE := hEV rfl rfl
  rw [f_X2_handTo] at h
  refine z_aload_n 0 hX dX2_handTo_0 rfl <|
    zgX2_15 1 hX dX2_handTo_1 (rfl : shp 120 = (2, 0)) <|
    z_iconst 4 hX dX2_handTo_4 zki0 <|
    z_aload_n 5 hX dX2_handTo_5 rfl <|
    zgX2_50 6 hX dX2_handTo_6 ha1 <|
    z_iconst 9 hX dX2_handTo_9 zki0 <|
    z_bipush 10 hX dX2_handTo_10 zkb60 <|
    z_copy 12 hX dX2_handTo_12 zw617 zw619 zw618 zw87 (rfl : shp 122 = (20, 60)) (zr6_signs _ ha1) rfl (Nat.le_of_ble_eq_true rfl) (Nat.le_of_ble_eq_true rfl) h fun h =>
    z_w h fun w1 h =>
    z_aload_n 15 hX dX2_handTo_15 rfl <|
    z_aload_n 16 hX dX2_handTo_16 rfl <|
    zgX2_37 17 hX dX2_handTo_17 (rfl : shp 120 = (2, 0)) <|
    zpX2_53 20 hX dX2_handTo_20 ha1 <|
    z_w h fun w2 h =>
    z_endV 23 hE h dX2_handTo_23
def l_X3_append_2 (K59 : zW → Option zW) : Nat → Nat → Int32 → zW → Option zW
  | 0, _, _, _ => none
  | n + 1, a1, a2, w =>
    if a2 < (w a1 3) then
      zld w (a1 + 1) 24 a2 fun x2 =>
      if x2 = nI 0 then
        zlet (a2 + nI 1) fun x4 =>
        (l_X3_append_2 K59 n) a1 x4 w
      else
      if (w 116 1) < (nI 48) then
        zld w (a1 + 1) 24 a2 fun x7 =>
        zsto w 117 48 (w 116 1) x7 fun w1 =>
        zlet (zupd w1 116 1 ((w1 116 1) + (nI 1))) fun w2 =>
        zlet (a2 + nI 1) fun x8 =>
        (l_X3_append_2 K59 n) a1 x8 w2
      else
        zlet (a2 + nI 1) fun x6 =>
        (l_X3_append_2 K59 n) a1 x6 w
    else
      K59 w
theorem l_X3_append_2z {K59 : zW → Option zW} {G : zG} {X : zX} {we : zW} (hX : zOk G X cX3_append 3 RX3 0) (hE : zEV G X cX3_append we) (hK59 : ∀ (w3 : zW) , K59 w3 = some we → zZ G X w3 59 [none, none, none] []) : ∀ (n : Nat) (a1 : Nat) (a2 : Int32) (w : zW) (ha1 : shp a1 = (9, 0)), l_X3_append_2 K59 n a1 a2 w = some we → zZ G X w 2 [some (.ref (zα G 116)), some (.ref (zα G a1)), some (.int a2)] [] := by
  intro n
  induction n with
  | zero =>
    intro a1 a2 w ha1 h
    rw [l_X3_append_2.eq_1] at h
    cases h
  | succ n ih =>
    intro a1 a2 w ha1 h
    rw [l_X3_append_2.eq_2] at h
    refine z_iload_n 2 hX dX3_append_2 rfl <|
      z_aload_n 3 hX dX3_append_3 rfl <|
      zgX3_15 4 hX dX3_append_4 ha1 <|
      z_icmp_ge 7 59 hX dX3_append_7 rfl h (fun q1 h => ?_) (fun q1 h => ?_)
    · refine z_weak (L' := [none, none, none]) (zsub_n (zsub_n (zsub_n zsub_0))) <|
        hK59 _ h
    · refine z_aload_n 10 hX dX3_append_10 rfl <|
        zgX3_21 11 hX dX3_append_11 ha1 <|
        z_iload_n 14 hX dX3_append_14 rfl <|
        z_iald 15 hX dX3_append_15 (zr9_stones _ ha1) h fun x2 _ h =>
        z_if_eq 16 53 hX dX3_append_16 rfl h (fun q3 h => ?_) (fun q3 h => ?_)
      · refine z_iincG 53 (fun x4 => [some (.ref (zα G 116)), some (.ref (zα G a1)), some (.int x4)]) hX dX3_append_53 rfl zki1 rfl (fun _ => rfl) h fun x4 h =>
          z_goto 56 2 hX dX3_append_56 rfl <|
          ih _ _ _ ha1 h
      · refine z_aload_n 19 hX dX3_append_19 rfl <|
          zgX3_24 20 hX dX3_append_20 (rfl : shp 116 = (3, 0)) <|
          z_bipush 23 hX dX3_append_23 zkb48 <|
          z_icmp_ge 25 53 hX dX3_append_25 rfl h (fun q5 h => ?_) (fun q5 h => ?_)
        · refine z_iincG 53 (fun x6 => [some (.ref (zα G 116)), some (.ref (zα G a1)), some (.int x6)]) hX dX3_append_53 rfl zki1 rfl (fun _ => rfl) h fun x6 h =>
            z_goto 56 2 hX dX3_append_56 rfl <|
            ih _ _ _ ha1 h
        · refine z_aload_n 28 hX dX3_append_28 rfl <|
            zgX3_9 29 hX dX3_append_29 (rfl : shp 116 = (3, 0)) <|
            z_aload_n 32 hX dX3_append_32 rfl <|
            zgX3_24 33 hX dX3_append_33 (rfl : shp 116 = (3, 0)) <|
            z_aload_n 36 hX dX3_append_36 rfl <|
            zgX3_21 37 hX dX3_append_37 ha1 <|
            z_iload_n 40 hX dX3_append_40 rfl <|
            z_iald 41 hX dX3_append_41 (zr9_stones _ ha1) h fun x7 _ h =>
            z_iast 42 hX dX3_append_42 (rfl : shp 117 = (20, 48)) h fun w1 h =>
            z_aload_n 43 hX dX3_append_43 rfl <|
            z_dup 44 hX dX3_append_44 rfl <|
            zgX3_24 45 hX dX3_append_45 (rfl : shp 116 = (3, 0)) <|
            z_iconst 48 hX dX3_append_48 zki1 <|
            z_iadd 49 hX dX3_append_49 <|
            zpX3_24 50 hX dX3_append_50 (rfl : shp 116 = (3, 0)) <|
            z_w h fun w2 h =>
            z_iincG 53 (fun x8 => [some (.ref (zα G 116)), some (.ref (zα G a1)), some (.int x8)]) hX dX3_append_53 rfl zki1 rfl (fun _ => rfl) h fun x8 h =>
            z_goto 56 2 hX dX3_append_56 rfl <|
            ih _ _ _ ha1 h
def f_X3_append (a1 : Nat) (w : zW) : Option zW :=
  l_X3_append_2 (fun w11 =>
    some w11) zfuel a1 (nI 0) w
theorem c_X3_append {G : zG} {l : Launch} (hG : zgood G) {w : zW} {we : zW} {a1 : Nat} (ha1 : shp a1 = (9, 0)) (h : f_X3_append a1 w = some we) : zMet G l yX3_append cX3_append 3 none 0 [.ref (zα G 116), .ref (zα G a1)] w none we := by
  refine zMet_of (L0 := [some (.ref (zα G 116)), some (.ref (zα G a1)), none]) hG zplX3 (Nat.le_of_ble_eq_true rfl) rfl rfl (fun X hl hX hEI hEV hEA => ?_)
  subst hl
  have hX : zOk G X cX3_append 3 RX3 0 := hX
  have hE := hEV rfl rfl
  rw [f_X3_append] at h
  refine z_iconst 0 hX dX3_append_0 zki0 <|
    z_istore_n 1 [some (.ref (zα G 116)), some (.ref (zα G a1)), some (.int (nI 0))] hX dX3_append_1 (Nat.le_of_ble_eq_true rfl) rfl rfl <|
    l_X3_append_2z hX hE (fun w11 h => ?_) _ _ _ _ ha1 h
  · refine z_endV 59 hE h dX3_append_59
def l_X3_reverse_2 (K53 : zW → Option zW) : Nat → Int32 → zW → Option zW
  | 0, _, _ => none
  | n + 1, a1, w =>
    if a1 < ((w 116 1) / (nI 2)) then
      zlet (((w 116 1) - (nI 1)) - a1) fun x2 =>
      zld w 117 48 a1 fun x3 =>
      zld w 117 48 x2 fun x4 =>
      zsto w 117 48 a1 x4 fun w1 =>
      zsto w1 117 48 x2 x3 fun w2 =>
      zlet (a1 + nI 1) fun x5 =>
      (l_X3_reverse_2 K53 n) x5 w2
    else
      K53 w
theorem l_X3_reverse_2z {K53 : zW → Option zW} {G : zG} {X : zX} {we : zW} (hX : zOk G X cX3_reverse 4 RX3 0) (hE : zEV G X cX3_reverse we) (hK53 : ∀ (w3 : zW) , K53 w3 = some we → zZ G X w3 53 [none, none, none, none] []) : ∀ (n : Nat) (a1 : Int32) (w : zW) , l_X3_reverse_2 K53 n a1 w = some we → zZ G X w 2 [some (.ref (zα G 116)), some (.int a1), none, none] [] := by
  intro n
  induction n with
  | zero =>
    intro a1 w  h
    rw [l_X3_reverse_2.eq_1] at h
    cases h
  | succ n ih =>
    intro a1 w  h
    rw [l_X3_reverse_2.eq_2] at h
    refine z_iload_n 2 hX dX3_reverse_2 rfl <|
      z_aload_n 3 hX dX3_reverse_3 rfl <|
      zgX3_24 4 hX dX3_reverse_4 (rfl : shp 116 = (3, 0)) <|
      z_iconst 7 hX dX3_reverse_7 zki2 <|
      z_idivc 8 hX dX3_reverse_8 (by decide) <|
      z_icmp_ge 9 53 hX dX3_reverse_9 rfl h (fun q1 h => ?_) (fun q1 h => ?_)
    · refine z_weak (L' := [none, none, none, none]) (zsub_n (zsub_n (zsub_n (zsub_n zsub_0)))) <|
        hK53 _ h
    · refine z_aload_n 12 hX dX3_reverse_12 rfl <|
        zgX3_24 13 hX dX3_reverse_13 (rfl : shp 116 = (3, 0)) <|
        z_iconst 16 hX dX3_reverse_16 zki1 <|
        z_isub 17 hX dX3_reverse_17 <|
        z_iload_n 18 hX dX3_reverse_18 rfl <|
        z_isub 19 hX dX3_reverse_19 <|
        z_top h fun x2 h =>
        z_istore_n 20 [some (.ref (zα G 116)), some (.int a1), some (.int x2), none] hX dX3_reverse_20 (Nat.le_of_ble_eq_true rfl) rfl rfl <|
        z_aload_n 21 hX dX3_reverse_21 rfl <|
        zgX3_9 22 hX dX3_reverse_22 (rfl : shp 116 = (3, 0)) <|
        z_iload_n 25 hX dX3_reverse_25 rfl <|
        z_iald 26 hX dX3_reverse_26 (rfl : shp 117 = (20, 48)) h fun x3 _ h =>
        z_istore_n 27 [some (.ref (zα G 116)), some (.int a1), some (.int x2), some (.int x3)] hX dX3_reverse_27 (Nat.le_of_ble_eq_true rfl) rfl rfl <|
        z_aload_n 28 hX dX3_reverse_28 rfl <|
        zgX3_9 29 hX dX3_reverse_29 (rfl : shp 116 = (3, 0)) <|
        z_iload_n 32 hX dX3_reverse_32 rfl <|
        z_aload_n 33 hX dX3_reverse_33 rfl <|
        zgX3_9 34 hX dX3_reverse_34 (rfl : shp 116 = (3, 0)) <|
        z_iload_n 37 hX dX3_reverse_37 rfl <|
        z_iald 38 hX dX3_reverse_38 (rfl : shp 117 = (20, 48)) h fun x4 _ h =>
        z_iast 39 hX dX3_reverse_39 (rfl : shp 117 = (20, 48)) h fun w1 h =>
        z_aload_n 40 hX dX3_reverse_40 rfl <|
        zgX3_9 41 hX dX3_reverse_41 (rfl : shp 116 = (3, 0)) <|
        z_iload_n 44 hX dX3_reverse_44 rfl <|
        z_iload_n 45 hX dX3_reverse_45 rfl <|
        z_iast 46 hX dX3_reverse_46 (rfl : shp 117 = (20, 48)) h fun w2 h =>
        z_iincG 47 (fun x5 => [some (.ref (zα G 116)), some (.int x5), some (.int x2), some (.int x3)]) hX dX3_reverse_47 rfl zki1 rfl (fun _ => rfl) h fun x5 h =>
        z_goto 50 2 hX dX3_reverse_50 rfl <|
        z_weak (L' := [some (.ref (zα G 116)), some (.int x5), none, none]) (zsub_s (zsub_s (zsub_n (zsub_n zsub_0)))) <|
        ih _ _ h
def f_X3_reverse  (w : zW) : Option zW :=
  l_X3_reverse_2 (fun w11 =>
    some w11) zfuel (nI 0) w
theorem c_X3_reverse {G : zG} {l : Launch} (hG : zgood G) {w : zW} {we : zW}   (h : f_X3_reverse w = some we) : zMet G l yX3_reverse cX3_reverse 4 none 0 [.ref (zα G 116)] w none we := by
  refine zMet_of (L0 := [some (.ref (zα G 116)), none, none, none]) hG zplX3 (Nat.le_of_ble_eq_true rfl) rfl rfl (fun X hl hX hEI hEV hEA => ?_)
  subst hl
  have hX : zOk G X cX3_reverse 4 RX3 0 := hX
  have hE := hEV rfl rfl
  rw [f_X3_reverse] at h
  refine z_iconst 0 hX dX3_reverse_0 zki0 <|
    z_istore_n 1 [some (.ref (zα G 116)), some (.int (nI 0)), none, none] hX dX3_reverse_1 (Nat.le_of_ble_eq_true rfl) rfl rfl <|
    l_X3_reverse_2z hX hE (fun w11 h => ?_) _ _ _ h
  · refine z_endV 53 hE h dX3_reverse_53
def l_X3_leaveOutSeconds_11 (K36 : Int32 → zW → Option zW) : Nat → Int32 → Int32 → zW → Option zW
  | 0, _, _, _ => none
  | n + 1, a1, a2, w =>
    if a2 < a1 then
      zld w 117 48 ((nI 2) * a2) fun x2 =>
      zsto w 117 48 a2 x2 fun w1 =>
      zlet (a2 + nI 1) fun x3 =>
      (l_X3_leaveOutSeconds_11 K36 n) a1 x3 w1
    else
      K36 a1 w
theorem l_X3_leaveOutSeconds_11z {K36 : Int32 → zW → Option zW} {G : zG} {X : zX} {we : zW} (hX : zOk G X cX3_leaveOutSeconds 3 RX3 0) (hE : zEV G X cX3_leaveOutSeconds we) (hK36 : ∀ (a1 : Int32) (w3 : zW) , K36 a1 w3 = some we → zZ G X w3 36 [some (.ref (zα G 116)), some (.int a1), none] []) : ∀ (n : Nat) (a1 : Int32) (a2 : Int32) (w : zW) , l_X3_leaveOutSeconds_11 K36 n a1 a2 w = some we → zZ G X w 11 [some (.ref (zα G 116)), some (.int a1), some (.int a2)] [] := by
  intro n
  induction n with
  | zero =>
    intro a1 a2 w  h
    rw [l_X3_leaveOutSeconds_11.eq_1] at h
    cases h
  | succ n ih =>
    intro a1 a2 w  h
    rw [l_X3_leaveOutSeconds_11.eq_2] at h
    refine z_iload_n 11 hX dX3_leaveOutSeconds_11 rfl <|
      z_iload_n 12 hX dX3_leaveOutSeconds_12 rfl <|
      z_icmp_ge 13 36 hX dX3_leaveOutSeconds_13 rfl h (fun q1 h => ?_) (fun q1 h => ?_)
    · refine z_weak (L' := [some (.ref (zα G 116)), some (.int a1), none]) (zsub_s (zsub_s (zsub_n zsub_0))) <|
        hK36 _ _ h
    · refine z_aload_n 16 hX dX3_leaveOutSeconds_16 rfl <|
        zgX3_9 17 hX dX3_leaveOutSeconds_17 (rfl : shp 116 = (3, 0)) <|
        z_iload_n 20 hX dX3_leaveOutSeconds_20 rfl <|
        z_aload_n 21 hX dX3_leaveOutSeconds_21 rfl <|
        zgX3_9 22 hX dX3_leaveOutSeconds_22 (rfl : shp 116 = (3, 0)) <|
        z_iconst 25 hX dX3_leaveOutSeconds_25 zki2 <|
        z_iload_n 26 hX dX3_leaveOutSeconds_26 rfl <|
        z_imul 27 hX dX3_leaveOutSeconds_27 <|
        z_iald 28 hX dX3_leaveOutSeconds_28 (rfl : shp 117 = (20, 48)) h fun x2 _ h =>
        z_iast 29 hX dX3_leaveOutSeconds_29 (rfl : shp 117 = (20, 48)) h fun w1 h =>
        z_iincG 30 (fun x3 => [some (.ref (zα G 116)), some (.int a1), some (.int x3)]) hX dX3_leaveOutSeconds_30 rfl zki1 rfl (fun _ => rfl) h fun x3 h =>
        z_goto 33 11 hX dX3_leaveOutSeconds_33 rfl <|
        ih _ _ _ h
def f_X3_leaveOutSeconds  (w : zW) : Option zW :=
  zlet (((w 116 1) + (nI 1)) / (nI 2)) fun x1 =>
  l_X3_leaveOutSeconds_11 (fun k36_a1 w11 =>
    zlet (zupd w11 116 1 k36_a1) fun w12 =>
    some w12) zfuel x1 (nI 0) w
theorem c_X3_leaveOutSeconds {G : zG} {l : Launch} (hG : zgood G) {w : zW} {we : zW}   (h : f_X3_leaveOutSeconds w = some we) : zMet G l yX3_leaveOutSeconds cX3_leaveOutSeconds 3 none 0 [.ref (zα G 116)] w none we := by
  refine zMet_of (L0 := [some (.ref (zα G 116)), none, none]) hG zplX3 (Nat.le_of_ble_eq_true rfl) rfl rfl (fun X hl hX hEI hEV hEA => ?_)
  subst hl
  have hX : zOk G X cX3_leaveOutSeconds 3 RX3 0 := hX
  have hE := hEV rfl rfl
  rw [f_X3_leaveOutSeconds] at h
  refine z_aload_n 0 hX dX3_leaveOutSeconds_0 rfl <|
    zgX3_24 1 hX dX3_leaveOutSeconds_1 (rfl : shp 116 = (3, 0)) <|
    z_iconst 4 hX dX3_leaveOutSeconds_4 zki1 <|
    z_iadd 5 hX dX3_leaveOutSeconds_5 <|
    z_iconst 6 hX dX3_leaveOutSeconds_6 zki2 <|
    z_idivc 7 hX dX3_leaveOutSeconds_7 (by decide) <|
    z_top h fun x1 h =>
    z_istore_n 8 [some (.ref (zα G 116)), some (.int x1), none] hX dX3_leaveOutSeconds_8 (Nat.le_of_ble_eq_true rfl) rfl rfl <|
    z_iconst 9 hX dX3_leaveOutSeconds_9 zki0 <|
    z_istore_n 10 [some (.ref (zα G 116)), some (.int x1), some (.int (nI 0))] hX dX3_leaveOutSeconds_10 (Nat.le_of_ble_eq_true rfl) rfl rfl <|
    l_X3_leaveOutSeconds_11z hX hE (fun k36_a1 w11 h => ?_) _ _ _ _ h
  · refine z_aload_n 36 hX dX3_leaveOutSeconds_36 rfl <|
      z_iload_n 37 hX dX3_leaveOutSeconds_37 rfl <|
      zpX3_24 38 hX dX3_leaveOutSeconds_38 (rfl : shp 116 = (3, 0)) <|
      z_w h fun w12 h =>
      z_endV 41 hE h dX3_leaveOutSeconds_41
def l_X3_mirrorLetters_2 (K31 : zW → Option zW) : Nat → Int32 → zW → Option zW
  | 0, _, _ => none
  | n + 1, a1, w =>
    if a1 < (w 116 1) then
      zld w 117 48 a1 fun x2 =>
      zsto w 117 48 a1 ((nI 27) - x2) fun w1 =>
      zlet (a1 + nI 1) fun x3 =>
      (l_X3_mirrorLetters_2 K31 n) x3 w1
    else
      K31 w
theorem l_X3_mirrorLetters_2z {K31 : zW → Option zW} {G : zG} {X : zX} {we : zW} (hX : zOk G X cX3_mirrorLetters 2 RX3 0) (hE : zEV G X cX3_mirrorLetters we) (hK31 : ∀ (w3 : zW) , K31 w3 = some we → zZ G X w3 31 [none, none] []) : ∀ (n : Nat) (a1 : Int32) (w : zW) , l_X3_mirrorLetters_2 K31 n a1 w = some we → zZ G X w 2 [some (.ref (zα G 116)), some (.int a1)] [] := by
  intro n
  induction n with
  | zero =>
    intro a1 w  h
    rw [l_X3_mirrorLetters_2.eq_1] at h
    cases h
  | succ n ih =>
    intro a1 w  h
    rw [l_X3_mirrorLetters_2.eq_2] at h
    refine z_iload_n 2 hX dX3_mirrorLetters_2 rfl <|
      z_aload_n 3 hX dX3_mirrorLetters_3 rfl <|
      zgX3_24 4 hX dX3_mirrorLetters_4 (rfl : shp 116 = (3, 0)) <|
      z_icmp_ge 7 31 hX dX3_mirrorLetters_7 rfl h (fun q1 h => ?_) (fun q1 h => ?_)
    · refine z_weak (L' := [none, none]) (zsub_n (zsub_n zsub_0)) <|
        hK31 _ h
    · refine z_aload_n 10 hX dX3_mirrorLetters_10 rfl <|
        zgX3_9 11 hX dX3_mirrorLetters_11 (rfl : shp 116 = (3, 0)) <|
        z_iload_n 14 hX dX3_mirrorLetters_14 rfl <|
        z_bipush 15 hX dX3_mirrorLetters_15 zkb27 <|
        z_aload_n 17 hX dX3_mirrorLetters_17 rfl <|
        zgX3_9 18 hX dX3_mirrorLetters_18 (rfl : shp 116 = (3, 0)) <|
        z_iload_n 21 hX dX3_mirrorLetters_21 rfl <|
        z_iald 22 hX dX3_mirrorLetters_22 (rfl : shp 117 = (20, 48)) h fun x2 _ h =>
        z_isub 23 hX dX3_mirrorLetters_23 <|
        z_iast 24 hX dX3_mirrorLetters_24 (rfl : shp 117 = (20, 48)) h fun w1 h =>
        z_iincG 25 (fun x3 => [some (.ref (zα G 116)), some (.int x3)]) hX dX3_mirrorLetters_25 rfl zki1 rfl (fun _ => rfl) h fun x3 h =>
        z_goto 28 2 hX dX3_mirrorLetters_28 rfl <|
        ih _ _ h
def f_X3_mirrorLetters  (w : zW) : Option zW :=
  l_X3_mirrorLetters_2 (fun w11 =>
    some w11) zfuel (nI 0) w
theorem c_X3_mirrorLetters {G : zG} {l : Launch} (hG : zgood G) {w : zW} {we : zW}   (h : f_X3_mirrorLetters w = some we) : zMet G l yX3_mirrorLetters cX3_mirrorLetters 2 none 0 [.ref (zα G 116)] w none we := by
  refine zMet_of (L0 := [some (.ref (zα G 116)), none]) hG zplX3 (Nat.le_of_ble_eq_true rfl) rfl rfl (fun X hl hX hEI hEV hEA => ?_)
  subst hl
  have hX : zOk G X cX3_mirrorLetters 2 RX3 0 := hX
  have hE := hEV rfl rfl
  rw [f_X3_mirrorLetters] at h
  refine z_iconst 0 hX dX3_mirrorLetters_0 zki0 <|
    z_istore_n 1 [some (.ref (zα G 116)), some (.int (nI 0))] hX dX3_mirrorLetters_1 (Nat.le_of_ble_eq_true rfl) rfl rfl <|
    l_X3_mirrorLetters_2z hX hE (fun w11 h => ?_) _ _ _ h
  · refine z_endV 31 hE h dX3_mirrorLetters_31
def f_X11_isLetter (a0 : Int32)  : Option Int32 :=
  if a0 < (nI 1) then
    some (nI 0)
  else
  if (nI 26) < a0 then
    some (nI 0)
  else
    some (nI 1)
theorem c_X11_isLetter {G : zG} {l : Launch} (hG : zgood G) {w : zW} {re : Int32} {a0 : Int32}  (h : f_X11_isLetter a0 = some re) : zMet G l yX11_isLetter cX11_isLetter 1 (some .boolean) 0 [.int a0] w (some (.int re)) w := by
  refine zMet_of (L0 := [some (.int a0)]) hG zplX11 (Nat.le_of_ble_eq_true rfl) rfl rfl (fun X hl hX hEI hEV hEA => ?_)
  subst hl
  have hX : zOk G X cX11_isLetter 1 RX11 0 := hX
  have hE := hEI _ _ rfl rfl
  rw [f_X11_isLetter] at h
  refine z_iload_n 0 hX dX11_isLetter_0 rfl <|
    z_iconst 1 hX dX11_isLetter_1 zki1 <|
    z_icmp_lt 2 15 hX dX11_isLetter_2 rfl h (fun q1 h => ?_) (fun q1 h => ?_)
  · refine z_iconst 15 hX dX11_isLetter_15 zki0 <|
      z_endI 16 hE (znar_bool (by decide)) h dX11_isLetter_16
  · refine z_iload_n 5 hX dX11_isLetter_5 rfl <|
      z_bipush 6 hX dX11_isLetter_6 zkb26 <|
      z_icmp_gt 8 15 hX dX11_isLetter_8 rfl h (fun q2 h => ?_) (fun q2 h => ?_)
    · refine z_iconst 15 hX dX11_isLetter_15 zki0 <|
        z_endI 16 hE (znar_bool (by decide)) h dX11_isLetter_16
    · refine z_iconst 11 hX dX11_isLetter_11 zki1 <|
        z_goto 12 16 hX dX11_isLetter_12 rfl <|
        z_endI 16 hE (znar_bool (by decide)) h dX11_isLetter_16
def j_X6_joined_211   : Option Int32 :=
  some (nI 1)
theorem j_X6_joined_211z {G : zG} {X : zX} {w : zW} {re : Int32}  (hX : zOk G X cX6_joined 3 RX6 0) (hE : zEI G X cX6_joined .int re w)  (h : j_X6_joined_211 = some re) : zZ G X w 211 [none, none, none] [] := by
  rw [j_X6_joined_211] at h
  refine z_iconst 211 hX dX6_joined_211 zki1 <|
    z_goto 212 216 hX dX6_joined_212 rfl <|
    z_endI 216 hE rfl h dX6_joined_216
def f_X6_joined (a0 : Int32) (a1 : Int32) (a2 : Int32)  : Option Int32 :=
  if a0 = nI 37 then
    if a2 = nI 0 then
      some (nI 0)
    else
      zguard (decide (¬ a2 = 0)) (
      some (a1 - a1 / a2 * a2))
  else
  if a0 = nI 38 then
    if a1 = nI 0 then
      some (nI 0)
    else
    if a2 = nI 0 then
      some (nI 0)
    else
      some (nI 1)
  else
  if a0 = nI 39 then
    if a1 = nI 0 then
      if a2 = nI 0 then
        some (nI 0)
      else
        j_X6_joined_211
    else
      j_X6_joined_211
  else
  if a0 = nI 40 then
    if a1 = nI 0 then
      if a2 = nI 0 then
        some (nI 0)
      else
        j_X6_joined_211
    else
      j_X6_joined_211
  else
  if a0 = nI 41 then
    if a1 = nI 0 then
      if a2 = nI 0 then
        some (nI 0)
      else
        j_X6_joined_211
    else
      j_X6_joined_211
  else
  if a0 = nI 42 then
    some (a1 * a2)
  else
  if a0 = nI 43 then
    some (a1 + a2)
  else
  if a0 = nI 44 then
    if a1 = nI 0 then
      if a2 = nI 0 then
        some (nI 0)
      else
        j_X6_joined_211
    else
      j_X6_joined_211
  else
  if a0 = nI 45 then
    some (a1 - a2)
  else
  if a0 = nI 46 then
    if a1 = nI 0 then
      if a2 = nI 0 then
        some (nI 0)
      else
        j_X6_joined_211
    else
      j_X6_joined_211
  else
  if a0 = nI 47 then
    if a2 = nI 0 then
      some (nI 0)
    else
      zguard (decide (¬ a2 = 0)) (
      some (a1 / a2))
  else
  if a0 = nI 48 then
    if a1 = nI 0 then
      if a2 = nI 0 then
        some (nI 0)
      else
        j_X6_joined_211
    else
      j_X6_joined_211
  else
  if a0 = nI 49 then
    if a1 = nI 0 then
      if a2 = nI 0 then
        some (nI 0)
      else
        j_X6_joined_211
    else
      j_X6_joined_211
  else
  if a0 = nI 50 then
    if a1 = nI 0 then
      if a2 = nI 0 then
        some (nI 0)
      else
        j_X6_joined_211
    else
      j_X6_joined_211
  else
  if a0 = nI 51 then
    if a1 = nI 0 then
      if a2 = nI 0 then
        some (nI 0)
      else
        j_X6_joined_211
    else
      j_X6_joined_211
  else
  if a0 = nI 52 then
    if a1 = nI 0 then
      if a2 = nI 0 then
        some (nI 0)
      else
        j_X6_joined_211
    else
      j_X6_joined_211
  else
  if a0 = nI 53 then
    if a1 = nI 0 then
      if a2 = nI 0 then
        some (nI 0)
      else
        j_X6_joined_211
    else
      j_X6_joined_211
  else
  if a0 = nI 54 then
    if a1 = nI 0 then
      if a2 = nI 0 then
        some (nI 0)
      else
        j_X6_joined_211
    else
      j_X6_joined_211
  else
  if a0 = nI 55 then
    if a1 = nI 0 then
      if a2 = nI 0 then
        some (nI 0)
      else
        j_X6_joined_211
    else
      j_X6_joined_211
  else
  if a0 = nI 56 then
    if a1 = nI 0 then
      if a2 = nI 0 then
        some (nI 0)
      else
        j_X6_joined_211
    else
      j_X6_joined_211
  else
  if a0 = nI 57 then
    if a1 = nI 0 then
      if a2 = nI 0 then
        some (nI 0)
      else
        j_X6_joined_211
    else
      j_X6_joined_211
  else
  if a0 = nI 58 then
    if a1 = nI 0 then
      if a2 = nI 0 then
        some (nI 0)
      else
        j_X6_joined_211
    else
      j_X6_joined_211
  else
  if a0 = nI 59 then
    if a1 = nI 0 then
      if a2 = nI 0 then
        some (nI 0)
      else
        j_X6_joined_211
    else
      j_X6_joined_211
  else
  if a0 = nI 60 then
    if a1 < a2 then
      some (nI 1)
    else
      some (nI 0)
  else
  if a0 = nI 61 then
    if a1 = a2 then
      some (nI 1)
    else
      some (nI 0)
  else
  if a0 = nI 62 then
    if a2 < a1 then
      some (nI 1)
    else
      some (nI 0)
  else
  if a1 = nI 0 then
    if a2 = nI 0 then
      some (nI 0)
    else
      j_X6_joined_211
  else
    j_X6_joined_211
