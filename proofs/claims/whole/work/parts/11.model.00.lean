def f_X12_error (a1 : Int32) (w : zW) : Option (Int32 × zW) :=
  zld w 131 7 a1 fun x1 =>
  zsto w 131 7 a1 (x1 + (nI 1)) fun w1 =>
  some ((mI 1000000) - a1, w1)
theorem c_X12_error {G : zG} {l : Launch} (hG : zgood G) {w : zW} {re : Int32} {we : zW} {a1 : Int32}  (h : f_X12_error a1 w = some (re, we)) : zMet G l yX12_error cX12_error 2 (some .int) 0 [.ref (zα G 128), .int a1] w (some (.int re)) we := by
  refine zMet_of (L0 := [some (.ref (zα G 128)), some (.int a1)]) hG zplX12 (Nat.le_of_ble_eq_true rfl) rfl rfl (fun X hl hX hEI hEV hEA => ?_)
  subst hl
  have hX : zOk G X cX12_error 2 RX12 0 := hX
  have hE := hEI _ _ rfl rfl
  rw [f_X12_error] at h
  refine z_aload_n 0 hX dX12_error_0 rfl <|
    zgX12_16 1 hX dX12_error_1 (rfl : shp 128 = (12, 0)) <|
    z_iload_n 4 hX dX12_error_4 rfl <|
    z_dup2 5 hX dX12_error_5 rfl rfl <|
    z_iald 6 hX dX12_error_6 (rfl : shp 131 = (20, 7)) h fun x1 _ h =>
    z_iconst 7 hX dX12_error_7 zki1 <|
    z_iadd 8 hX dX12_error_8 <|
    z_iast 9 hX dX12_error_9 (rfl : shp 131 = (20, 7)) h fun w1 h =>
    z_ldc 10 hX dX12_error_10 zw1129 zklm1000000 <|
    z_iload_n 12 hX dX12_error_12 rfl <|
    z_isub 13 hX dX12_error_13 <|
    z_endI2 14 hE rfl h dX12_error_14
def f_X12_in (a0 : Int32) (a1 : Int32) (a2 : Int32)  : Option Int32 :=
  if a0 < a1 then
    some (nI 0)
  else
  if a2 < a0 then
    some (nI 0)
  else
    some (nI 1)
theorem c_X12_in {G : zG} {l : Launch} (hG : zgood G) {w : zW} {re : Int32} {a0 : Int32} {a1 : Int32} {a2 : Int32}  (h : f_X12_in a0 a1 a2 = some re) : zMet G l yX12_in cX12_in 3 (some .boolean) 0 [.int a0, .int a1, .int a2] w (some (.int re)) w := by
  refine zMet_of (L0 := [some (.int a0), some (.int a1), some (.int a2)]) hG zplX12 (Nat.le_of_ble_eq_true rfl) rfl rfl (fun X hl hX hEI hEV hEA => ?_)
  subst hl
  have hX : zOk G X cX12_in 3 RX12 0 := hX
  have hE := hEI _ _ rfl rfl
  rw [f_X12_in] at h
  refine z_iload_n 0 hX dX12_in_0 rfl <|
    z_iload_n 1 hX dX12_in_1 rfl <|
    z_icmp_lt 2 14 hX dX12_in_2 rfl h (fun q1 h => ?_) (fun q1 h => ?_)
  · refine z_iconst 14 hX dX12_in_14 zki0 <|
      z_endI 15 hE (znar_bool (by decide)) h dX12_in_15
  · refine z_iload_n 5 hX dX12_in_5 rfl <|
      z_iload_n 6 hX dX12_in_6 rfl <|
      z_icmp_gt 7 14 hX dX12_in_7 rfl h (fun q2 h => ?_) (fun q2 h => ?_)
    · refine z_iconst 14 hX dX12_in_14 zki0 <|
        z_endI 15 hE (znar_bool (by decide)) h dX12_in_15
    · refine z_iconst 10 hX dX12_in_10 zki1 <|
        z_goto 11 15 hX dX12_in_11 rfl <|
        z_endI 15 hE (znar_bool (by decide)) h dX12_in_15
def f_X12_held (a0 : Int32) (a1 : Int32) (a2 : Int32)  : Option Int32 :=
  if a0 < a1 then
    some a1
  else
  if a2 < a0 then
    some a2
  else
    some a0
theorem c_X12_held {G : zG} {l : Launch} (hG : zgood G) {w : zW} {re : Int32} {a0 : Int32} {a1 : Int32} {a2 : Int32}  (h : f_X12_held a0 a1 a2 = some re) : zMet G l yX12_held cX12_held 3 (some .int) 0 [.int a0, .int a1, .int a2] w (some (.int re)) w := by
  refine zMet_of (L0 := [some (.int a0), some (.int a1), some (.int a2)]) hG zplX12 (Nat.le_of_ble_eq_true rfl) rfl rfl (fun X hl hX hEI hEV hEA => ?_)
  subst hl
  have hX : zOk G X cX12_held 3 RX12 0 := hX
  have hE := hEI _ _ rfl rfl
  rw [f_X12_held] at h
  refine z_iload_n 0 hX dX12_held_0 rfl <|
    z_iload_n 1 hX dX12_held_1 rfl <|
    z_icmp_ge 2 9 hX dX12_held_2 rfl h (fun q1 h => ?_) (fun q1 h => ?_)
  · refine z_iload_n 9 hX dX12_held_9 rfl <|
      z_iload_n 10 hX dX12_held_10 rfl <|
      z_icmp_le 11 18 hX dX12_held_11 rfl h (fun q2 h => ?_) (fun q2 h => ?_)
    · refine z_iload_n 18 hX dX12_held_18 rfl <|
        z_endI 19 hE rfl h dX12_held_19
    · refine z_iload_n 14 hX dX12_held_14 rfl <|
        z_goto 15 19 hX dX12_held_15 rfl <|
        z_endI 19 hE rfl h dX12_held_19
  · refine z_iload_n 5 hX dX12_held_5 rfl <|
      z_goto 6 19 hX dX12_held_6 rfl <|
      z_endI 19 hE rfl h dX12_held_19
def l_X12_carry_2 (K21 : zW → Option zW) : Nat → Nat → Nat → Nat → Nat → Int32 → zW → Option zW
  | 0, _, _, _, _, _, _ => none
  | n + 1, a0, na0, a1, na1, a2, w =>
    if a2 < (nI 628) then
      zld w a0 na0 a2 fun x2 =>
      zsto w a1 na1 a2 x2 fun w1 =>
      zlet (a2 + nI 1) fun x3 =>
      (l_X12_carry_2 K21 n) a0 na0 a1 na1 x3 w1
    else
      K21 w
theorem l_X12_carry_2z {K21 : zW → Option zW} {G : zG} {X : zX} {we : zW} (hX : zOk G X cX12_carry 3 RX12 0) (hE : zEV G X cX12_carry we) (hK21 : ∀ (w3 : zW) , K21 w3 = some we → zZ G X w3 21 [none, none, none] []) : ∀ (n : Nat) (a0 : Nat) (na0 : Nat) (a1 : Nat) (na1 : Nat) (a2 : Int32) (w : zW) (ha0 : shp a0 = (20, na0)) (ha1 : shp a1 = (20, na1)), l_X12_carry_2 K21 n a0 na0 a1 na1 a2 w = some we → zZ G X w 2 [some (.ref (zα G a0)), some (.ref (zα G a1)), some (.int a2)] [] := by
  intro n
  induction n with
  | zero =>
    intro a0 na0 a1 na1 a2 w ha0 ha1 h
    rw [l_X12_carry_2.eq_1] at h
    cases h
  | succ n ih =>
    intro a0 na0 a1 na1 a2 w ha0 ha1 h
    rw [l_X12_carry_2.eq_2] at h
    refine z_iload_n 2 hX dX12_carry_2 rfl <|
      z_sipush 3 hX dX12_carry_3 zks628 <|
      z_icmp_ge 6 21 hX dX12_carry_6 rfl h (fun q1 h => ?_) (fun q1 h => ?_)
    · refine z_weak (L' := [none, none, none]) (zsub_n (zsub_n (zsub_n zsub_0))) <|
        hK21 _ h
    · refine z_aload_n 9 hX dX12_carry_9 rfl <|
        z_iload_n 10 hX dX12_carry_10 rfl <|
        z_aload_n 11 hX dX12_carry_11 rfl <|
        z_iload_n 12 hX dX12_carry_12 rfl <|
        z_iald 13 hX dX12_carry_13 ha0 h fun x2 _ h =>
        z_iast 14 hX dX12_carry_14 ha1 h fun w1 h =>
        z_iincG 15 (fun x3 => [some (.ref (zα G a0)), some (.ref (zα G a1)), some (.int x3)]) hX dX12_carry_15 rfl zki1 rfl (fun _ => rfl) h fun x3 h =>
        z_goto 18 2 hX dX12_carry_18 rfl <|
        ih _ _ _ _ _ _ ha0 ha1 h
def f_X12_carry (a0 : Nat) (na0 : Nat) (a1 : Nat) (na1 : Nat) (w : zW) : Option zW :=
  l_X12_carry_2 (fun w11 =>
    some w11) zfuel a0 na0 a1 na1 (nI 0) w
theorem c_X12_carry {G : zG} {l : Launch} (hG : zgood G) {w : zW} {we : zW} {a0 : Nat} {na0 : Nat} {a1 : Nat} {na1 : Nat} (ha0 : shp a0 = (20, na0)) (ha1 : shp a1 = (20, na1)) (h : f_X12_carry a0 na0 a1 na1 w = some we) : zMet G l yX12_carry cX12_carry 3 none 0 [.ref (zα G a0), .ref (zα G a1)] w none we := by
  refine zMet_of (L0 := [some (.ref (zα G a0)), some (.ref (zα G a1)), none]) hG zplX12 (Nat.le_of_ble_eq_true rfl) rfl rfl (fun X hl hX hEI hEV hEA => ?_)
  subst hl
  have hX : zOk G X cX12_carry 3 RX12 0 := hX
  have hE := hEV rfl rfl
  rw [f_X12_carry] at h
  refine z_iconst 0 hX dX12_carry_0 zki0 <|
    z_istore_n 1 [some (.ref (zα G a0)), some (.ref (zα G a1)), some (.int (nI 0))] hX dX12_carry_1 (Nat.le_of_ble_eq_true rfl) rfl rfl <|
    l_X12_carry_2z hX hE (fun w11 h => ?_) _ _ _ _ _ _ _ ha0 ha1 h
  · refine z_endV 21 hE h dX12_carry_21
def f_X12_isWall (a1 : Int32) (w : zW) : Option Int32 :=
  zb (f_X12_in a1 (nI 0) ((w 129 0) - (nI 1))) fun x2 =>
  zguard (zbool x2) (
  some x2)
theorem c_X12_isWall {G : zG} {l : Launch} (hG : zgood G) {w : zW} {re : Int32} {a1 : Int32}  (h : f_X12_isWall a1 w = some re) : zMet G l yX12_isWall cX12_isWall 2 (some .boolean) 1 [.ref (zα G 128), .int a1] w (some (.int re)) w := by
  refine zMet_of (L0 := [some (.ref (zα G 128)), some (.int a1)]) hG zplX12 (Nat.le_of_ble_eq_true rfl) rfl rfl (fun X hl hX hEI hEV hEA => ?_)
  subst hl
  have hX : zOk G X cX12_isWall 2 RX12 1 := hX
  have hE := hEI _ _ rfl rfl
  rw [f_X12_isWall] at h
  refine z_iload_n 0 hX dX12_isWall_0 rfl <|
    z_iconst 1 hX dX12_isWall_1 zki0 <|
    z_aload_n 2 hX dX12_isWall_2 rfl <|
    zgX12_7 3 hX dX12_isWall_3 (rfl : shp 128 = (12, 0)) <|
    z_iconst 6 hX dX12_isWall_6 zki0 <|
    z_ialdc (j := 0) 7 hX dX12_isWall_7 (rfl : shp 129 = (20, 628)) (zink 0 628 (by decide) (by decide)) (nI_clamp (by decide)) <|
    z_iconst 8 hX dX12_isWall_8 zki1 <|
    z_isub 9 hX dX12_isWall_9 <|
    zb1 h fun x2 r1 h => zcX12_56 10 [.int a1, .int (nI 0), .int ((w 129 0) - (nI 1))] [] hX dX12_isWall_10 (c_X12_in (zgd0 hX) r1) rfl rfl rfl (Nat.le_of_ble_eq_true rfl) (Nat.le_of_ble_eq_true rfl) <|
    zgd2 h fun q3 h =>
    z_endI 13 hE (znar_bool q3) h dX12_isWall_13
def f_X12_isWord (a1 : Int32) (w : zW) : Option Int32 :=
  zb (f_X12_in a1 (nI 0) ((w 129 1) - (nI 1))) fun x2 =>
  zguard (zbool x2) (
  some x2)
theorem c_X12_isWord {G : zG} {l : Launch} (hG : zgood G) {w : zW} {re : Int32} {a1 : Int32}  (h : f_X12_isWord a1 w = some re) : zMet G l yX12_isWord cX12_isWord 2 (some .boolean) 1 [.ref (zα G 128), .int a1] w (some (.int re)) w := by
  refine zMet_of (L0 := [some (.ref (zα G 128)), some (.int a1)]) hG zplX12 (Nat.le_of_ble_eq_true rfl) rfl rfl (fun X hl hX hEI hEV hEA => ?_)
  subst hl
  have hX : zOk G X cX12_isWord 2 RX12 1 := hX
  have hE := hEI _ _ rfl rfl
  rw [f_X12_isWord] at h
  refine z_iload_n 0 hX dX12_isWord_0 rfl <|
    z_iconst 1 hX dX12_isWord_1 zki0 <|
    z_aload_n 2 hX dX12_isWord_2 rfl <|
    zgX12_7 3 hX dX12_isWord_3 (rfl : shp 128 = (12, 0)) <|
    z_iconst 6 hX dX12_isWord_6 zki1 <|
    z_ialdc (j := 1) 7 hX dX12_isWord_7 (rfl : shp 129 = (20, 628)) (zink 1 628 (by decide) (by decide)) (nI_clamp (by decide)) <|
    z_iconst 8 hX dX12_isWord_8 zki1 <|
    z_isub 9 hX dX12_isWord_9 <|
    zb1 h fun x2 r1 h => zcX12_56 10 [.int a1, .int (nI 0), .int ((w 129 1) - (nI 1))] [] hX dX12_isWord_10 (c_X12_in (zgd0 hX) r1) rfl rfl rfl (Nat.le_of_ble_eq_true rfl) (Nat.le_of_ble_eq_true rfl) <|
    zgd2 h fun q3 h =>
    z_endI 13 hE (znar_bool q3) h dX12_isWord_13
def f_X12_isLetter (a0 : Int32)  : Option Int32 :=
  zb (f_X12_in a0 (nI 1) (nI 26)) fun x2 =>
  zguard (zbool x2) (
  some x2)
theorem c_X12_isLetter {G : zG} {l : Launch} (hG : zgood G) {w : zW} {re : Int32} {a0 : Int32}  (h : f_X12_isLetter a0 = some re) : zMet G l yX12_isLetter cX12_isLetter 1 (some .boolean) 1 [.int a0] w (some (.int re)) w := by
  refine zMet_of (L0 := [some (.int a0)]) hG zplX12 (Nat.le_of_ble_eq_true rfl) rfl rfl (fun X hl hX hEI hEV hEA => ?_)
  subst hl
  have hX : zOk G X cX12_isLetter 1 RX12 1 := hX
  have hE := hEI _ _ rfl rfl
  rw [f_X12_isLetter] at h
  refine z_iload_n 0 hX dX12_isLetter_0 rfl <|
    z_iconst 1 hX dX12_isLetter_1 zki1 <|
    z_bipush 2 hX dX12_isLetter_2 zkb26 <|
    zb1 h fun x2 r1 h => zcX12_56 4 [.int a0, .int (nI 1), .int (nI 26)] [] hX dX12_isLetter_4 (c_X12_in (zgd0 hX) r1) rfl rfl rfl (Nat.le_of_ble_eq_true rfl) (Nat.le_of_ble_eq_true rfl) <|
    zgd2 h fun q3 h =>
    z_endI 7 hE (znar_bool q3) h dX12_isLetter_7
def f_X12_its (a1 : Int32) (a2 : Int32) (w : zW) : Option Int32 :=
  zld w 129 628 (((nI 8) + ((nI 27) * a1)) + a2) fun x1 =>
  some x1
theorem c_X12_its {G : zG} {l : Launch} (hG : zgood G) {w : zW} {re : Int32} {a1 : Int32} {a2 : Int32}  (h : f_X12_its a1 a2 w = some re) : zMet G l yX12_its cX12_its 3 (some .int) 0 [.ref (zα G 128), .int a1, .int a2] w (some (.int re)) w := by
  refine zMet_of (L0 := [some (.ref (zα G 128)), some (.int a1), some (.int a2)]) hG zplX12 (Nat.le_of_ble_eq_true rfl) rfl rfl (fun X hl hX hEI hEV hEA => ?_)
  subst hl
  have hX : zOk G X cX12_its 3 RX12 0 := hX
  have hE := hEI _ _ rfl rfl
  rw [f_X12_its] at h
  refine z_aload_n 0 hX dX12_its_0 rfl <|
    zgX12_7 1 hX dX12_its_1 (rfl : shp 128 = (12, 0)) <|
    z_bipush 4 hX dX12_its_4 zkb8 <|
    z_bipush 6 hX dX12_its_6 zkb27 <|
    z_iload_n 8 hX dX12_its_8 rfl <|
    z_imul 9 hX dX12_its_9 <|
    z_iadd 10 hX dX12_its_10 <|
    z_iload_n 11 hX dX12_its_11 rfl <|
    z_iadd 12 hX dX12_its_12 <|
    z_iald 13 hX dX12_its_13 (rfl : shp 129 = (20, 628)) h fun x1 _ h =>
    z_endI 14 hE rfl h dX12_its_14
def f_X12_isPlace (a1 : Int32) (a2 : Int32) (w : zW) : Option Int32 :=
  zb (f_X12_its a1 (nI 2) w) fun x2 =>
  zb (f_X12_in a2 (nI 0) (x2 - (nI 1))) fun x4 =>
  zguard (zbool x4) (
  some x4)
theorem c_X12_isPlace {G : zG} {l : Launch} (hG : zgood G) {w : zW} {re : Int32} {a1 : Int32} {a2 : Int32}  (h : f_X12_isPlace a1 a2 w = some re) : zMet G l yX12_isPlace cX12_isPlace 3 (some .boolean) 1 [.ref (zα G 128), .int a1, .int a2] w (some (.int re)) w := by
  refine zMet_of (L0 := [some (.ref (zα G 128)), some (.int a1), some (.int a2)]) hG zplX12 (Nat.le_of_ble_eq_true rfl) rfl rfl (fun X hl hX hEI hEV hEA => ?_)
  subst hl
  have hX : zOk G X cX12_isPlace 3 RX12 1 := hX
  have hE := hEI _ _ rfl rfl
  rw [f_X12_isPlace] at h
  refine z_iload_n 0 hX dX12_isPlace_0 rfl <|
    z_iconst 1 hX dX12_isPlace_1 zki0 <|
    z_aload_n 2 hX dX12_isPlace_2 rfl <|
    z_iload_n 3 hX dX12_isPlace_3 rfl <|
    z_iconst 4 hX dX12_isPlace_4 zki2 <|
    zb1 h fun x2 r1 h => zcX12_60 5 [.int a1, .int (nI 2)] [.int (nI 0), .int a2] hX dX12_isPlace_5 (c_X12_its (zgd0 hX) r1) (rfl : shp 128 = (12, 0)) rfl rfl rfl (Nat.le_of_ble_eq_true rfl) (Nat.le_of_ble_eq_true rfl) <|
    z_iconst 8 hX dX12_isPlace_8 zki1 <|
    z_isub 9 hX dX12_isPlace_9 <|
    zb1 h fun x4 r3 h => zcX12_56 10 [.int a2, .int (nI 0), .int (x2 - (nI 1))] [] hX dX12_isPlace_10 (c_X12_in (zgd0 hX) r3) rfl rfl rfl (Nat.le_of_ble_eq_true rfl) (Nat.le_of_ble_eq_true rfl) <|
    zgd2 h fun q5 h =>
    z_endI 13 hE (znar_bool q5) h dX12_isPlace_13
def f_X12_at (a1 : Int32) (a2 : Int32)  : Option Int32 :=
  some ((((nI 8) + ((nI 27) * a1)) + (nI 3)) + a2)
theorem c_X12_at {G : zG} {l : Launch} (hG : zgood G) {w : zW} {re : Int32} {a1 : Int32} {a2 : Int32}  (h : f_X12_at a1 a2 = some re) : zMet G l yX12_at cX12_at 3 (some .int) 0 [.ref (zα G 128), .int a1, .int a2] w (some (.int re)) w := by
  refine zMet_of (L0 := [some (.ref (zα G 128)), some (.int a1), some (.int a2)]) hG zplX12 (Nat.le_of_ble_eq_true rfl) rfl rfl (fun X hl hX hEI hEV hEA => ?_)
  subst hl
  have hX : zOk G X cX12_at 3 RX12 0 := hX
  have hE := hEI _ _ rfl rfl
  rw [f_X12_at] at h
  refine z_bipush 0 hX dX12_at_0 zkb8 <|
    z_bipush 2 hX dX12_at_2 zkb27 <|
    z_iload_n 4 hX dX12_at_4 rfl <|
    z_imul 5 hX dX12_at_5 <|
    z_iadd 6 hX dX12_at_6 <|
    z_iconst 7 hX dX12_at_7 zki3 <|
    z_iadd 8 hX dX12_at_8 <|
    z_iload_n 9 hX dX12_at_9 rfl <|
    z_iadd 10 hX dX12_at_10 <|
    z_endI 11 hE rfl h dX12_at_11
def f_X12_sortOf (a1 : Int32) (w : zW) : Option Int32 :=
  zld w 129 628 ((nI 170) + ((nI 8) * a1)) fun x1 =>
  some x1
theorem c_X12_sortOf {G : zG} {l : Launch} (hG : zgood G) {w : zW} {re : Int32} {a1 : Int32}  (h : f_X12_sortOf a1 w = some re) : zMet G l yX12_sortOf cX12_sortOf 2 (some .int) 0 [.ref (zα G 128), .int a1] w (some (.int re)) w := by
  refine zMet_of (L0 := [some (.ref (zα G 128)), some (.int a1)]) hG zplX12 (Nat.le_of_ble_eq_true rfl) rfl rfl (fun X hl hX hEI hEV hEA => ?_)
  subst hl
  have hX : zOk G X cX12_sortOf 2 RX12 0 := hX
  have hE := hEI _ _ rfl rfl
  rw [f_X12_sortOf] at h
  refine z_aload_n 0 hX dX12_sortOf_0 rfl <|
    zgX12_7 1 hX dX12_sortOf_1 (rfl : shp 128 = (12, 0)) <|
    z_sipush 4 hX dX12_sortOf_4 zks170 <|
    z_bipush 7 hX dX12_sortOf_7 zkb8 <|
    z_iload_n 9 hX dX12_sortOf_9 rfl <|
    z_imul 10 hX dX12_sortOf_10 <|
    z_iadd 11 hX dX12_sortOf_11 <|
    z_iald 12 hX dX12_sortOf_12 (rfl : shp 129 = (20, 628)) h fun x1 _ h =>
    z_endI 13 hE rfl h dX12_sortOf_13
def f_X12_lengthOf (a1 : Int32) (w : zW) : Option Int32 :=
  zld w 129 628 (((nI 170) + ((nI 8) * a1)) + (nI 1)) fun x1 =>
  some x1
theorem c_X12_lengthOf {G : zG} {l : Launch} (hG : zgood G) {w : zW} {re : Int32} {a1 : Int32}  (h : f_X12_lengthOf a1 w = some re) : zMet G l yX12_lengthOf cX12_lengthOf 2 (some .int) 0 [.ref (zα G 128), .int a1] w (some (.int re)) w := by
  refine zMet_of (L0 := [some (.ref (zα G 128)), some (.int a1)]) hG zplX12 (Nat.le_of_ble_eq_true rfl) rfl rfl (fun X hl hX hEI hEV hEA => ?_)
  subst hl
  have hX : zOk G X cX12_lengthOf 2 RX12 0 := hX
  have hE := hEI _ _ rfl rfl
  rw [f_X12_lengthOf] at h
  refine z_aload_n 0 hX dX12_lengthOf_0 rfl <|
    zgX12_7 1 hX dX12_lengthOf_1 (rfl : shp 128 = (12, 0)) <|
    z_sipush 4 hX dX12_lengthOf_4 zks170 <|
    z_bipush 7 hX dX12_lengthOf_7 zkb8 <|
    z_iload_n 9 hX dX12_lengthOf_9 rfl <|
    z_imul 10 hX dX12_lengthOf_10 <|
    z_iadd 11 hX dX12_lengthOf_11 <|
    z_iconst 12 hX dX12_lengthOf_12 zki1 <|
    z_iadd 13 hX dX12_lengthOf_13 <|
    z_iald 14 hX dX12_lengthOf_14 (rfl : shp 129 = (20, 628)) h fun x1 _ h =>
    z_endI 15 hE rfl h dX12_lengthOf_15
def f_X12_letterOf (a1 : Int32) (a2 : Int32) (w : zW) : Option Int32 :=
  zld w 129 628 ((((nI 170) + ((nI 8) * a1)) + (nI 2)) + a2) fun x1 =>
  some x1
theorem c_X12_letterOf {G : zG} {l : Launch} (hG : zgood G) {w : zW} {re : Int32} {a1 : Int32} {a2 : Int32}  (h : f_X12_letterOf a1 a2 w = some re) : zMet G l yX12_letterOf cX12_letterOf 3 (some .int) 0 [.ref (zα G 128), .int a1, .int a2] w (some (.int re)) w := by
  refine zMet_of (L0 := [some (.ref (zα G 128)), some (.int a1), some (.int a2)]) hG zplX12 (Nat.le_of_ble_eq_true rfl) rfl rfl (fun X hl hX hEI hEV hEA => ?_)
  subst hl
  have hX : zOk G X cX12_letterOf 3 RX12 0 := hX
  have hE := hEI _ _ rfl rfl
  rw [f_X12_letterOf] at h
  refine z_aload_n 0 hX dX12_letterOf_0 rfl <|
    zgX12_7 1 hX dX12_letterOf_1 (rfl : shp 128 = (12, 0)) <|
    z_sipush 4 hX dX12_letterOf_4 zks170 <|
    z_bipush 7 hX dX12_letterOf_7 zkb8 <|
    z_iload_n 9 hX dX12_letterOf_9 rfl <|
    z_imul 10 hX dX12_letterOf_10 <|
    z_iadd 11 hX dX12_letterOf_11 <|
    z_iconst 12 hX dX12_letterOf_12 zki2 <|
    z_iadd 13 hX dX12_letterOf_13 <|
    z_iload_n 14 hX dX12_letterOf_14 rfl <|
    z_iadd 15 hX dX12_letterOf_15 <|
    z_iald 16 hX dX12_letterOf_16 (rfl : shp 129 = (20, 628)) h fun x1 _ h =>
    z_endI 17 hE rfl h dX12_letterOf_17
def l_X12_feed_38 (K87 : zW → Option (Int32 × zW)) : Nat → Int64 → Int32 → Int32 → zW → Option (Int32 × zW)
  | 0, _, _, _, _ => none
  | n + 1, a1, a3, a4, w =>
    if a4 < a3 then
      zsto w 129 628 ((nI 544) + (w 129 4)) (((a1 >>> (((nI 8) * a4).toInt64 &&& 63)) &&& (255 : Int64)).toInt32) fun w1 =>
      zlet (zupd w1 129 4 ((w1 129 4) + (nI 1))) fun w2 =>
      zlet (a4 + nI 1) fun x2 =>
      (l_X12_feed_38 K87 n) a1 a3 x2 w2
    else
      K87 w
theorem l_X12_feed_38z {K87 : zW → Option (Int32 × zW)} {G : zG} {X : zX} {re : Int32} {we : zW} (hX : zOk G X cX12_feed 5 RX12 1) (hE : zEI G X cX12_feed .int re we) (hK87 : ∀ (w3 : zW) , K87 w3 = some (re, we) → zZ G X w3 87 [some (.ref (zα G 128)), none, none, none, none] []) : ∀ (n : Nat) (a1 : Int64) (a3 : Int32) (a4 : Int32) (w : zW) , l_X12_feed_38 K87 n a1 a3 a4 w = some (re, we) → zZ G X w 38 [some (.ref (zα G 128)), some (.long a1), none, some (.int a3), some (.int a4)] [] := by
  intro n
  induction n with
  | zero =>
    intro a1 a3 a4 w  h
    rw [l_X12_feed_38.eq_1] at h
    cases h
  | succ n ih =>
    intro a1 a3 a4 w  h
    rw [l_X12_feed_38.eq_2] at h
    refine z_iload 38 hX dX12_feed_38 rfl <|
      z_iload_n 40 hX dX12_feed_40 rfl <|
      z_icmp_ge 41 87 hX dX12_feed_41 rfl h (fun q1 h => ?_) (fun q1 h => ?_)
    · refine z_weak (L' := [some (.ref (zα G 128)), none, none, none, none]) (zsub_s (zsub_n (zsub_n (zsub_n (zsub_n zsub_0))))) <|
        hK87 _ h
    · refine z_aload_n 44 hX dX12_feed_44 rfl <|
        zgX12_7 45 hX dX12_feed_45 (rfl : shp 128 = (12, 0)) <|
        z_sipush 48 hX dX12_feed_48 zks544 <|
        z_aload_n 51 hX dX12_feed_51 rfl <|
        zgX12_7 52 hX dX12_feed_52 (rfl : shp 128 = (12, 0)) <|
        z_iconst 55 hX dX12_feed_55 zki4 <|
        z_ialdc (j := 4) 56 hX dX12_feed_56 (rfl : shp 129 = (20, 628)) (zink 4 628 (by decide) (by decide)) (nI_clamp (by decide)) <|
        z_iadd 57 hX dX12_feed_57 <|
        z_lload_n 58 hX dX12_feed_58 rfl <|
        z_bipush 59 hX dX12_feed_59 zkb8 <|
        z_iload 61 hX dX12_feed_61 rfl <|
        z_imul 63 hX dX12_feed_63 <|
        z_lshr 64 hX dX12_feed_64 <|
        z_ldc2 (v := 255) 65 hX dX12_feed_65 zw1130 <|
        z_land 68 hX dX12_feed_68 <|
        z_l2i 69 hX dX12_feed_69 <|
        z_iast 70 hX dX12_feed_70 (rfl : shp 129 = (20, 628)) h fun w1 h =>
        z_aload_n 71 hX dX12_feed_71 rfl <|
        zgX12_7 72 hX dX12_feed_72 (rfl : shp 128 = (12, 0)) <|
        z_iconst 75 hX dX12_feed_75 zki4 <|
        z_dup2 76 hX dX12_feed_76 rfl rfl <|
        z_ialdc (j := 4) 77 hX dX12_feed_77 (rfl : shp 129 = (20, 628)) (zink 4 628 (by decide) (by decide)) (nI_clamp (by decide)) <|
        z_iconst 78 hX dX12_feed_78 zki1 <|
        z_iadd 79 hX dX12_feed_79 <|
        z_iastc (j := 4) 80 hX dX12_feed_80 (rfl : shp 129 = (20, 628)) (zink 4 628 (by decide) (by decide)) (nI_clamp (by decide)) <|
        z_w h fun w2 h =>
        z_iincG 81 (fun x2 => [some (.ref (zα G 128)), some (.long a1), none, some (.int a3), some (.int x2)]) hX dX12_feed_81 rfl zki1 rfl (fun _ => rfl) h fun x2 h =>
        z_goto 84 38 hX dX12_feed_84 rfl <|
        ih _ _ _ _ h
def f_X12_feed (a1 : Int64) (a3 : Int32) (w : zW) : Option (Int32 × zW) :=
  zb (f_X12_in a3 (nI 1) (nI 8)) fun x2 =>
  if x2 = nI 0 then
    zb2 (f_X12_error (nI 1) w) fun x8 w2 =>
    some (x8, w2)
  else
  if (nI 60) < ((w 129 4) + a3) then
    zb2 (f_X12_error (nI 4) w) fun x6 w1 =>
    some (x6, w1)
  else
    l_X12_feed_38 (fun w11 =>
      some (w11 129 4, w11)) zfuel a1 a3 (nI 0) w
theorem c_X12_feed {G : zG} {l : Launch} (hG : zgood G) {w : zW} {re : Int32} {we : zW} {a1 : Int64} {a3 : Int32}  (h : f_X12_feed a1 a3 w = some (re, we)) : zMet G l yX12_feed cX12_feed 5 (some .int) 1 [.ref (zα G 128), .long a1, .int a3] w (some (.int re)) we := by
  refine zMet_of (L0 := [some (.ref (zα G 128)), some (.long a1), none, some (.int a3), none]) hG zplX12 (Nat.le_of_ble_eq_true rfl) rfl rfl (fun X hl hX hEI hEV hEA => ?_)
  subst hl
  have hX : zOk G X cX12_feed 5 RX12 1 := hX
  have hE := hEI _ _ rfl rfl
  rw [f_X12_feed] at h
  refine z_iload_n 0 hX dX12_feed_0 rfl <|
    z_iconst 1 hX dX12_feed_1 zki1 <|
    z_bipush 2 hX dX12_feed_2 zkb8 <|
    zb1 h fun x2 r1 h => zcX12_56 4 [.int a3, .int (nI 1), .int (nI 8)] [] hX dX12_feed_4 (c_X12_in (zgd0 hX) r1) rfl rfl rfl (Nat.le_of_ble_eq_true rfl) (Nat.le_of_ble_eq_true rfl) <|
    z_if_ne 7 16 hX dX12_feed_7 rfl h (fun q3 h => ?_) (fun q3 h => ?_)
  · refine z_aload_n 16 hX dX12_feed_16 rfl <|
      zgX12_7 17 hX dX12_feed_17 (rfl : shp 128 = (12, 0)) <|
      z_iconst 20 hX dX12_feed_20 zki4 <|
      z_ialdc (j := 4) 21 hX dX12_feed_21 (rfl : shp 129 = (20, 628)) (zink 4 628 (by decide) (by decide)) (nI_clamp (by decide)) <|
      z_iload_n 22 hX dX12_feed_22 rfl <|
      z_iadd 23 hX dX12_feed_23 <|
      z_bipush 24 hX dX12_feed_24 zkb60 <|
      z_icmp_le 26 35 hX dX12_feed_26 rfl h (fun q4 h => ?_) (fun q4 h => ?_)
    · refine z_iconst 35 hX dX12_feed_35 zki0 <|
        z_istore 36 [some (.ref (zα G 128)), some (.long a1), none, some (.int a3), some (.int (nI 0))] hX dX12_feed_36 (Nat.le_of_ble_eq_true rfl) rfl rfl <|
        l_X12_feed_38z hX hE (fun w11 h => ?_) _ _ _ _ _ h
      · refine z_aload_n 87 hX dX12_feed_87 rfl <|
          zgX12_7 88 hX dX12_feed_88 (rfl : shp 128 = (12, 0)) <|
          z_iconst 91 hX dX12_feed_91 zki4 <|
          z_ialdc (j := 4) 92 hX dX12_feed_92 (rfl : shp 129 = (20, 628)) (zink 4 628 (by decide) (by decide)) (nI_clamp (by decide)) <|
          z_endI2 93 hE rfl h dX12_feed_93
    · refine z_aload_n 29 hX dX12_feed_29 rfl <|
        z_iconst 30 hX dX12_feed_30 zki4 <|
        zb12 h fun x6 w1 r5 h => zcX12_64 31 [.int (nI 4)] [] hX dX12_feed_31 (c_X12_error (zgd0 hX) r5) (rfl : shp 128 = (12, 0)) rfl rfl rfl (Nat.le_of_ble_eq_true rfl) (Nat.le_of_ble_eq_true rfl) <|
        z_endI2 34 hE rfl h dX12_feed_34
  · refine z_aload_n 10 hX dX12_feed_10 rfl <|
      z_iconst 11 hX dX12_feed_11 zki1 <|
      zb12 h fun x8 w2 r7 h => zcX12_64 12 [.int (nI 1)] [] hX dX12_feed_12 (c_X12_error (zgd0 hX) r7) (rfl : shp 128 = (12, 0)) rfl rfl rfl (Nat.le_of_ble_eq_true rfl) (Nat.le_of_ble_eq_true rfl) <|
      z_endI2 15 hE rfl h dX12_feed_15
def f_X12_look  (w : zW) : Option Int32 :=
  if (w 128 4) < (w 129 4) then
    zld w 129 628 ((nI 544) + (w 128 4)) fun x2 =>
    some x2
  else
    some (mI 1)
theorem c_X12_look {G : zG} {l : Launch} (hG : zgood G) {w : zW} {re : Int32}   (h : f_X12_look w = some re) : zMet G l yX12_look cX12_look 1 (some .int) 0 [.ref (zα G 128)] w (some (.int re)) w := by
  refine zMet_of (L0 := [some (.ref (zα G 128))]) hG zplX12 (Nat.le_of_ble_eq_true rfl) rfl rfl (fun X hl hX hEI hEV hEA => ?_)
  subst hl
  have hX : zOk G X cX12_look 1 RX12 0 := hX
  have hE := hEI _ _ rfl rfl
  rw [f_X12_look] at h
  refine z_aload_n 0 hX dX12_look_0 rfl <|
    zgX12_70 1 hX dX12_look_1 (rfl : shp 128 = (12, 0)) <|
    z_aload_n 4 hX dX12_look_4 rfl <|
    zgX12_7 5 hX dX12_look_5 (rfl : shp 128 = (12, 0)) <|
    z_iconst 8 hX dX12_look_8 zki4 <|
    z_ialdc (j := 4) 9 hX dX12_look_9 (rfl : shp 129 = (20, 628)) (zink 4 628 (by decide) (by decide)) (nI_clamp (by decide)) <|
    z_icmp_ge 10 29 hX dX12_look_10 rfl h (fun q1 h => ?_) (fun q1 h => ?_)
  · refine z_iconst 29 hX dX12_look_29 zkim1 <|
      z_endI 30 hE rfl h dX12_look_30
  · refine z_aload_n 13 hX dX12_look_13 rfl <|
      zgX12_7 14 hX dX12_look_14 (rfl : shp 128 = (12, 0)) <|
      z_sipush 17 hX dX12_look_17 zks544 <|
      z_aload_n 20 hX dX12_look_20 rfl <|
      zgX12_70 21 hX dX12_look_21 (rfl : shp 128 = (12, 0)) <|
      z_iadd 24 hX dX12_look_24 <|
      z_iald 25 hX dX12_look_25 (rfl : shp 129 = (20, 628)) h fun x2 _ h =>
      z_goto 26 30 hX dX12_look_26 rfl <|
      z_endI 30 hE rfl h dX12_look_30
def j_X12_isName_53 (w : zW)   : Option Int32 :=
  some (nI 1)
theorem j_X12_isName_53z {G : zG} {X : zX} {w : zW} {re : Int32}  (hX : zOk G X cX12_isName 2 RX12 0) (hE : zEI G X cX12_isName .boolean re w)  (h : j_X12_isName_53 w = some re) : zZ G X w 53 [none, none] [] := by
  rw [j_X12_isName_53] at h
  refine z_iconst 53 hX dX12_isName_53 zki1 <|
    z_goto 54 58 hX dX12_isName_54 rfl <|
    z_endI 58 hE (znar_bool (by decide)) h dX12_isName_58
def j_X12_isName_33 (w : zW)   : Option Int32 :=
  some (nI 1)
theorem j_X12_isName_33z {G : zG} {X : zX} {w : zW} {re : Int32}  (hX : zOk G X cX12_isName 2 RX12 0) (hE : zEI G X cX12_isName .boolean re w)  (h : j_X12_isName_33 w = some re) : zZ G X w 33 [none, none] [] := by
  rw [j_X12_isName_33] at h
  refine z_iconst 33 hX dX12_isName_33 zki1 <|
    z_goto 34 58 hX dX12_isName_34 rfl <|
    z_endI 58 hE (znar_bool (by decide)) h dX12_isName_58
def f_X12_isName (a1 : Int32) (w : zW) : Option Int32 :=
  if a1 = (nI 108) then
    some (nI 1)
  else
  if (w 128 7) = nI 0 then
    if a1 = (nI 105) then
      j_X12_isName_33 w
    else
    if a1 = (nI 110) then
      j_X12_isName_33 w
    else
    if a1 = (nI 109) then
      j_X12_isName_33 w
    else
      some (nI 0)
  else
  if a1 = (nI 115) then
    j_X12_isName_53 w
  else
  if a1 = (nI 104) then
    j_X12_isName_53 w
  else
    some (nI 0)
theorem c_X12_isName {G : zG} {l : Launch} (hG : zgood G) {w : zW} {re : Int32} {a1 : Int32}  (h : f_X12_isName a1 w = some re) : zMet G l yX12_isName cX12_isName 2 (some .boolean) 0 [.ref (zα G 128), .int a1] w (some (.int re)) w := by
  refine zMet_of (L0 := [some (.ref (zα G 128)), some (.int a1)]) hG zplX12 (Nat.le_of_ble_eq_true rfl) rfl rfl (fun X hl hX hEI hEV hEA => ?_)
  subst hl
  have hX : zOk G X cX12_isName 2 RX12 0 := hX
  have hE := hEI _ _ rfl rfl
  rw [f_X12_isName] at h
  refine z_iload_n 0 hX dX12_isName_0 rfl <|
    z_bipush 1 hX dX12_isName_1 zkb108 <|
    z_icmp_ne 3 8 hX dX12_isName_3 rfl h (fun q1 h => ?_) (fun q1 h => ?_)
  · refine z_aload_n 8 hX dX12_isName_8 rfl <|
      zgX12_74 9 hX dX12_isName_9 (rfl : shp 128 = (12, 0)) <|
      z_if_ne 12 41 hX dX12_isName_12 rfl h (fun q2 h => ?_) (fun q2 h => ?_)
    · refine z_iload_n 41 hX dX12_isName_41 rfl <|
        z_bipush 42 hX dX12_isName_42 zkb115 <|
        z_icmp_eq 44 53 hX dX12_isName_44 rfl h (fun q3 h => ?_) (fun q3 h => ?_)
      · refine z_weak (L' := [none, none]) (zsub_n (zsub_n zsub_0)) <|
          j_X12_isName_53z hX hE h
      · refine z_iload_n 47 hX dX12_isName_47 rfl <|
          z_bipush 48 hX dX12_isName_48 zkb104 <|
          z_icmp_ne 50 57 hX dX12_isName_50 rfl h (fun q4 h => ?_) (fun q4 h => ?_)
        · refine z_iconst 57 hX dX12_isName_57 zki0 <|
            z_endI 58 hE (znar_bool (by decide)) h dX12_isName_58
        · refine z_weak (L' := [none, none]) (zsub_n (zsub_n zsub_0)) <|
            j_X12_isName_53z hX hE h
    · refine z_iload_n 15 hX dX12_isName_15 rfl <|
        z_bipush 16 hX dX12_isName_16 zkb105 <|
        z_icmp_eq 18 33 hX dX12_isName_18 rfl h (fun q5 h => ?_) (fun q5 h => ?_)
      · refine z_weak (L' := [none, none]) (zsub_n (zsub_n zsub_0)) <|
          j_X12_isName_33z hX hE h
      · refine z_iload_n 21 hX dX12_isName_21 rfl <|
          z_bipush 22 hX dX12_isName_22 zkb110 <|
          z_icmp_eq 24 33 hX dX12_isName_24 rfl h (fun q6 h => ?_) (fun q6 h => ?_)
        · refine z_weak (L' := [none, none]) (zsub_n (zsub_n zsub_0)) <|
            j_X12_isName_33z hX hE h
        · refine z_iload_n 27 hX dX12_isName_27 rfl <|
            z_bipush 28 hX dX12_isName_28 zkb109 <|
            z_icmp_ne 30 37 hX dX12_isName_30 rfl h (fun q7 h => ?_) (fun q7 h => ?_)
          · refine z_iconst 37 hX dX12_isName_37 zki0 <|
              z_goto 38 58 hX dX12_isName_38 rfl <|
              z_endI 58 hE (znar_bool (by decide)) h dX12_isName_58
          · refine z_weak (L' := [none, none]) (zsub_n (zsub_n zsub_0)) <|
              j_X12_isName_33z hX hE h
  · refine z_iconst 6 hX dX12_isName_6 zki1 <|
      z_endI 7 hE (znar_bool (by decide)) h dX12_isName_7
def f_X12_lays (a1 : Int32) (a2 : Int32) (w : zW) : Option zW :=
  zsto w 132 124 ((nI 2) * (w 128 6)) a1 fun w1 =>
  zsto w1 132 124 (((nI 2) * (w1 128 6)) + (nI 1)) a2 fun w2 =>
  zlet (zupd w2 128 6 ((w2 128 6) + (nI 1))) fun w3 =>
  some w3
theorem c_X12_lays {G : zG} {l : Launch} (hG : zgood G) {w : zW} {we : zW} {a1 : Int32} {a2 : Int32}  (h : f_X12_lays a1 a2 w = some we) : zMet G l yX12_lays cX12_lays 3 none 0 [.ref (zα G 128), .int a1, .int a2] w none we := by
  refine zMet_of (L0 := [some (.ref (zα G 128)), some (.int a1), some (.int a2)]) hG zplX12 (Nat.le_of_ble_eq_true rfl) rfl rfl (fun X hl hX hEI hEV hEA => ?_)
  subst hl
  have hX : zOk G X cX12_lays 3 RX12 0 := hX
  have hE := hEV rfl rfl
  rw [f_X12_lays] at h
  refine z_aload_n 0 hX dX12_lays_0 rfl <|
    zgX12_19 1 hX dX12_lays_1 (rfl : shp 128 = (12, 0)) <|
    z_iconst 4 hX dX12_lays_4 zki2 <|
    z_aload_n 5 hX dX12_lays_5 rfl <|
    zgX12_77 6 hX dX12_lays_6 (rfl : shp 128 = (12, 0)) <|
    z_imul 9 hX dX12_lays_9 <|
    z_iload_n 10 hX dX12_lays_10 rfl <|
    z_iast 11 hX dX12_lays_11 (rfl : shp 132 = (20, 124)) h fun w1 h =>
    z_aload_n 12 hX dX12_lays_12 rfl <|
    zgX12_19 13 hX dX12_lays_13 (rfl : shp 128 = (12, 0)) <|
    z_iconst 16 hX dX12_lays_16 zki2 <|
    z_aload_n 17 hX dX12_lays_17 rfl <|
    zgX12_77 18 hX dX12_lays_18 (rfl : shp 128 = (12, 0)) <|
    z_imul 21 hX dX12_lays_21 <|
    z_iconst 22 hX dX12_lays_22 zki1 <|
    z_iadd 23 hX dX12_lays_23 <|
    z_iload_n 24 hX dX12_lays_24 rfl <|
    z_iast 25 hX dX12_lays_25 (rfl : shp 132 = (20, 124)) h fun w2 h =>
    z_aload_n 26 hX dX12_lays_26 rfl <|
    z_dup 27 hX dX12_lays_27 rfl <|
    zgX12_77 28 hX dX12_lays_28 (rfl : shp 128 = (12, 0)) <|
    z_iconst 31 hX dX12_lays_31 zki1 <|
    z_iadd 32 hX dX12_lays_32 <|
    zpX12_77 33 hX dX12_lays_33 (rfl : shp 128 = (12, 0)) <|
    z_w h fun w3 h =>
    z_endV 36 hE h dX12_lays_36
def f_X12_opens  (w : zW) : Option (Int32 × zW) :=
  if (w 128 5) = (nI 5) then
    some (nI 0, w)
  else
    zlet (zupd w 128 5 ((w 128 5) + (nI 1))) fun w1 =>
    zlet (zupd w1 128 4 ((w1 128 4) + (nI 1))) fun w2 =>
    some (nI 1, w2)
theorem c_X12_opens {G : zG} {l : Launch} (hG : zgood G) {w : zW} {re : Int32} {we : zW}   (h : f_X12_opens w = some (re, we)) : zMet G l yX12_opens cX12_opens 1 (some .boolean) 0 [.ref (zα G 128)] w (some (.int re)) we := by
  refine zMet_of (L0 := [some (.ref (zα G 128))]) hG zplX12 (Nat.le_of_ble_eq_true rfl) rfl rfl (fun X hl hX hEI hEV hEA => ?_)
  subst hl
  have hX : zOk G X cX12_opens 1 RX12 0 := hX
  have hE := hEI _ _ rfl rfl
  rw [f_X12_opens] at h
  refine z_aload_n 0 hX dX12_opens_0 rfl <|
    zgX12_104 1 hX dX12_opens_1 (rfl : shp 128 = (12, 0)) <|
    z_iconst 4 hX dX12_opens_4 zki5 <|
    z_icmp_ne 5 10 hX dX12_opens_5 rfl h (fun q1 h => ?_) (fun q1 h => ?_)
  · refine z_aload_n 10 hX dX12_opens_10 rfl <|
      z_dup 11 hX dX12_opens_11 rfl <|
      zgX12_104 12 hX dX12_opens_12 (rfl : shp 128 = (12, 0)) <|
      z_iconst 15 hX dX12_opens_15 zki1 <|
      z_iadd 16 hX dX12_opens_16 <|
      zpX12_104 17 hX dX12_opens_17 (rfl : shp 128 = (12, 0)) <|
      z_w h fun w1 h =>
      z_aload_n 20 hX dX12_opens_20 rfl <|
      z_dup 21 hX dX12_opens_21 rfl <|
      zgX12_70 22 hX dX12_opens_22 (rfl : shp 128 = (12, 0)) <|
      z_iconst 25 hX dX12_opens_25 zki1 <|
      z_iadd 26 hX dX12_opens_26 <|
      zpX12_70 27 hX dX12_opens_27 (rfl : shp 128 = (12, 0)) <|
      z_w h fun w2 h =>
      z_iconst 30 hX dX12_opens_30 zki1 <|
      z_endI2 31 hE (znar_bool (by decide)) h dX12_opens_31
  · refine z_iconst 8 hX dX12_opens_8 zki0 <|
      z_endI2 9 hE (znar_bool (by decide)) h dX12_opens_9
abbrev zrec_X12_whole (G : zG) (l : Launch) (F : Nat → zW → Option (Int32 × zW)) (hd : Nat) : Prop :=
  (∀ {w we : zW} {re : Int32}, F 0 w = some (re, we) → zMet G l yX12_whole cX12_whole 1 (some .boolean) hd [.ref (zα G 128)] w (some (.int re)) we) ∧
  (∀ {w we : zW} {re : Int32}, F 1 w = some (re, we) → zMet G l yX12_both cX12_both 1 (some .boolean) hd [.ref (zα G 128)] w (some (.int re)) we) ∧
  (∀ {w we : zW} {re : Int32}, F 2 w = some (re, we) → zMet G l yX12_compared cX12_compared 2 (some .boolean) hd [.ref (zα G 128)] w (some (.int re)) we) ∧
  (∀ {w we : zW} {re : Int32}, F 3 w = some (re, we) → zMet G l yX12_sum cX12_sum 2 (some .boolean) hd [.ref (zα G 128)] w (some (.int re)) we) ∧
  (∀ {w we : zW} {re : Int32}, F 4 w = some (re, we) → zMet G l yX12_product cX12_product 2 (some .boolean) hd [.ref (zα G 128)] w (some (.int re)) we) ∧
  (∀ {w we : zW} {re : Int32}, F 5 w = some (re, we) → zMet G l yX12_one cX12_one 4 (some .boolean) hd [.ref (zα G 128)] w (some (.int re)) we)
def l_X12_whole_9 (F : Nat → zW → Option (Int32 × zW)) (K35 : zW → Option (Int32 × zW)) (K47 : zW → Option (Int32 × zW)) : Nat → zW → Option (Int32 × zW)
  | 0, _ => none
  | n + 1, w =>
    zb (f_X12_look w) fun x2 =>
    if x2 = (nI 124) then
      zlet (zupd w 128 4 ((w 128 4) + (nI 1))) fun w1 =>
      zb2 (F 1 w1) fun x5 w2 =>
      if x5 = nI 0 then
        K35 w2
      else
        zb (f_X12_lays (nI 3) (nI 124) w2) fun w3 =>
        (l_X12_whole_9 F K35 K47 n) w3
    else
      K47 w
theorem l_X12_whole_9z {F : Nat → zW → Option (Int32 × zW)} {K35 : zW → Option (Int32 × zW)} {K47 : zW → Option (Int32 × zW)} {G : zG} {X : zX} {re : Int32} {we : zW} (hd : Nat) (hb : 1 ≤ hd) (hF : zrec_X12_whole G X.2.1 F hd) (hX : zOk G X cX12_whole 1 RX12 (hd + 1)) (hE : zEI G X cX12_whole .boolean re we) (hK35 : ∀ (w3 : zW) , K35 w3 = some (re, we) → zZ G X w3 35 [none] []) (hK47 : ∀ (w3 : zW) , K47 w3 = some (re, we) → zZ G X w3 47 [none] []) : ∀ (n : Nat)  (w : zW) , l_X12_whole_9 F K35 K47 n w = some (re, we) → zZ G X w 9 [some (.ref (zα G 128))] [] := by
  intro n
  induction n with
  | zero =>
    intro w  h
    rw [l_X12_whole_9.eq_1] at h
    cases h
  | succ n ih =>
    intro w  h
    rw [l_X12_whole_9.eq_2] at h
    refine z_aload_n 9 hX dX12_whole_9 rfl <|
      zb1 h fun x2 r1 h => zcX12_84 10 [] [] hX dX12_whole_10 (c_X12_look (zgd0 hX) r1) (rfl : shp 128 = (12, 0)) rfl rfl rfl (Nat.le_of_ble_eq_true rfl) (by omega) <|
      z_bipush 13 hX dX12_whole_13 zkb124 <|
      z_icmp_ne 15 47 hX dX12_whole_15 rfl h (fun q3 h => ?_) (fun q3 h => ?_)
    · refine z_weak (L' := [none]) (zsub_n zsub_0) <|
        hK47 _ h
    · refine z_aload_n 18 hX dX12_whole_18 rfl <|
        z_dup 19 hX dX12_whole_19 rfl <|
        zgX12_70 20 hX dX12_whole_20 (rfl : shp 128 = (12, 0)) <|
        z_iconst 23 hX dX12_whole_23 zki1 <|
        z_iadd 24 hX dX12_whole_24 <|
        zpX12_70 25 hX dX12_whole_25 (rfl : shp 128 = (12, 0)) <|
        z_w h fun w1 h =>
        z_aload_n 28 hX dX12_whole_28 rfl <|
        zb12 h fun x5 w2 r4 h => zcX12_80 29 [] [] hX dX12_whole_29 (hF.2.1 r4) (rfl : shp 128 = (12, 0)) rfl rfl rfl (Nat.le_of_ble_eq_true rfl) (by omega) <|
        z_if_ne 32 37 hX dX12_whole_32 rfl h (fun q6 h => ?_) (fun q6 h => ?_)
      · refine z_aload_n 37 hX dX12_whole_37 rfl <|
          z_iconst 38 hX dX12_whole_38 zki3 <|
          z_bipush 39 hX dX12_whole_39 zkb124 <|
          zb1 h fun w3 r7 h => zcX12_88 41 [.int (nI 3), .int (nI 124)] [] hX dX12_whole_41 (c_X12_lays (zgd0 hX) r7) (rfl : shp 128 = (12, 0)) rfl rfl rfl (Nat.le_of_ble_eq_true rfl) (by omega) <|
          z_goto 44 9 hX dX12_whole_44 rfl <|
          ih _ h
      · refine z_weak (L' := [none]) (zsub_n zsub_0) <|
          hK35 _ h
def b_X12_whole (F : Nat → zW → Option (Int32 × zW))  (w : zW) : Option (Int32 × zW) :=
  zb2 (F 1 w) fun x2 w1 =>
  if x2 = nI 0 then
    some (nI 0, w1)
  else
    l_X12_whole_9 F (fun w12 =>
      some (nI 0, w12)) (fun w22 =>
      some (nI 1, w22)) zfuel w1
theorem cb_X12_whole {F : Nat → zW → Option (Int32 × zW)} {G : zG} {l : Launch} (hG : zgood G) {w : zW} {re : Int32} {we : zW}  (hd : Nat) (hb : 1 ≤ hd) (hF : zrec_X12_whole G l F hd)  (h : b_X12_whole F w = some (re, we)) : zMet G l yX12_whole cX12_whole 1 (some .boolean) (hd + 1) [.ref (zα G 128)] w (some (.int re)) we := by
  refine zMet_of (L0 := [some (.ref (zα G 128))]) hG zplX12 (Nat.le_of_ble_eq_true rfl) rfl rfl (fun X hl hX hEI hEV hEA => ?_)
  subst hl
  have hX : zOk G X cX12_whole 1 RX12 (hd + 1) := hX
  have hE := hEI _ _ rfl rfl
  rw [b_X12_whole] at h
  refine z_aload_n 0 hX dX12_whole_0 rfl <|
    zb12 h fun x2 w1 r1 h => zcX12_80 1 [] [] hX dX12_whole_1 (hF.2.1 r1) (rfl : shp 128 = (12, 0)) rfl rfl rfl (Nat.le_of_ble_eq_true rfl) (by omega) <|
    z_if_ne 4 9 hX dX12_whole_4 rfl h (fun q3 h => ?_) (fun q3 h => ?_)
  · refine l_X12_whole_9z hd hb hF hX hE (fun w12 h => ?_) (fun w22 h => ?_) _ _ h
    · refine z_iconst 35 hX dX12_whole_35 zki0 <|
        z_endI2 36 hE (znar_bool (by decide)) h dX12_whole_36
    · refine z_iconst 47 hX dX12_whole_47 zki1 <|
        z_endI2 48 hE (znar_bool (by decide)) h dX12_whole_48
  · refine z_iconst 7 hX dX12_whole_7 zki0 <|
      z_endI2 8 hE (znar_bool (by decide)) h dX12_whole_8
def l_X12_both_9 (F : Nat → zW → Option (Int32 × zW)) (K35 : zW → Option (Int32 × zW)) (K47 : zW → Option (Int32 × zW)) : Nat → zW → Option (Int32 × zW)
  | 0, _ => none
  | n + 1, w =>
    zb (f_X12_look w) fun x2 =>
    if x2 = (nI 38) then
      zlet (zupd w 128 4 ((w 128 4) + (nI 1))) fun w1 =>
      zb2 (F 2 w1) fun x5 w2 =>
      if x5 = nI 0 then
        K35 w2
      else
        zb (f_X12_lays (nI 3) (nI 38) w2) fun w3 =>
        (l_X12_both_9 F K35 K47 n) w3
    else
      K47 w
theorem l_X12_both_9z {F : Nat → zW → Option (Int32 × zW)} {K35 : zW → Option (Int32 × zW)} {K47 : zW → Option (Int32 × zW)} {G : zG} {X : zX} {re : Int32} {we : zW} (hd : Nat) (hb : 1 ≤ hd) (hF : zrec_X12_whole G X.2.1 F hd) (hX : zOk G X cX12_both 1 RX12 (hd + 1)) (hE : zEI G X cX12_both .boolean re we) (hK35 : ∀ (w3 : zW) , K35 w3 = some (re, we) → zZ G X w3 35 [none] []) (hK47 : ∀ (w3 : zW) , K47 w3 = some (re, we) → zZ G X w3 47 [none] []) : ∀ (n : Nat)  (w : zW) , l_X12_both_9 F K35 K47 n w = some (re, we) → zZ G X w 9 [some (.ref (zα G 128))] [] := by
  intro n
  induction n with
  | zero =>
    intro w  h
    rw [l_X12_both_9.eq_1] at h
    cases h
  | succ n ih =>
    intro w  h
    rw [l_X12_both_9.eq_2] at h
    refine z_aload_n 9 hX dX12_both_9 rfl <|
      zb1 h fun x2 r1 h => zcX12_84 10 [] [] hX dX12_both_10 (c_X12_look (zgd0 hX) r1) (rfl : shp 128 = (12, 0)) rfl rfl rfl (Nat.le_of_ble_eq_true rfl) (by omega) <|
      z_bipush 13 hX dX12_both_13 zkb38 <|
      z_icmp_ne 15 47 hX dX12_both_15 rfl h (fun q3 h => ?_) (fun q3 h => ?_)
    · refine z_weak (L' := [none]) (zsub_n zsub_0) <|
        hK47 _ h
    · refine z_aload_n 18 hX dX12_both_18 rfl <|
        z_dup 19 hX dX12_both_19 rfl <|
        zgX12_70 20 hX dX12_both_20 (rfl : shp 128 = (12, 0)) <|
        z_iconst 23 hX dX12_both_23 zki1 <|
        z_iadd 24 hX dX12_both_24 <|
        zpX12_70 25 hX dX12_both_25 (rfl : shp 128 = (12, 0)) <|
        z_w h fun w1 h =>
        z_aload_n 28 hX dX12_both_28 rfl <|
        zb12 h fun x5 w2 r4 h => zcX12_92 29 [] [] hX dX12_both_29 (hF.2.2.1 r4) (rfl : shp 128 = (12, 0)) rfl rfl rfl (Nat.le_of_ble_eq_true rfl) (by omega) <|
        z_if_ne 32 37 hX dX12_both_32 rfl h (fun q6 h => ?_) (fun q6 h => ?_)
      · refine z_aload_n 37 hX dX12_both_37 rfl <|
          z_iconst 38 hX dX12_both_38 zki3 <|
          z_bipush 39 hX dX12_both_39 zkb38 <|
          zb1 h fun w3 r7 h => zcX12_88 41 [.int (nI 3), .int (nI 38)] [] hX dX12_both_41 (c_X12_lays (zgd0 hX) r7) (rfl : shp 128 = (12, 0)) rfl rfl rfl (Nat.le_of_ble_eq_true rfl) (by omega) <|
          z_goto 44 9 hX dX12_both_44 rfl <|
          ih _ h
      · refine z_weak (L' := [none]) (zsub_n zsub_0) <|
          hK35 _ h
def b_X12_both (F : Nat → zW → Option (Int32 × zW))  (w : zW) : Option (Int32 × zW) :=
  zb2 (F 2 w) fun x2 w1 =>
  if x2 = nI 0 then
    some (nI 0, w1)
  else
    l_X12_both_9 F (fun w12 =>
      some (nI 0, w12)) (fun w22 =>
      some (nI 1, w22)) zfuel w1
theorem cb_X12_both {F : Nat → zW → Option (Int32 × zW)} {G : zG} {l : Launch} (hG : zgood G) {w : zW} {re : Int32} {we : zW}  (hd : Nat) (hb : 1 ≤ hd) (hF : zrec_X12_whole G l F hd)  (h : b_X12_both F w = some (re, we)) : zMet G l yX12_both cX12_both 1 (some .boolean) (hd + 1) [.ref (zα G 128)] w (some (.int re)) we := by
  refine zMet_of (L0 := [some (.ref (zα G 128))]) hG zplX12 (Nat.le_of_ble_eq_true rfl) rfl rfl (fun X hl hX hEI hEV hEA => ?_)
  subst hl
  have hX : zOk G X cX12_both 1 RX12 (hd + 1) := hX
  have hE := hEI _ _ rfl rfl
  rw [b_X12_both] at h
  refine z_aload_n 0 hX dX12_both_0 rfl <|
    zb12 h fun x2 w1 r1 h => zcX12_92 1 [] [] hX dX12_both_1 (hF.2.2.1 r1) (rfl : shp 128 = (12, 0)) rfl rfl rfl (Nat.le_of_ble_eq_true rfl) (by omega) <|
    z_if_ne 4 9 hX dX12_both_4 rfl h (fun q3 h => ?_) (fun q3 h => ?_)
  · refine l_X12_both_9z hd hb hF hX hE (fun w12 h => ?_) (fun w22 h => ?_) _ _ h
    · refine z_iconst 35 hX dX12_both_35 zki0 <|
        z_endI2 36 hE (znar_bool (by decide)) h dX12_both_36
    · refine z_iconst 47 hX dX12_both_47 zki1 <|
        z_endI2 48 hE (znar_bool (by decide)) h dX12_both_48
  · refine z_iconst 7 hX dX12_both_7 zki0 <|
      z_endI2 8 hE (znar_bool (by decide)) h dX12_both_8
def j_X12_compared_34 (F : Nat → zW → Option (Int32 × zW)) (a1 : Int32) (w : zW) : Option (Int32 × zW) :=
  zlet (zupd w 128 4 ((w 128 4) + (nI 1))) fun w1 =>
  zb2 (F 3 w1) fun x2 w2 =>
  if x2 = nI 0 then
    some (nI 0, w2)
  else
    zb (f_X12_lays (nI 3) a1 w2) fun w3 =>
    some (nI 1, w3)
theorem j_X12_compared_34z {F : Nat → zW → Option (Int32 × zW)} {G : zG} {X : zX} {w : zW} {re : Int32} {we : zW} {a1 : Int32} (hd : Nat) (hb : 1 ≤ hd) (hF : zrec_X12_whole G X.2.1 F hd) (hX : zOk G X cX12_compared 2 RX12 (hd + 1)) (hE : zEI G X cX12_compared .boolean re we)  (h : j_X12_compared_34 F a1 w = some (re, we)) : zZ G X w 34 [some (.ref (zα G 128)), some (.int a1)] [] := by
  rw [j_X12_compared_34] at h
  refine z_aload_n 34 hX dX12_compared_34 rfl <|
    z_dup 35 hX dX12_compared_35 rfl <|
    zgX12_70 36 hX dX12_compared_36 (rfl : shp 128 = (12, 0)) <|
    z_iconst 39 hX dX12_compared_39 zki1 <|
    z_iadd 40 hX dX12_compared_40 <|
    zpX12_70 41 hX dX12_compared_41 (rfl : shp 128 = (12, 0)) <|
    z_w h fun w1 h =>
    z_aload_n 44 hX dX12_compared_44 rfl <|
    zb12 h fun x2 w2 r1 h => zcX12_95 45 [] [] hX dX12_compared_45 (hF.2.2.2.1 r1) (rfl : shp 128 = (12, 0)) rfl rfl rfl (Nat.le_of_ble_eq_true rfl) (by omega) <|
    z_if_ne 48 53 hX dX12_compared_48 rfl h (fun q3 h => ?_) (fun q3 h => ?_)
  · refine z_aload_n 53 hX dX12_compared_53 rfl <|
      z_iconst 54 hX dX12_compared_54 zki3 <|
      z_iload_n 55 hX dX12_compared_55 rfl <|
      zb1 h fun w3 r4 h => zcX12_88 56 [.int (nI 3), .int a1] [] hX dX12_compared_56 (c_X12_lays (zgd0 hX) r4) (rfl : shp 128 = (12, 0)) rfl rfl rfl (Nat.le_of_ble_eq_true rfl) (by omega) <|
      z_iconst 59 hX dX12_compared_59 zki1 <|
      z_endI2 60 hE (znar_bool (by decide)) h dX12_compared_60
  · refine z_iconst 51 hX dX12_compared_51 zki0 <|
      z_endI2 52 hE (znar_bool (by decide)) h dX12_compared_52
def b_X12_compared (F : Nat → zW → Option (Int32 × zW))  (w : zW) : Option (Int32 × zW) :=
  zb2 (F 3 w) fun x2 w1 =>
  if x2 = nI 0 then
    some (nI 0, w1)
  else
    zb (f_X12_look w1) fun x5 =>
    if x5 = (nI 60) then
      j_X12_compared_34 F x5 w1
    else
    if x5 = (nI 61) then
      j_X12_compared_34 F x5 w1
    else
    if x5 = (nI 62) then
      j_X12_compared_34 F x5 w1
    else
      some (nI 1, w1)
theorem cb_X12_compared {F : Nat → zW → Option (Int32 × zW)} {G : zG} {l : Launch} (hG : zgood G) {w : zW} {re : Int32} {we : zW}  (hd : Nat) (hb : 1 ≤ hd) (hF : zrec_X12_whole G l F hd)  (h : b_X12_compared F w = some (re, we)) : zMet G l yX12_compared cX12_compared 2 (some .boolean) (hd + 1) [.ref (zα G 128)] w (some (.int re)) we := by
  refine zMet_of (L0 := [some (.ref (zα G 128)), none]) hG zplX12 (Nat.le_of_ble_eq_true rfl) rfl rfl (fun X hl hX hEI hEV hEA => ?_)
  subst hl
  have hX : zOk G X cX12_compared 2 RX12 (hd + 1) := hX
  have hE := hEI _ _ rfl rfl
  rw [b_X12_compared] at h
  refine z_aload_n 0 hX dX12_compared_0 rfl <|
    zb12 h fun x2 w1 r1 h => zcX12_95 1 [] [] hX dX12_compared_1 (hF.2.2.2.1 r1) (rfl : shp 128 = (12, 0)) rfl rfl rfl (Nat.le_of_ble_eq_true rfl) (by omega) <|
    z_if_ne 4 9 hX dX12_compared_4 rfl h (fun q3 h => ?_) (fun q3 h => ?_)
  · refine z_aload_n 9 hX dX12_compared_9 rfl <|
      zb1 h fun x5 r4 h => zcX12_84 10 [] [] hX dX12_compared_10 (c_X12_look (zgd0 hX) r4) (rfl : shp 128 = (12, 0)) rfl rfl rfl (Nat.le_of_ble_eq_true rfl) (by omega) <|
      z_istore_n 13 [some (.ref (zα G 128)), some (.int x5)] hX dX12_compared_13 (Nat.le_of_ble_eq_true rfl) rfl rfl <|
      z_iload_n 14 hX dX12_compared_14 rfl <|
      z_bipush 15 hX dX12_compared_15 zkb60 <|
      z_icmp_eq 17 34 hX dX12_compared_17 rfl h (fun q6 h => ?_) (fun q6 h => ?_)
    · refine j_X12_compared_34z hd hb hF hX hE h
    · refine z_iload_n 20 hX dX12_compared_20 rfl <|
        z_bipush 21 hX dX12_compared_21 zkb61 <|
        z_icmp_eq 23 34 hX dX12_compared_23 rfl h (fun q7 h => ?_) (fun q7 h => ?_)
      · refine j_X12_compared_34z hd hb hF hX hE h
      · refine z_iload_n 26 hX dX12_compared_26 rfl <|
          z_bipush 27 hX dX12_compared_27 zkb62 <|
          z_icmp_eq 29 34 hX dX12_compared_29 rfl h (fun q8 h => ?_) (fun q8 h => ?_)
        · refine j_X12_compared_34z hd hb hF hX hE h
        · refine z_iconst 32 hX dX12_compared_32 zki1 <|
            z_endI2 33 hE (znar_bool (by decide)) h dX12_compared_33
  · refine z_iconst 7 hX dX12_compared_7 zki0 <|
      z_endI2 8 hE (znar_bool (by decide)) h dX12_compared_8
def j_X12_sum_27 (F : Nat → zW → Option (Int32 × zW)) (rc : zW → Option (Int32 × zW)) (K49 : zW → Option (Int32 × zW)) (K60 : zW → Option (Int32 × zW))  (w : zW) : Option (Int32 × zW) :=
  zb (f_X12_look w) fun x2 =>
  zlet (zupd w 128 4 ((w 128 4) + (nI 1))) fun w1 =>
  zb2 (F 4 w1) fun x4 w2 =>
  if x4 = nI 0 then
    K49 w2
  else
    zb (f_X12_lays (nI 3) x2 w2) fun w3 =>
    rc w3
theorem j_X12_sum_27z {F : Nat → zW → Option (Int32 × zW)} {rc : zW → Option (Int32 × zW)} {K49 : zW → Option (Int32 × zW)} {K60 : zW → Option (Int32 × zW)} {G : zG} {X : zX} {w : zW} {re : Int32} {we : zW}  (hd : Nat) (hb : 1 ≤ hd) (hF : zrec_X12_whole G X.2.1 F hd) (hX : zOk G X cX12_sum 2 RX12 (hd + 1)) (hE : zEI G X cX12_sum .boolean re we) (hrc : ∀ (w3 : zW) , rc w3 = some (re, we) → zZ G X w3 9 [some (.ref (zα G 128)), none] []) (hK49 : ∀ (w3 : zW) , K49 w3 = some (re, we) → zZ G X w3 49 [none, none] []) (hK60 : ∀ (w3 : zW) , K60 w3 = some (re, we) → zZ G X w3 60 [none, none] [])  (h : j_X12_sum_27 F rc K49 K60 w = some (re, we)) : zZ G X w 27 [some (.ref (zα G 128)), none] [] := by
  rw [j_X12_sum_27] at h
  refine z_aload_n 27 hX dX12_sum_27 rfl <|
    zb1 h fun x2 r1 h => zcX12_84 28 [] [] hX dX12_sum_28 (c_X12_look (zgd0 hX) r1) (rfl : shp 128 = (12, 0)) rfl rfl rfl (Nat.le_of_ble_eq_true rfl) (by omega) <|
    z_istore_n 31 [some (.ref (zα G 128)), some (.int x2)] hX dX12_sum_31 (Nat.le_of_ble_eq_true rfl) rfl rfl <|
    z_aload_n 32 hX dX12_sum_32 rfl <|
    z_dup 33 hX dX12_sum_33 rfl <|
    zgX12_70 34 hX dX12_sum_34 (rfl : shp 128 = (12, 0)) <|
    z_iconst 37 hX dX12_sum_37 zki1 <|
    z_iadd 38 hX dX12_sum_38 <|
    zpX12_70 39 hX dX12_sum_39 (rfl : shp 128 = (12, 0)) <|
    z_w h fun w1 h =>
    z_aload_n 42 hX dX12_sum_42 rfl <|
    zb12 h fun x4 w2 r3 h => zcX12_98 43 [] [] hX dX12_sum_43 (hF.2.2.2.2.1 r3) (rfl : shp 128 = (12, 0)) rfl rfl rfl (Nat.le_of_ble_eq_true rfl) (by omega) <|
    z_if_ne 46 51 hX dX12_sum_46 rfl h (fun q5 h => ?_) (fun q5 h => ?_)
  · refine z_aload_n 51 hX dX12_sum_51 rfl <|
      z_iconst 52 hX dX12_sum_52 zki3 <|
      z_iload_n 53 hX dX12_sum_53 rfl <|
      zb1 h fun w3 r6 h => zcX12_88 54 [.int (nI 3), .int x2] [] hX dX12_sum_54 (c_X12_lays (zgd0 hX) r6) (rfl : shp 128 = (12, 0)) rfl rfl rfl (Nat.le_of_ble_eq_true rfl) (by omega) <|
      z_goto 57 9 hX dX12_sum_57 rfl <|
      z_weak (L' := [some (.ref (zα G 128)), none]) (zsub_s (zsub_n zsub_0)) <|
      hrc _ h
  · refine z_weak (L' := [none, none]) (zsub_n (zsub_n zsub_0)) <|
      hK49 _ h
def l_X12_sum_9 (F : Nat → zW → Option (Int32 × zW)) (K49 : zW → Option (Int32 × zW)) (K60 : zW → Option (Int32 × zW)) : Nat → zW → Option (Int32 × zW)
  | 0, _ => none
  | n + 1, w =>
    zb (f_X12_look w) fun x2 =>
    if x2 = (nI 43) then
      j_X12_sum_27 F (l_X12_sum_9 F K49 K60 n) K49 K60 w
    else
      zb (f_X12_look w) fun x5 =>
      if x5 = (nI 45) then
        j_X12_sum_27 F (l_X12_sum_9 F K49 K60 n) K49 K60 w
      else
        K60 w
theorem l_X12_sum_9z {F : Nat → zW → Option (Int32 × zW)} {K49 : zW → Option (Int32 × zW)} {K60 : zW → Option (Int32 × zW)} {G : zG} {X : zX} {re : Int32} {we : zW} (hd : Nat) (hb : 1 ≤ hd) (hF : zrec_X12_whole G X.2.1 F hd) (hX : zOk G X cX12_sum 2 RX12 (hd + 1)) (hE : zEI G X cX12_sum .boolean re we) (hK49 : ∀ (w3 : zW) , K49 w3 = some (re, we) → zZ G X w3 49 [none, none] []) (hK60 : ∀ (w3 : zW) , K60 w3 = some (re, we) → zZ G X w3 60 [none, none] []) : ∀ (n : Nat)  (w : zW) , l_X12_sum_9 F K49 K60 n w = some (re, we) → zZ G X w 9 [some (.ref (zα G 128)), none] [] := by
  intro n
  induction n with
  | zero =>
    intro w  h
    rw [l_X12_sum_9.eq_1] at h
    cases h
  | succ n ih =>
    intro w  h
    rw [l_X12_sum_9.eq_2] at h
    refine z_aload_n 9 hX dX12_sum_9 rfl <|
      zb1 h fun x2 r1 h => zcX12_84 10 [] [] hX dX12_sum_10 (c_X12_look (zgd0 hX) r1) (rfl : shp 128 = (12, 0)) rfl rfl rfl (Nat.le_of_ble_eq_true rfl) (by omega) <|
      z_bipush 13 hX dX12_sum_13 zkb43 <|
      z_icmp_eq 15 27 hX dX12_sum_15 rfl h (fun q3 h => ?_) (fun q3 h => ?_)
    · refine j_X12_sum_27z hd hb hF hX hE ih hK49 hK60 h
    · refine z_aload_n 18 hX dX12_sum_18 rfl <|
        zb1 h fun x5 r4 h => zcX12_84 19 [] [] hX dX12_sum_19 (c_X12_look (zgd0 hX) r4) (rfl : shp 128 = (12, 0)) rfl rfl rfl (Nat.le_of_ble_eq_true rfl) (by omega) <|
        z_bipush 22 hX dX12_sum_22 zkb45 <|
        z_icmp_ne 24 60 hX dX12_sum_24 rfl h (fun q6 h => ?_) (fun q6 h => ?_)
      · refine z_weak (L' := [none, none]) (zsub_n (zsub_n zsub_0)) <|
          hK60 _ h
      · refine j_X12_sum_27z hd hb hF hX hE ih hK49 hK60 h
def b_X12_sum (F : Nat → zW → Option (Int32 × zW))  (w : zW) : Option (Int32 × zW) :=
  zb2 (F 4 w) fun x2 w1 =>
  if x2 = nI 0 then
    some (nI 0, w1)
  else
    l_X12_sum_9 F (fun w12 =>
      some (nI 0, w12)) (fun w22 =>
      some (nI 1, w22)) zfuel w1
theorem cb_X12_sum {F : Nat → zW → Option (Int32 × zW)} {G : zG} {l : Launch} (hG : zgood G) {w : zW} {re : Int32} {we : zW}  (hd : Nat) (hb : 1 ≤ hd) (hF : zrec_X12_whole G l F hd)  (h : b_X12_sum F w = some (re, we)) : zMet G l yX12_sum cX12_sum 2 (some .boolean) (hd + 1) [.ref (zα G 128)] w (some (.int re)) we := by
  refine zMet_of (L0 := [some (.ref (zα G 128)), none]) hG zplX12 (Nat.le_of_ble_eq_true rfl) rfl rfl (fun X hl hX hEI hEV hEA => ?_)
  subst hl
  have hX : zOk G X cX12_sum 2 RX12 (hd + 1) := hX
  have hE := hEI _ _ rfl rfl
  rw [b_X12_sum] at h
  refine z_aload_n 0 hX dX12_sum_0 rfl <|
    zb12 h fun x2 w1 r1 h => zcX12_98 1 [] [] hX dX12_sum_1 (hF.2.2.2.2.1 r1) (rfl : shp 128 = (12, 0)) rfl rfl rfl (Nat.le_of_ble_eq_true rfl) (by omega) <|
    z_if_ne 4 9 hX dX12_sum_4 rfl h (fun q3 h => ?_) (fun q3 h => ?_)
  · refine l_X12_sum_9z hd hb hF hX hE (fun w12 h => ?_) (fun w22 h => ?_) _ _ h
    · refine z_iconst 49 hX dX12_sum_49 zki0 <|
        z_endI2 50 hE (znar_bool (by decide)) h dX12_sum_50
    · refine z_iconst 60 hX dX12_sum_60 zki1 <|
        z_endI2 61 hE (znar_bool (by decide)) h dX12_sum_61
  · refine z_iconst 7 hX dX12_sum_7 zki0 <|
      z_endI2 8 hE (znar_bool (by decide)) h dX12_sum_8
def j_X12_product_36 (F : Nat → zW → Option (Int32 × zW)) (rc : zW → Option (Int32 × zW)) (K58 : zW → Option (Int32 × zW)) (K69 : zW → Option (Int32 × zW))  (w : zW) : Option (Int32 × zW) :=
  zb (f_X12_look w) fun x2 =>
  zlet (zupd w 128 4 ((w 128 4) + (nI 1))) fun w1 =>
  zb2 (F 5 w1) fun x4 w2 =>
  if x4 = nI 0 then
    K58 w2
  else
    zb (f_X12_lays (nI 3) x2 w2) fun w3 =>
    rc w3
theorem j_X12_product_36z {F : Nat → zW → Option (Int32 × zW)} {rc : zW → Option (Int32 × zW)} {K58 : zW → Option (Int32 × zW)} {K69 : zW → Option (Int32 × zW)} {G : zG} {X : zX} {w : zW} {re : Int32} {we : zW}  (hd : Nat) (hb : 1 ≤ hd) (hF : zrec_X12_whole G X.2.1 F hd) (hX : zOk G X cX12_product 2 RX12 (hd + 1)) (hE : zEI G X cX12_product .boolean re we) (hrc : ∀ (w3 : zW) , rc w3 = some (re, we) → zZ G X w3 9 [some (.ref (zα G 128)), none] []) (hK58 : ∀ (w3 : zW) , K58 w3 = some (re, we) → zZ G X w3 58 [none, none] []) (hK69 : ∀ (w3 : zW) , K69 w3 = some (re, we) → zZ G X w3 69 [none, none] [])  (h : j_X12_product_36 F rc K58 K69 w = some (re, we)) : zZ G X w 36 [some (.ref (zα G 128)), none] [] := by
  rw [j_X12_product_36] at h
  refine z_aload_n 36 hX dX12_product_36 rfl <|
    zb1 h fun x2 r1 h => zcX12_84 37 [] [] hX dX12_product_37 (c_X12_look (zgd0 hX) r1) (rfl : shp 128 = (12, 0)) rfl rfl rfl (Nat.le_of_ble_eq_true rfl) (by omega) <|
    z_istore_n 40 [some (.ref (zα G 128)), some (.int x2)] hX dX12_product_40 (Nat.le_of_ble_eq_true rfl) rfl rfl <|
    z_aload_n 41 hX dX12_product_41 rfl <|
    z_dup 42 hX dX12_product_42 rfl <|
    zgX12_70 43 hX dX12_product_43 (rfl : shp 128 = (12, 0)) <|
    z_iconst 46 hX dX12_product_46 zki1 <|
    z_iadd 47 hX dX12_product_47 <|
    zpX12_70 48 hX dX12_product_48 (rfl : shp 128 = (12, 0)) <|
    z_w h fun w1 h =>
    z_aload_n 51 hX dX12_product_51 rfl <|
    zb12 h fun x4 w2 r3 h => zcX12_101 52 [] [] hX dX12_product_52 (hF.2.2.2.2.2 r3) (rfl : shp 128 = (12, 0)) rfl rfl rfl (Nat.le_of_ble_eq_true rfl) (by omega) <|
    z_if_ne 55 60 hX dX12_product_55 rfl h (fun q5 h => ?_) (fun q5 h => ?_)
  · refine z_aload_n 60 hX dX12_product_60 rfl <|
      z_iconst 61 hX dX12_product_61 zki3 <|
      z_iload_n 62 hX dX12_product_62 rfl <|
      zb1 h fun w3 r6 h => zcX12_88 63 [.int (nI 3), .int x2] [] hX dX12_product_63 (c_X12_lays (zgd0 hX) r6) (rfl : shp 128 = (12, 0)) rfl rfl rfl (Nat.le_of_ble_eq_true rfl) (by omega) <|
      z_goto 66 9 hX dX12_product_66 rfl <|
      z_weak (L' := [some (.ref (zα G 128)), none]) (zsub_s (zsub_n zsub_0)) <|
      hrc _ h
  · refine z_weak (L' := [none, none]) (zsub_n (zsub_n zsub_0)) <|
      hK58 _ h
def l_X12_product_9 (F : Nat → zW → Option (Int32 × zW)) (K58 : zW → Option (Int32 × zW)) (K69 : zW → Option (Int32 × zW)) : Nat → zW → Option (Int32 × zW)
  | 0, _ => none
  | n + 1, w =>
    zb (f_X12_look w) fun x2 =>
    if x2 = (nI 42) then
      j_X12_product_36 F (l_X12_product_9 F K58 K69 n) K58 K69 w
    else
      zb (f_X12_look w) fun x5 =>
      if x5 = (nI 47) then
        j_X12_product_36 F (l_X12_product_9 F K58 K69 n) K58 K69 w
      else
        zb (f_X12_look w) fun x8 =>
        if x8 = (nI 37) then
          j_X12_product_36 F (l_X12_product_9 F K58 K69 n) K58 K69 w
        else
          K69 w
theorem l_X12_product_9z {F : Nat → zW → Option (Int32 × zW)} {K58 : zW → Option (Int32 × zW)} {K69 : zW → Option (Int32 × zW)} {G : zG} {X : zX} {re : Int32} {we : zW} (hd : Nat) (hb : 1 ≤ hd) (hF : zrec_X12_whole G X.2.1 F hd) (hX : zOk G X cX12_product 2 RX12 (hd + 1)) (hE : zEI G X cX12_product .boolean re we) (hK58 : ∀ (w3 : zW) , K58 w3 = some (re, we) → zZ G X w3 58 [none, none] []) (hK69 : ∀ (w3 : zW) , K69 w3 = some (re, we) → zZ G X w3 69 [none, none] []) : ∀ (n : Nat)  (w : zW) , l_X12_product_9 F K58 K69 n w = some (re, we) → zZ G X w 9 [some (.ref (zα G 128)), none] [] := by
  intro n
  induction n with
  | zero =>
    intro w  h
    rw [l_X12_product_9.eq_1] at h
    cases h
  | succ n ih =>
    intro w  h
    rw [l_X12_product_9.eq_2] at h
    refine z_aload_n 9 hX dX12_product_9 rfl <|
      zb1 h fun x2 r1 h => zcX12_84 10 [] [] hX dX12_product_10 (c_X12_look (zgd0 hX) r1) (rfl : shp 128 = (12, 0)) rfl rfl rfl (Nat.le_of_ble_eq_true rfl) (by omega) <|
      z_bipush 13 hX dX12_product_13 zkb42 <|
      z_icmp_eq 15 36 hX dX12_product_15 rfl h (fun q3 h => ?_) (fun q3 h => ?_)
    · refine j_X12_product_36z hd hb hF hX hE ih hK58 hK69 h
    · refine z_aload_n 18 hX dX12_product_18 rfl <|
        zb1 h fun x5 r4 h => zcX12_84 19 [] [] hX dX12_product_19 (c_X12_look (zgd0 hX) r4) (rfl : shp 128 = (12, 0)) rfl rfl rfl (Nat.le_of_ble_eq_true rfl) (by omega) <|
        z_bipush 22 hX dX12_product_22 zkb47 <|
        z_icmp_eq 24 36 hX dX12_product_24 rfl h (fun q6 h => ?_) (fun q6 h => ?_)
      · refine j_X12_product_36z hd hb hF hX hE ih hK58 hK69 h
      · refine z_aload_n 27 hX dX12_product_27 rfl <|
          zb1 h fun x8 r7 h => zcX12_84 28 [] [] hX dX12_product_28 (c_X12_look (zgd0 hX) r7) (rfl : shp 128 = (12, 0)) rfl rfl rfl (Nat.le_of_ble_eq_true rfl) (by omega) <|
          z_bipush 31 hX dX12_product_31 zkb37 <|
          z_icmp_ne 33 69 hX dX12_product_33 rfl h (fun q9 h => ?_) (fun q9 h => ?_)
        · refine z_weak (L' := [none, none]) (zsub_n (zsub_n zsub_0)) <|
            hK69 _ h
        · refine j_X12_product_36z hd hb hF hX hE ih hK58 hK69 h
def b_X12_product (F : Nat → zW → Option (Int32 × zW))  (w : zW) : Option (Int32 × zW) :=
  zb2 (F 5 w) fun x2 w1 =>
  if x2 = nI 0 then
    some (nI 0, w1)
  else
    l_X12_product_9 F (fun w12 =>
      some (nI 0, w12)) (fun w22 =>
      some (nI 1, w22)) zfuel w1
theorem cb_X12_product {F : Nat → zW → Option (Int32 × zW)} {G : zG} {l : Launch} (hG : zgood G) {w : zW} {re : Int32} {we : zW}  (hd : Nat) (hb : 1 ≤ hd) (hF : zrec_X12_whole G l F hd)  (h : b_X12_product F w = some (re, we)) : zMet G l yX12_product cX12_product 2 (some .boolean) (hd + 1) [.ref (zα G 128)] w (some (.int re)) we := by
  refine zMet_of (L0 := [some (.ref (zα G 128)), none]) hG zplX12 (Nat.le_of_ble_eq_true rfl) rfl rfl (fun X hl hX hEI hEV hEA => ?_)
  subst hl
  have hX : zOk G X cX12_product 2 RX12 (hd + 1) := hX
  have hE := hEI _ _ rfl rfl
  rw [b_X12_product] at h
  refine z_aload_n 0 hX dX12_product_0 rfl <|
    zb12 h fun x2 w1 r1 h => zcX12_101 1 [] [] hX dX12_product_1 (hF.2.2.2.2.2 r1) (rfl : shp 128 = (12, 0)) rfl rfl rfl (Nat.le_of_ble_eq_true rfl) (by omega) <|
    z_if_ne 4 9 hX dX12_product_4 rfl h (fun q3 h => ?_) (fun q3 h => ?_)
  · refine l_X12_product_9z hd hb hF hX hE (fun w12 h => ?_) (fun w22 h => ?_) _ _ h
    · refine z_iconst 58 hX dX12_product_58 zki0 <|
        z_endI2 59 hE (znar_bool (by decide)) h dX12_product_59
    · refine z_iconst 69 hX dX12_product_69 zki1 <|
        z_endI2 70 hE (znar_bool (by decide)) h dX12_product_70
  · refine z_iconst 7 hX dX12_product_7 zki0 <|
      z_endI2 8 hE (znar_bool (by decide)) h dX12_product_8
def l_X12_one_46 (F : Nat → zW → Option (Int32 × zW)) (K94 : Int32 → zW → Option (Int32 × zW)) : Nat → Int32 → Int32 → zW → Option (Int32 × zW)
  | 0, _, _, _ => none
  | n + 1, a2, a3, w =>
    if a3 < (nI 4) then
      zb (f_X12_look w) fun x3 =>
      zb (f_X12_in x3 (nI 48) (nI 57)) fun x5 =>
      if x5 = nI 0 then
        K94 a2 w
      else
        zb (f_X12_look w) fun x8 =>
        zlet ((((nI 10) * a2) + x8) - (nI 48)) fun x9 =>
        zlet (zupd w 128 4 ((w 128 4) + (nI 1))) fun w1 =>
        zlet (a3 + nI 1) fun x10 =>
        (l_X12_one_46 F K94 n) x9 x10 w1
    else
      K94 a2 w
theorem l_X12_one_46z {F : Nat → zW → Option (Int32 × zW)} {K94 : Int32 → zW → Option (Int32 × zW)} {G : zG} {X : zX} {re : Int32} {we : zW} (hd : Nat) (hb : 1 ≤ hd) (hF : zrec_X12_whole G X.2.1 F hd) (hX : zOk G X cX12_one 4 RX12 (hd + 1)) (hE : zEI G X cX12_one .boolean re we) (hK94 : ∀ (a2 : Int32) (w3 : zW) , K94 a2 w3 = some (re, we) → zZ G X w3 94 [some (.ref (zα G 128)), none, some (.int a2), none] []) : ∀ (n : Nat) (a2 : Int32) (a3 : Int32) (w : zW) , l_X12_one_46 F K94 n a2 a3 w = some (re, we) → zZ G X w 46 [some (.ref (zα G 128)), none, some (.int a2), some (.int a3)] [] := by
  intro n
  induction n with
  | zero =>
    intro a2 a3 w  h
    rw [l_X12_one_46.eq_1] at h
    cases h
  | succ n ih =>
    intro a2 a3 w  h
    rw [l_X12_one_46.eq_2] at h
    refine z_iload_n 46 hX dX12_one_46 rfl <|
      z_iconst 47 hX dX12_one_47 zki4 <|
      z_icmp_ge 48 94 hX dX12_one_48 rfl h (fun q1 h => ?_) (fun q1 h => ?_)
    · refine z_weak (L' := [some (.ref (zα G 128)), none, some (.int a2), none]) (zsub_s (zsub_n (zsub_s (zsub_n zsub_0)))) <|
        hK94 _ _ h
    · refine z_aload_n 51 hX dX12_one_51 rfl <|
        zb1 h fun x3 r2 h => zcX12_84 52 [] [] hX dX12_one_52 (c_X12_look (zgd0 hX) r2) (rfl : shp 128 = (12, 0)) rfl rfl rfl (Nat.le_of_ble_eq_true rfl) (by omega) <|
        z_bipush 55 hX dX12_one_55 zkb48 <|
        z_bipush 57 hX dX12_one_57 zkb57 <|
        zb1 h fun x5 r4 h => zcX12_56 59 [.int x3, .int (nI 48), .int (nI 57)] [] hX dX12_one_59 (c_X12_in (zgd0 hX) r4) rfl rfl rfl (Nat.le_of_ble_eq_true rfl) (by omega) <|
        z_if_eq 62 94 hX dX12_one_62 rfl h (fun q6 h => ?_) (fun q6 h => ?_)
      · refine z_weak (L' := [some (.ref (zα G 128)), none, some (.int a2), none]) (zsub_s (zsub_n (zsub_s (zsub_n zsub_0)))) <|
          hK94 _ _ h
      · refine z_bipush 65 hX dX12_one_65 zkb10 <|
          z_iload_n 67 hX dX12_one_67 rfl <|
          z_imul 68 hX dX12_one_68 <|
          z_aload_n 69 hX dX12_one_69 rfl <|
          zb1 h fun x8 r7 h => zcX12_84 70 [] [.int ((nI 10) * a2)] hX dX12_one_70 (c_X12_look (zgd0 hX) r7) (rfl : shp 128 = (12, 0)) rfl rfl rfl (Nat.le_of_ble_eq_true rfl) (by omega) <|
          z_iadd 73 hX dX12_one_73 <|
          z_bipush 74 hX dX12_one_74 zkb48 <|
          z_isub 76 hX dX12_one_76 <|
          z_top h fun x9 h =>
          z_istore_n 77 [some (.ref (zα G 128)), none, some (.int x9), some (.int a3)] hX dX12_one_77 (Nat.le_of_ble_eq_true rfl) rfl rfl <|
          z_aload_n 78 hX dX12_one_78 rfl <|
          z_dup 79 hX dX12_one_79 rfl <|
          zgX12_70 80 hX dX12_one_80 (rfl : shp 128 = (12, 0)) <|
          z_iconst 83 hX dX12_one_83 zki1 <|
          z_iadd 84 hX dX12_one_84 <|
          zpX12_70 85 hX dX12_one_85 (rfl : shp 128 = (12, 0)) <|
          z_w h fun w1 h =>
          z_iincG 88 (fun x10 => [some (.ref (zα G 128)), none, some (.int x9), some (.int x10)]) hX dX12_one_88 rfl zki1 rfl (fun _ => rfl) h fun x10 h =>
          z_goto 91 46 hX dX12_one_91 rfl <|
          ih _ _ _ h
def j_X12_one_94 (F : Nat → zW → Option (Int32 × zW)) (a2 : Int32) (w : zW) : Option (Int32 × zW) :=
  zb (f_X12_lays (nI 0) a2 w) fun w1 =>
  some (nI 1, w1)
theorem j_X12_one_94z {F : Nat → zW → Option (Int32 × zW)} {G : zG} {X : zX} {w : zW} {re : Int32} {we : zW} {a2 : Int32} (hd : Nat) (hb : 1 ≤ hd) (hF : zrec_X12_whole G X.2.1 F hd) (hX : zOk G X cX12_one 4 RX12 (hd + 1)) (hE : zEI G X cX12_one .boolean re we)  (h : j_X12_one_94 F a2 w = some (re, we)) : zZ G X w 94 [some (.ref (zα G 128)), none, some (.int a2), none] [] := by
  rw [j_X12_one_94] at h
  refine z_aload_n 94 hX dX12_one_94 rfl <|
    z_iconst 95 hX dX12_one_95 zki0 <|
    z_iload_n 96 hX dX12_one_96 rfl <|
    zb1 h fun w1 r1 h => zcX12_88 97 [.int (nI 0), .int a2] [] hX dX12_one_97 (c_X12_lays (zgd0 hX) r1) (rfl : shp 128 = (12, 0)) rfl rfl rfl (Nat.le_of_ble_eq_true rfl) (by omega) <|
    z_iconst 100 hX dX12_one_100 zki1 <|
    z_endI2 101 hE (znar_bool (by decide)) h dX12_one_101
def b_X12_one (F : Nat → zW → Option (Int32 × zW))  (w : zW) : Option (Int32 × zW) :=
  zb (f_X12_look w) fun x2 =>
  zb (f_X12_isName x2 w) fun x4 =>
  if x4 = nI 0 then
    zb (f_X12_in x2 (nI 48) (nI 57)) fun x7 =>
    if x7 = nI 0 then
      if x2 = (nI 33) then
        zb2 (f_X12_opens w) fun x21 w5 =>
        if x21 = nI 0 then
          some (nI 0, w5)
        else
          zb2 (F 5 w5) fun x24 w6 =>
          if x24 = nI 0 then
            some (nI 0, w6)
          else
            zlet (zupd w6 128 5 ((w6 128 5) - (nI 1))) fun w7 =>
            zb (f_X12_lays (nI 2) (nI 0) w7) fun w8 =>
            some (nI 1, w8)
      else
      if x2 = (nI 40) then
        zb2 (f_X12_opens w) fun x12 w1 =>
        if x12 = nI 0 then
          some (nI 0, w1)
        else
          zb2 (F 0 w1) fun x15 w2 =>
          if x15 = nI 0 then
            some (nI 0, w2)
          else
            zb (f_X12_look w2) fun x18 =>
            if x18 = (nI 41) then
              zlet (zupd w2 128 4 ((w2 128 4) + (nI 1))) fun w3 =>
              zlet (zupd w3 128 5 ((w3 128 5) - (nI 1))) fun w4 =>
              some (nI 1, w4)
            else
              some (nI 0, w2)
      else
        some (nI 0, w)
    else
      l_X12_one_46 F (fun k94_a2 w19 =>
        j_X12_one_94 F k94_a2 w19) zfuel (nI 0) (nI 0) w
  else
    zlet (zupd w 128 4 ((w 128 4) + (nI 1))) fun w9 =>
    zb (f_X12_lays (nI 1) x2 w9) fun w10 =>
    some (nI 1, w10)
theorem cb_X12_one {F : Nat → zW → Option (Int32 × zW)} {G : zG} {l : Launch} (hG : zgood G) {w : zW} {re : Int32} {we : zW}  (hd : Nat) (hb : 1 ≤ hd) (hF : zrec_X12_whole G l F hd)  (h : b_X12_one F w = some (re, we)) : zMet G l yX12_one cX12_one 4 (some .boolean) (hd + 1) [.ref (zα G 128)] w (some (.int re)) we := by
  refine zMet_of (L0 := [some (.ref (zα G 128)), none, none, none]) hG zplX12 (Nat.le_of_ble_eq_true rfl) rfl rfl (fun X hl hX hEI hEV hEA => ?_)
  subst hl
  have hX : zOk G X cX12_one 4 RX12 (hd + 1) := hX
  have hE := hEI _ _ rfl rfl
  rw [b_X12_one] at h
  refine z_aload_n 0 hX dX12_one_0 rfl <|
    zb1 h fun x2 r1 h => zcX12_84 1 [] [] hX dX12_one_1 (c_X12_look (zgd0 hX) r1) (rfl : shp 128 = (12, 0)) rfl rfl rfl (Nat.le_of_ble_eq_true rfl) (by omega) <|
    z_istore_n 4 [some (.ref (zα G 128)), some (.int x2), none, none] hX dX12_one_4 (Nat.le_of_ble_eq_true rfl) rfl rfl <|
    z_aload_n 5 hX dX12_one_5 rfl <|
    z_iload_n 6 hX dX12_one_6 rfl <|
    zb1 h fun x4 r3 h => zcX12_107 7 [.int x2] [] hX dX12_one_7 (c_X12_isName (zgd0 hX) r3) (rfl : shp 128 = (12, 0)) rfl rfl rfl (Nat.le_of_ble_eq_true rfl) (by omega) <|
    z_if_eq 10 31 hX dX12_one_10 rfl h (fun q5 h => ?_) (fun q5 h => ?_)
  · refine z_iload_n 31 hX dX12_one_31 rfl <|
      z_bipush 32 hX dX12_one_32 zkb48 <|
      z_bipush 34 hX dX12_one_34 zkb57 <|
      zb1 h fun x7 r6 h => zcX12_56 36 [.int x2, .int (nI 48), .int (nI 57)] [] hX dX12_one_36 (c_X12_in (zgd0 hX) r6) rfl rfl rfl (Nat.le_of_ble_eq_true rfl) (by omega) <|
      z_if_eq 39 102 hX dX12_one_39 rfl h (fun q8 h => ?_) (fun q8 h => ?_)
    · refine z_iload_n 102 hX dX12_one_102 rfl <|
        z_bipush 103 hX dX12_one_103 zkb33 <|
        z_icmp_ne 105 142 hX dX12_one_105 rfl h (fun q9 h => ?_) (fun q9 h => ?_)
      · refine z_iload_n 142 hX dX12_one_142 rfl <|
          z_bipush 143 hX dX12_one_143 zkb40 <|
          z_icmp_ne 145 171 hX dX12_one_145 rfl h (fun q10 h => ?_) (fun q10 h => ?_)
        · refine z_iconst 171 hX dX12_one_171 zki0 <|
            z_endI2 172 hE (znar_bool (by decide)) h dX12_one_172
        · refine z_aload_n 148 hX dX12_one_148 rfl <|
            zb12 h fun x12 w1 r11 h => zcX12_111 149 [] [] hX dX12_one_149 (c_X12_opens (zgd0 hX) r11) (rfl : shp 128 = (12, 0)) rfl rfl rfl (Nat.le_of_ble_eq_true rfl) (by omega) <|
            z_if_eq 152 171 hX dX12_one_152 rfl h (fun q13 h => ?_) (fun q13 h => ?_)
          · refine z_iconst 171 hX dX12_one_171 zki0 <|
              z_endI2 172 hE (znar_bool (by decide)) h dX12_one_172
          · refine z_aload_n 155 hX dX12_one_155 rfl <|
              zb12 h fun x15 w2 r14 h => zcX12_114 156 [] [] hX dX12_one_156 (hF.1 r14) (rfl : shp 128 = (12, 0)) rfl rfl rfl (Nat.le_of_ble_eq_true rfl) (by omega) <|
              z_if_eq 159 171 hX dX12_one_159 rfl h (fun q16 h => ?_) (fun q16 h => ?_)
            · refine z_iconst 171 hX dX12_one_171 zki0 <|
                z_endI2 172 hE (znar_bool (by decide)) h dX12_one_172
            · refine z_aload_n 162 hX dX12_one_162 rfl <|
                zb1 h fun x18 r17 h => zcX12_84 163 [] [] hX dX12_one_163 (c_X12_look (zgd0 hX) r17) (rfl : shp 128 = (12, 0)) rfl rfl rfl (Nat.le_of_ble_eq_true rfl) (by omega) <|
                z_bipush 166 hX dX12_one_166 zkb41 <|
                z_icmp_eq 168 173 hX dX12_one_168 rfl h (fun q19 h => ?_) (fun q19 h => ?_)
              · refine z_aload_n 173 hX dX12_one_173 rfl <|
                  z_dup 174 hX dX12_one_174 rfl <|
                  zgX12_70 175 hX dX12_one_175 (rfl : shp 128 = (12, 0)) <|
                  z_iconst 178 hX dX12_one_178 zki1 <|
                  z_iadd 179 hX dX12_one_179 <|
                  zpX12_70 180 hX dX12_one_180 (rfl : shp 128 = (12, 0)) <|
                  z_w h fun w3 h =>
                  z_aload_n 183 hX dX12_one_183 rfl <|
                  z_dup 184 hX dX12_one_184 rfl <|
                  zgX12_104 185 hX dX12_one_185 (rfl : shp 128 = (12, 0)) <|
                  z_iconst 188 hX dX12_one_188 zki1 <|
                  z_isub 189 hX dX12_one_189 <|
                  zpX12_104 190 hX dX12_one_190 (rfl : shp 128 = (12, 0)) <|
                  z_w h fun w4 h =>
                  z_iconst 193 hX dX12_one_193 zki1 <|
                  z_endI2 194 hE (znar_bool (by decide)) h dX12_one_194
              · refine z_iconst 171 hX dX12_one_171 zki0 <|
                  z_endI2 172 hE (znar_bool (by decide)) h dX12_one_172
      · refine z_aload_n 108 hX dX12_one_108 rfl <|
          zb12 h fun x21 w5 r20 h => zcX12_111 109 [] [] hX dX12_one_109 (c_X12_opens (zgd0 hX) r20) (rfl : shp 128 = (12, 0)) rfl rfl rfl (Nat.le_of_ble_eq_true rfl) (by omega) <|
          z_if_eq 112 122 hX dX12_one_112 rfl h (fun q22 h => ?_) (fun q22 h => ?_)
        · refine z_iconst 122 hX dX12_one_122 zki0 <|
            z_endI2 123 hE (znar_bool (by decide)) h dX12_one_123
        · refine z_aload_n 115 hX dX12_one_115 rfl <|
            zb12 h fun x24 w6 r23 h => zcX12_101 116 [] [] hX dX12_one_116 (hF.2.2.2.2.2 r23) (rfl : shp 128 = (12, 0)) rfl rfl rfl (Nat.le_of_ble_eq_true rfl) (by omega) <|
            z_if_ne 119 124 hX dX12_one_119 rfl h (fun q25 h => ?_) (fun q25 h => ?_)
          · refine z_aload_n 124 hX dX12_one_124 rfl <|
              z_dup 125 hX dX12_one_125 rfl <|
              zgX12_104 126 hX dX12_one_126 (rfl : shp 128 = (12, 0)) <|
              z_iconst 129 hX dX12_one_129 zki1 <|
              z_isub 130 hX dX12_one_130 <|
              zpX12_104 131 hX dX12_one_131 (rfl : shp 128 = (12, 0)) <|
              z_w h fun w7 h =>
              z_aload_n 134 hX dX12_one_134 rfl <|
              z_iconst 135 hX dX12_one_135 zki2 <|
              z_iconst 136 hX dX12_one_136 zki0 <|
              zb1 h fun w8 r26 h => zcX12_88 137 [.int (nI 2), .int (nI 0)] [] hX dX12_one_137 (c_X12_lays (zgd0 hX) r26) (rfl : shp 128 = (12, 0)) rfl rfl rfl (Nat.le_of_ble_eq_true rfl) (by omega) <|
              z_iconst 140 hX dX12_one_140 zki1 <|
              z_endI2 141 hE (znar_bool (by decide)) h dX12_one_141
          · refine z_iconst 122 hX dX12_one_122 zki0 <|
              z_endI2 123 hE (znar_bool (by decide)) h dX12_one_123
    · refine z_iconst 42 hX dX12_one_42 zki0 <|
        z_istore_n 43 [some (.ref (zα G 128)), some (.int x2), some (.int (nI 0)), none] hX dX12_one_43 (Nat.le_of_ble_eq_true rfl) rfl rfl <|
        z_iconst 44 hX dX12_one_44 zki0 <|
        z_istore_n 45 [some (.ref (zα G 128)), some (.int x2), some (.int (nI 0)), some (.int (nI 0))] hX dX12_one_45 (Nat.le_of_ble_eq_true rfl) rfl rfl <|
        z_weak (L' := [some (.ref (zα G 128)), none, some (.int (nI 0)), some (.int (nI 0))]) (zsub_s (zsub_n (zsub_s (zsub_s zsub_0)))) <|
        l_X12_one_46z hd hb hF hX hE (fun k94_a2 w19 h => ?_) _ _ _ _ h
      · refine j_X12_one_94z hd hb hF hX hE h
  · refine z_aload_n 13 hX dX12_one_13 rfl <|
      z_dup 14 hX dX12_one_14 rfl <|
      zgX12_70 15 hX dX12_one_15 (rfl : shp 128 = (12, 0)) <|
      z_iconst 18 hX dX12_one_18 zki1 <|
      z_iadd 19 hX dX12_one_19 <|
      zpX12_70 20 hX dX12_one_20 (rfl : shp 128 = (12, 0)) <|
      z_w h fun w9 h =>
      z_aload_n 23 hX dX12_one_23 rfl <|
      z_iconst 24 hX dX12_one_24 zki1 <|
      z_iload_n 25 hX dX12_one_25 rfl <|
      zb1 h fun w10 r27 h => zcX12_88 26 [.int (nI 1), .int x2] [] hX dX12_one_26 (c_X12_lays (zgd0 hX) r27) (rfl : shp 128 = (12, 0)) rfl rfl rfl (Nat.le_of_ble_eq_true rfl) (by omega) <|
      z_iconst 29 hX dX12_one_29 zki1 <|
      z_endI2 30 hE (znar_bool (by decide)) h dX12_one_30
def F_X12_whole : Nat → Nat → zW → Option (Int32 × zW)
  | 0, _, _ => none
  | d + 1, 0, w => b_X12_whole (F_X12_whole d)  w
  | d + 1, 1, w => b_X12_both (F_X12_whole d)  w
  | d + 1, 2, w => b_X12_compared (F_X12_whole d)  w
  | d + 1, 3, w => b_X12_sum (F_X12_whole d)  w
  | d + 1, 4, w => b_X12_product (F_X12_whole d)  w
  | d + 1, _, w => b_X12_one (F_X12_whole d)  w
theorem cF_X12_whole {G : zG} {l : Launch} (hG : zgood G) : ∀ d : Nat, zrec_X12_whole G l (F_X12_whole d) (1 + d) := by
  intro d
  induction d with
  | zero => exact ⟨fun h => (by cases h), fun h => (by cases h), fun h => (by cases h), fun h => (by cases h), fun h => (by cases h), fun h => (by cases h)⟩
  | succ d ih => exact ⟨fun h => cb_X12_whole hG _ (Nat.le_add_right _ _) ih h, fun h => cb_X12_both hG _ (Nat.le_add_right _ _) ih h, fun h => cb_X12_compared hG _ (Nat.le_add_right _ _) ih h, fun h => cb_X12_sum hG _ (Nat.le_add_right _ _) ih h, fun h => cb_X12_product hG _ (Nat.le_add_right _ _) ih h, fun h => cb_X12_one hG _ (Nat.le_add_right _ _) ih h⟩
def f_X12_whole  (w : zW) : Option (Int32 × zW) := F_X12_whole 100 0 w
theorem c_X12_whole {G : zG} {l : Launch} (hG : zgood G) {w : zW} {re : Int32} {we : zW}  (h : f_X12_whole w = some (re, we)) : zMet G l yX12_whole cX12_whole 1 (some .boolean) 101 [.ref (zα G 128)] w (some (.int re)) we := (cF_X12_whole hG 100).1 h
def f_X12_both  (w : zW) : Option (Int32 × zW) := F_X12_whole 100 1 w
theorem c_X12_both {G : zG} {l : Launch} (hG : zgood G) {w : zW} {re : Int32} {we : zW}  (h : f_X12_both w = some (re, we)) : zMet G l yX12_both cX12_both 1 (some .boolean) 101 [.ref (zα G 128)] w (some (.int re)) we := (cF_X12_whole hG 100).2.1 h
def f_X12_compared  (w : zW) : Option (Int32 × zW) := F_X12_whole 100 2 w
theorem c_X12_compared {G : zG} {l : Launch} (hG : zgood G) {w : zW} {re : Int32} {we : zW}  (h : f_X12_compared w = some (re, we)) : zMet G l yX12_compared cX12_compared 2 (some .boolean) 101 [.ref (zα G 128)] w (some (.int re)) we := (cF_X12_whole hG 100).2.2.1 h
def f_X12_sum  (w : zW) : Option (Int32 × zW) := F_X12_whole 100 3 w
theorem c_X12_sum {G : zG} {l : Launch} (hG : zgood G) {w : zW} {re : Int32} {we : zW}  (h : f_X12_sum w = some (re, we)) : zMet G l yX12_sum cX12_sum 2 (some .boolean) 101 [.ref (zα G 128)] w (some (.int re)) we := (cF_X12_whole hG 100).2.2.2.1 h
def f_X12_product  (w : zW) : Option (Int32 × zW) := F_X12_whole 100 4 w
theorem c_X12_product {G : zG} {l : Launch} (hG : zgood G) {w : zW} {re : Int32} {we : zW}  (h : f_X12_product w = some (re, we)) : zMet G l yX12_product cX12_product 2 (some .boolean) 101 [.ref (zα G 128)] w (some (.int re)) we := (cF_X12_whole hG 100).2.2.2.2.1 h
def f_X12_one  (w : zW) : Option (Int32 × zW) := F_X12_whole 100 5 w
theorem c_X12_one {G : zG} {l : Launch} (hG : zgood G) {w : zW} {re : Int32} {we : zW}  (h : f_X12_one w = some (re, we)) : zMet G l yX12_one cX12_one 4 (some .boolean) 101 [.ref (zα G 128)] w (some (.int re)) we := (cF_X12_whole hG 100).2.2.2.2.2 h
def f_X12_hasText (a1 : Int32) (w : zW) : Option Int32 :=
  zld w 129 628 ((nI 294) + ((nI 125) * a1)) fun x1 =>
  if nI 0 < x1 then
    some (nI 1)
  else
    some (nI 0)
theorem c_X12_hasText {G : zG} {l : Launch} (hG : zgood G) {w : zW} {re : Int32} {a1 : Int32}  (h : f_X12_hasText a1 w = some re) : zMet G l yX12_hasText cX12_hasText 2 (some .boolean) 0 [.ref (zα G 128), .int a1] w (some (.int re)) w := by
  refine zMet_of (L0 := [some (.ref (zα G 128)), some (.int a1)]) hG zplX12 (Nat.le_of_ble_eq_true rfl) rfl rfl (fun X hl hX hEI hEV hEA => ?_)
  subst hl
  have hX : zOk G X cX12_hasText 2 RX12 0 := hX
  have hE := hEI _ _ rfl rfl
  rw [f_X12_hasText] at h
  refine z_aload_n 0 hX dX12_hasText_0 rfl <|
    zgX12_7 1 hX dX12_hasText_1 (rfl : shp 128 = (12, 0)) <|
    z_sipush 4 hX dX12_hasText_4 zks294 <|
    z_bipush 7 hX dX12_hasText_7 zkb125 <|
    z_iload_n 9 hX dX12_hasText_9 rfl <|
    z_imul 10 hX dX12_hasText_10 <|
    z_iadd 11 hX dX12_hasText_11 <|
    z_iald 12 hX dX12_hasText_12 (rfl : shp 129 = (20, 628)) h fun x1 _ h =>
    z_if_le 13 20 hX dX12_hasText_13 rfl h (fun q2 h => ?_) (fun q2 h => ?_)
  · refine z_iconst 20 hX dX12_hasText_20 zki0 <|
      z_endI 21 hE (znar_bool (by decide)) h dX12_hasText_21
  · refine z_iconst 16 hX dX12_hasText_16 zki1 <|
      z_goto 17 21 hX dX12_hasText_17 rfl <|
      z_endI 21 hE (znar_bool (by decide)) h dX12_hasText_21
def l_X12_text_102 (K137 : zW → Option (Int32 × zW)) : Nat → Int32 → Int32 → zW → Option (Int32 × zW)
  | 0, _, _, _ => none
  | n + 1, a3, a4, w =>
    if a4 < ((nI 2) * (w 128 6)) then
      zld w 132 124 a4 fun x2 =>
      zsto w 129 628 ((a3 + (nI 1)) + a4) x2 fun w1 =>
      zlet (a4 + nI 1) fun x3 =>
      (l_X12_text_102 K137 n) a3 x3 w1
    else
      K137 w
theorem l_X12_text_102z {K137 : zW → Option (Int32 × zW)} {G : zG} {X : zX} {re : Int32} {we : zW} (hX : zOk G X cX12_text 5 RX12 102) (hE : zEI G X cX12_text .int re we) (hK137 : ∀ (w3 : zW) , K137 w3 = some (re, we) → zZ G X w3 137 [none, none, none, none, none] []) : ∀ (n : Nat) (a3 : Int32) (a4 : Int32) (w : zW) , l_X12_text_102 K137 n a3 a4 w = some (re, we) → zZ G X w 102 [some (.ref (zα G 128)), none, none, some (.int a3), some (.int a4)] [] := by
  intro n
  induction n with
  | zero =>
    intro a3 a4 w  h
    rw [l_X12_text_102.eq_1] at h
    cases h
  | succ n ih =>
    intro a3 a4 w  h
    rw [l_X12_text_102.eq_2] at h
    refine z_iload 102 hX dX12_text_102 rfl <|
      z_iconst 104 hX dX12_text_104 zki2 <|
      z_aload_n 105 hX dX12_text_105 rfl <|
      zgX12_77 106 hX dX12_text_106 (rfl : shp 128 = (12, 0)) <|
      z_imul 109 hX dX12_text_109 <|
      z_icmp_ge 110 137 hX dX12_text_110 rfl h (fun q1 h => ?_) (fun q1 h => ?_)
    · refine z_weak (L' := [none, none, none, none, none]) (zsub_n (zsub_n (zsub_n (zsub_n (zsub_n zsub_0))))) <|
        hK137 _ h
    · refine z_aload_n 113 hX dX12_text_113 rfl <|
        zgX12_7 114 hX dX12_text_114 (rfl : shp 128 = (12, 0)) <|
        z_iload_n 117 hX dX12_text_117 rfl <|
        z_iconst 118 hX dX12_text_118 zki1 <|
        z_iadd 119 hX dX12_text_119 <|
        z_iload 120 hX dX12_text_120 rfl <|
        z_iadd 122 hX dX12_text_122 <|
        z_aload_n 123 hX dX12_text_123 rfl <|
        zgX12_19 124 hX dX12_text_124 (rfl : shp 128 = (12, 0)) <|
        z_iload 127 hX dX12_text_127 rfl <|
        z_iald 129 hX dX12_text_129 (rfl : shp 132 = (20, 124)) h fun x2 _ h =>
        z_iast 130 hX dX12_text_130 (rfl : shp 129 = (20, 628)) h fun w1 h =>
        z_iincG 131 (fun x3 => [some (.ref (zα G 128)), none, none, some (.int a3), some (.int x3)]) hX dX12_text_131 rfl zki1 rfl (fun _ => rfl) h fun x3 h =>
        z_goto 134 102 hX dX12_text_134 rfl <|
        ih _ _ _ h
def j_X12_text_60 (a1 : Int32) (b0 : Int32) (w : zW) : Option (Int32 × zW) :=
  zlet (zupd w 129 4 (nI 0)) fun w1 =>
  if b0 = nI 0 then
    some ((mI 10) - (w1 128 4), w1)
  else
    zlet ((nI 294) + ((nI 125) * a1)) fun x2 =>
    zsto w1 129 628 x2 (w1 128 6) fun w2 =>
    l_X12_text_102 (fun w13 =>
      some (nI 1, w13)) zfuel x2 (nI 0) w2
theorem j_X12_text_60z {G : zG} {X : zX} {w : zW} {re : Int32} {we : zW} {a1 : Int32} {b0 : Int32} (hX : zOk G X cX12_text 5 RX12 102) (hE : zEI G X cX12_text .int re we)  (h : j_X12_text_60 a1 b0 w = some (re, we)) : zZ G X w 60 [some (.ref (zα G 128)), some (.int a1), none, none, none] [.int b0] := by
  rw [j_X12_text_60] at h
  refine z_istore_n 60 [some (.ref (zα G 128)), some (.int a1), some (.int b0), none, none] hX dX12_text_60 (Nat.le_of_ble_eq_true rfl) rfl rfl <|
    z_aload_n 61 hX dX12_text_61 rfl <|
    zgX12_7 62 hX dX12_text_62 (rfl : shp 128 = (12, 0)) <|
    z_iconst 65 hX dX12_text_65 zki4 <|
    z_iconst 66 hX dX12_text_66 zki0 <|
    z_iastc (j := 4) 67 hX dX12_text_67 (rfl : shp 129 = (20, 628)) (zink 4 628 (by decide) (by decide)) (nI_clamp (by decide)) <|
    z_w h fun w1 h =>
    z_iload_n 68 hX dX12_text_68 rfl <|
    z_if_ne 69 80 hX dX12_text_69 rfl h (fun q1 h => ?_) (fun q1 h => ?_)
  · refine z_sipush 80 hX dX12_text_80 zks294 <|
      z_bipush 83 hX dX12_text_83 zkb125 <|
      z_iload_n 85 hX dX12_text_85 rfl <|
      z_imul 86 hX dX12_text_86 <|
      z_iadd 87 hX dX12_text_87 <|
      z_top h fun x2 h =>
      z_istore_n 88 [some (.ref (zα G 128)), some (.int a1), some (.int b0), some (.int x2), none] hX dX12_text_88 (Nat.le_of_ble_eq_true rfl) rfl rfl <|
      z_aload_n 89 hX dX12_text_89 rfl <|
      zgX12_7 90 hX dX12_text_90 (rfl : shp 128 = (12, 0)) <|
      z_iload_n 93 hX dX12_text_93 rfl <|
      z_aload_n 94 hX dX12_text_94 rfl <|
      zgX12_77 95 hX dX12_text_95 (rfl : shp 128 = (12, 0)) <|
      z_iast 98 hX dX12_text_98 (rfl : shp 129 = (20, 628)) h fun w2 h =>
      z_iconst 99 hX dX12_text_99 zki0 <|
      z_istore 100 [some (.ref (zα G 128)), some (.int a1), some (.int b0), some (.int x2), some (.int (nI 0))] hX dX12_text_100 (Nat.le_of_ble_eq_true rfl) rfl rfl <|
      z_weak (L' := [some (.ref (zα G 128)), none, none, some (.int x2), some (.int (nI 0))]) (zsub_s (zsub_n (zsub_n (zsub_s (zsub_s zsub_0))))) <|
      l_X12_text_102z hX hE (fun w13 h => ?_) _ _ _ _ h
    · refine z_iconst 137 hX dX12_text_137 zki1 <|
        z_endI2 138 hE rfl h dX12_text_138
  · refine z_bipush 72 hX dX12_text_72 zkbm10 <|
      z_aload_n 74 hX dX12_text_74 rfl <|
      zgX12_70 75 hX dX12_text_75 (rfl : shp 128 = (12, 0)) <|
      z_isub 78 hX dX12_text_78 <|
      z_endI2 79 hE rfl h dX12_text_79
def j_X12_text_59 (a1 : Int32) (w : zW) : Option (Int32 × zW) :=
  j_X12_text_60 a1 (nI 0) w
theorem j_X12_text_59z {G : zG} {X : zX} {w : zW} {re : Int32} {we : zW} {a1 : Int32} (hX : zOk G X cX12_text 5 RX12 102) (hE : zEI G X cX12_text .int re we)  (h : j_X12_text_59 a1 w = some (re, we)) : zZ G X w 59 [some (.ref (zα G 128)), some (.int a1), none, none, none] [] := by
  rw [j_X12_text_59] at h
  refine z_iconst 59 hX dX12_text_59 zki0 <|
    j_X12_text_60z hX hE h
def f_X12_text (a1 : Int32) (w : zW) : Option (Int32 × zW) :=
  zb (f_X12_in a1 (nI 0) (nI 1)) fun x2 =>
  if x2 = nI 0 then
    zb2 (f_X12_error (nI 1) w) fun x9 w6 =>
    some (x9, w6)
  else
    zlet (zupd w 128 7 a1) fun w1 =>
    zlet (zupd w1 128 4 (nI 0)) fun w2 =>
    zlet (zupd w2 128 5 (nI 0)) fun w3 =>
    zlet (zupd w3 128 6 (nI 0)) fun w4 =>
    zb2 (f_X12_whole w4) fun x5 w5 =>
    if x5 = nI 0 then
      j_X12_text_59 a1 w5
    else
    if (w5 128 4) = (w5 129 4) then
      j_X12_text_60 a1 (nI 1) w5
    else
      j_X12_text_59 a1 w5
theorem c_X12_text {G : zG} {l : Launch} (hG : zgood G) {w : zW} {re : Int32} {we : zW} {a1 : Int32}  (h : f_X12_text a1 w = some (re, we)) : zMet G l yX12_text cX12_text 5 (some .int) 102 [.ref (zα G 128), .int a1] w (some (.int re)) we := by
  refine zMet_of (L0 := [some (.ref (zα G 128)), some (.int a1), none, none, none]) hG zplX12 (Nat.le_of_ble_eq_true rfl) rfl rfl (fun X hl hX hEI hEV hEA => ?_)
  subst hl
  have hX : zOk G X cX12_text 5 RX12 102 := hX
  have hE := hEI _ _ rfl rfl
  rw [f_X12_text] at h
  refine z_iload_n 0 hX dX12_text_0 rfl <|
    z_iconst 1 hX dX12_text_1 zki0 <|
    z_iconst 2 hX dX12_text_2 zki1 <|
    zb1 h fun x2 r1 h => zcX12_56 3 [.int a1, .int (nI 0), .int (nI 1)] [] hX dX12_text_3 (c_X12_in (zgd0 hX) r1) rfl rfl rfl (Nat.le_of_ble_eq_true rfl) (Nat.le_of_ble_eq_true rfl) <|
    z_if_ne 6 15 hX dX12_text_6 rfl h (fun q3 h => ?_) (fun q3 h => ?_)
  · refine z_aload_n 15 hX dX12_text_15 rfl <|
      z_iload_n 16 hX dX12_text_16 rfl <|
      zpX12_74 17 hX dX12_text_17 (rfl : shp 128 = (12, 0)) <|
      z_w h fun w1 h =>
      z_aload_n 20 hX dX12_text_20 rfl <|
      z_iconst 21 hX dX12_text_21 zki0 <|
      zpX12_70 22 hX dX12_text_22 (rfl : shp 128 = (12, 0)) <|
      z_w h fun w2 h =>
      z_aload_n 25 hX dX12_text_25 rfl <|
      z_iconst 26 hX dX12_text_26 zki0 <|
      zpX12_104 27 hX dX12_text_27 (rfl : shp 128 = (12, 0)) <|
      z_w h fun w3 h =>
      z_aload_n 30 hX dX12_text_30 rfl <|
      z_iconst 31 hX dX12_text_31 zki0 <|
      zpX12_77 32 hX dX12_text_32 (rfl : shp 128 = (12, 0)) <|
      z_w h fun w4 h =>
      z_aload_n 35 hX dX12_text_35 rfl <|
      zb12 h fun x5 w5 r4 h => zcX12_114 36 [] [] hX dX12_text_36 (c_X12_whole (zgd0 hX) r4) (rfl : shp 128 = (12, 0)) rfl rfl rfl (Nat.le_of_ble_eq_true rfl) (Nat.le_of_ble_eq_true rfl) <|
      z_if_eq 39 59 hX dX12_text_39 rfl h (fun q6 h => ?_) (fun q6 h => ?_)
    · refine j_X12_text_59z hX hE h
    · refine z_aload_n 42 hX dX12_text_42 rfl <|
        zgX12_70 43 hX dX12_text_43 (rfl : shp 128 = (12, 0)) <|
        z_aload_n 46 hX dX12_text_46 rfl <|
        zgX12_7 47 hX dX12_text_47 (rfl : shp 128 = (12, 0)) <|
        z_iconst 50 hX dX12_text_50 zki4 <|
        z_ialdc (j := 4) 51 hX dX12_text_51 (rfl : shp 129 = (20, 628)) (zink 4 628 (by decide) (by decide)) (nI_clamp (by decide)) <|
        z_icmp_ne 52 59 hX dX12_text_52 rfl h (fun q7 h => ?_) (fun q7 h => ?_)
      · refine j_X12_text_59z hX hE h
      · refine z_iconst 55 hX dX12_text_55 zki1 <|
          z_goto 56 60 hX dX12_text_56 rfl <|
          j_X12_text_60z hX hE h
  · refine z_aload_n 9 hX dX12_text_9 rfl <|
      z_iconst 10 hX dX12_text_10 zki1 <|
      zb12 h fun x9 w6 r8 h => zcX12_64 11 [.int (nI 1)] [] hX dX12_text_11 (c_X12_error (zgd0 hX) r8) (rfl : shp 128 = (12, 0)) rfl rfl rfl (Nat.le_of_ble_eq_true rfl) (Nat.le_of_ble_eq_true rfl) <|
      z_endI2 14 hE rfl h dX12_text_14
def j_X12_untell_28 (a1 : Int32) (b0 : Int32) (w : zW) : Option (Int32 × zW) :=
  zsto w 129 628 ((nI 294) + ((nI 125) * a1)) (nI 0) fun w1 =>
  some (b0, w1)
theorem j_X12_untell_28z {G : zG} {X : zX} {w : zW} {re : Int32} {we : zW} {a1 : Int32} {b0 : Int32} (hX : zOk G X cX12_untell 3 RX12 1) (hE : zEI G X cX12_untell .int re we)  (h : j_X12_untell_28 a1 b0 w = some (re, we)) : zZ G X w 28 [some (.ref (zα G 128)), some (.int a1), none] [.int b0] := by
  rw [j_X12_untell_28] at h
  refine z_istore_n 28 [some (.ref (zα G 128)), some (.int a1), some (.int b0)] hX dX12_untell_28 (Nat.le_of_ble_eq_true rfl) rfl rfl <|
    z_aload_n 29 hX dX12_untell_29 rfl <|
    zgX12_7 30 hX dX12_untell_30 (rfl : shp 128 = (12, 0)) <|
    z_sipush 33 hX dX12_untell_33 zks294 <|
    z_bipush 36 hX dX12_untell_36 zkb125 <|
    z_iload_n 38 hX dX12_untell_38 rfl <|
    z_imul 39 hX dX12_untell_39 <|
    z_iadd 40 hX dX12_untell_40 <|
    z_iconst 41 hX dX12_untell_41 zki0 <|
    z_iast 42 hX dX12_untell_42 (rfl : shp 129 = (20, 628)) h fun w1 h =>
    z_iload_n 43 hX dX12_untell_43 rfl <|
    z_endI2 44 hE rfl h dX12_untell_44
def f_X12_untell (a1 : Int32) (w : zW) : Option (Int32 × zW) :=
  zb (f_X12_in a1 (nI 0) (nI 1)) fun x2 =>
  if x2 = nI 0 then
    zb2 (f_X12_error (nI 1) w) fun x8 w1 =>
    some (x8, w1)
  else
    zb (f_X12_hasText a1 w) fun x5 =>
    if x5 = nI 0 then
      j_X12_untell_28 a1 (nI 0) w
    else
      j_X12_untell_28 a1 (nI 1) w
theorem c_X12_untell {G : zG} {l : Launch} (hG : zgood G) {w : zW} {re : Int32} {we : zW} {a1 : Int32}  (h : f_X12_untell a1 w = some (re, we)) : zMet G l yX12_untell cX12_untell 3 (some .int) 1 [.ref (zα G 128), .int a1] w (some (.int re)) we := by
  refine zMet_of (L0 := [some (.ref (zα G 128)), some (.int a1), none]) hG zplX12 (Nat.le_of_ble_eq_true rfl) rfl rfl (fun X hl hX hEI hEV hEA => ?_)
  subst hl
  have hX : zOk G X cX12_untell 3 RX12 1 := hX
  have hE := hEI _ _ rfl rfl
  rw [f_X12_untell] at h
  refine z_iload_n 0 hX dX12_untell_0 rfl <|
    z_iconst 1 hX dX12_untell_1 zki0 <|
    z_iconst 2 hX dX12_untell_2 zki1 <|
    zb1 h fun x2 r1 h => zcX12_56 3 [.int a1, .int (nI 0), .int (nI 1)] [] hX dX12_untell_3 (c_X12_in (zgd0 hX) r1) rfl rfl rfl (Nat.le_of_ble_eq_true rfl) (Nat.le_of_ble_eq_true rfl) <|
    z_if_ne 6 15 hX dX12_untell_6 rfl h (fun q3 h => ?_) (fun q3 h => ?_)
  · refine z_aload_n 15 hX dX12_untell_15 rfl <|
      z_iload_n 16 hX dX12_untell_16 rfl <|
      zb1 h fun x5 r4 h => zcX12_117 17 [.int a1] [] hX dX12_untell_17 (c_X12_hasText (zgd0 hX) r4) (rfl : shp 128 = (12, 0)) rfl rfl rfl (Nat.le_of_ble_eq_true rfl) (Nat.le_of_ble_eq_true rfl) <|
      z_if_eq 20 27 hX dX12_untell_20 rfl h (fun q6 h => ?_) (fun q6 h => ?_)
    · refine z_iconst 27 hX dX12_untell_27 zki0 <|
        j_X12_untell_28z hX hE h
    · refine z_iconst 23 hX dX12_untell_23 zki1 <|
        z_goto 24 28 hX dX12_untell_24 rfl <|
        j_X12_untell_28z hX hE h
  · refine z_aload_n 9 hX dX12_untell_9 rfl <|
      z_iconst 10 hX dX12_untell_10 zki1 <|
      zb12 h fun x8 w1 r7 h => zcX12_64 11 [.int (nI 1)] [] hX dX12_untell_11 (c_X12_error (zgd0 hX) r7) (rfl : shp 128 = (12, 0)) rfl rfl rfl (Nat.le_of_ble_eq_true rfl) (Nat.le_of_ble_eq_true rfl) <|
      z_endI2 14 hE rfl h dX12_untell_14
def j_X12_joined_163   : Option Int32 :=
  some (nI 0)
theorem j_X12_joined_163z {G : zG} {X : zX} {w : zW} {re : Int32}  (hX : zOk G X cX12_joined 3 RX12 0) (hE : zEI G X cX12_joined .int re w)  (h : j_X12_joined_163 = some re) : zZ G X w 163 [none, none, none] [] := by
  rw [j_X12_joined_163] at h
  refine z_iconst 163 hX dX12_joined_163 zki0 <|
    z_goto 164 170 hX dX12_joined_164 rfl <|
    z_endI 170 hE rfl h dX12_joined_170
def j_X12_joined_226   : Option Int32 :=
  some (nI 1)
theorem j_X12_joined_226z {G : zG} {X : zX} {w : zW} {re : Int32}  (hX : zOk G X cX12_joined 3 RX12 0) (hE : zEI G X cX12_joined .int re w)  (h : j_X12_joined_226 = some re) : zZ G X w 226 [none, none, none] [] := by
  rw [j_X12_joined_226] at h
  refine z_iconst 226 hX dX12_joined_226 zki1 <|
    z_goto 227 231 hX dX12_joined_227 rfl <|
    z_endI 231 hE rfl h dX12_joined_231
def f_X12_joined (a0 : Int32) (a1 : Int32) (a2 : Int32)  : Option Int32 :=
  if a0 = nI 37 then
    if a2 = nI 0 then
      j_X12_joined_163
    else
    if a2 = (mI 1) then
      j_X12_joined_163
    else
      zguard (decide (¬ a2 = 0)) (
      some (a1 - a1 / a2 * a2))
  else
  if a0 = nI 38 then
    if a1 = nI 0 then
      some (nI 0)
    else
    if a2 = nI 0 then
      some (nI 0)
    else
      some (nI 1)
  else
  if a0 = nI 39 then
    if a1 = nI 0 then
      if a2 = nI 0 then
        some (nI 0)
      else
        j_X12_joined_226
    else
      j_X12_joined_226
  else
  if a0 = nI 40 then
    if a1 = nI 0 then
      if a2 = nI 0 then
        some (nI 0)
      else
        j_X12_joined_226
    else
      j_X12_joined_226
  else
  if a0 = nI 41 then
    if a1 = nI 0 then
      if a2 = nI 0 then
        some (nI 0)
      else
        j_X12_joined_226
    else
      j_X12_joined_226
  else
  if a0 = nI 42 then
    some (a1 * a2)
  else
  if a0 = nI 43 then
    some (a1 + a2)
  else
  if a0 = nI 44 then
    if a1 = nI 0 then
      if a2 = nI 0 then
        some (nI 0)
      else
        j_X12_joined_226
    else
      j_X12_joined_226
  else
  if a0 = nI 45 then
    some (a1 - a2)
  else
  if a0 = nI 46 then
    if a1 = nI 0 then
      if a2 = nI 0 then
        some (nI 0)
      else
        j_X12_joined_226
    else
      j_X12_joined_226
  else
  if a0 = nI 47 then
    if a2 = nI 0 then
      some (nI 0)
    else
    if a2 = (mI 1) then
      some (-a1)
    else
      zguard (decide (¬ a2 = 0)) (
      some (a1 / a2))
  else
  if a0 = nI 48 then
    if a1 = nI 0 then
      if a2 = nI 0 then
        some (nI 0)
      else
        j_X12_joined_226
    else
      j_X12_joined_226
  else
  if a0 = nI 49 then
    if a1 = nI 0 then
      if a2 = nI 0 then
        some (nI 0)
      else
        j_X12_joined_226
    else
      j_X12_joined_226
  else
  if a0 = nI 50 then
    if a1 = nI 0 then
      if a2 = nI 0 then
        some (nI 0)
      else
        j_X12_joined_226
    else
      j_X12_joined_226
  else
  if a0 = nI 51 then
    if a1 = nI 0 then
      if a2 = nI 0 then
        some (nI 0)
      else
        j_X12_joined_226
    else
      j_X12_joined_226
  else
  if a0 = nI 52 then
    if a1 = nI 0 then
      if a2 = nI 0 then
        some (nI 0)
      else
        j_X12_joined_226
    else
      j_X12_joined_226
  else
  if a0 = nI 53 then
    if a1 = nI 0 then
      if a2 = nI 0 then
        some (nI 0)
      else
        j_X12_joined_226
    else
      j_X12_joined_226
  else
  if a0 = nI 54 then
    if a1 = nI 0 then
      if a2 = nI 0 then
        some (nI 0)
      else
        j_X12_joined_226
    else
      j_X12_joined_226
  else
  if a0 = nI 55 then
    if a1 = nI 0 then
      if a2 = nI 0 then
        some (nI 0)
      else
        j_X12_joined_226
    else
      j_X12_joined_226
  else
  if a0 = nI 56 then
    if a1 = nI 0 then
      if a2 = nI 0 then
        some (nI 0)
      else
        j_X12_joined_226
    else
      j_X12_joined_226
  else
  if a0 = nI 57 then
    if a1 = nI 0 then
      if a2 = nI 0 then
        some (nI 0)
      else
        j_X12_joined_226
    else
      j_X12_joined_226
  else
  if a0 = nI 58 then
    if a1 = nI 0 then
      if a2 = nI 0 then
        some (nI 0)
      else
        j_X12_joined_226
    else
      j_X12_joined_226
  else
  if a0 = nI 59 then
    if a1 = nI 0 then
      if a2 = nI 0 then
        some (nI 0)
      else
        j_X12_joined_226
    else
      j_X12_joined_226
  else
  if a0 = nI 60 then
    if a1 < a2 then
      some (nI 1)
    else
      some (nI 0)
  else
  if a0 = nI 61 then
    if a1 = a2 then
      some (nI 1)
    else
      some (nI 0)
  else
  if a0 = nI 62 then
    if a2 < a1 then
      some (nI 1)
    else
      some (nI 0)
  else
  if a1 = nI 0 then
    if a2 = nI 0 then
      some (nI 0)
    else
      j_X12_joined_226
  else
    j_X12_joined_226
