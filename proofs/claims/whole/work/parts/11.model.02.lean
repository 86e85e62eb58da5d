theorem l_X12_stuck_82z {K155 : Int32 → Int32 → Int32 → zW → Option (Int32 × zW)} {G : zG} {X : zX} {re : Int32} {we : zW} (hX : zOk G X cX12_stuck 6 RX12 2) (hE : zEI G X cX12_stuck .int re we) (hK155 : ∀ (a1 : Int32) (a2 : Int32) (a3 : Int32) (w3 : zW) , K155 a1 a2 a3 w3 = some (re, we) → zZ G X w3 155 [some (.ref (zα G 128)), some (.int a1), some (.int a2), some (.int a3), none, none] []) : ∀ (n : Nat) (a1 : Int32) (a2 : Int32) (a3 : Int32) (a4 : Int32) (w : zW) , l_X12_stuck_82 K155 n a1 a2 a3 a4 w = some (re, we) → zZ G X w 82 [some (.ref (zα G 128)), some (.int a1), some (.int a2), some (.int a3), some (.int a4), none] [] := by
  intro n
  induction n with
  | zero =>
    intro a1 a2 a3 a4 w  h
    rw [l_X12_stuck_82.eq_1] at h
    cases h
  | succ n ih =>
    intro a1 a2 a3 a4 w  h
    rw [l_X12_stuck_82.eq_2] at h
    refine z_iload 82 hX dX12_stuck_82 rfl <|
      z_iconst 84 hX dX12_stuck_84 zki5 <|
      z_icmp_ge 85 155 hX dX12_stuck_85 rfl h (fun q1 h => ?_) (fun q1 h => ?_)
    · refine z_weak (L' := [some (.ref (zα G 128)), some (.int a1), some (.int a2), some (.int a3), none, none]) (zsub_s (zsub_s (zsub_s (zsub_s (zsub_n (zsub_n zsub_0)))))) <|
        hK155 _ _ _ _ h
    · refine z_iload 88 hX dX12_stuck_88 rfl <|
        z_aload_n 90 hX dX12_stuck_90 rfl <|
        z_iload_n 91 hX dX12_stuck_91 rfl <|
        zb1 h fun x3 r2 h => zcX12_151 92 [.int a3] [.int a4] hX dX12_stuck_92 (c_X12_sortOf (zgd0 hX) r2) (rfl : shp 128 = (12, 0)) rfl rfl rfl (Nat.le_of_ble_eq_true rfl) (Nat.le_of_ble_eq_true rfl) <|
        zb1 h fun x5 r4 h => zcX12_154 95 [.int a4, .int x3] [] hX dX12_stuck_95 (c_X12_behind (zgd0 hX) r4) rfl rfl rfl (Nat.le_of_ble_eq_true rfl) (Nat.le_of_ble_eq_true rfl) <|
        z_istore 98 [some (.ref (zα G 128)), some (.int a1), some (.int a2), some (.int a3), some (.int a4), some (.int x5)] hX dX12_stuck_98 (Nat.le_of_ble_eq_true rfl) rfl rfl <|
        z_aload_n 100 hX dX12_stuck_100 rfl <|
        zgX12_31 101 hX dX12_stuck_101 (rfl : shp 128 = (12, 0)) <|
        z_iload_n 104 hX dX12_stuck_104 rfl <|
        z_iald 105 hX dX12_stuck_105 (rfl : shp 136 = (20, 245)) h fun x6 _ h =>
        z_iload 106 hX dX12_stuck_106 rfl <|
        z_ishr 108 hX dX12_stuck_108 <|
        z_iconst 109 hX dX12_stuck_109 zki1 <|
        z_iand 110 hX dX12_stuck_110 <|
        z_iconst 111 hX dX12_stuck_111 zki1 <|
        z_icmp_ne 112 149 hX dX12_stuck_112 rfl h (fun q7 h => ?_) (fun q7 h => ?_)
      · refine z_iincG 149 (fun x8 => [some (.ref (zα G 128)), some (.int a1), some (.int a2), some (.int a3), some (.int x8), some (.int x5)]) hX dX12_stuck_149 rfl zki1 rfl (fun _ => rfl) h fun x8 h =>
          z_goto 152 82 hX dX12_stuck_152 rfl <|
          z_weak (L' := [some (.ref (zα G 128)), some (.int a1), some (.int a2), some (.int a3), some (.int x8), none]) (zsub_s (zsub_s (zsub_s (zsub_s (zsub_s (zsub_n zsub_0)))))) <|
          ih _ _ _ _ _ h
      · refine z_iload 115 hX dX12_stuck_115 rfl <|
          z_iconst 117 hX dX12_stuck_117 zkim1 <|
          z_icmp_eq 118 149 hX dX12_stuck_118 rfl h (fun q9 h => ?_) (fun q9 h => ?_)
        · refine z_iincG 149 (fun x10 => [some (.ref (zα G 128)), some (.int a1), some (.int a2), some (.int a3), some (.int x10), some (.int x5)]) hX dX12_stuck_149 rfl zki1 rfl (fun _ => rfl) h fun x10 h =>
            z_goto 152 82 hX dX12_stuck_152 rfl <|
            z_weak (L' := [some (.ref (zα G 128)), some (.int a1), some (.int a2), some (.int a3), some (.int x10), none]) (zsub_s (zsub_s (zsub_s (zsub_s (zsub_s (zsub_n zsub_0)))))) <|
            ih _ _ _ _ _ h
        · refine z_aload_n 121 hX dX12_stuck_121 rfl <|
            z_iload_n 122 hX dX12_stuck_122 rfl <|
            z_iload_n 123 hX dX12_stuck_123 rfl <|
            zb1 h fun x12 r11 h => zcX12_157 124 [.int a3, .int a2] [] hX dX12_stuck_124 (c_X12_unlike (zgd0 hX) r11) (rfl : shp 128 = (12, 0)) rfl rfl rfl (Nat.le_of_ble_eq_true rfl) (Nat.le_of_ble_eq_true rfl) <|
            z_if_ne 127 149 hX dX12_stuck_127 rfl h (fun q13 h => ?_) (fun q13 h => ?_)
          · refine z_iincG 149 (fun x14 => [some (.ref (zα G 128)), some (.int a1), some (.int a2), some (.int a3), some (.int x14), some (.int x5)]) hX dX12_stuck_149 rfl zki1 rfl (fun _ => rfl) h fun x14 h =>
              z_goto 152 82 hX dX12_stuck_152 rfl <|
              z_weak (L' := [some (.ref (zα G 128)), some (.int a1), some (.int a2), some (.int a3), some (.int x14), none]) (zsub_s (zsub_s (zsub_s (zsub_s (zsub_s (zsub_n zsub_0)))))) <|
              ih _ _ _ _ _ h
          · refine z_aload_n 130 hX dX12_stuck_130 rfl <|
              zgX12_31 131 hX dX12_stuck_131 (rfl : shp 128 = (12, 0)) <|
              z_iload_n 134 hX dX12_stuck_134 rfl <|
              z_aload_n 135 hX dX12_stuck_135 rfl <|
              z_iload_n 136 hX dX12_stuck_136 rfl <|
              zb1 h fun x16 r15 h => zcX12_145 137 [.int a3] [.int a2, .ref (zα G 136)] hX dX12_stuck_137 (c_X12_lengthOf (zgd0 hX) r15) (rfl : shp 128 = (12, 0)) rfl rfl rfl (Nat.le_of_ble_eq_true rfl) (Nat.le_of_ble_eq_true rfl) <|
              z_iadd 140 hX dX12_stuck_140 <|
              z_dup2 141 hX dX12_stuck_141 rfl rfl <|
              z_iald 142 hX dX12_stuck_142 (rfl : shp 136 = (20, 245)) h fun x17 _ h =>
              z_iconst 143 hX dX12_stuck_143 zki1 <|
              z_iload 144 hX dX12_stuck_144 rfl <|
              z_ishl 146 hX dX12_stuck_146 <|
              z_ior 147 hX dX12_stuck_147 <|
              z_iast 148 hX dX12_stuck_148 (rfl : shp 136 = (20, 245)) h fun w1 h =>
              z_iincG 149 (fun x18 => [some (.ref (zα G 128)), some (.int a1), some (.int a2), some (.int a3), some (.int x18), some (.int x5)]) hX dX12_stuck_149 rfl zki1 rfl (fun _ => rfl) h fun x18 h =>
              z_goto 152 82 hX dX12_stuck_152 rfl <|
              z_weak (L' := [some (.ref (zα G 128)), some (.int a1), some (.int a2), some (.int a3), some (.int x18), none]) (zsub_s (zsub_s (zsub_s (zsub_s (zsub_s (zsub_n zsub_0)))))) <|
              ih _ _ _ _ _ h
def l_X12_stuck_60 (K161 : Int32 → Int32 → zW → Option (Int32 × zW)) : Nat → Int32 → Int32 → Int32 → zW → Option (Int32 × zW)
  | 0, _, _, _, _ => none
  | n + 1, a1, a2, a3, w =>
    if a3 < (w 129 1) then
      zld w 136 245 a2 fun x2 =>
      if x2 = nI 0 then
        K161 a1 a2 w
      else
        l_X12_stuck_82 (fun k155_a1 k155_a2 k155_a3 w11 =>
          zlet (k155_a3 + nI 1) fun x104 =>
          (l_X12_stuck_60 K161 n) k155_a1 k155_a2 x104 w11) zfuel a1 a2 a3 (nI 0) w
    else
      K161 a1 a2 w
theorem l_X12_stuck_60z {K161 : Int32 → Int32 → zW → Option (Int32 × zW)} {G : zG} {X : zX} {re : Int32} {we : zW} (hX : zOk G X cX12_stuck 6 RX12 2) (hE : zEI G X cX12_stuck .int re we) (hK161 : ∀ (a1 : Int32) (a2 : Int32) (w3 : zW) , K161 a1 a2 w3 = some (re, we) → zZ G X w3 161 [some (.ref (zα G 128)), some (.int a1), some (.int a2), none, none, none] []) : ∀ (n : Nat) (a1 : Int32) (a2 : Int32) (a3 : Int32) (w : zW) , l_X12_stuck_60 K161 n a1 a2 a3 w = some (re, we) → zZ G X w 60 [some (.ref (zα G 128)), some (.int a1), some (.int a2), some (.int a3), none, none] [] := by
  intro n
  induction n with
  | zero =>
    intro a1 a2 a3 w  h
    rw [l_X12_stuck_60.eq_1] at h
    cases h
  | succ n ih =>
    intro a1 a2 a3 w  h
    rw [l_X12_stuck_60.eq_2] at h
    refine z_iload_n 60 hX dX12_stuck_60 rfl <|
      z_aload_n 61 hX dX12_stuck_61 rfl <|
      zgX12_7 62 hX dX12_stuck_62 (rfl : shp 128 = (12, 0)) <|
      z_iconst 65 hX dX12_stuck_65 zki1 <|
      z_ialdc (j := 1) 66 hX dX12_stuck_66 (rfl : shp 129 = (20, 628)) (zink 1 628 (by decide) (by decide)) (nI_clamp (by decide)) <|
      z_icmp_ge 67 161 hX dX12_stuck_67 rfl h (fun q1 h => ?_) (fun q1 h => ?_)
    · refine z_weak (L' := [some (.ref (zα G 128)), some (.int a1), some (.int a2), none, none, none]) (zsub_s (zsub_s (zsub_s (zsub_n (zsub_n (zsub_n zsub_0)))))) <|
        hK161 _ _ _ h
    · refine z_aload_n 70 hX dX12_stuck_70 rfl <|
        zgX12_31 71 hX dX12_stuck_71 (rfl : shp 128 = (12, 0)) <|
        z_iload_n 74 hX dX12_stuck_74 rfl <|
        z_iald 75 hX dX12_stuck_75 (rfl : shp 136 = (20, 245)) h fun x2 _ h =>
        z_if_eq 76 161 hX dX12_stuck_76 rfl h (fun q3 h => ?_) (fun q3 h => ?_)
      · refine z_weak (L' := [some (.ref (zα G 128)), some (.int a1), some (.int a2), none, none, none]) (zsub_s (zsub_s (zsub_s (zsub_n (zsub_n (zsub_n zsub_0)))))) <|
          hK161 _ _ _ h
      · refine z_iconst 79 hX dX12_stuck_79 zki0 <|
          z_istore 80 [some (.ref (zα G 128)), some (.int a1), some (.int a2), some (.int a3), some (.int (nI 0)), none] hX dX12_stuck_80 (Nat.le_of_ble_eq_true rfl) rfl rfl <|
          l_X12_stuck_82z hX hE (fun k155_a1 k155_a2 k155_a3 w11 h => ?_) _ _ _ _ _ _ h
        · refine z_iincG 155 (fun x104 => [some (.ref (zα G 128)), some (.int k155_a1), some (.int k155_a2), some (.int x104), none, none]) hX dX12_stuck_155 rfl zki1 rfl (fun _ => rfl) h fun x104 h =>
            z_goto 158 60 hX dX12_stuck_158 rfl <|
            ih _ _ _ _ h
def j_X12_stuck_57 (rc : Int32 → Int32 → zW → Option (Int32 × zW)) (K167 : Int32 → zW → Option (Int32 × zW)) (a2 : Int32) (b0 : Int32) (w : zW) : Option (Int32 × zW) :=
  l_X12_stuck_60 (fun k161_a1 k161_a2 w11 =>
    zlet (k161_a2 + nI 1) fun x101 =>
    rc k161_a1 x101 w11) zfuel b0 a2 (nI 0) w
theorem j_X12_stuck_57z {rc : Int32 → Int32 → zW → Option (Int32 × zW)} {K167 : Int32 → zW → Option (Int32 × zW)} {G : zG} {X : zX} {w : zW} {re : Int32} {we : zW} {a2 : Int32} {b0 : Int32} (hX : zOk G X cX12_stuck 6 RX12 2) (hE : zEI G X cX12_stuck .int re we) (hrc : ∀ (a1 : Int32) (a2 : Int32) (w3 : zW) , rc a1 a2 w3 = some (re, we) → zZ G X w3 35 [some (.ref (zα G 128)), some (.int a1), some (.int a2), none, none, none] []) (hK167 : ∀ (a1 : Int32) (w3 : zW) , K167 a1 w3 = some (re, we) → zZ G X w3 167 [none, some (.int a1), none, none, none, none] [])  (h : j_X12_stuck_57 rc K167 a2 b0 w = some (re, we)) : zZ G X w 57 [some (.ref (zα G 128)), none, some (.int a2), none, none, none] [.int b0] := by
  rw [j_X12_stuck_57] at h
  refine z_istore_n 57 [some (.ref (zα G 128)), some (.int b0), some (.int a2), none, none, none] hX dX12_stuck_57 (Nat.le_of_ble_eq_true rfl) rfl rfl <|
    z_iconst 58 hX dX12_stuck_58 zki0 <|
    z_istore_n 59 [some (.ref (zα G 128)), some (.int b0), some (.int a2), some (.int (nI 0)), none, none] hX dX12_stuck_59 (Nat.le_of_ble_eq_true rfl) rfl rfl <|
    l_X12_stuck_60z hX hE (fun k161_a1 k161_a2 w11 h => ?_) _ _ _ _ _ h
  · refine z_iincG 161 (fun x101 => [some (.ref (zα G 128)), some (.int k161_a1), some (.int x101), none, none, none]) hX dX12_stuck_161 rfl zki1 rfl (fun _ => rfl) h fun x101 h =>
      z_goto 164 35 hX dX12_stuck_164 rfl <|
      hrc _ _ _ h
def l_X12_stuck_35 (K167 : Int32 → zW → Option (Int32 × zW)) : Nat → Int32 → Int32 → zW → Option (Int32 × zW)
  | 0, _, _, _ => none
  | n + 1, a1, a2, w =>
    if (w 128 12) < a2 then
      K167 a1 w
    else
      zld w 136 245 a2 fun x2 =>
      if x2 = nI 0 then
        j_X12_stuck_57 (l_X12_stuck_35 K167 n) K167 a2 a1 w
      else
        j_X12_stuck_57 (l_X12_stuck_35 K167 n) K167 a2 a2 w
theorem l_X12_stuck_35z {K167 : Int32 → zW → Option (Int32 × zW)} {G : zG} {X : zX} {re : Int32} {we : zW} (hX : zOk G X cX12_stuck 6 RX12 2) (hE : zEI G X cX12_stuck .int re we) (hK167 : ∀ (a1 : Int32) (w3 : zW) , K167 a1 w3 = some (re, we) → zZ G X w3 167 [none, some (.int a1), none, none, none, none] []) : ∀ (n : Nat) (a1 : Int32) (a2 : Int32) (w : zW) , l_X12_stuck_35 K167 n a1 a2 w = some (re, we) → zZ G X w 35 [some (.ref (zα G 128)), some (.int a1), some (.int a2), none, none, none] [] := by
  intro n
  induction n with
  | zero =>
    intro a1 a2 w  h
    rw [l_X12_stuck_35.eq_1] at h
    cases h
  | succ n ih =>
    intro a1 a2 w  h
    rw [l_X12_stuck_35.eq_2] at h
    refine z_iload_n 35 hX dX12_stuck_35 rfl <|
      z_aload_n 36 hX dX12_stuck_36 rfl <|
      zgX12_126 37 hX dX12_stuck_37 (rfl : shp 128 = (12, 0)) <|
      z_icmp_gt 40 167 hX dX12_stuck_40 rfl h (fun q1 h => ?_) (fun q1 h => ?_)
    · refine z_weak (L' := [none, some (.int a1), none, none, none, none]) (zsub_n (zsub_s (zsub_n (zsub_n (zsub_n (zsub_n zsub_0)))))) <|
        hK167 _ _ h
    · refine z_aload_n 43 hX dX12_stuck_43 rfl <|
        zgX12_31 44 hX dX12_stuck_44 (rfl : shp 128 = (12, 0)) <|
        z_iload_n 47 hX dX12_stuck_47 rfl <|
        z_iald 48 hX dX12_stuck_48 (rfl : shp 136 = (20, 245)) h fun x2 _ h =>
        z_if_eq 49 56 hX dX12_stuck_49 rfl h (fun q3 h => ?_) (fun q3 h => ?_)
      · refine z_iload_n 56 hX dX12_stuck_56 rfl <|
          z_weak (L' := [some (.ref (zα G 128)), none, some (.int a2), none, none, none]) (zsub_s (zsub_n (zsub_s (zsub_n (zsub_n (zsub_n zsub_0)))))) <|
          j_X12_stuck_57z hX hE ih hK167 h
      · refine z_iload_n 52 hX dX12_stuck_52 rfl <|
          z_goto 53 57 hX dX12_stuck_53 rfl <|
          z_weak (L' := [some (.ref (zα G 128)), none, some (.int a2), none, none, none]) (zsub_s (zsub_n (zsub_s (zsub_n (zsub_n (zsub_n zsub_0)))))) <|
          j_X12_stuck_57z hX hE ih hK167 h
def f_X12_stuck  (w : zW) : Option (Int32 × zW) :=
  l_X12_stuck_4 (fun k33_a1 w11 =>
    l_X12_stuck_35 (fun k167_a1 w22 =>
      some (k167_a1, w22)) zfuel k33_a1 (nI 0) w11) zfuel (nI 0) (nI 0) w
theorem c_X12_stuck {G : zG} {l : Launch} (hG : zgood G) {w : zW} {re : Int32} {we : zW}   (h : f_X12_stuck w = some (re, we)) : zMet G l yX12_stuck cX12_stuck 6 (some .int) 2 [.ref (zα G 128)] w (some (.int re)) we := by
  refine zMet_of (L0 := [some (.ref (zα G 128)), none, none, none, none, none]) hG zplX12 (Nat.le_of_ble_eq_true rfl) rfl rfl (fun X hl hX hEI hEV hEA => ?_)
  subst hl
  have hX : zOk G X cX12_stuck 6 RX12 2 := hX
  have hE := hEI _ _ rfl rfl
  rw [f_X12_stuck] at h
  refine z_iconst 0 hX dX12_stuck_0 zki0 <|
    z_istore_n 1 [some (.ref (zα G 128)), some (.int (nI 0)), none, none, none, none] hX dX12_stuck_1 (Nat.le_of_ble_eq_true rfl) rfl rfl <|
    z_iconst 2 hX dX12_stuck_2 zki0 <|
    z_istore_n 3 [some (.ref (zα G 128)), some (.int (nI 0)), some (.int (nI 0)), none, none, none] hX dX12_stuck_3 (Nat.le_of_ble_eq_true rfl) rfl rfl <|
    l_X12_stuck_4z hX hE (fun k33_a1 w11 h => ?_) _ _ _ _ h
  · refine z_iconst 33 hX dX12_stuck_33 zki0 <|
      z_istore_n 34 [some (.ref (zα G 128)), some (.int k33_a1), some (.int (nI 0)), none, none, none] hX dX12_stuck_34 (Nat.le_of_ble_eq_true rfl) rfl rfl <|
      l_X12_stuck_35z hX hE (fun k167_a1 w22 h => ?_) _ _ _ _ h
    · refine z_iload_n 167 hX dX12_stuck_167 rfl <|
        z_endI2 168 hE rfl h dX12_stuck_168
def j_X12_findSaid_91 (rc : Int32 → Int32 → Int32 → Int32 → zW → Option zW) (K96 : Int32 → Int32 → Int32 → zW → Option zW) (a1 : Int32) (a2 : Int32) (a4 : Int32) (b0 : Int32) (b1 : Int32) (w : zW) : Option zW :=
  zlet (b0 + b1) fun x1 =>
  rc a1 a2 x1 a4 w
theorem j_X12_findSaid_91z {rc : Int32 → Int32 → Int32 → Int32 → zW → Option zW} {K96 : Int32 → Int32 → Int32 → zW → Option zW} {G : zG} {X : zX} {w : zW} {we : zW} {a1 : Int32} {a2 : Int32} {a4 : Int32} {b0 : Int32} {b1 : Int32} (hX : zOk G X cX12_findSaid 6 RX12 2) (hE : zEV G X cX12_findSaid we) (hrc : ∀ (a1 : Int32) (a2 : Int32) (a3 : Int32) (a4 : Int32) (w3 : zW) , rc a1 a2 a3 a4 w3 = some we → zZ G X w3 22 [some (.ref (zα G 128)), some (.int a1), some (.int a2), some (.int a3), some (.int a4), none] []) (hK96 : ∀ (a1 : Int32) (a2 : Int32) (a3 : Int32) (w3 : zW) , K96 a1 a2 a3 w3 = some we → zZ G X w3 96 [some (.ref (zα G 128)), some (.int a1), some (.int a2), some (.int a3), none, none] [])  (h : j_X12_findSaid_91 rc K96 a1 a2 a4 b0 b1 w = some we) : zZ G X w 91 [some (.ref (zα G 128)), some (.int a1), some (.int a2), none, some (.int a4), none] [.int b1, .int b0] := by
  rw [j_X12_findSaid_91] at h
  refine z_iadd 91 hX dX12_findSaid_91 <|
    z_top h fun x1 h =>
    z_istore_n 92 [some (.ref (zα G 128)), some (.int a1), some (.int a2), some (.int x1), some (.int a4), none] hX dX12_findSaid_92 (Nat.le_of_ble_eq_true rfl) rfl rfl <|
    z_goto 93 22 hX dX12_findSaid_93 rfl <|
    hrc _ _ _ _ _ h
def j_X12_findSaid_78 (rc : Int32 → Int32 → Int32 → Int32 → zW → Option zW) (K96 : Int32 → Int32 → Int32 → zW → Option zW) (a1 : Int32) (a2 : Int32) (a3 : Int32) (b0 : Int32) (w : zW) : Option zW :=
  if b0 = nI 0 then
    j_X12_findSaid_91 rc K96 a1 a2 b0 a3 (nI 1) w
  else
    j_X12_findSaid_91 rc K96 a1 a2 b0 a3 (nI 0) w
theorem j_X12_findSaid_78z {rc : Int32 → Int32 → Int32 → Int32 → zW → Option zW} {K96 : Int32 → Int32 → Int32 → zW → Option zW} {G : zG} {X : zX} {w : zW} {we : zW} {a1 : Int32} {a2 : Int32} {a3 : Int32} {b0 : Int32} (hX : zOk G X cX12_findSaid 6 RX12 2) (hE : zEV G X cX12_findSaid we) (hrc : ∀ (a1 : Int32) (a2 : Int32) (a3 : Int32) (a4 : Int32) (w3 : zW) , rc a1 a2 a3 a4 w3 = some we → zZ G X w3 22 [some (.ref (zα G 128)), some (.int a1), some (.int a2), some (.int a3), some (.int a4), none] []) (hK96 : ∀ (a1 : Int32) (a2 : Int32) (a3 : Int32) (w3 : zW) , K96 a1 a2 a3 w3 = some we → zZ G X w3 96 [some (.ref (zα G 128)), some (.int a1), some (.int a2), some (.int a3), none, none] [])  (h : j_X12_findSaid_78 rc K96 a1 a2 a3 b0 w = some we) : zZ G X w 78 [some (.ref (zα G 128)), some (.int a1), some (.int a2), some (.int a3), none, none] [.int b0] := by
  rw [j_X12_findSaid_78] at h
  refine z_istore 78 [some (.ref (zα G 128)), some (.int a1), some (.int a2), some (.int a3), some (.int b0), none] hX dX12_findSaid_78 (Nat.le_of_ble_eq_true rfl) rfl rfl <|
    z_iload_n 80 hX dX12_findSaid_80 rfl <|
    z_iload 81 hX dX12_findSaid_81 rfl <|
    z_if_eq 83 90 hX dX12_findSaid_83 rfl h (fun q1 h => ?_) (fun q1 h => ?_)
  · refine z_iconst 90 hX dX12_findSaid_90 zki1 <|
      z_weak (L' := [some (.ref (zα G 128)), some (.int a1), some (.int a2), none, some (.int b0), none]) (zsub_s (zsub_s (zsub_s (zsub_n (zsub_s (zsub_n zsub_0)))))) <|
      j_X12_findSaid_91z hX hE hrc hK96 h
  · refine z_iconst 86 hX dX12_findSaid_86 zki0 <|
      z_goto 87 91 hX dX12_findSaid_87 rfl <|
      z_weak (L' := [some (.ref (zα G 128)), some (.int a1), some (.int a2), none, some (.int b0), none]) (zsub_s (zsub_s (zsub_s (zsub_n (zsub_s (zsub_n zsub_0)))))) <|
      j_X12_findSaid_91z hX hE hrc hK96 h
def j_X12_findSaid_77 (rc : Int32 → Int32 → Int32 → Int32 → zW → Option zW) (K96 : Int32 → Int32 → Int32 → zW → Option zW) (a1 : Int32) (a2 : Int32) (a3 : Int32) (w : zW) : Option zW :=
  j_X12_findSaid_78 rc K96 a1 a2 a3 (nI 0) w
theorem j_X12_findSaid_77z {rc : Int32 → Int32 → Int32 → Int32 → zW → Option zW} {K96 : Int32 → Int32 → Int32 → zW → Option zW} {G : zG} {X : zX} {w : zW} {we : zW} {a1 : Int32} {a2 : Int32} {a3 : Int32} (hX : zOk G X cX12_findSaid 6 RX12 2) (hE : zEV G X cX12_findSaid we) (hrc : ∀ (a1 : Int32) (a2 : Int32) (a3 : Int32) (a4 : Int32) (w3 : zW) , rc a1 a2 a3 a4 w3 = some we → zZ G X w3 22 [some (.ref (zα G 128)), some (.int a1), some (.int a2), some (.int a3), some (.int a4), none] []) (hK96 : ∀ (a1 : Int32) (a2 : Int32) (a3 : Int32) (w3 : zW) , K96 a1 a2 a3 w3 = some we → zZ G X w3 96 [some (.ref (zα G 128)), some (.int a1), some (.int a2), some (.int a3), none, none] [])  (h : j_X12_findSaid_77 rc K96 a1 a2 a3 w = some we) : zZ G X w 77 [some (.ref (zα G 128)), some (.int a1), some (.int a2), some (.int a3), none, none] [] := by
  rw [j_X12_findSaid_77] at h
  refine z_iconst 77 hX dX12_findSaid_77 zki0 <|
    j_X12_findSaid_78z hX hE hrc hK96 h
def l_X12_findSaid_22 (K96 : Int32 → Int32 → Int32 → zW → Option zW) : Nat → Int32 → Int32 → Int32 → Int32 → zW → Option zW
  | 0, _, _, _, _, _ => none
  | n + 1, a1, a2, a3, a4, w =>
    if a4 = nI 0 then
      zb (f_X12_sortOf a3 w) fun x3 =>
      zb (f_X12_behind a2 x3) fun x5 =>
      if x5 = (mI 1) then
        j_X12_findSaid_77 (l_X12_findSaid_22 K96 n) K96 a1 a2 a3 w
      else
        zb (f_X12_unlike a3 a1 w) fun x8 =>
        if x8 = nI 0 then
          zb (f_X12_lengthOf a3 w) fun x11 =>
          zld w 136 245 (((nI 5) * (a1 + x11)) + x5) fun x12 =>
          if nI 0 < x12 then
            j_X12_findSaid_78 (l_X12_findSaid_22 K96 n) K96 a1 a2 a3 (nI 1) w
          else
            j_X12_findSaid_77 (l_X12_findSaid_22 K96 n) K96 a1 a2 a3 w
        else
          j_X12_findSaid_77 (l_X12_findSaid_22 K96 n) K96 a1 a2 a3 w
    else
      K96 a1 a2 a3 w
theorem l_X12_findSaid_22z {K96 : Int32 → Int32 → Int32 → zW → Option zW} {G : zG} {X : zX} {we : zW} (hX : zOk G X cX12_findSaid 6 RX12 2) (hE : zEV G X cX12_findSaid we) (hK96 : ∀ (a1 : Int32) (a2 : Int32) (a3 : Int32) (w3 : zW) , K96 a1 a2 a3 w3 = some we → zZ G X w3 96 [some (.ref (zα G 128)), some (.int a1), some (.int a2), some (.int a3), none, none] []) : ∀ (n : Nat) (a1 : Int32) (a2 : Int32) (a3 : Int32) (a4 : Int32) (w : zW) , l_X12_findSaid_22 K96 n a1 a2 a3 a4 w = some we → zZ G X w 22 [some (.ref (zα G 128)), some (.int a1), some (.int a2), some (.int a3), some (.int a4), none] [] := by
  intro n
  induction n with
  | zero =>
    intro a1 a2 a3 a4 w  h
    rw [l_X12_findSaid_22.eq_1] at h
    cases h
  | succ n ih =>
    intro a1 a2 a3 a4 w  h
    rw [l_X12_findSaid_22.eq_2] at h
    refine z_iload 22 hX dX12_findSaid_22 rfl <|
      z_if_ne 24 96 hX dX12_findSaid_24 rfl h (fun q1 h => ?_) (fun q1 h => ?_)
    · refine z_weak (L' := [some (.ref (zα G 128)), some (.int a1), some (.int a2), some (.int a3), none, none]) (zsub_s (zsub_s (zsub_s (zsub_s (zsub_n (zsub_n zsub_0)))))) <|
        hK96 _ _ _ _ h
    · refine z_iload_n 27 hX dX12_findSaid_27 rfl <|
        z_aload_n 28 hX dX12_findSaid_28 rfl <|
        z_iload_n 29 hX dX12_findSaid_29 rfl <|
        zb1 h fun x3 r2 h => zcX12_151 30 [.int a3] [.int a2] hX dX12_findSaid_30 (c_X12_sortOf (zgd0 hX) r2) (rfl : shp 128 = (12, 0)) rfl rfl rfl (Nat.le_of_ble_eq_true rfl) (Nat.le_of_ble_eq_true rfl) <|
        zb1 h fun x5 r4 h => zcX12_154 33 [.int a2, .int x3] [] hX dX12_findSaid_33 (c_X12_behind (zgd0 hX) r4) rfl rfl rfl (Nat.le_of_ble_eq_true rfl) (Nat.le_of_ble_eq_true rfl) <|
        z_istore 36 [some (.ref (zα G 128)), some (.int a1), some (.int a2), some (.int a3), some (.int a4), some (.int x5)] hX dX12_findSaid_36 (Nat.le_of_ble_eq_true rfl) rfl rfl <|
        z_iload 38 hX dX12_findSaid_38 rfl <|
        z_iconst 40 hX dX12_findSaid_40 zkim1 <|
        z_icmp_eq 41 77 hX dX12_findSaid_41 rfl h (fun q6 h => ?_) (fun q6 h => ?_)
      · refine z_weak (L' := [some (.ref (zα G 128)), some (.int a1), some (.int a2), some (.int a3), none, none]) (zsub_s (zsub_s (zsub_s (zsub_s (zsub_n (zsub_n zsub_0)))))) <|
          j_X12_findSaid_77z hX hE ih hK96 h
      · refine z_aload_n 44 hX dX12_findSaid_44 rfl <|
          z_iload_n 45 hX dX12_findSaid_45 rfl <|
          z_iload_n 46 hX dX12_findSaid_46 rfl <|
          zb1 h fun x8 r7 h => zcX12_157 47 [.int a3, .int a1] [] hX dX12_findSaid_47 (c_X12_unlike (zgd0 hX) r7) (rfl : shp 128 = (12, 0)) rfl rfl rfl (Nat.le_of_ble_eq_true rfl) (Nat.le_of_ble_eq_true rfl) <|
          z_if_ne 50 77 hX dX12_findSaid_50 rfl h (fun q9 h => ?_) (fun q9 h => ?_)
        · refine z_weak (L' := [some (.ref (zα G 128)), some (.int a1), some (.int a2), some (.int a3), none, none]) (zsub_s (zsub_s (zsub_s (zsub_s (zsub_n (zsub_n zsub_0)))))) <|
            j_X12_findSaid_77z hX hE ih hK96 h
        · refine z_aload_n 53 hX dX12_findSaid_53 rfl <|
            zgX12_31 54 hX dX12_findSaid_54 (rfl : shp 128 = (12, 0)) <|
            z_iconst 57 hX dX12_findSaid_57 zki5 <|
            z_iload_n 58 hX dX12_findSaid_58 rfl <|
            z_aload_n 59 hX dX12_findSaid_59 rfl <|
            z_iload_n 60 hX dX12_findSaid_60 rfl <|
            zb1 h fun x11 r10 h => zcX12_145 61 [.int a3] [.int a1, .int (nI 5), .ref (zα G 136)] hX dX12_findSaid_61 (c_X12_lengthOf (zgd0 hX) r10) (rfl : shp 128 = (12, 0)) rfl rfl rfl (Nat.le_of_ble_eq_true rfl) (Nat.le_of_ble_eq_true rfl) <|
            z_iadd 64 hX dX12_findSaid_64 <|
            z_imul 65 hX dX12_findSaid_65 <|
            z_iload 66 hX dX12_findSaid_66 rfl <|
            z_iadd 68 hX dX12_findSaid_68 <|
            z_iald 69 hX dX12_findSaid_69 (rfl : shp 136 = (20, 245)) h fun x12 _ h =>
            z_if_le 70 77 hX dX12_findSaid_70 rfl h (fun q13 h => ?_) (fun q13 h => ?_)
          · refine z_weak (L' := [some (.ref (zα G 128)), some (.int a1), some (.int a2), some (.int a3), none, none]) (zsub_s (zsub_s (zsub_s (zsub_s (zsub_n (zsub_n zsub_0)))))) <|
              j_X12_findSaid_77z hX hE ih hK96 h
          · refine z_iconst 73 hX dX12_findSaid_73 zki1 <|
              z_goto 74 78 hX dX12_findSaid_74 rfl <|
              z_weak (L' := [some (.ref (zα G 128)), some (.int a1), some (.int a2), some (.int a3), none, none]) (zsub_s (zsub_s (zsub_s (zsub_s (zsub_n (zsub_n zsub_0)))))) <|
              j_X12_findSaid_78z hX hE ih hK96 h
def l_X12_findSaid_9 (K137 : zW → Option zW) : Nat → Int32 → Int32 → zW → Option zW
  | 0, _, _, _ => none
  | n + 1, a1, a2, w =>
    if a1 < (w 128 12) then
      l_X12_findSaid_22 (fun k96_a1 k96_a2 k96_a3 w11 =>
        zsto w11 137 48 (w11 128 15) k96_a3 fun w12 =>
        zlet (zupd w12 128 15 ((w12 128 15) + (nI 1))) fun w13 =>
        zb (f_X12_sortOf k96_a3 w13) fun x103 =>
        zb (f_X12_behind k96_a2 x103) fun x105 =>
        zb (f_X12_lengthOf k96_a3 w13) fun x107 =>
        zlet (k96_a1 + x107) fun x108 =>
        (l_X12_findSaid_9 K137 n) x108 x105 w13) zfuel a1 a2 (nI 0) (nI 0) w
    else
      K137 w
theorem l_X12_findSaid_9z {K137 : zW → Option zW} {G : zG} {X : zX} {we : zW} (hX : zOk G X cX12_findSaid 6 RX12 2) (hE : zEV G X cX12_findSaid we) (hK137 : ∀ (w3 : zW) , K137 w3 = some we → zZ G X w3 137 [none, none, none, none, none, none] []) : ∀ (n : Nat) (a1 : Int32) (a2 : Int32) (w : zW) , l_X12_findSaid_9 K137 n a1 a2 w = some we → zZ G X w 9 [some (.ref (zα G 128)), some (.int a1), some (.int a2), none, none, none] [] := by
  intro n
  induction n with
  | zero =>
    intro a1 a2 w  h
    rw [l_X12_findSaid_9.eq_1] at h
    cases h
  | succ n ih =>
    intro a1 a2 w  h
    rw [l_X12_findSaid_9.eq_2] at h
    refine z_iload_n 9 hX dX12_findSaid_9 rfl <|
      z_aload_n 10 hX dX12_findSaid_10 rfl <|
      zgX12_126 11 hX dX12_findSaid_11 (rfl : shp 128 = (12, 0)) <|
      z_icmp_ge 14 137 hX dX12_findSaid_14 rfl h (fun q1 h => ?_) (fun q1 h => ?_)
    · refine z_weak (L' := [none, none, none, none, none, none]) (zsub_n (zsub_n (zsub_n (zsub_n (zsub_n (zsub_n zsub_0)))))) <|
        hK137 _ h
    · refine z_iconst 17 hX dX12_findSaid_17 zki0 <|
        z_istore_n 18 [some (.ref (zα G 128)), some (.int a1), some (.int a2), some (.int (nI 0)), none, none] hX dX12_findSaid_18 (Nat.le_of_ble_eq_true rfl) rfl rfl <|
        z_iconst 19 hX dX12_findSaid_19 zki0 <|
        z_istore 20 [some (.ref (zα G 128)), some (.int a1), some (.int a2), some (.int (nI 0)), some (.int (nI 0)), none] hX dX12_findSaid_20 (Nat.le_of_ble_eq_true rfl) rfl rfl <|
        l_X12_findSaid_22z hX hE (fun k96_a1 k96_a2 k96_a3 w11 h => ?_) _ _ _ _ _ _ h
      · refine z_aload_n 96 hX dX12_findSaid_96 rfl <|
          zgX12_34 97 hX dX12_findSaid_97 (rfl : shp 128 = (12, 0)) <|
          z_aload_n 100 hX dX12_findSaid_100 rfl <|
          zgX12_170 101 hX dX12_findSaid_101 (rfl : shp 128 = (12, 0)) <|
          z_iload_n 104 hX dX12_findSaid_104 rfl <|
          z_iast 105 hX dX12_findSaid_105 (rfl : shp 137 = (20, 48)) h fun w12 h =>
          z_aload_n 106 hX dX12_findSaid_106 rfl <|
          z_dup 107 hX dX12_findSaid_107 rfl <|
          zgX12_170 108 hX dX12_findSaid_108 (rfl : shp 128 = (12, 0)) <|
          z_iconst 111 hX dX12_findSaid_111 zki1 <|
          z_iadd 112 hX dX12_findSaid_112 <|
          zpX12_170 113 hX dX12_findSaid_113 (rfl : shp 128 = (12, 0)) <|
          z_w h fun w13 h =>
          z_iload_n 116 hX dX12_findSaid_116 rfl <|
          z_aload_n 117 hX dX12_findSaid_117 rfl <|
          z_iload_n 118 hX dX12_findSaid_118 rfl <|
          zb1 h fun x103 r102 h => zcX12_151 119 [.int k96_a3] [.int k96_a2] hX dX12_findSaid_119 (c_X12_sortOf (zgd0 hX) r102) (rfl : shp 128 = (12, 0)) rfl rfl rfl (Nat.le_of_ble_eq_true rfl) (Nat.le_of_ble_eq_true rfl) <|
          zb1 h fun x105 r104 h => zcX12_154 122 [.int k96_a2, .int x103] [] hX dX12_findSaid_122 (c_X12_behind (zgd0 hX) r104) rfl rfl rfl (Nat.le_of_ble_eq_true rfl) (Nat.le_of_ble_eq_true rfl) <|
          z_istore_n 125 [some (.ref (zα G 128)), some (.int k96_a1), some (.int x105), some (.int k96_a3), none, none] hX dX12_findSaid_125 (Nat.le_of_ble_eq_true rfl) rfl rfl <|
          z_iload_n 126 hX dX12_findSaid_126 rfl <|
          z_aload_n 127 hX dX12_findSaid_127 rfl <|
          z_iload_n 128 hX dX12_findSaid_128 rfl <|
          zb1 h fun x107 r106 h => zcX12_145 129 [.int k96_a3] [.int k96_a1] hX dX12_findSaid_129 (c_X12_lengthOf (zgd0 hX) r106) (rfl : shp 128 = (12, 0)) rfl rfl rfl (Nat.le_of_ble_eq_true rfl) (Nat.le_of_ble_eq_true rfl) <|
          z_iadd 132 hX dX12_findSaid_132 <|
          z_top h fun x108 h =>
          z_istore_n 133 [some (.ref (zα G 128)), some (.int x108), some (.int x105), some (.int k96_a3), none, none] hX dX12_findSaid_133 (Nat.le_of_ble_eq_true rfl) rfl rfl <|
          z_goto 134 9 hX dX12_findSaid_134 rfl <|
          z_weak (L' := [some (.ref (zα G 128)), some (.int x108), some (.int x105), none, none, none]) (zsub_s (zsub_s (zsub_s (zsub_n (zsub_n (zsub_n zsub_0)))))) <|
          ih _ _ _ h
def f_X12_findSaid  (w : zW) : Option zW :=
  zlet (zupd w 128 15 (nI 0)) fun w1 =>
  l_X12_findSaid_9 (fun w12 =>
    some w12) zfuel (nI 0) (nI 0) w1
theorem c_X12_findSaid {G : zG} {l : Launch} (hG : zgood G) {w : zW} {we : zW}   (h : f_X12_findSaid w = some we) : zMet G l yX12_findSaid cX12_findSaid 6 none 2 [.ref (zα G 128)] w none we := by
  refine zMet_of (L0 := [some (.ref (zα G 128)), none, none, none, none, none]) hG zplX12 (Nat.le_of_ble_eq_true rfl) rfl rfl (fun X hl hX hEI hEV hEA => ?_)
  subst hl
  have hX : zOk G X cX12_findSaid 6 RX12 2 := hX
  have hE := hEV rfl rfl
  rw [f_X12_findSaid] at h
  refine z_aload_n 0 hX dX12_findSaid_0 rfl <|
    z_iconst 1 hX dX12_findSaid_1 zki0 <|
    zpX12_170 2 hX dX12_findSaid_2 (rfl : shp 128 = (12, 0)) <|
    z_w h fun w1 h =>
    z_iconst 5 hX dX12_findSaid_5 zki0 <|
    z_istore_n 6 [some (.ref (zα G 128)), some (.int (nI 0)), none, none, none, none] hX dX12_findSaid_6 (Nat.le_of_ble_eq_true rfl) rfl rfl <|
    z_iconst 7 hX dX12_findSaid_7 zki0 <|
    z_istore_n 8 [some (.ref (zα G 128)), some (.int (nI 0)), some (.int (nI 0)), none, none, none] hX dX12_findSaid_8 (Nat.le_of_ble_eq_true rfl) rfl rfl <|
    l_X12_findSaid_9z hX hE (fun w12 h => ?_) _ _ _ _ h
  · refine z_endV 137 hE h dX12_findSaid_137
def j_X12_wall_20  (w : zW) : Option (Int32 × zW) :=
  zb2 (f_X12_error (nI 1) w) fun x2 w1 =>
  some (x2, w1)
theorem j_X12_wall_20z {G : zG} {X : zX} {w : zW} {re : Int32} {we : zW}  (hX : zOk G X cX12_wall 5 RX12 1) (hE : zEI G X cX12_wall .int re we)  (h : j_X12_wall_20 w = some (re, we)) : zZ G X w 20 [some (.ref (zα G 128)), none, none, none, none] [] := by
  rw [j_X12_wall_20] at h
  refine z_aload_n 20 hX dX12_wall_20 rfl <|
    z_iconst 21 hX dX12_wall_21 zki1 <|
    zb12 h fun x2 w1 r1 h => zcX12_64 22 [.int (nI 1)] [] hX dX12_wall_22 (c_X12_error (zgd0 hX) r1) (rfl : shp 128 = (12, 0)) rfl rfl rfl (Nat.le_of_ble_eq_true rfl) (Nat.le_of_ble_eq_true rfl) <|
    z_endI2 25 hE rfl h dX12_wall_25
def l_X12_wall_59 (K82 : Int32 → Int32 → Int32 → zW → Option (Int32 × zW)) : Nat → Int32 → Int32 → Int32 → Int32 → zW → Option (Int32 × zW)
  | 0, _, _, _, _, _ => none
  | n + 1, a1, a2, a3, a4, w =>
    if a4 < (nI 27) then
      zsto w 129 628 (a3 + a4) (nI 0) fun w1 =>
      zlet (a4 + nI 1) fun x2 =>
      (l_X12_wall_59 K82 n) a1 a2 a3 x2 w1
    else
      K82 a1 a2 a3 w
theorem l_X12_wall_59z {K82 : Int32 → Int32 → Int32 → zW → Option (Int32 × zW)} {G : zG} {X : zX} {re : Int32} {we : zW} (hX : zOk G X cX12_wall 5 RX12 1) (hE : zEI G X cX12_wall .int re we) (hK82 : ∀ (a1 : Int32) (a2 : Int32) (a3 : Int32) (w3 : zW) , K82 a1 a2 a3 w3 = some (re, we) → zZ G X w3 82 [some (.ref (zα G 128)), some (.int a1), some (.int a2), some (.int a3), none] []) : ∀ (n : Nat) (a1 : Int32) (a2 : Int32) (a3 : Int32) (a4 : Int32) (w : zW) , l_X12_wall_59 K82 n a1 a2 a3 a4 w = some (re, we) → zZ G X w 59 [some (.ref (zα G 128)), some (.int a1), some (.int a2), some (.int a3), some (.int a4)] [] := by
  intro n
  induction n with
  | zero =>
    intro a1 a2 a3 a4 w  h
    rw [l_X12_wall_59.eq_1] at h
    cases h
  | succ n ih =>
    intro a1 a2 a3 a4 w  h
    rw [l_X12_wall_59.eq_2] at h
    refine z_iload 59 hX dX12_wall_59 rfl <|
      z_bipush 61 hX dX12_wall_61 zkb27 <|
      z_icmp_ge 63 82 hX dX12_wall_63 rfl h (fun q1 h => ?_) (fun q1 h => ?_)
    · refine z_weak (L' := [some (.ref (zα G 128)), some (.int a1), some (.int a2), some (.int a3), none]) (zsub_s (zsub_s (zsub_s (zsub_s (zsub_n zsub_0))))) <|
        hK82 _ _ _ _ h
    · refine z_aload_n 66 hX dX12_wall_66 rfl <|
        zgX12_7 67 hX dX12_wall_67 (rfl : shp 128 = (12, 0)) <|
        z_iload_n 70 hX dX12_wall_70 rfl <|
        z_iload 71 hX dX12_wall_71 rfl <|
        z_iadd 73 hX dX12_wall_73 <|
        z_iconst 74 hX dX12_wall_74 zki0 <|
        z_iast 75 hX dX12_wall_75 (rfl : shp 129 = (20, 628)) h fun w1 h =>
        z_iincG 76 (fun x2 => [some (.ref (zα G 128)), some (.int a1), some (.int a2), some (.int a3), some (.int x2)]) hX dX12_wall_76 rfl zki1 rfl (fun _ => rfl) h fun x2 h =>
        z_goto 79 59 hX dX12_wall_79 rfl <|
        ih _ _ _ _ _ h
def f_X12_wall (a1 : Int32) (a2 : Int32) (w : zW) : Option (Int32 × zW) :=
  zb (f_X12_in a1 (nI 0) (nI 69)) fun x2 =>
  if x2 = nI 0 then
    j_X12_wall_20 w
  else
    zb (f_X12_in a2 (nI 0) (nI 24)) fun x5 =>
    if x5 = nI 0 then
      j_X12_wall_20 w
    else
    if (w 129 0) = (nI 6) then
      zb2 (f_X12_error (nI 4) w) fun x10 w1 =>
      some (x10, w1)
    else
      zlet ((nI 8) + ((nI 27) * (w 129 0))) fun x8 =>
      l_X12_wall_59 (fun k82_a1 k82_a2 k82_a3 w11 =>
        zsto w11 129 628 (k82_a3 + (nI 0)) (k82_a1 / (nI 10)) fun w12 =>
        zsto w12 129 628 (k82_a3 + (nI 1)) (k82_a1 - k82_a1 / (nI 10) * (nI 10)) fun w13 =>
        zsto w13 129 628 (k82_a3 + (nI 2)) k82_a2 fun w14 =>
        zlet (zupd w14 129 0 ((w14 129 0) + (nI 1))) fun w15 =>
        some ((w15 129 0) - (nI 1), w15)) zfuel a1 a2 x8 (nI 0) w
theorem c_X12_wall {G : zG} {l : Launch} (hG : zgood G) {w : zW} {re : Int32} {we : zW} {a1 : Int32} {a2 : Int32}  (h : f_X12_wall a1 a2 w = some (re, we)) : zMet G l yX12_wall cX12_wall 5 (some .int) 1 [.ref (zα G 128), .int a1, .int a2] w (some (.int re)) we := by
  refine zMet_of (L0 := [some (.ref (zα G 128)), some (.int a1), some (.int a2), none, none]) hG zplX12 (Nat.le_of_ble_eq_true rfl) rfl rfl (fun X hl hX hEI hEV hEA => ?_)
  subst hl
  have hX : zOk G X cX12_wall 5 RX12 1 := hX
  have hE := hEI _ _ rfl rfl
  rw [f_X12_wall] at h
  refine z_iload_n 0 hX dX12_wall_0 rfl <|
    z_iconst 1 hX dX12_wall_1 zki0 <|
    z_bipush 2 hX dX12_wall_2 zkb69 <|
    zb1 h fun x2 r1 h => zcX12_56 4 [.int a1, .int (nI 0), .int (nI 69)] [] hX dX12_wall_4 (c_X12_in (zgd0 hX) r1) rfl rfl rfl (Nat.le_of_ble_eq_true rfl) (Nat.le_of_ble_eq_true rfl) <|
    z_if_eq 7 20 hX dX12_wall_7 rfl h (fun q3 h => ?_) (fun q3 h => ?_)
  · refine z_weak (L' := [some (.ref (zα G 128)), none, none, none, none]) (zsub_s (zsub_n (zsub_n (zsub_n (zsub_n zsub_0))))) <|
      j_X12_wall_20z hX hE h
  · refine z_iload_n 10 hX dX12_wall_10 rfl <|
      z_iconst 11 hX dX12_wall_11 zki0 <|
      z_bipush 12 hX dX12_wall_12 zkb24 <|
      zb1 h fun x5 r4 h => zcX12_56 14 [.int a2, .int (nI 0), .int (nI 24)] [] hX dX12_wall_14 (c_X12_in (zgd0 hX) r4) rfl rfl rfl (Nat.le_of_ble_eq_true rfl) (Nat.le_of_ble_eq_true rfl) <|
      z_if_ne 17 26 hX dX12_wall_17 rfl h (fun q6 h => ?_) (fun q6 h => ?_)
    · refine z_aload_n 26 hX dX12_wall_26 rfl <|
        zgX12_7 27 hX dX12_wall_27 (rfl : shp 128 = (12, 0)) <|
        z_iconst 30 hX dX12_wall_30 zki0 <|
        z_ialdc (j := 0) 31 hX dX12_wall_31 (rfl : shp 129 = (20, 628)) (zink 0 628 (by decide) (by decide)) (nI_clamp (by decide)) <|
        z_bipush 32 hX dX12_wall_32 zkb6 <|
        z_icmp_ne 34 43 hX dX12_wall_34 rfl h (fun q7 h => ?_) (fun q7 h => ?_)
      · refine z_bipush 43 hX dX12_wall_43 zkb8 <|
          z_bipush 45 hX dX12_wall_45 zkb27 <|
          z_aload_n 47 hX dX12_wall_47 rfl <|
          zgX12_7 48 hX dX12_wall_48 (rfl : shp 128 = (12, 0)) <|
          z_iconst 51 hX dX12_wall_51 zki0 <|
          z_ialdc (j := 0) 52 hX dX12_wall_52 (rfl : shp 129 = (20, 628)) (zink 0 628 (by decide) (by decide)) (nI_clamp (by decide)) <|
          z_imul 53 hX dX12_wall_53 <|
          z_iadd 54 hX dX12_wall_54 <|
          z_top h fun x8 h =>
          z_istore_n 55 [some (.ref (zα G 128)), some (.int a1), some (.int a2), some (.int x8), none] hX dX12_wall_55 (Nat.le_of_ble_eq_true rfl) rfl rfl <|
          z_iconst 56 hX dX12_wall_56 zki0 <|
          z_istore 57 [some (.ref (zα G 128)), some (.int a1), some (.int a2), some (.int x8), some (.int (nI 0))] hX dX12_wall_57 (Nat.le_of_ble_eq_true rfl) rfl rfl <|
          l_X12_wall_59z hX hE (fun k82_a1 k82_a2 k82_a3 w11 h => ?_) _ _ _ _ _ _ h
        · refine z_aload_n 82 hX dX12_wall_82 rfl <|
            zgX12_7 83 hX dX12_wall_83 (rfl : shp 128 = (12, 0)) <|
            z_iload_n 86 hX dX12_wall_86 rfl <|
            z_iconst 87 hX dX12_wall_87 zki0 <|
            z_iadd 88 hX dX12_wall_88 <|
            z_iload_n 89 hX dX12_wall_89 rfl <|
            z_bipush 90 hX dX12_wall_90 zkb10 <|
            z_idivc 92 hX dX12_wall_92 (by decide) <|
            z_iast 93 hX dX12_wall_93 (rfl : shp 129 = (20, 628)) h fun w12 h =>
            z_aload_n 94 hX dX12_wall_94 rfl <|
            zgX12_7 95 hX dX12_wall_95 (rfl : shp 128 = (12, 0)) <|
            z_iload_n 98 hX dX12_wall_98 rfl <|
            z_iconst 99 hX dX12_wall_99 zki1 <|
            z_iadd 100 hX dX12_wall_100 <|
            z_iload_n 101 hX dX12_wall_101 rfl <|
            z_bipush 102 hX dX12_wall_102 zkb10 <|
            z_iremc 104 hX dX12_wall_104 (by decide) <|
            z_iast 105 hX dX12_wall_105 (rfl : shp 129 = (20, 628)) h fun w13 h =>
            z_aload_n 106 hX dX12_wall_106 rfl <|
            zgX12_7 107 hX dX12_wall_107 (rfl : shp 128 = (12, 0)) <|
            z_iload_n 110 hX dX12_wall_110 rfl <|
            z_iconst 111 hX dX12_wall_111 zki2 <|
            z_iadd 112 hX dX12_wall_112 <|
            z_iload_n 113 hX dX12_wall_113 rfl <|
            z_iast 114 hX dX12_wall_114 (rfl : shp 129 = (20, 628)) h fun w14 h =>
            z_aload_n 115 hX dX12_wall_115 rfl <|
            zgX12_7 116 hX dX12_wall_116 (rfl : shp 128 = (12, 0)) <|
            z_iconst 119 hX dX12_wall_119 zki0 <|
            z_dup2 120 hX dX12_wall_120 rfl rfl <|
            z_ialdc (j := 0) 121 hX dX12_wall_121 (rfl : shp 129 = (20, 628)) (zink 0 628 (by decide) (by decide)) (nI_clamp (by decide)) <|
            z_iconst 122 hX dX12_wall_122 zki1 <|
            z_iadd 123 hX dX12_wall_123 <|
            z_iastc (j := 0) 124 hX dX12_wall_124 (rfl : shp 129 = (20, 628)) (zink 0 628 (by decide) (by decide)) (nI_clamp (by decide)) <|
            z_w h fun w15 h =>
            z_aload_n 125 hX dX12_wall_125 rfl <|
            zgX12_7 126 hX dX12_wall_126 (rfl : shp 128 = (12, 0)) <|
            z_iconst 129 hX dX12_wall_129 zki0 <|
            z_ialdc (j := 0) 130 hX dX12_wall_130 (rfl : shp 129 = (20, 628)) (zink 0 628 (by decide) (by decide)) (nI_clamp (by decide)) <|
            z_iconst 131 hX dX12_wall_131 zki1 <|
            z_isub 132 hX dX12_wall_132 <|
            z_endI2 133 hE rfl h dX12_wall_133
      · refine z_aload_n 37 hX dX12_wall_37 rfl <|
          z_iconst 38 hX dX12_wall_38 zki4 <|
          zb12 h fun x10 w1 r9 h => zcX12_64 39 [.int (nI 4)] [] hX dX12_wall_39 (c_X12_error (zgd0 hX) r9) (rfl : shp 128 = (12, 0)) rfl rfl rfl (Nat.le_of_ble_eq_true rfl) (Nat.le_of_ble_eq_true rfl) <|
          z_endI2 42 hE rfl h dX12_wall_42
    · refine z_weak (L' := [some (.ref (zα G 128)), none, none, none, none]) (zsub_s (zsub_n (zsub_n (zsub_n (zsub_n zsub_0))))) <|
        j_X12_wall_20z hX hE h
def f_X12_priceOf (a1 : Int32) (w : zW) : Option (Int32 × zW) :=
  zb (f_X12_hasText (nI 1) w) fun x2 =>
  if x2 = nI 0 then
    if a1 = (nI 5) then
      some ((nI 1) + (w 129 2), w)
    else
      some (nI 1, w)
  else
    zlet (zupd w 133 108 a1) fun w1 =>
    zlet (zupd w1 133 115 (w1 129 2)) fun w2 =>
    zld w2 129 628 ((nI 266) + a1) fun x4 =>
    zlet (zupd w2 133 104 x4) fun w3 =>
    zb2 (f_X12_worked (nI 1) w3) fun x6 w4 =>
    zb (f_X12_held x6 (nI 0) (nI 999)) fun x8 =>
    some (x8, w4)
theorem c_X12_priceOf {G : zG} {l : Launch} (hG : zgood G) {w : zW} {re : Int32} {we : zW} {a1 : Int32}  (h : f_X12_priceOf a1 w = some (re, we)) : zMet G l yX12_priceOf cX12_priceOf 2 (some .int) 2 [.ref (zα G 128), .int a1] w (some (.int re)) we := by
  refine zMet_of (L0 := [some (.ref (zα G 128)), some (.int a1)]) hG zplX12 (Nat.le_of_ble_eq_true rfl) rfl rfl (fun X hl hX hEI hEV hEA => ?_)
  subst hl
  have hX : zOk G X cX12_priceOf 2 RX12 2 := hX
  have hE := hEI _ _ rfl rfl
  rw [f_X12_priceOf] at h
  refine z_aload_n 0 hX dX12_priceOf_0 rfl <|
    z_iconst 1 hX dX12_priceOf_1 zki1 <|
    zb1 h fun x2 r1 h => zcX12_117 2 [.int (nI 1)] [] hX dX12_priceOf_2 (c_X12_hasText (zgd0 hX) r1) (rfl : shp 128 = (12, 0)) rfl rfl rfl (Nat.le_of_ble_eq_true rfl) (Nat.le_of_ble_eq_true rfl) <|
    z_if_ne 5 26 hX dX12_priceOf_5 rfl h (fun q3 h => ?_) (fun q3 h => ?_)
  · refine z_aload_n 26 hX dX12_priceOf_26 rfl <|
      zgX12_22 27 hX dX12_priceOf_27 (rfl : shp 128 = (12, 0)) <|
      z_bipush 30 hX dX12_priceOf_30 zkb108 <|
      z_iload_n 32 hX dX12_priceOf_32 rfl <|
      z_iastc (j := 108) 33 hX dX12_priceOf_33 (rfl : shp 133 = (20, 128)) (zink 108 128 (by decide) (by decide)) (nI_clamp (by decide)) <|
      z_w h fun w1 h =>
      z_aload_n 34 hX dX12_priceOf_34 rfl <|
      zgX12_22 35 hX dX12_priceOf_35 (rfl : shp 128 = (12, 0)) <|
      z_bipush 38 hX dX12_priceOf_38 zkb115 <|
      z_aload_n 40 hX dX12_priceOf_40 rfl <|
      zgX12_7 41 hX dX12_priceOf_41 (rfl : shp 128 = (12, 0)) <|
      z_iconst 44 hX dX12_priceOf_44 zki2 <|
      z_ialdc (j := 2) 45 hX dX12_priceOf_45 (rfl : shp 129 = (20, 628)) (zink 2 628 (by decide) (by decide)) (nI_clamp (by decide)) <|
      z_iastc (j := 115) 46 hX dX12_priceOf_46 (rfl : shp 133 = (20, 128)) (zink 115 128 (by decide) (by decide)) (nI_clamp (by decide)) <|
      z_w h fun w2 h =>
      z_aload_n 47 hX dX12_priceOf_47 rfl <|
      zgX12_22 48 hX dX12_priceOf_48 (rfl : shp 128 = (12, 0)) <|
      z_bipush 51 hX dX12_priceOf_51 zkb104 <|
      z_aload_n 53 hX dX12_priceOf_53 rfl <|
      zgX12_7 54 hX dX12_priceOf_54 (rfl : shp 128 = (12, 0)) <|
      z_sipush 57 hX dX12_priceOf_57 zks266 <|
      z_iload_n 60 hX dX12_priceOf_60 rfl <|
      z_iadd 61 hX dX12_priceOf_61 <|
      z_iald 62 hX dX12_priceOf_62 (rfl : shp 129 = (20, 628)) h fun x4 _ h =>
      z_iastc (j := 104) 63 hX dX12_priceOf_63 (rfl : shp 133 = (20, 128)) (zink 104 128 (by decide) (by decide)) (nI_clamp (by decide)) <|
      z_w h fun w3 h =>
      z_aload_n 64 hX dX12_priceOf_64 rfl <|
      z_iconst 65 hX dX12_priceOf_65 zki1 <|
      zb12 h fun x6 w4 r5 h => zcX12_139 66 [.int (nI 1)] [] hX dX12_priceOf_66 (c_X12_worked (zgd0 hX) r5) (rfl : shp 128 = (12, 0)) rfl rfl rfl (Nat.le_of_ble_eq_true rfl) (Nat.le_of_ble_eq_true rfl) <|
      z_iconst 69 hX dX12_priceOf_69 zki0 <|
      z_sipush 70 hX dX12_priceOf_70 zks999 <|
      zb1 h fun x8 r7 h => zcX12_161 73 [.int x6, .int (nI 0), .int (nI 999)] [] hX dX12_priceOf_73 (c_X12_held (zgd0 hX) r7) rfl rfl rfl (Nat.le_of_ble_eq_true rfl) (Nat.le_of_ble_eq_true rfl) <|
      z_endI2 76 hE rfl h dX12_priceOf_76
  · refine z_iload_n 8 hX dX12_priceOf_8 rfl <|
      z_iconst 9 hX dX12_priceOf_9 zki5 <|
      z_icmp_ne 10 24 hX dX12_priceOf_10 rfl h (fun q9 h => ?_) (fun q9 h => ?_)
    · refine z_iconst 24 hX dX12_priceOf_24 zki1 <|
        z_endI2 25 hE rfl h dX12_priceOf_25
    · refine z_iconst 13 hX dX12_priceOf_13 zki1 <|
        z_aload_n 14 hX dX12_priceOf_14 rfl <|
        zgX12_7 15 hX dX12_priceOf_15 (rfl : shp 128 = (12, 0)) <|
        z_iconst 18 hX dX12_priceOf_18 zki2 <|
        z_ialdc (j := 2) 19 hX dX12_priceOf_19 (rfl : shp 129 = (20, 628)) (zink 2 628 (by decide) (by decide)) (nI_clamp (by decide)) <|
        z_iadd 20 hX dX12_priceOf_20 <|
        z_goto 21 25 hX dX12_priceOf_21 rfl <|
        z_endI2 25 hE rfl h dX12_priceOf_25
def j_X12_costOf_48 (rc : Int32 → Int32 → Int32 → zW → Option (Int32 × zW)) (K56 : Int32 → zW → Option (Int32 × zW)) (a1 : Int32) (a3 : Int32) (b0 : Int32) (b1 : Int32) (w : zW) : Option (Int32 × zW) :=
  zlet (b0 + b1) fun x1 =>
  zlet (a3 + nI 1) fun x2 =>
  rc a1 x1 x2 w
theorem j_X12_costOf_48z {rc : Int32 → Int32 → Int32 → zW → Option (Int32 × zW)} {K56 : Int32 → zW → Option (Int32 × zW)} {G : zG} {X : zX} {w : zW} {re : Int32} {we : zW} {a1 : Int32} {a3 : Int32} {b0 : Int32} {b1 : Int32} (hX : zOk G X cX12_costOf 4 RX12 3) (hE : zEI G X cX12_costOf .int re we) (hrc : ∀ (a1 : Int32) (a2 : Int32) (a3 : Int32) (w3 : zW) , rc a1 a2 a3 w3 = some (re, we) → zZ G X w3 4 [some (.ref (zα G 128)), some (.int a1), some (.int a2), some (.int a3)] []) (hK56 : ∀ (a2 : Int32) (w3 : zW) , K56 a2 w3 = some (re, we) → zZ G X w3 56 [none, none, some (.int a2), none] [])  (h : j_X12_costOf_48 rc K56 a1 a3 b0 b1 w = some (re, we)) : zZ G X w 48 [some (.ref (zα G 128)), some (.int a1), none, some (.int a3)] [.int b1, .int b0] := by
  rw [j_X12_costOf_48] at h
  refine z_iadd 48 hX dX12_costOf_48 <|
    z_top h fun x1 h =>
    z_istore_n 49 [some (.ref (zα G 128)), some (.int a1), some (.int x1), some (.int a3)] hX dX12_costOf_49 (Nat.le_of_ble_eq_true rfl) rfl rfl <|
    z_iincG 50 (fun x2 => [some (.ref (zα G 128)), some (.int a1), some (.int x1), some (.int x2)]) hX dX12_costOf_50 rfl zki1 rfl (fun _ => rfl) h fun x2 h =>
    z_goto 53 4 hX dX12_costOf_53 rfl <|
    hrc _ _ _ _ h
def l_X12_costOf_4 (K56 : Int32 → zW → Option (Int32 × zW)) : Nat → Int32 → Int32 → Int32 → zW → Option (Int32 × zW)
  | 0, _, _, _, _ => none
  | n + 1, a1, a2, a3, w =>
    zb (f_X12_its a1 (nI 2) w) fun x2 =>
    if a3 < x2 then
      zb (f_X12_at a1 a3) fun x5 =>
      zld w 129 628 x5 fun x6 =>
      if nI 0 < x6 then
        zb (f_X12_at a1 a3) fun x9 =>
        zld w 129 628 x9 fun x10 =>
        zb2 (f_X12_priceOf x10 w) fun x12 w1 =>
        j_X12_costOf_48 (l_X12_costOf_4 K56 n) K56 a1 a3 a2 x12 w1
      else
        j_X12_costOf_48 (l_X12_costOf_4 K56 n) K56 a1 a3 a2 (nI 0) w
    else
      K56 a2 w
theorem l_X12_costOf_4z {K56 : Int32 → zW → Option (Int32 × zW)} {G : zG} {X : zX} {re : Int32} {we : zW} (hX : zOk G X cX12_costOf 4 RX12 3) (hE : zEI G X cX12_costOf .int re we) (hK56 : ∀ (a2 : Int32) (w3 : zW) , K56 a2 w3 = some (re, we) → zZ G X w3 56 [none, none, some (.int a2), none] []) : ∀ (n : Nat) (a1 : Int32) (a2 : Int32) (a3 : Int32) (w : zW) , l_X12_costOf_4 K56 n a1 a2 a3 w = some (re, we) → zZ G X w 4 [some (.ref (zα G 128)), some (.int a1), some (.int a2), some (.int a3)] [] := by
  intro n
  induction n with
  | zero =>
    intro a1 a2 a3 w  h
    rw [l_X12_costOf_4.eq_1] at h
    cases h
  | succ n ih =>
    intro a1 a2 a3 w  h
    rw [l_X12_costOf_4.eq_2] at h
    refine z_iload_n 4 hX dX12_costOf_4 rfl <|
      z_aload_n 5 hX dX12_costOf_5 rfl <|
      z_iload_n 6 hX dX12_costOf_6 rfl <|
      z_iconst 7 hX dX12_costOf_7 zki2 <|
      zb1 h fun x2 r1 h => zcX12_60 8 [.int a1, .int (nI 2)] [.int a3] hX dX12_costOf_8 (c_X12_its (zgd0 hX) r1) (rfl : shp 128 = (12, 0)) rfl rfl rfl (Nat.le_of_ble_eq_true rfl) (Nat.le_of_ble_eq_true rfl) <|
      z_icmp_ge 11 56 hX dX12_costOf_11 rfl h (fun q3 h => ?_) (fun q3 h => ?_)
    · refine z_weak (L' := [none, none, some (.int a2), none]) (zsub_n (zsub_n (zsub_s (zsub_n zsub_0)))) <|
        hK56 _ _ h
    · refine z_iload_n 14 hX dX12_costOf_14 rfl <|
        z_aload_n 15 hX dX12_costOf_15 rfl <|
        zgX12_7 16 hX dX12_costOf_16 (rfl : shp 128 = (12, 0)) <|
        z_aload_n 19 hX dX12_costOf_19 rfl <|
        z_iload_n 20 hX dX12_costOf_20 rfl <|
        z_iload_n 21 hX dX12_costOf_21 rfl <|
        zb1 h fun x5 r4 h => zcX12_124 22 [.int a1, .int a3] [.ref (zα G 129), .int a2] hX dX12_costOf_22 (c_X12_at (zgd0 hX) r4) (rfl : shp 128 = (12, 0)) rfl rfl rfl (Nat.le_of_ble_eq_true rfl) (Nat.le_of_ble_eq_true rfl) <|
        z_iald 25 hX dX12_costOf_25 (rfl : shp 129 = (20, 628)) h fun x6 _ h =>
        z_if_le 26 47 hX dX12_costOf_26 rfl h (fun q7 h => ?_) (fun q7 h => ?_)
      · refine z_iconst 47 hX dX12_costOf_47 zki0 <|
          z_weak (L' := [some (.ref (zα G 128)), some (.int a1), none, some (.int a3)]) (zsub_s (zsub_s (zsub_n (zsub_s zsub_0)))) <|
          j_X12_costOf_48z hX hE ih hK56 h
      · refine z_aload_n 29 hX dX12_costOf_29 rfl <|
          z_aload_n 30 hX dX12_costOf_30 rfl <|
          zgX12_7 31 hX dX12_costOf_31 (rfl : shp 128 = (12, 0)) <|
          z_aload_n 34 hX dX12_costOf_34 rfl <|
          z_iload_n 35 hX dX12_costOf_35 rfl <|
          z_iload_n 36 hX dX12_costOf_36 rfl <|
          zb1 h fun x9 r8 h => zcX12_124 37 [.int a1, .int a3] [.ref (zα G 129), .ref (zα G 128), .int a2] hX dX12_costOf_37 (c_X12_at (zgd0 hX) r8) (rfl : shp 128 = (12, 0)) rfl rfl rfl (Nat.le_of_ble_eq_true rfl) (Nat.le_of_ble_eq_true rfl) <|
          z_iald 40 hX dX12_costOf_40 (rfl : shp 129 = (20, 628)) h fun x10 _ h =>
          zb12 h fun x12 w1 r11 h => zcX12_207 41 [.int x10] [.int a2] hX dX12_costOf_41 (c_X12_priceOf (zgd0 hX) r11) (rfl : shp 128 = (12, 0)) rfl rfl rfl (Nat.le_of_ble_eq_true rfl) (Nat.le_of_ble_eq_true rfl) <|
          z_goto 44 48 hX dX12_costOf_44 rfl <|
          z_weak (L' := [some (.ref (zα G 128)), some (.int a1), none, some (.int a3)]) (zsub_s (zsub_s (zsub_n (zsub_s zsub_0)))) <|
          j_X12_costOf_48z hX hE ih hK56 h
def f_X12_costOf (a1 : Int32) (w : zW) : Option (Int32 × zW) :=
  l_X12_costOf_4 (fun k56_a2 w11 =>
    some (k56_a2, w11)) zfuel a1 (nI 0) (nI 0) w
theorem c_X12_costOf {G : zG} {l : Launch} (hG : zgood G) {w : zW} {re : Int32} {we : zW} {a1 : Int32}  (h : f_X12_costOf a1 w = some (re, we)) : zMet G l yX12_costOf cX12_costOf 4 (some .int) 3 [.ref (zα G 128), .int a1] w (some (.int re)) we := by
  refine zMet_of (L0 := [some (.ref (zα G 128)), some (.int a1), none, none]) hG zplX12 (Nat.le_of_ble_eq_true rfl) rfl rfl (fun X hl hX hEI hEV hEA => ?_)
  subst hl
  have hX : zOk G X cX12_costOf 4 RX12 3 := hX
  have hE := hEI _ _ rfl rfl
  rw [f_X12_costOf] at h
  refine z_iconst 0 hX dX12_costOf_0 zki0 <|
    z_istore_n 1 [some (.ref (zα G 128)), some (.int a1), some (.int (nI 0)), none] hX dX12_costOf_1 (Nat.le_of_ble_eq_true rfl) rfl rfl <|
    z_iconst 2 hX dX12_costOf_2 zki0 <|
    z_istore_n 3 [some (.ref (zα G 128)), some (.int a1), some (.int (nI 0)), some (.int (nI 0))] hX dX12_costOf_3 (Nat.le_of_ble_eq_true rfl) rfl rfl <|
    l_X12_costOf_4z hX hE (fun k56_a2 w11 h => ?_) _ _ _ _ _ h
  · refine z_iload_n 56 hX dX12_costOf_56 rfl <|
      z_endI2 57 hE rfl h dX12_costOf_57
def j_X12_wallIs_18  (w : zW) : Option (Int32 × zW) :=
  zb2 (f_X12_error (nI 1) w) fun x2 w1 =>
  some (x2, w1)
theorem j_X12_wallIs_18z {G : zG} {X : zX} {w : zW} {re : Int32} {we : zW}  (hX : zOk G X cX12_wallIs 3 RX12 4) (hE : zEI G X cX12_wallIs .int re we)  (h : j_X12_wallIs_18 w = some (re, we)) : zZ G X w 18 [some (.ref (zα G 128)), none, none] [] := by
  rw [j_X12_wallIs_18] at h
  refine z_aload_n 18 hX dX12_wallIs_18 rfl <|
    z_iconst 19 hX dX12_wallIs_19 zki1 <|
    zb12 h fun x2 w1 r1 h => zcX12_64 20 [.int (nI 1)] [] hX dX12_wallIs_20 (c_X12_error (zgd0 hX) r1) (rfl : shp 128 = (12, 0)) rfl rfl rfl (Nat.le_of_ble_eq_true rfl) (Nat.le_of_ble_eq_true rfl) <|
    z_endI2 23 hE rfl h dX12_wallIs_23
def f_X12_wallIs (a1 : Int32) (a2 : Int32) (w : zW) : Option (Int32 × zW) :=
  zb (f_X12_isWall a1 w) fun x2 =>
  if x2 = nI 0 then
    j_X12_wallIs_18 w
  else
    zb (f_X12_in a2 (nI 0) (nI 7)) fun x5 =>
    if x5 = nI 0 then
      j_X12_wallIs_18 w
    else
      zb (f_X12_reads a1 w) fun w1 =>
      if a2 = nI 3 then
        some (w1 128 12, w1)
      else
      if a2 = nI 4 then
        zb2 (f_X12_doesRead a1 w1) fun x11 w2 =>
        if x11 = nI 0 then
          some (nI 0, w2)
        else
          some (nI 1, w2)
      else
      if a2 = nI 5 then
        if (w1 128 12) = nI 0 then
          some (nI 0, w1)
        else
          zb2 (f_X12_findWays w1) fun x16 w3 =>
          some (x16, w3)
      else
      if a2 = nI 6 then
        zb2 (f_X12_stuck w1) fun x19 w4 =>
        some (x19, w4)
      else
      if a2 = nI 7 then
        zb2 (f_X12_costOf a1 w1) fun x22 w5 =>
        some (x22, w5)
      else
        zb (f_X12_its a1 a2 w1) fun x24 =>
        some (x24, w1)
theorem c_X12_wallIs {G : zG} {l : Launch} (hG : zgood G) {w : zW} {re : Int32} {we : zW} {a1 : Int32} {a2 : Int32}  (h : f_X12_wallIs a1 a2 w = some (re, we)) : zMet G l yX12_wallIs cX12_wallIs 3 (some .int) 4 [.ref (zα G 128), .int a1, .int a2] w (some (.int re)) we := by
  refine zMet_of (L0 := [some (.ref (zα G 128)), some (.int a1), some (.int a2)]) hG zplX12 (Nat.le_of_ble_eq_true rfl) rfl rfl (fun X hl hX hEI hEV hEA => ?_)
  subst hl
  have hX : zOk G X cX12_wallIs 3 RX12 4 := hX
  have hE := hEI _ _ rfl rfl
  rw [f_X12_wallIs] at h
  refine z_aload_n 0 hX dX12_wallIs_0 rfl <|
    z_iload_n 1 hX dX12_wallIs_1 rfl <|
    zb1 h fun x2 r1 h => zcX12_133 2 [.int a1] [] hX dX12_wallIs_2 (c_X12_isWall (zgd0 hX) r1) (rfl : shp 128 = (12, 0)) rfl rfl rfl (Nat.le_of_ble_eq_true rfl) (Nat.le_of_ble_eq_true rfl) <|
    z_if_eq 5 18 hX dX12_wallIs_5 rfl h (fun q3 h => ?_) (fun q3 h => ?_)
  · refine z_weak (L' := [some (.ref (zα G 128)), none, none]) (zsub_s (zsub_n (zsub_n zsub_0))) <|
      j_X12_wallIs_18z hX hE h
  · refine z_iload_n 8 hX dX12_wallIs_8 rfl <|
      z_iconst 9 hX dX12_wallIs_9 zki0 <|
      z_bipush 10 hX dX12_wallIs_10 zkb7 <|
      zb1 h fun x5 r4 h => zcX12_56 12 [.int a2, .int (nI 0), .int (nI 7)] [] hX dX12_wallIs_12 (c_X12_in (zgd0 hX) r4) rfl rfl rfl (Nat.le_of_ble_eq_true rfl) (Nat.le_of_ble_eq_true rfl) <|
      z_if_ne 15 24 hX dX12_wallIs_15 rfl h (fun q6 h => ?_) (fun q6 h => ?_)
    · refine z_aload_n 24 hX dX12_wallIs_24 rfl <|
        z_iload_n 25 hX dX12_wallIs_25 rfl <|
        zb1 h fun w1 r7 h => zcX12_164 26 [.int a1] [] hX dX12_wallIs_26 (c_X12_reads (zgd0 hX) r7) (rfl : shp 128 = (12, 0)) rfl rfl rfl (Nat.le_of_ble_eq_true rfl) (Nat.le_of_ble_eq_true rfl) <|
        z_iload_n 29 hX dX12_wallIs_29 rfl <|
        ?_
      rcases zif h with ⟨q8, h⟩ | ⟨q8, h⟩
      · refine z_tsIn (off := 34) 30 64 (3) hX dX12_wallIs_30 (zti 3 (by decide) q8) (by decide) (by decide) (by decide) rfl <|
          z_aload_n 64 hX dX12_wallIs_64 rfl <|
          zgX12_126 65 hX dX12_wallIs_65 (rfl : shp 128 = (12, 0)) <|
          z_endI2 68 hE rfl h dX12_wallIs_68
      rcases zif h with ⟨q9, h⟩ | ⟨q9, h⟩
      · refine z_tsIn (off := 39) 30 69 (4) hX dX12_wallIs_30 (zti 4 (by decide) q9) (by decide) (by decide) (by decide) rfl <|
          z_aload_n 69 hX dX12_wallIs_69 rfl <|
          z_iload_n 70 hX dX12_wallIs_70 rfl <|
          zb12 h fun x11 w2 r10 h => zcX12_173 71 [.int a1] [] hX dX12_wallIs_71 (c_X12_doesRead (zgd0 hX) r10) (rfl : shp 128 = (12, 0)) rfl rfl rfl (Nat.le_of_ble_eq_true rfl) (Nat.le_of_ble_eq_true rfl) <|
          z_if_eq 74 81 hX dX12_wallIs_74 rfl h (fun q12 h => ?_) (fun q12 h => ?_)
        · refine z_iconst 81 hX dX12_wallIs_81 zki0 <|
            z_endI2 82 hE rfl h dX12_wallIs_82
        · refine z_iconst 77 hX dX12_wallIs_77 zki1 <|
            z_goto 78 82 hX dX12_wallIs_78 rfl <|
            z_endI2 82 hE rfl h dX12_wallIs_82
      rcases zif h with ⟨q13, h⟩ | ⟨q13, h⟩
      · refine z_tsIn (off := 53) 30 83 (5) hX dX12_wallIs_30 (zti 5 (by decide) q13) (by decide) (by decide) (by decide) rfl <|
          z_aload_n 83 hX dX12_wallIs_83 rfl <|
          zgX12_126 84 hX dX12_wallIs_84 (rfl : shp 128 = (12, 0)) <|
          z_if_ne 87 94 hX dX12_wallIs_87 rfl h (fun q14 h => ?_) (fun q14 h => ?_)
        · refine z_aload_n 94 hX dX12_wallIs_94 rfl <|
            zb12 h fun x16 w3 r15 h => zcX12_167 95 [] [] hX dX12_wallIs_95 (c_X12_findWays (zgd0 hX) r15) (rfl : shp 128 = (12, 0)) rfl rfl rfl (Nat.le_of_ble_eq_true rfl) (Nat.le_of_ble_eq_true rfl) <|
            z_endI2 98 hE rfl h dX12_wallIs_98
        · refine z_iconst 90 hX dX12_wallIs_90 zki0 <|
            z_goto 91 98 hX dX12_wallIs_91 rfl <|
            z_endI2 98 hE rfl h dX12_wallIs_98
      rcases zif h with ⟨q17, h⟩ | ⟨q17, h⟩
      · refine z_tsIn (off := 69) 30 99 (6) hX dX12_wallIs_30 (zti 6 (by decide) q17) (by decide) (by decide) (by decide) rfl <|
          z_aload_n 99 hX dX12_wallIs_99 rfl <|
          zb12 h fun x19 w4 r18 h => zcX12_176 100 [] [] hX dX12_wallIs_100 (c_X12_stuck (zgd0 hX) r18) (rfl : shp 128 = (12, 0)) rfl rfl rfl (Nat.le_of_ble_eq_true rfl) (Nat.le_of_ble_eq_true rfl) <|
          z_endI2 103 hE rfl h dX12_wallIs_103
      rcases zif h with ⟨q20, h⟩ | ⟨q20, h⟩
      · refine z_tsIn (off := 74) 30 104 (7) hX dX12_wallIs_30 (zti 7 (by decide) q20) (by decide) (by decide) (by decide) rfl <|
          z_aload_n 104 hX dX12_wallIs_104 rfl <|
          z_iload_n 105 hX dX12_wallIs_105 rfl <|
          zb12 h fun x22 w5 r21 h => zcX12_179 106 [.int a1] [] hX dX12_wallIs_106 (c_X12_costOf (zgd0 hX) r21) (rfl : shp 128 = (12, 0)) rfl rfl rfl (Nat.le_of_ble_eq_true rfl) (Nat.le_of_ble_eq_true rfl) <|
          z_endI2 109 hE rfl h dX12_wallIs_109
      refine z_tsOut 30 110 hX dX12_wallIs_30 (by have e0 := zne 3 (by decide) q8; have e1 := zne 4 (by decide) q9; have e2 := zne 5 (by decide) q13; have e3 := zne 6 (by decide) q17; have e4 := zne 7 (by decide) q20; omega) rfl <|
        z_aload_n 110 hX dX12_wallIs_110 rfl <|
        z_iload_n 111 hX dX12_wallIs_111 rfl <|
        z_iload_n 112 hX dX12_wallIs_112 rfl <|
        zb1 h fun x24 r23 h => zcX12_60 113 [.int a1, .int a2] [] hX dX12_wallIs_113 (c_X12_its (zgd0 hX) r23) (rfl : shp 128 = (12, 0)) rfl rfl rfl (Nat.le_of_ble_eq_true rfl) (Nat.le_of_ble_eq_true rfl) <|
        z_endI2 116 hE rfl h dX12_wallIs_116
    · refine z_weak (L' := [some (.ref (zα G 128)), none, none]) (zsub_s (zsub_n (zsub_n zsub_0))) <|
        j_X12_wallIs_18z hX hE h
def j_X12_isUnder_29   : Option Int32 :=
  some (nI 1)
theorem j_X12_isUnder_29z {G : zG} {X : zX} {w : zW} {re : Int32}  (hX : zOk G X cX12_isUnder 2 RX12 0) (hE : zEI G X cX12_isUnder .boolean re w)  (h : j_X12_isUnder_29 = some re) : zZ G X w 29 [none, none] [] := by
  rw [j_X12_isUnder_29] at h
  refine z_iconst 29 hX dX12_isUnder_29 zki1 <|
    z_goto 30 34 hX dX12_isUnder_30 rfl <|
    z_endI 34 hE (znar_bool (by decide)) h dX12_isUnder_34
def j_X12_isUnder_19 (a0 : Int32) (a1 : Int32)  : Option Int32 :=
  if a1 = (nI 3) then
    if a0 = (nI 5) then
      j_X12_isUnder_29
    else
      some (nI 0)
  else
    some (nI 0)
theorem j_X12_isUnder_19z {G : zG} {X : zX} {w : zW} {re : Int32} {a0 : Int32} {a1 : Int32} (hX : zOk G X cX12_isUnder 2 RX12 0) (hE : zEI G X cX12_isUnder .boolean re w)  (h : j_X12_isUnder_19 a0 a1 = some re) : zZ G X w 19 [some (.int a0), some (.int a1)] [] := by
  rw [j_X12_isUnder_19] at h
  refine z_iload_n 19 hX dX12_isUnder_19 rfl <|
    z_iconst 20 hX dX12_isUnder_20 zki3 <|
    z_icmp_ne 21 33 hX dX12_isUnder_21 rfl h (fun q1 h => ?_) (fun q1 h => ?_)
  · refine z_iconst 33 hX dX12_isUnder_33 zki0 <|
      z_endI 34 hE (znar_bool (by decide)) h dX12_isUnder_34
  · refine z_iload_n 24 hX dX12_isUnder_24 rfl <|
      z_iconst 25 hX dX12_isUnder_25 zki5 <|
      z_icmp_ne 26 33 hX dX12_isUnder_26 rfl h (fun q2 h => ?_) (fun q2 h => ?_)
    · refine z_iconst 33 hX dX12_isUnder_33 zki0 <|
        z_endI 34 hE (znar_bool (by decide)) h dX12_isUnder_34
    · refine z_weak (L' := [none, none]) (zsub_n (zsub_n zsub_0)) <|
        j_X12_isUnder_29z hX hE h
def f_X12_isUnder (a0 : Int32) (a1 : Int32)  : Option Int32 :=
  if a1 = nI 0 then
    j_X12_isUnder_29
  else
  if a0 = a1 then
    j_X12_isUnder_29
  else
  if a1 = (nI 1) then
    if a0 = (nI 4) then
      j_X12_isUnder_29
    else
      j_X12_isUnder_19 a0 a1
  else
    j_X12_isUnder_19 a0 a1
theorem c_X12_isUnder {G : zG} {l : Launch} (hG : zgood G) {w : zW} {re : Int32} {a0 : Int32} {a1 : Int32}  (h : f_X12_isUnder a0 a1 = some re) : zMet G l yX12_isUnder cX12_isUnder 2 (some .boolean) 0 [.int a0, .int a1] w (some (.int re)) w := by
  refine zMet_of (L0 := [some (.int a0), some (.int a1)]) hG zplX12 (Nat.le_of_ble_eq_true rfl) rfl rfl (fun X hl hX hEI hEV hEA => ?_)
  subst hl
  have hX : zOk G X cX12_isUnder 2 RX12 0 := hX
  have hE := hEI _ _ rfl rfl
  rw [f_X12_isUnder] at h
  refine z_iload_n 0 hX dX12_isUnder_0 rfl <|
    z_if_eq 1 29 hX dX12_isUnder_1 rfl h (fun q1 h => ?_) (fun q1 h => ?_)
  · refine z_weak (L' := [none, none]) (zsub_n (zsub_n zsub_0)) <|
      j_X12_isUnder_29z hX hE h
  · refine z_iload_n 4 hX dX12_isUnder_4 rfl <|
      z_iload_n 5 hX dX12_isUnder_5 rfl <|
      z_icmp_eq 6 29 hX dX12_isUnder_6 rfl h (fun q2 h => ?_) (fun q2 h => ?_)
    · refine z_weak (L' := [none, none]) (zsub_n (zsub_n zsub_0)) <|
        j_X12_isUnder_29z hX hE h
    · refine z_iload_n 9 hX dX12_isUnder_9 rfl <|
        z_iconst 10 hX dX12_isUnder_10 zki1 <|
        z_icmp_ne 11 19 hX dX12_isUnder_11 rfl h (fun q3 h => ?_) (fun q3 h => ?_)
      · refine j_X12_isUnder_19z hX hE h
      · refine z_iload_n 14 hX dX12_isUnder_14 rfl <|
          z_iconst 15 hX dX12_isUnder_15 zki4 <|
          z_icmp_eq 16 29 hX dX12_isUnder_16 rfl h (fun q4 h => ?_) (fun q4 h => ?_)
        · refine z_weak (L' := [none, none]) (zsub_n (zsub_n zsub_0)) <|
            j_X12_isUnder_29z hX hE h
        · refine j_X12_isUnder_19z hX hE h
def j_X12_as_18  (w : zW) : Option (Int32 × zW) :=
  zb2 (f_X12_error (nI 1) w) fun x2 w1 =>
  some (x2, w1)
theorem j_X12_as_18z {G : zG} {X : zX} {w : zW} {re : Int32} {we : zW}  (hX : zOk G X cX12_as 3 RX12 2) (hE : zEI G X cX12_as .int re we)  (h : j_X12_as_18 w = some (re, we)) : zZ G X w 18 [some (.ref (zα G 128)), none, none] [] := by
  rw [j_X12_as_18] at h
  refine z_aload_n 18 hX dX12_as_18 rfl <|
    z_iconst 19 hX dX12_as_19 zki1 <|
    zb12 h fun x2 w1 r1 h => zcX12_64 20 [.int (nI 1)] [] hX dX12_as_20 (c_X12_error (zgd0 hX) r1) (rfl : shp 128 = (12, 0)) rfl rfl rfl (Nat.le_of_ble_eq_true rfl) (Nat.le_of_ble_eq_true rfl) <|
    z_endI2 23 hE rfl h dX12_as_23
def f_X12_as (a1 : Int32) (a2 : Int32) (w : zW) : Option (Int32 × zW) :=
  zb (f_X12_isWall a1 w) fun x2 =>
  if x2 = nI 0 then
    j_X12_as_18 w
  else
    zb (f_X12_in a2 (nI 0) (nI 6)) fun x5 =>
    if x5 = nI 0 then
      j_X12_as_18 w
    else
      zb (f_X12_its a1 (nI 0) w) fun x8 =>
      zb (f_X12_isUnder x8 a2) fun x10 =>
      if x10 = nI 0 then
        zb2 (f_X12_error (nI 5) w) fun x13 w1 =>
        some (x13, w1)
      else
        zb (f_X12_its a1 (nI 2) w) fun x15 =>
        some (x15, w)
theorem c_X12_as {G : zG} {l : Launch} (hG : zgood G) {w : zW} {re : Int32} {we : zW} {a1 : Int32} {a2 : Int32}  (h : f_X12_as a1 a2 w = some (re, we)) : zMet G l yX12_as cX12_as 3 (some .int) 2 [.ref (zα G 128), .int a1, .int a2] w (some (.int re)) we := by
  refine zMet_of (L0 := [some (.ref (zα G 128)), some (.int a1), some (.int a2)]) hG zplX12 (Nat.le_of_ble_eq_true rfl) rfl rfl (fun X hl hX hEI hEV hEA => ?_)
  subst hl
  have hX : zOk G X cX12_as 3 RX12 2 := hX
  have hE := hEI _ _ rfl rfl
  rw [f_X12_as] at h
  refine z_aload_n 0 hX dX12_as_0 rfl <|
    z_iload_n 1 hX dX12_as_1 rfl <|
    zb1 h fun x2 r1 h => zcX12_133 2 [.int a1] [] hX dX12_as_2 (c_X12_isWall (zgd0 hX) r1) (rfl : shp 128 = (12, 0)) rfl rfl rfl (Nat.le_of_ble_eq_true rfl) (Nat.le_of_ble_eq_true rfl) <|
    z_if_eq 5 18 hX dX12_as_5 rfl h (fun q3 h => ?_) (fun q3 h => ?_)
  · refine z_weak (L' := [some (.ref (zα G 128)), none, none]) (zsub_s (zsub_n (zsub_n zsub_0))) <|
      j_X12_as_18z hX hE h
  · refine z_iload_n 8 hX dX12_as_8 rfl <|
      z_iconst 9 hX dX12_as_9 zki0 <|
      z_bipush 10 hX dX12_as_10 zkb6 <|
      zb1 h fun x5 r4 h => zcX12_56 12 [.int a2, .int (nI 0), .int (nI 6)] [] hX dX12_as_12 (c_X12_in (zgd0 hX) r4) rfl rfl rfl (Nat.le_of_ble_eq_true rfl) (Nat.le_of_ble_eq_true rfl) <|
      z_if_ne 15 24 hX dX12_as_15 rfl h (fun q6 h => ?_) (fun q6 h => ?_)
    · refine z_aload_n 24 hX dX12_as_24 rfl <|
        z_iload_n 25 hX dX12_as_25 rfl <|
        z_iconst 26 hX dX12_as_26 zki0 <|
        zb1 h fun x8 r7 h => zcX12_60 27 [.int a1, .int (nI 0)] [] hX dX12_as_27 (c_X12_its (zgd0 hX) r7) (rfl : shp 128 = (12, 0)) rfl rfl rfl (Nat.le_of_ble_eq_true rfl) (Nat.le_of_ble_eq_true rfl) <|
        z_iload_n 30 hX dX12_as_30 rfl <|
        zb1 h fun x10 r9 h => zcX12_182 31 [.int x8, .int a2] [] hX dX12_as_31 (c_X12_isUnder (zgd0 hX) r9) rfl rfl rfl (Nat.le_of_ble_eq_true rfl) (Nat.le_of_ble_eq_true rfl) <|
        z_if_eq 34 46 hX dX12_as_34 rfl h (fun q11 h => ?_) (fun q11 h => ?_)
      · refine z_aload_n 46 hX dX12_as_46 rfl <|
          z_iconst 47 hX dX12_as_47 zki5 <|
          zb12 h fun x13 w1 r12 h => zcX12_64 48 [.int (nI 5)] [] hX dX12_as_48 (c_X12_error (zgd0 hX) r12) (rfl : shp 128 = (12, 0)) rfl rfl rfl (Nat.le_of_ble_eq_true rfl) (Nat.le_of_ble_eq_true rfl) <|
          z_endI2 51 hE rfl h dX12_as_51
      · refine z_aload_n 37 hX dX12_as_37 rfl <|
          z_iload_n 38 hX dX12_as_38 rfl <|
          z_iconst 39 hX dX12_as_39 zki2 <|
          zb1 h fun x15 r14 h => zcX12_60 40 [.int a1, .int (nI 2)] [] hX dX12_as_40 (c_X12_its (zgd0 hX) r14) (rfl : shp 128 = (12, 0)) rfl rfl rfl (Nat.le_of_ble_eq_true rfl) (Nat.le_of_ble_eq_true rfl) <|
          z_goto 43 51 hX dX12_as_43 rfl <|
          z_endI2 51 hE rfl h dX12_as_51
    · refine z_weak (L' := [some (.ref (zα G 128)), none, none]) (zsub_s (zsub_n (zsub_n zsub_0))) <|
        j_X12_as_18z hX hE h
def j_X12_set_36  (w : zW) : Option (Int32 × zW) :=
  zb2 (f_X12_error (nI 1) w) fun x2 w1 =>
  some (x2, w1)
theorem j_X12_set_36z {G : zG} {X : zX} {w : zW} {re : Int32} {we : zW}  (hX : zOk G X cX12_set 5 RX12 2) (hE : zEI G X cX12_set .int re we)  (h : j_X12_set_36 w = some (re, we)) : zZ G X w 36 [some (.ref (zα G 128)), none, none, none, none] [] := by
  rw [j_X12_set_36] at h
  refine z_aload_n 36 hX dX12_set_36 rfl <|
    z_iconst 37 hX dX12_set_37 zki1 <|
    zb12 h fun x2 w1 r1 h => zcX12_64 38 [.int (nI 1)] [] hX dX12_set_38 (c_X12_error (zgd0 hX) r1) (rfl : shp 128 = (12, 0)) rfl rfl rfl (Nat.le_of_ble_eq_true rfl) (Nat.le_of_ble_eq_true rfl) <|
    z_endI2 41 hE rfl h dX12_set_41
def j_X12_set_30 (a1 : Int32) (a2 : Int32) (a3 : Int32) (b0 : Int32) (b1 : Int32) (b2 : Int32) (w : zW) : Option (Int32 × zW) :=
  zb (f_X12_in b0 b1 b2) fun x2 =>
  if x2 = nI 0 then
    j_X12_set_36 w
  else
    zb (f_X12_its a1 a2 w) fun x5 =>
    zsto w 129 628 (((nI 8) + ((nI 27) * a1)) + a2) a3 fun w1 =>
    some (x5, w1)
theorem j_X12_set_30z {G : zG} {X : zX} {w : zW} {re : Int32} {we : zW} {a1 : Int32} {a2 : Int32} {a3 : Int32} {b0 : Int32} {b1 : Int32} {b2 : Int32} (hX : zOk G X cX12_set 5 RX12 2) (hE : zEI G X cX12_set .int re we)  (h : j_X12_set_30 a1 a2 a3 b0 b1 b2 w = some (re, we)) : zZ G X w 30 [some (.ref (zα G 128)), some (.int a1), some (.int a2), some (.int a3), none] [.int b2, .int b1, .int b0] := by
  rw [j_X12_set_30] at h
  refine zb1 h fun x2 r1 h => zcX12_56 30 [.int b0, .int b1, .int b2] [] hX dX12_set_30 (c_X12_in (zgd0 hX) r1) rfl rfl rfl (Nat.le_of_ble_eq_true rfl) (Nat.le_of_ble_eq_true rfl) <|
    z_if_ne 33 42 hX dX12_set_33 rfl h (fun q3 h => ?_) (fun q3 h => ?_)
  · refine z_aload_n 42 hX dX12_set_42 rfl <|
      z_iload_n 43 hX dX12_set_43 rfl <|
      z_iload_n 44 hX dX12_set_44 rfl <|
      zb1 h fun x5 r4 h => zcX12_60 45 [.int a1, .int a2] [] hX dX12_set_45 (c_X12_its (zgd0 hX) r4) (rfl : shp 128 = (12, 0)) rfl rfl rfl (Nat.le_of_ble_eq_true rfl) (Nat.le_of_ble_eq_true rfl) <|
      z_istore 48 [some (.ref (zα G 128)), some (.int a1), some (.int a2), some (.int a3), some (.int x5)] hX dX12_set_48 (Nat.le_of_ble_eq_true rfl) rfl rfl <|
      z_aload_n 50 hX dX12_set_50 rfl <|
      zgX12_7 51 hX dX12_set_51 (rfl : shp 128 = (12, 0)) <|
      z_bipush 54 hX dX12_set_54 zkb8 <|
      z_bipush 56 hX dX12_set_56 zkb27 <|
      z_iload_n 58 hX dX12_set_58 rfl <|
      z_imul 59 hX dX12_set_59 <|
      z_iadd 60 hX dX12_set_60 <|
      z_iload_n 61 hX dX12_set_61 rfl <|
      z_iadd 62 hX dX12_set_62 <|
      z_iload_n 63 hX dX12_set_63 rfl <|
      z_iast 64 hX dX12_set_64 (rfl : shp 129 = (20, 628)) h fun w1 h =>
      z_iload 65 hX dX12_set_65 rfl <|
      z_endI2 67 hE rfl h dX12_set_67
  · refine z_weak (L' := [some (.ref (zα G 128)), none, none, none, none]) (zsub_s (zsub_n (zsub_n (zsub_n (zsub_n zsub_0))))) <|
      j_X12_set_36z hX hE h
def f_X12_set (a1 : Int32) (a2 : Int32) (a3 : Int32) (w : zW) : Option (Int32 × zW) :=
  zb (f_X12_isWall a1 w) fun x2 =>
  if x2 = nI 0 then
    j_X12_set_36 w
  else
    zb (f_X12_in a2 (nI 0) (nI 1)) fun x5 =>
    if x5 = nI 0 then
      j_X12_set_36 w
    else
    if a2 = nI 0 then
      j_X12_set_30 a1 a2 a3 a3 (nI 0) (nI 6) w
    else
      j_X12_set_30 a1 a2 a3 a3 (nI 0) (nI 9) w
theorem c_X12_set {G : zG} {l : Launch} (hG : zgood G) {w : zW} {re : Int32} {we : zW} {a1 : Int32} {a2 : Int32} {a3 : Int32}  (h : f_X12_set a1 a2 a3 w = some (re, we)) : zMet G l yX12_set cX12_set 5 (some .int) 2 [.ref (zα G 128), .int a1, .int a2, .int a3] w (some (.int re)) we := by
  refine zMet_of (L0 := [some (.ref (zα G 128)), some (.int a1), some (.int a2), some (.int a3), none]) hG zplX12 (Nat.le_of_ble_eq_true rfl) rfl rfl (fun X hl hX hEI hEV hEA => ?_)
  subst hl
  have hX : zOk G X cX12_set 5 RX12 2 := hX
  have hE := hEI _ _ rfl rfl
  rw [f_X12_set] at h
  refine z_aload_n 0 hX dX12_set_0 rfl <|
    z_iload_n 1 hX dX12_set_1 rfl <|
    zb1 h fun x2 r1 h => zcX12_133 2 [.int a1] [] hX dX12_set_2 (c_X12_isWall (zgd0 hX) r1) (rfl : shp 128 = (12, 0)) rfl rfl rfl (Nat.le_of_ble_eq_true rfl) (Nat.le_of_ble_eq_true rfl) <|
    z_if_eq 5 36 hX dX12_set_5 rfl h (fun q3 h => ?_) (fun q3 h => ?_)
  · refine z_weak (L' := [some (.ref (zα G 128)), none, none, none, none]) (zsub_s (zsub_n (zsub_n (zsub_n (zsub_n zsub_0))))) <|
      j_X12_set_36z hX hE h
  · refine z_iload_n 8 hX dX12_set_8 rfl <|
      z_iconst 9 hX dX12_set_9 zki0 <|
      z_iconst 10 hX dX12_set_10 zki1 <|
      zb1 h fun x5 r4 h => zcX12_56 11 [.int a2, .int (nI 0), .int (nI 1)] [] hX dX12_set_11 (c_X12_in (zgd0 hX) r4) rfl rfl rfl (Nat.le_of_ble_eq_true rfl) (Nat.le_of_ble_eq_true rfl) <|
      z_if_eq 14 36 hX dX12_set_14 rfl h (fun q6 h => ?_) (fun q6 h => ?_)
    · refine z_weak (L' := [some (.ref (zα G 128)), none, none, none, none]) (zsub_s (zsub_n (zsub_n (zsub_n (zsub_n zsub_0))))) <|
        j_X12_set_36z hX hE h
    · refine z_iload_n 17 hX dX12_set_17 rfl <|
        z_iconst 18 hX dX12_set_18 zki0 <|
        z_iload_n 19 hX dX12_set_19 rfl <|
        z_if_ne 20 28 hX dX12_set_20 rfl h (fun q7 h => ?_) (fun q7 h => ?_)
      · refine z_bipush 28 hX dX12_set_28 zkb9 <|
          j_X12_set_30z hX hE h
      · refine z_bipush 23 hX dX12_set_23 zkb6 <|
          z_goto 25 30 hX dX12_set_25 rfl <|
          j_X12_set_30z hX hE h
def j_X12_brick_27  (w : zW) : Option (Int32 × zW) :=
  zb2 (f_X12_error (nI 1) w) fun x2 w1 =>
  some (x2, w1)
theorem j_X12_brick_27z {G : zG} {X : zX} {w : zW} {re : Int32} {we : zW}  (hX : zOk G X cX12_brick 5 RX12 2) (hE : zEI G X cX12_brick .int re we)  (h : j_X12_brick_27 w = some (re, we)) : zZ G X w 27 [some (.ref (zα G 128)), none, none, none, none] [] := by
  rw [j_X12_brick_27] at h
  refine z_aload_n 27 hX dX12_brick_27 rfl <|
    z_iconst 28 hX dX12_brick_28 zki1 <|
    zb12 h fun x2 w1 r1 h => zcX12_64 29 [.int (nI 1)] [] hX dX12_brick_29 (c_X12_error (zgd0 hX) r1) (rfl : shp 128 = (12, 0)) rfl rfl rfl (Nat.le_of_ble_eq_true rfl) (Nat.le_of_ble_eq_true rfl) <|
    z_endI2 32 hE rfl h dX12_brick_32
def f_X12_brick (a1 : Int32) (a2 : Int32) (a3 : Int32) (w : zW) : Option (Int32 × zW) :=
  zb (f_X12_isWall a1 w) fun x2 =>
  if x2 = nI 0 then
    j_X12_brick_27 w
  else
    zb (f_X12_isPlace a1 a2 w) fun x5 =>
    if x5 = nI 0 then
      j_X12_brick_27 w
    else
      zb (f_X12_in a3 (nI 0) (nI 26)) fun x8 =>
      if x8 = nI 0 then
        j_X12_brick_27 w
      else
        zb (f_X12_at a1 a2) fun x11 =>
        zld w 129 628 x11 fun x12 =>
        zb (f_X12_at a1 a2) fun x14 =>
        zsto w 129 628 x14 a3 fun w1 =>
        some (x12, w1)
theorem c_X12_brick {G : zG} {l : Launch} (hG : zgood G) {w : zW} {re : Int32} {we : zW} {a1 : Int32} {a2 : Int32} {a3 : Int32}  (h : f_X12_brick a1 a2 a3 w = some (re, we)) : zMet G l yX12_brick cX12_brick 5 (some .int) 2 [.ref (zα G 128), .int a1, .int a2, .int a3] w (some (.int re)) we := by
  refine zMet_of (L0 := [some (.ref (zα G 128)), some (.int a1), some (.int a2), some (.int a3), none]) hG zplX12 (Nat.le_of_ble_eq_true rfl) rfl rfl (fun X hl hX hEI hEV hEA => ?_)
  subst hl
  have hX : zOk G X cX12_brick 5 RX12 2 := hX
  have hE := hEI _ _ rfl rfl
  rw [f_X12_brick] at h
  refine z_aload_n 0 hX dX12_brick_0 rfl <|
    z_iload_n 1 hX dX12_brick_1 rfl <|
    zb1 h fun x2 r1 h => zcX12_133 2 [.int a1] [] hX dX12_brick_2 (c_X12_isWall (zgd0 hX) r1) (rfl : shp 128 = (12, 0)) rfl rfl rfl (Nat.le_of_ble_eq_true rfl) (Nat.le_of_ble_eq_true rfl) <|
    z_if_eq 5 27 hX dX12_brick_5 rfl h (fun q3 h => ?_) (fun q3 h => ?_)
  · refine z_weak (L' := [some (.ref (zα G 128)), none, none, none, none]) (zsub_s (zsub_n (zsub_n (zsub_n (zsub_n zsub_0))))) <|
      j_X12_brick_27z hX hE h
  · refine z_aload_n 8 hX dX12_brick_8 rfl <|
      z_iload_n 9 hX dX12_brick_9 rfl <|
      z_iload_n 10 hX dX12_brick_10 rfl <|
      zb1 h fun x5 r4 h => zcX12_186 11 [.int a1, .int a2] [] hX dX12_brick_11 (c_X12_isPlace (zgd0 hX) r4) (rfl : shp 128 = (12, 0)) rfl rfl rfl (Nat.le_of_ble_eq_true rfl) (Nat.le_of_ble_eq_true rfl) <|
      z_if_eq 14 27 hX dX12_brick_14 rfl h (fun q6 h => ?_) (fun q6 h => ?_)
    · refine z_weak (L' := [some (.ref (zα G 128)), none, none, none, none]) (zsub_s (zsub_n (zsub_n (zsub_n (zsub_n zsub_0))))) <|
        j_X12_brick_27z hX hE h
    · refine z_iload_n 17 hX dX12_brick_17 rfl <|
        z_iconst 18 hX dX12_brick_18 zki0 <|
        z_bipush 19 hX dX12_brick_19 zkb26 <|
        zb1 h fun x8 r7 h => zcX12_56 21 [.int a3, .int (nI 0), .int (nI 26)] [] hX dX12_brick_21 (c_X12_in (zgd0 hX) r7) rfl rfl rfl (Nat.le_of_ble_eq_true rfl) (Nat.le_of_ble_eq_true rfl) <|
        z_if_ne 24 33 hX dX12_brick_24 rfl h (fun q9 h => ?_) (fun q9 h => ?_)
      · refine z_aload_n 33 hX dX12_brick_33 rfl <|
          zgX12_7 34 hX dX12_brick_34 (rfl : shp 128 = (12, 0)) <|
          z_aload_n 37 hX dX12_brick_37 rfl <|
          z_iload_n 38 hX dX12_brick_38 rfl <|
          z_iload_n 39 hX dX12_brick_39 rfl <|
          zb1 h fun x11 r10 h => zcX12_124 40 [.int a1, .int a2] [.ref (zα G 129)] hX dX12_brick_40 (c_X12_at (zgd0 hX) r10) (rfl : shp 128 = (12, 0)) rfl rfl rfl (Nat.le_of_ble_eq_true rfl) (Nat.le_of_ble_eq_true rfl) <|
          z_iald 43 hX dX12_brick_43 (rfl : shp 129 = (20, 628)) h fun x12 _ h =>
          z_istore 44 [some (.ref (zα G 128)), some (.int a1), some (.int a2), some (.int a3), some (.int x12)] hX dX12_brick_44 (Nat.le_of_ble_eq_true rfl) rfl rfl <|
          z_aload_n 46 hX dX12_brick_46 rfl <|
          zgX12_7 47 hX dX12_brick_47 (rfl : shp 128 = (12, 0)) <|
          z_aload_n 50 hX dX12_brick_50 rfl <|
          z_iload_n 51 hX dX12_brick_51 rfl <|
          z_iload_n 52 hX dX12_brick_52 rfl <|
          zb1 h fun x14 r13 h => zcX12_124 53 [.int a1, .int a2] [.ref (zα G 129)] hX dX12_brick_53 (c_X12_at (zgd0 hX) r13) (rfl : shp 128 = (12, 0)) rfl rfl rfl (Nat.le_of_ble_eq_true rfl) (Nat.le_of_ble_eq_true rfl) <|
          z_iload_n 56 hX dX12_brick_56 rfl <|
          z_iast 57 hX dX12_brick_57 (rfl : shp 129 = (20, 628)) h fun w1 h =>
          z_iload 58 hX dX12_brick_58 rfl <|
          z_endI2 60 hE rfl h dX12_brick_60
      · refine z_weak (L' := [some (.ref (zα G 128)), none, none, none, none]) (zsub_s (zsub_n (zsub_n (zsub_n (zsub_n zsub_0))))) <|
          j_X12_brick_27z hX hE h
def j_X12_brickOf_31  (w : zW) : Option (Int32 × zW) :=
  zb2 (f_X12_error (nI 1) w) fun x2 w1 =>
  some (x2, w1)
theorem j_X12_brickOf_31z {G : zG} {X : zX} {w : zW} {re : Int32} {we : zW}  (hX : zOk G X cX12_brickOf 3 RX12 2) (hE : zEI G X cX12_brickOf .int re we)  (h : j_X12_brickOf_31 w = some (re, we)) : zZ G X w 31 [some (.ref (zα G 128)), none, none] [] := by
  rw [j_X12_brickOf_31] at h
  refine z_aload_n 31 hX dX12_brickOf_31 rfl <|
    z_iconst 32 hX dX12_brickOf_32 zki1 <|
    zb12 h fun x2 w1 r1 h => zcX12_64 33 [.int (nI 1)] [] hX dX12_brickOf_33 (c_X12_error (zgd0 hX) r1) (rfl : shp 128 = (12, 0)) rfl rfl rfl (Nat.le_of_ble_eq_true rfl) (Nat.le_of_ble_eq_true rfl) <|
    z_endI2 36 hE rfl h dX12_brickOf_36
def f_X12_brickOf (a1 : Int32) (a2 : Int32) (w : zW) : Option (Int32 × zW) :=
  zb (f_X12_isWall a1 w) fun x2 =>
  if x2 = nI 0 then
    j_X12_brickOf_31 w
  else
    zb (f_X12_isPlace a1 a2 w) fun x5 =>
    if x5 = nI 0 then
      j_X12_brickOf_31 w
    else
      zb (f_X12_at a1 a2) fun x8 =>
      zld w 129 628 x8 fun x9 =>
      some (x9, w)
theorem c_X12_brickOf {G : zG} {l : Launch} (hG : zgood G) {w : zW} {re : Int32} {we : zW} {a1 : Int32} {a2 : Int32}  (h : f_X12_brickOf a1 a2 w = some (re, we)) : zMet G l yX12_brickOf cX12_brickOf 3 (some .int) 2 [.ref (zα G 128), .int a1, .int a2] w (some (.int re)) we := by
  refine zMet_of (L0 := [some (.ref (zα G 128)), some (.int a1), some (.int a2)]) hG zplX12 (Nat.le_of_ble_eq_true rfl) rfl rfl (fun X hl hX hEI hEV hEA => ?_)
  subst hl
  have hX : zOk G X cX12_brickOf 3 RX12 2 := hX
  have hE := hEI _ _ rfl rfl
  rw [f_X12_brickOf] at h
  refine z_aload_n 0 hX dX12_brickOf_0 rfl <|
    z_iload_n 1 hX dX12_brickOf_1 rfl <|
    zb1 h fun x2 r1 h => zcX12_133 2 [.int a1] [] hX dX12_brickOf_2 (c_X12_isWall (zgd0 hX) r1) (rfl : shp 128 = (12, 0)) rfl rfl rfl (Nat.le_of_ble_eq_true rfl) (Nat.le_of_ble_eq_true rfl) <|
    z_if_eq 5 31 hX dX12_brickOf_5 rfl h (fun q3 h => ?_) (fun q3 h => ?_)
  · refine z_weak (L' := [some (.ref (zα G 128)), none, none]) (zsub_s (zsub_n (zsub_n zsub_0))) <|
      j_X12_brickOf_31z hX hE h
  · refine z_aload_n 8 hX dX12_brickOf_8 rfl <|
      z_iload_n 9 hX dX12_brickOf_9 rfl <|
      z_iload_n 10 hX dX12_brickOf_10 rfl <|
      zb1 h fun x5 r4 h => zcX12_186 11 [.int a1, .int a2] [] hX dX12_brickOf_11 (c_X12_isPlace (zgd0 hX) r4) (rfl : shp 128 = (12, 0)) rfl rfl rfl (Nat.le_of_ble_eq_true rfl) (Nat.le_of_ble_eq_true rfl) <|
      z_if_eq 14 31 hX dX12_brickOf_14 rfl h (fun q6 h => ?_) (fun q6 h => ?_)
    · refine z_weak (L' := [some (.ref (zα G 128)), none, none]) (zsub_s (zsub_n (zsub_n zsub_0))) <|
        j_X12_brickOf_31z hX hE h
    · refine z_aload_n 17 hX dX12_brickOf_17 rfl <|
        zgX12_7 18 hX dX12_brickOf_18 (rfl : shp 128 = (12, 0)) <|
        z_aload_n 21 hX dX12_brickOf_21 rfl <|
        z_iload_n 22 hX dX12_brickOf_22 rfl <|
        z_iload_n 23 hX dX12_brickOf_23 rfl <|
        zb1 h fun x8 r7 h => zcX12_124 24 [.int a1, .int a2] [.ref (zα G 129)] hX dX12_brickOf_24 (c_X12_at (zgd0 hX) r7) (rfl : shp 128 = (12, 0)) rfl rfl rfl (Nat.le_of_ble_eq_true rfl) (Nat.le_of_ble_eq_true rfl) <|
        z_iald 27 hX dX12_brickOf_27 (rfl : shp 129 = (20, 628)) h fun x9 _ h =>
        z_goto 28 36 hX dX12_brickOf_28 rfl <|
        z_endI2 36 hE rfl h dX12_brickOf_36
def f_X12_readAs (a1 : Int32) (a2 : Int32) (w : zW) : Option (Int32 × zW) :=
  zb (f_X12_isWall a1 w) fun x2 =>
  if x2 = nI 0 then
    zb2 (f_X12_error (nI 1) w) fun x12 w3 =>
    some (x12, w3)
  else
    zb (f_X12_reads a1 w) fun w1 =>
    zb (f_X12_in a2 (nI 0) ((w1 128 12) - (nI 1))) fun x6 =>
    if x6 = nI 0 then
      zb2 (f_X12_error (nI 1) w1) fun x9 w2 =>
      some (x9, w2)
    else
      zld w1 135 48 a2 fun x10 =>
      some (x10, w1)
theorem c_X12_readAs {G : zG} {l : Launch} (hG : zgood G) {w : zW} {re : Int32} {we : zW} {a1 : Int32} {a2 : Int32}  (h : f_X12_readAs a1 a2 w = some (re, we)) : zMet G l yX12_readAs cX12_readAs 3 (some .int) 3 [.ref (zα G 128), .int a1, .int a2] w (some (.int re)) we := by
  refine zMet_of (L0 := [some (.ref (zα G 128)), some (.int a1), some (.int a2)]) hG zplX12 (Nat.le_of_ble_eq_true rfl) rfl rfl (fun X hl hX hEI hEV hEA => ?_)
  subst hl
  have hX : zOk G X cX12_readAs 3 RX12 3 := hX
  have hE := hEI _ _ rfl rfl
  rw [f_X12_readAs] at h
  refine z_aload_n 0 hX dX12_readAs_0 rfl <|
    z_iload_n 1 hX dX12_readAs_1 rfl <|
    zb1 h fun x2 r1 h => zcX12_133 2 [.int a1] [] hX dX12_readAs_2 (c_X12_isWall (zgd0 hX) r1) (rfl : shp 128 = (12, 0)) rfl rfl rfl (Nat.le_of_ble_eq_true rfl) (Nat.le_of_ble_eq_true rfl) <|
    z_if_ne 5 14 hX dX12_readAs_5 rfl h (fun q3 h => ?_) (fun q3 h => ?_)
  · refine z_aload_n 14 hX dX12_readAs_14 rfl <|
      z_iload_n 15 hX dX12_readAs_15 rfl <|
      zb1 h fun w1 r4 h => zcX12_164 16 [.int a1] [] hX dX12_readAs_16 (c_X12_reads (zgd0 hX) r4) (rfl : shp 128 = (12, 0)) rfl rfl rfl (Nat.le_of_ble_eq_true rfl) (Nat.le_of_ble_eq_true rfl) <|
      z_iload_n 19 hX dX12_readAs_19 rfl <|
      z_iconst 20 hX dX12_readAs_20 zki0 <|
      z_aload_n 21 hX dX12_readAs_21 rfl <|
      zgX12_126 22 hX dX12_readAs_22 (rfl : shp 128 = (12, 0)) <|
      z_iconst 25 hX dX12_readAs_25 zki1 <|
      z_isub 26 hX dX12_readAs_26 <|
      zb1 h fun x6 r5 h => zcX12_56 27 [.int a2, .int (nI 0), .int ((w1 128 12) - (nI 1))] [] hX dX12_readAs_27 (c_X12_in (zgd0 hX) r5) rfl rfl rfl (Nat.le_of_ble_eq_true rfl) (Nat.le_of_ble_eq_true rfl) <|
      z_if_eq 30 42 hX dX12_readAs_30 rfl h (fun q7 h => ?_) (fun q7 h => ?_)
    · refine z_aload_n 42 hX dX12_readAs_42 rfl <|
        z_iconst 43 hX dX12_readAs_43 zki1 <|
        zb12 h fun x9 w2 r8 h => zcX12_64 44 [.int (nI 1)] [] hX dX12_readAs_44 (c_X12_error (zgd0 hX) r8) (rfl : shp 128 = (12, 0)) rfl rfl rfl (Nat.le_of_ble_eq_true rfl) (Nat.le_of_ble_eq_true rfl) <|
        z_endI2 47 hE rfl h dX12_readAs_47
    · refine z_aload_n 33 hX dX12_readAs_33 rfl <|
        zgX12_28 34 hX dX12_readAs_34 (rfl : shp 128 = (12, 0)) <|
        z_iload_n 37 hX dX12_readAs_37 rfl <|
        z_iald 38 hX dX12_readAs_38 (rfl : shp 135 = (20, 48)) h fun x10 _ h =>
        z_goto 39 47 hX dX12_readAs_39 rfl <|
        z_endI2 47 hE rfl h dX12_readAs_47
  · refine z_aload_n 8 hX dX12_readAs_8 rfl <|
      z_iconst 9 hX dX12_readAs_9 zki1 <|
      zb12 h fun x12 w3 r11 h => zcX12_64 10 [.int (nI 1)] [] hX dX12_readAs_10 (c_X12_error (zgd0 hX) r11) (rfl : shp 128 = (12, 0)) rfl rfl rfl (Nat.le_of_ble_eq_true rfl) (Nat.le_of_ble_eq_true rfl) <|
      z_endI2 13 hE rfl h dX12_readAs_13
def j_X12_word_16  (w : zW) : Option (Int32 × zW) :=
  zb2 (f_X12_error (nI 1) w) fun x2 w1 =>
  some (x2, w1)
theorem j_X12_word_16z {G : zG} {X : zX} {w : zW} {re : Int32} {we : zW}  (hX : zOk G X cX12_word 4 RX12 2) (hE : zEI G X cX12_word .int re we)  (h : j_X12_word_16 w = some (re, we)) : zZ G X w 16 [some (.ref (zα G 128)), none, none, none] [] := by
  rw [j_X12_word_16] at h
  refine z_aload_n 16 hX dX12_word_16 rfl <|
    z_iconst 17 hX dX12_word_17 zki1 <|
    zb12 h fun x2 w1 r1 h => zcX12_64 18 [.int (nI 1)] [] hX dX12_word_18 (c_X12_error (zgd0 hX) r1) (rfl : shp 128 = (12, 0)) rfl rfl rfl (Nat.le_of_ble_eq_true rfl) (Nat.le_of_ble_eq_true rfl) <|
    z_endI2 21 hE rfl h dX12_word_21
def f_X12_word (a1 : Int32) (a2 : Int32) (w : zW) : Option (Int32 × zW) :=
  zb (f_X12_in a1 (nI 0) (nI 4)) fun x2 =>
  if x2 = nI 0 then
    j_X12_word_16 w
  else
    zb (f_X12_isLetter a2) fun x5 =>
    if x5 = nI 0 then
      j_X12_word_16 w
    else
    if (w 129 1) = (nI 12) then
      zb2 (f_X12_error (nI 4) w) fun x10 w5 =>
      some (x10, w5)
    else
      zlet ((nI 170) + ((nI 8) * (w 129 1))) fun x8 =>
      zsto w 129 628 x8 a1 fun w1 =>
      zsto w1 129 628 (x8 + (nI 1)) (nI 1) fun w2 =>
      zsto w2 129 628 (x8 + (nI 2)) a2 fun w3 =>
      zlet (zupd w3 129 1 ((w3 129 1) + (nI 1))) fun w4 =>
      some ((w4 129 1) - (nI 1), w4)
theorem c_X12_word {G : zG} {l : Launch} (hG : zgood G) {w : zW} {re : Int32} {we : zW} {a1 : Int32} {a2 : Int32}  (h : f_X12_word a1 a2 w = some (re, we)) : zMet G l yX12_word cX12_word 4 (some .int) 2 [.ref (zα G 128), .int a1, .int a2] w (some (.int re)) we := by
  refine zMet_of (L0 := [some (.ref (zα G 128)), some (.int a1), some (.int a2), none]) hG zplX12 (Nat.le_of_ble_eq_true rfl) rfl rfl (fun X hl hX hEI hEV hEA => ?_)
  subst hl
  have hX : zOk G X cX12_word 4 RX12 2 := hX
  have hE := hEI _ _ rfl rfl
  rw [f_X12_word] at h
  refine z_iload_n 0 hX dX12_word_0 rfl <|
    z_iconst 1 hX dX12_word_1 zki0 <|
    z_iconst 2 hX dX12_word_2 zki4 <|
    zb1 h fun x2 r1 h => zcX12_56 3 [.int a1, .int (nI 0), .int (nI 4)] [] hX dX12_word_3 (c_X12_in (zgd0 hX) r1) rfl rfl rfl (Nat.le_of_ble_eq_true rfl) (Nat.le_of_ble_eq_true rfl) <|
    z_if_eq 6 16 hX dX12_word_6 rfl h (fun q3 h => ?_) (fun q3 h => ?_)
  · refine z_weak (L' := [some (.ref (zα G 128)), none, none, none]) (zsub_s (zsub_n (zsub_n (zsub_n zsub_0)))) <|
      j_X12_word_16z hX hE h
  · refine z_iload_n 9 hX dX12_word_9 rfl <|
      zb1 h fun x5 r4 h => zcX12_142 10 [.int a2] [] hX dX12_word_10 (c_X12_isLetter (zgd0 hX) r4) rfl rfl rfl (Nat.le_of_ble_eq_true rfl) (Nat.le_of_ble_eq_true rfl) <|
      z_if_ne 13 22 hX dX12_word_13 rfl h (fun q6 h => ?_) (fun q6 h => ?_)
    · refine z_aload_n 22 hX dX12_word_22 rfl <|
        zgX12_7 23 hX dX12_word_23 (rfl : shp 128 = (12, 0)) <|
        z_iconst 26 hX dX12_word_26 zki1 <|
        z_ialdc (j := 1) 27 hX dX12_word_27 (rfl : shp 129 = (20, 628)) (zink 1 628 (by decide) (by decide)) (nI_clamp (by decide)) <|
        z_bipush 28 hX dX12_word_28 zkb12 <|
        z_icmp_ne 30 39 hX dX12_word_30 rfl h (fun q7 h => ?_) (fun q7 h => ?_)
      · refine z_sipush 39 hX dX12_word_39 zks170 <|
          z_bipush 42 hX dX12_word_42 zkb8 <|
          z_aload_n 44 hX dX12_word_44 rfl <|
          zgX12_7 45 hX dX12_word_45 (rfl : shp 128 = (12, 0)) <|
          z_iconst 48 hX dX12_word_48 zki1 <|
          z_ialdc (j := 1) 49 hX dX12_word_49 (rfl : shp 129 = (20, 628)) (zink 1 628 (by decide) (by decide)) (nI_clamp (by decide)) <|
          z_imul 50 hX dX12_word_50 <|
          z_iadd 51 hX dX12_word_51 <|
          z_top h fun x8 h =>
          z_istore_n 52 [some (.ref (zα G 128)), some (.int a1), some (.int a2), some (.int x8)] hX dX12_word_52 (Nat.le_of_ble_eq_true rfl) rfl rfl <|
          z_aload_n 53 hX dX12_word_53 rfl <|
          zgX12_7 54 hX dX12_word_54 (rfl : shp 128 = (12, 0)) <|
          z_iload_n 57 hX dX12_word_57 rfl <|
          z_iload_n 58 hX dX12_word_58 rfl <|
          z_iast 59 hX dX12_word_59 (rfl : shp 129 = (20, 628)) h fun w1 h =>
          z_aload_n 60 hX dX12_word_60 rfl <|
          zgX12_7 61 hX dX12_word_61 (rfl : shp 128 = (12, 0)) <|
          z_iload_n 64 hX dX12_word_64 rfl <|
          z_iconst 65 hX dX12_word_65 zki1 <|
          z_iadd 66 hX dX12_word_66 <|
          z_iconst 67 hX dX12_word_67 zki1 <|
          z_iast 68 hX dX12_word_68 (rfl : shp 129 = (20, 628)) h fun w2 h =>
          z_aload_n 69 hX dX12_word_69 rfl <|
          zgX12_7 70 hX dX12_word_70 (rfl : shp 128 = (12, 0)) <|
          z_iload_n 73 hX dX12_word_73 rfl <|
          z_iconst 74 hX dX12_word_74 zki2 <|
          z_iadd 75 hX dX12_word_75 <|
          z_iload_n 76 hX dX12_word_76 rfl <|
          z_iast 77 hX dX12_word_77 (rfl : shp 129 = (20, 628)) h fun w3 h =>
          z_aload_n 78 hX dX12_word_78 rfl <|
          zgX12_7 79 hX dX12_word_79 (rfl : shp 128 = (12, 0)) <|
          z_iconst 82 hX dX12_word_82 zki1 <|
          z_dup2 83 hX dX12_word_83 rfl rfl <|
          z_ialdc (j := 1) 84 hX dX12_word_84 (rfl : shp 129 = (20, 628)) (zink 1 628 (by decide) (by decide)) (nI_clamp (by decide)) <|
          z_iconst 85 hX dX12_word_85 zki1 <|
          z_iadd 86 hX dX12_word_86 <|
          z_iastc (j := 1) 87 hX dX12_word_87 (rfl : shp 129 = (20, 628)) (zink 1 628 (by decide) (by decide)) (nI_clamp (by decide)) <|
          z_w h fun w4 h =>
          z_aload_n 88 hX dX12_word_88 rfl <|
          zgX12_7 89 hX dX12_word_89 (rfl : shp 128 = (12, 0)) <|
          z_iconst 92 hX dX12_word_92 zki1 <|
          z_ialdc (j := 1) 93 hX dX12_word_93 (rfl : shp 129 = (20, 628)) (zink 1 628 (by decide) (by decide)) (nI_clamp (by decide)) <|
          z_iconst 94 hX dX12_word_94 zki1 <|
          z_isub 95 hX dX12_word_95 <|
          z_endI2 96 hE rfl h dX12_word_96
      · refine z_aload_n 33 hX dX12_word_33 rfl <|
          z_iconst 34 hX dX12_word_34 zki4 <|
          zb12 h fun x10 w5 r9 h => zcX12_64 35 [.int (nI 4)] [] hX dX12_word_35 (c_X12_error (zgd0 hX) r9) (rfl : shp 128 = (12, 0)) rfl rfl rfl (Nat.le_of_ble_eq_true rfl) (Nat.le_of_ble_eq_true rfl) <|
          z_endI2 38 hE rfl h dX12_word_38
    · refine z_weak (L' := [some (.ref (zα G 128)), none, none, none]) (zsub_s (zsub_n (zsub_n (zsub_n zsub_0)))) <|
        j_X12_word_16z hX hE h
def j_X12_letter_15  (w : zW) : Option (Int32 × zW) :=
  zb2 (f_X12_error (nI 1) w) fun x2 w1 =>
  some (x2, w1)
theorem j_X12_letter_15z {G : zG} {X : zX} {w : zW} {re : Int32} {we : zW}  (hX : zOk G X cX12_letter 4 RX12 2) (hE : zEI G X cX12_letter .int re we)  (h : j_X12_letter_15 w = some (re, we)) : zZ G X w 15 [some (.ref (zα G 128)), none, none, none] [] := by
  rw [j_X12_letter_15] at h
  refine z_aload_n 15 hX dX12_letter_15 rfl <|
    z_iconst 16 hX dX12_letter_16 zki1 <|
    zb12 h fun x2 w1 r1 h => zcX12_64 17 [.int (nI 1)] [] hX dX12_letter_17 (c_X12_error (zgd0 hX) r1) (rfl : shp 128 = (12, 0)) rfl rfl rfl (Nat.le_of_ble_eq_true rfl) (Nat.le_of_ble_eq_true rfl) <|
    z_endI2 20 hE rfl h dX12_letter_20
def f_X12_letter (a1 : Int32) (a2 : Int32) (w : zW) : Option (Int32 × zW) :=
  zb (f_X12_isWord a1 w) fun x2 =>
  if x2 = nI 0 then
    j_X12_letter_15 w
  else
    zb (f_X12_isLetter a2) fun x5 =>
    if x5 = nI 0 then
      j_X12_letter_15 w
    else
      zb (f_X12_lengthOf a1 w) fun x8 =>
      if x8 = (nI 6) then
        zb2 (f_X12_error (nI 4) w) fun x11 w3 =>
        some (x11, w3)
      else
        zsto w 129 628 ((((nI 170) + ((nI 8) * a1)) + (nI 2)) + x8) a2 fun w1 =>
        zsto w1 129 628 (((nI 170) + ((nI 8) * a1)) + (nI 1)) (x8 + (nI 1)) fun w2 =>
        some (x8 + (nI 1), w2)
theorem c_X12_letter {G : zG} {l : Launch} (hG : zgood G) {w : zW} {re : Int32} {we : zW} {a1 : Int32} {a2 : Int32}  (h : f_X12_letter a1 a2 w = some (re, we)) : zMet G l yX12_letter cX12_letter 4 (some .int) 2 [.ref (zα G 128), .int a1, .int a2] w (some (.int re)) we := by
  refine zMet_of (L0 := [some (.ref (zα G 128)), some (.int a1), some (.int a2), none]) hG zplX12 (Nat.le_of_ble_eq_true rfl) rfl rfl (fun X hl hX hEI hEV hEA => ?_)
  subst hl
  have hX : zOk G X cX12_letter 4 RX12 2 := hX
  have hE := hEI _ _ rfl rfl
  rw [f_X12_letter] at h
  refine z_aload_n 0 hX dX12_letter_0 rfl <|
    z_iload_n 1 hX dX12_letter_1 rfl <|
    zb1 h fun x2 r1 h => zcX12_189 2 [.int a1] [] hX dX12_letter_2 (c_X12_isWord (zgd0 hX) r1) (rfl : shp 128 = (12, 0)) rfl rfl rfl (Nat.le_of_ble_eq_true rfl) (Nat.le_of_ble_eq_true rfl) <|
    z_if_eq 5 15 hX dX12_letter_5 rfl h (fun q3 h => ?_) (fun q3 h => ?_)
  · refine z_weak (L' := [some (.ref (zα G 128)), none, none, none]) (zsub_s (zsub_n (zsub_n (zsub_n zsub_0)))) <|
      j_X12_letter_15z hX hE h
  · refine z_iload_n 8 hX dX12_letter_8 rfl <|
      zb1 h fun x5 r4 h => zcX12_142 9 [.int a2] [] hX dX12_letter_9 (c_X12_isLetter (zgd0 hX) r4) rfl rfl rfl (Nat.le_of_ble_eq_true rfl) (Nat.le_of_ble_eq_true rfl) <|
      z_if_ne 12 21 hX dX12_letter_12 rfl h (fun q6 h => ?_) (fun q6 h => ?_)
    · refine z_aload_n 21 hX dX12_letter_21 rfl <|
        z_iload_n 22 hX dX12_letter_22 rfl <|
        zb1 h fun x8 r7 h => zcX12_145 23 [.int a1] [] hX dX12_letter_23 (c_X12_lengthOf (zgd0 hX) r7) (rfl : shp 128 = (12, 0)) rfl rfl rfl (Nat.le_of_ble_eq_true rfl) (Nat.le_of_ble_eq_true rfl) <|
        z_istore_n 26 [some (.ref (zα G 128)), some (.int a1), some (.int a2), some (.int x8)] hX dX12_letter_26 (Nat.le_of_ble_eq_true rfl) rfl rfl <|
        z_iload_n 27 hX dX12_letter_27 rfl <|
        z_bipush 28 hX dX12_letter_28 zkb6 <|
        z_icmp_ne 30 39 hX dX12_letter_30 rfl h (fun q9 h => ?_) (fun q9 h => ?_)
      · refine z_aload_n 39 hX dX12_letter_39 rfl <|
          zgX12_7 40 hX dX12_letter_40 (rfl : shp 128 = (12, 0)) <|
          z_sipush 43 hX dX12_letter_43 zks170 <|
          z_bipush 46 hX dX12_letter_46 zkb8 <|
          z_iload_n 48 hX dX12_letter_48 rfl <|
          z_imul 49 hX dX12_letter_49 <|
          z_iadd 50 hX dX12_letter_50 <|
          z_iconst 51 hX dX12_letter_51 zki2 <|
          z_iadd 52 hX dX12_letter_52 <|
          z_iload_n 53 hX dX12_letter_53 rfl <|
          z_iadd 54 hX dX12_letter_54 <|
          z_iload_n 55 hX dX12_letter_55 rfl <|
          z_iast 56 hX dX12_letter_56 (rfl : shp 129 = (20, 628)) h fun w1 h =>
          z_aload_n 57 hX dX12_letter_57 rfl <|
          zgX12_7 58 hX dX12_letter_58 (rfl : shp 128 = (12, 0)) <|
          z_sipush 61 hX dX12_letter_61 zks170 <|
          z_bipush 64 hX dX12_letter_64 zkb8 <|
          z_iload_n 66 hX dX12_letter_66 rfl <|
          z_imul 67 hX dX12_letter_67 <|
          z_iadd 68 hX dX12_letter_68 <|
          z_iconst 69 hX dX12_letter_69 zki1 <|
          z_iadd 70 hX dX12_letter_70 <|
          z_iload_n 71 hX dX12_letter_71 rfl <|
          z_iconst 72 hX dX12_letter_72 zki1 <|
          z_iadd 73 hX dX12_letter_73 <|
          z_iast 74 hX dX12_letter_74 (rfl : shp 129 = (20, 628)) h fun w2 h =>
          z_iload_n 75 hX dX12_letter_75 rfl <|
          z_iconst 76 hX dX12_letter_76 zki1 <|
          z_iadd 77 hX dX12_letter_77 <|
          z_endI2 78 hE rfl h dX12_letter_78
      · refine z_aload_n 33 hX dX12_letter_33 rfl <|
          z_iconst 34 hX dX12_letter_34 zki4 <|
          zb12 h fun x11 w3 r10 h => zcX12_64 35 [.int (nI 4)] [] hX dX12_letter_35 (c_X12_error (zgd0 hX) r10) (rfl : shp 128 = (12, 0)) rfl rfl rfl (Nat.le_of_ble_eq_true rfl) (Nat.le_of_ble_eq_true rfl) <|
          z_endI2 38 hE rfl h dX12_letter_38
    · refine z_weak (L' := [some (.ref (zα G 128)), none, none, none]) (zsub_s (zsub_n (zsub_n (zsub_n zsub_0)))) <|
        j_X12_letter_15z hX hE h
def j_X12_wordIs_24  (w : zW) : Option (Int32 × zW) :=
  zb2 (f_X12_error (nI 1) w) fun x2 w1 =>
  some (x2, w1)
theorem j_X12_wordIs_24z {G : zG} {X : zX} {w : zW} {re : Int32} {we : zW}  (hX : zOk G X cX12_wordIs 3 RX12 2) (hE : zEI G X cX12_wordIs .int re we)  (h : j_X12_wordIs_24 w = some (re, we)) : zZ G X w 24 [some (.ref (zα G 128)), none, none] [] := by
  rw [j_X12_wordIs_24] at h
  refine z_aload_n 24 hX dX12_wordIs_24 rfl <|
    z_iconst 25 hX dX12_wordIs_25 zki1 <|
    zb12 h fun x2 w1 r1 h => zcX12_64 26 [.int (nI 1)] [] hX dX12_wordIs_26 (c_X12_error (zgd0 hX) r1) (rfl : shp 128 = (12, 0)) rfl rfl rfl (Nat.le_of_ble_eq_true rfl) (Nat.le_of_ble_eq_true rfl) <|
    z_endI2 29 hE rfl h dX12_wordIs_29
def f_X12_wordIs (a1 : Int32) (a2 : Int32) (w : zW) : Option (Int32 × zW) :=
  zb (f_X12_isWord a1 w) fun x2 =>
  if x2 = nI 0 then
    j_X12_wordIs_24 w
  else
    zb (f_X12_lengthOf a1 w) fun x5 =>
    zb (f_X12_in a2 (mI 2) (x5 - (nI 1))) fun x7 =>
    if x7 = nI 0 then
      j_X12_wordIs_24 w
    else
    if a2 = (mI 2) then
      zb (f_X12_lengthOf a1 w) fun x16 =>
      some (x16, w)
    else
    if a2 = (mI 1) then
      zb (f_X12_sortOf a1 w) fun x14 =>
      some (x14, w)
    else
      zb (f_X12_letterOf a1 a2 w) fun x12 =>
      some (x12, w)
theorem c_X12_wordIs {G : zG} {l : Launch} (hG : zgood G) {w : zW} {re : Int32} {we : zW} {a1 : Int32} {a2 : Int32}  (h : f_X12_wordIs a1 a2 w = some (re, we)) : zMet G l yX12_wordIs cX12_wordIs 3 (some .int) 2 [.ref (zα G 128), .int a1, .int a2] w (some (.int re)) we := by
  refine zMet_of (L0 := [some (.ref (zα G 128)), some (.int a1), some (.int a2)]) hG zplX12 (Nat.le_of_ble_eq_true rfl) rfl rfl (fun X hl hX hEI hEV hEA => ?_)
  subst hl
  have hX : zOk G X cX12_wordIs 3 RX12 2 := hX
  have hE := hEI _ _ rfl rfl
  rw [f_X12_wordIs] at h
  refine z_aload_n 0 hX dX12_wordIs_0 rfl <|
    z_iload_n 1 hX dX12_wordIs_1 rfl <|
    zb1 h fun x2 r1 h => zcX12_189 2 [.int a1] [] hX dX12_wordIs_2 (c_X12_isWord (zgd0 hX) r1) (rfl : shp 128 = (12, 0)) rfl rfl rfl (Nat.le_of_ble_eq_true rfl) (Nat.le_of_ble_eq_true rfl) <|
    z_if_eq 5 24 hX dX12_wordIs_5 rfl h (fun q3 h => ?_) (fun q3 h => ?_)
  · refine z_weak (L' := [some (.ref (zα G 128)), none, none]) (zsub_s (zsub_n (zsub_n zsub_0))) <|
      j_X12_wordIs_24z hX hE h
  · refine z_iload_n 8 hX dX12_wordIs_8 rfl <|
      z_bipush 9 hX dX12_wordIs_9 zkbm2 <|
      z_aload_n 11 hX dX12_wordIs_11 rfl <|
      z_iload_n 12 hX dX12_wordIs_12 rfl <|
      zb1 h fun x5 r4 h => zcX12_145 13 [.int a1] [.int (mI 2), .int a2] hX dX12_wordIs_13 (c_X12_lengthOf (zgd0 hX) r4) (rfl : shp 128 = (12, 0)) rfl rfl rfl (Nat.le_of_ble_eq_true rfl) (Nat.le_of_ble_eq_true rfl) <|
      z_iconst 16 hX dX12_wordIs_16 zki1 <|
      z_isub 17 hX dX12_wordIs_17 <|
      zb1 h fun x7 r6 h => zcX12_56 18 [.int a2, .int (mI 2), .int (x5 - (nI 1))] [] hX dX12_wordIs_18 (c_X12_in (zgd0 hX) r6) rfl rfl rfl (Nat.le_of_ble_eq_true rfl) (Nat.le_of_ble_eq_true rfl) <|
      z_if_ne 21 30 hX dX12_wordIs_21 rfl h (fun q8 h => ?_) (fun q8 h => ?_)
    · refine z_iload_n 30 hX dX12_wordIs_30 rfl <|
        z_bipush 31 hX dX12_wordIs_31 zkbm2 <|
        z_icmp_ne 33 44 hX dX12_wordIs_33 rfl h (fun q9 h => ?_) (fun q9 h => ?_)
      · refine z_iload_n 44 hX dX12_wordIs_44 rfl <|
          z_iconst 45 hX dX12_wordIs_45 zkim1 <|
          z_icmp_ne 46 57 hX dX12_wordIs_46 rfl h (fun q10 h => ?_) (fun q10 h => ?_)
        · refine z_aload_n 57 hX dX12_wordIs_57 rfl <|
            z_iload_n 58 hX dX12_wordIs_58 rfl <|
            z_iload_n 59 hX dX12_wordIs_59 rfl <|
            zb1 h fun x12 r11 h => zcX12_148 60 [.int a1, .int a2] [] hX dX12_wordIs_60 (c_X12_letterOf (zgd0 hX) r11) (rfl : shp 128 = (12, 0)) rfl rfl rfl (Nat.le_of_ble_eq_true rfl) (Nat.le_of_ble_eq_true rfl) <|
            z_endI2 63 hE rfl h dX12_wordIs_63
        · refine z_aload_n 49 hX dX12_wordIs_49 rfl <|
            z_iload_n 50 hX dX12_wordIs_50 rfl <|
            zb1 h fun x14 r13 h => zcX12_151 51 [.int a1] [] hX dX12_wordIs_51 (c_X12_sortOf (zgd0 hX) r13) (rfl : shp 128 = (12, 0)) rfl rfl rfl (Nat.le_of_ble_eq_true rfl) (Nat.le_of_ble_eq_true rfl) <|
            z_goto 54 63 hX dX12_wordIs_54 rfl <|
            z_endI2 63 hE rfl h dX12_wordIs_63
      · refine z_aload_n 36 hX dX12_wordIs_36 rfl <|
          z_iload_n 37 hX dX12_wordIs_37 rfl <|
          zb1 h fun x16 r15 h => zcX12_145 38 [.int a1] [] hX dX12_wordIs_38 (c_X12_lengthOf (zgd0 hX) r15) (rfl : shp 128 = (12, 0)) rfl rfl rfl (Nat.le_of_ble_eq_true rfl) (Nat.le_of_ble_eq_true rfl) <|
          z_goto 41 63 hX dX12_wordIs_41 rfl <|
          z_endI2 63 hE rfl h dX12_wordIs_63
    · refine z_weak (L' := [some (.ref (zα G 128)), none, none]) (zsub_s (zsub_n (zsub_n zsub_0))) <|
        j_X12_wordIs_24z hX hE h
def j_X12_says_13  (w : zW) : Option (Int32 × zW) :=
  zb2 (f_X12_error (nI 1) w) fun x2 w1 =>
  some (x2, w1)
theorem j_X12_says_13z {G : zG} {X : zX} {w : zW} {re : Int32} {we : zW}  (hX : zOk G X cX12_says 3 RX12 4) (hE : zEI G X cX12_says .int re we)  (h : j_X12_says_13 w = some (re, we)) : zZ G X w 13 [some (.ref (zα G 128)), none, none] [] := by
  rw [j_X12_says_13] at h
  refine z_aload_n 13 hX dX12_says_13 rfl <|
    z_iconst 14 hX dX12_says_14 zki1 <|
    zb12 h fun x2 w1 r1 h => zcX12_64 15 [.int (nI 1)] [] hX dX12_says_15 (c_X12_error (zgd0 hX) r1) (rfl : shp 128 = (12, 0)) rfl rfl rfl (Nat.le_of_ble_eq_true rfl) (Nat.le_of_ble_eq_true rfl) <|
    z_endI2 18 hE rfl h dX12_says_18
def f_X12_says (a1 : Int32) (a2 : Int32) (w : zW) : Option (Int32 × zW) :=
  zb (f_X12_isWall a1 w) fun x2 =>
  if x2 = nI 0 then
    j_X12_says_13 w
  else
  if a2 < (mI 1) then
    j_X12_says_13 w
  else
    zb2 (f_X12_doesRead a1 w) fun x6 w1 =>
    if x6 = nI 0 then
      zb2 (f_X12_error (nI 2) w1) fun x15 w4 =>
      some (x15, w4)
    else
      zb (f_X12_findSaid w1) fun w2 =>
      if a2 = (mI 1) then
        some (w2 128 15, w2)
      else
      if a2 < (w2 128 15) then
        zld w2 137 48 a2 fun x13 =>
        some (x13, w2)
      else
        zb2 (f_X12_error (nI 1) w2) fun x12 w3 =>
        some (x12, w3)
theorem c_X12_says {G : zG} {l : Launch} (hG : zgood G) {w : zW} {re : Int32} {we : zW} {a1 : Int32} {a2 : Int32}  (h : f_X12_says a1 a2 w = some (re, we)) : zMet G l yX12_says cX12_says 3 (some .int) 4 [.ref (zα G 128), .int a1, .int a2] w (some (.int re)) we := by
  refine zMet_of (L0 := [some (.ref (zα G 128)), some (.int a1), some (.int a2)]) hG zplX12 (Nat.le_of_ble_eq_true rfl) rfl rfl (fun X hl hX hEI hEV hEA => ?_)
  subst hl
  have hX : zOk G X cX12_says 3 RX12 4 := hX
  have hE := hEI _ _ rfl rfl
  rw [f_X12_says] at h
  refine z_aload_n 0 hX dX12_says_0 rfl <|
    z_iload_n 1 hX dX12_says_1 rfl <|
    zb1 h fun x2 r1 h => zcX12_133 2 [.int a1] [] hX dX12_says_2 (c_X12_isWall (zgd0 hX) r1) (rfl : shp 128 = (12, 0)) rfl rfl rfl (Nat.le_of_ble_eq_true rfl) (Nat.le_of_ble_eq_true rfl) <|
    z_if_eq 5 13 hX dX12_says_5 rfl h (fun q3 h => ?_) (fun q3 h => ?_)
  · refine z_weak (L' := [some (.ref (zα G 128)), none, none]) (zsub_s (zsub_n (zsub_n zsub_0))) <|
      j_X12_says_13z hX hE h
  · refine z_iload_n 8 hX dX12_says_8 rfl <|
      z_iconst 9 hX dX12_says_9 zkim1 <|
      z_icmp_ge 10 19 hX dX12_says_10 rfl h (fun q4 h => ?_) (fun q4 h => ?_)
    · refine z_aload_n 19 hX dX12_says_19 rfl <|
        z_iload_n 20 hX dX12_says_20 rfl <|
        zb12 h fun x6 w1 r5 h => zcX12_173 21 [.int a1] [] hX dX12_says_21 (c_X12_doesRead (zgd0 hX) r5) (rfl : shp 128 = (12, 0)) rfl rfl rfl (Nat.le_of_ble_eq_true rfl) (Nat.le_of_ble_eq_true rfl) <|
        z_if_ne 24 33 hX dX12_says_24 rfl h (fun q7 h => ?_) (fun q7 h => ?_)
      · refine z_aload_n 33 hX dX12_says_33 rfl <|
          zb1 h fun w2 r8 h => zcX12_192 34 [] [] hX dX12_says_34 (c_X12_findSaid (zgd0 hX) r8) (rfl : shp 128 = (12, 0)) rfl rfl rfl (Nat.le_of_ble_eq_true rfl) (Nat.le_of_ble_eq_true rfl) <|
          z_iload_n 37 hX dX12_says_37 rfl <|
          z_iconst 38 hX dX12_says_38 zkim1 <|
          z_icmp_ne 39 49 hX dX12_says_39 rfl h (fun q9 h => ?_) (fun q9 h => ?_)
        · refine z_iload_n 49 hX dX12_says_49 rfl <|
            z_aload_n 50 hX dX12_says_50 rfl <|
            zgX12_170 51 hX dX12_says_51 (rfl : shp 128 = (12, 0)) <|
            z_icmp_ge 54 66 hX dX12_says_54 rfl h (fun q10 h => ?_) (fun q10 h => ?_)
          · refine z_aload_n 66 hX dX12_says_66 rfl <|
              z_iconst 67 hX dX12_says_67 zki1 <|
              zb12 h fun x12 w3 r11 h => zcX12_64 68 [.int (nI 1)] [] hX dX12_says_68 (c_X12_error (zgd0 hX) r11) (rfl : shp 128 = (12, 0)) rfl rfl rfl (Nat.le_of_ble_eq_true rfl) (Nat.le_of_ble_eq_true rfl) <|
              z_endI2 71 hE rfl h dX12_says_71
          · refine z_aload_n 57 hX dX12_says_57 rfl <|
              zgX12_34 58 hX dX12_says_58 (rfl : shp 128 = (12, 0)) <|
              z_iload_n 61 hX dX12_says_61 rfl <|
              z_iald 62 hX dX12_says_62 (rfl : shp 137 = (20, 48)) h fun x13 _ h =>
              z_goto 63 71 hX dX12_says_63 rfl <|
              z_endI2 71 hE rfl h dX12_says_71
        · refine z_aload_n 42 hX dX12_says_42 rfl <|
            zgX12_170 43 hX dX12_says_43 (rfl : shp 128 = (12, 0)) <|
            z_goto 46 71 hX dX12_says_46 rfl <|
            z_endI2 71 hE rfl h dX12_says_71
      · refine z_aload_n 27 hX dX12_says_27 rfl <|
          z_iconst 28 hX dX12_says_28 zki2 <|
          zb12 h fun x15 w4 r14 h => zcX12_64 29 [.int (nI 2)] [] hX dX12_says_29 (c_X12_error (zgd0 hX) r14) (rfl : shp 128 = (12, 0)) rfl rfl rfl (Nat.le_of_ble_eq_true rfl) (Nat.le_of_ble_eq_true rfl) <|
          z_endI2 32 hE rfl h dX12_says_32
    · refine z_weak (L' := [some (.ref (zα G 128)), none, none]) (zsub_s (zsub_n (zsub_n zsub_0))) <|
        j_X12_says_13z hX hE h
