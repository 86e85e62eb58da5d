theorem c_X6_joined {G : zG} {l : Launch} (hG : zgood G) {w : zW} {re : Int32} {a0 : Int32} {a1 : Int32} {a2 : Int32}  (h : f_X6_joined a0 a1 a2 = some re) : zMet G l yX6_joined cX6_joined 3 (some .int) 0 [.int a0, .int a1, .int a2] w (some (.int re)) w := by
  refine zMet_of (L0 := [some (.int a0), some (.int a1), some (.int a2)]) hG zplX6 (Nat.le_of_ble_eq_true rfl) rfl rfl (fun X hl hX hEI hEV hEA => ?_)
  subst hl
  have hX : zOk G X cX6_joined 3 RX6 0 := hX
  have hE := hEI _ _ rfl rfl
  rw [f_X6_joined] at h
  refine z_iload_n 0 hX dX6_joined_0 rfl <|
    ?_
  rcases zif h with ⟨q1, h⟩ | ⟨q1, h⟩
  · refine z_tsIn (off := 143) 1 144 (37) hX dX6_joined_1 (zti 37 (by decide) q1) (by decide) (by decide) (by decide) rfl <|
      z_iload_n 144 hX dX6_joined_144 rfl <|
      z_if_ne 145 152 hX dX6_joined_145 rfl h (fun q2 h => ?_) (fun q2 h => ?_)
    · refine z_iload_n 152 hX dX6_joined_152 rfl <|
        z_iload_n 153 hX dX6_joined_153 rfl <|
        z_irem 154 hX dX6_joined_154 h fun h =>
        z_endI 155 hE rfl h dX6_joined_155
    · refine z_iconst 148 hX dX6_joined_148 zki0 <|
        z_goto 149 155 hX dX6_joined_149 rfl <|
        z_endI 155 hE rfl h dX6_joined_155
  rcases zif h with ⟨q3, h⟩ | ⟨q3, h⟩
  · refine z_tsIn (off := 188) 1 189 (38) hX dX6_joined_1 (zti 38 (by decide) q3) (by decide) (by decide) (by decide) rfl <|
      z_iload_n 189 hX dX6_joined_189 rfl <|
      z_if_eq 190 201 hX dX6_joined_190 rfl h (fun q4 h => ?_) (fun q4 h => ?_)
    · refine z_iconst 201 hX dX6_joined_201 zki0 <|
        z_endI 202 hE rfl h dX6_joined_202
    · refine z_iload_n 193 hX dX6_joined_193 rfl <|
        z_if_eq 194 201 hX dX6_joined_194 rfl h (fun q5 h => ?_) (fun q5 h => ?_)
      · refine z_iconst 201 hX dX6_joined_201 zki0 <|
          z_endI 202 hE rfl h dX6_joined_202
      · refine z_iconst 197 hX dX6_joined_197 zki1 <|
          z_goto 198 202 hX dX6_joined_198 rfl <|
          z_endI 202 hE rfl h dX6_joined_202
  rcases zif h with ⟨q6, h⟩ | ⟨q6, h⟩
  · refine z_tsIn (off := 202) 1 203 (39) hX dX6_joined_1 (zti 39 (by decide) q6) (by decide) (by decide) (by decide) rfl <|
      z_iload_n 203 hX dX6_joined_203 rfl <|
      z_if_ne 204 211 hX dX6_joined_204 rfl h (fun q7 h => ?_) (fun q7 h => ?_)
    · refine z_weak (L' := [none, none, none]) (zsub_n (zsub_n (zsub_n zsub_0))) <|
        j_X6_joined_211z hX hE h
    · refine z_iload_n 207 hX dX6_joined_207 rfl <|
        z_if_eq 208 215 hX dX6_joined_208 rfl h (fun q8 h => ?_) (fun q8 h => ?_)
      · refine z_iconst 215 hX dX6_joined_215 zki0 <|
          z_endI 216 hE rfl h dX6_joined_216
      · refine z_weak (L' := [none, none, none]) (zsub_n (zsub_n (zsub_n zsub_0))) <|
          j_X6_joined_211z hX hE h
  rcases zif h with ⟨q9, h⟩ | ⟨q9, h⟩
  · refine z_tsIn (off := 202) 1 203 (40) hX dX6_joined_1 (zti 40 (by decide) q9) (by decide) (by decide) (by decide) rfl <|
      z_iload_n 203 hX dX6_joined_203 rfl <|
      z_if_ne 204 211 hX dX6_joined_204 rfl h (fun q10 h => ?_) (fun q10 h => ?_)
    · refine z_weak (L' := [none, none, none]) (zsub_n (zsub_n (zsub_n zsub_0))) <|
        j_X6_joined_211z hX hE h
    · refine z_iload_n 207 hX dX6_joined_207 rfl <|
        z_if_eq 208 215 hX dX6_joined_208 rfl h (fun q11 h => ?_) (fun q11 h => ?_)
      · refine z_iconst 215 hX dX6_joined_215 zki0 <|
          z_endI 216 hE rfl h dX6_joined_216
      · refine z_weak (L' := [none, none, none]) (zsub_n (zsub_n (zsub_n zsub_0))) <|
          j_X6_joined_211z hX hE h
  rcases zif h with ⟨q12, h⟩ | ⟨q12, h⟩
  · refine z_tsIn (off := 202) 1 203 (41) hX dX6_joined_1 (zti 41 (by decide) q12) (by decide) (by decide) (by decide) rfl <|
      z_iload_n 203 hX dX6_joined_203 rfl <|
      z_if_ne 204 211 hX dX6_joined_204 rfl h (fun q13 h => ?_) (fun q13 h => ?_)
    · refine z_weak (L' := [none, none, none]) (zsub_n (zsub_n (zsub_n zsub_0))) <|
        j_X6_joined_211z hX hE h
    · refine z_iload_n 207 hX dX6_joined_207 rfl <|
        z_if_eq 208 215 hX dX6_joined_208 rfl h (fun q14 h => ?_) (fun q14 h => ?_)
      · refine z_iconst 215 hX dX6_joined_215 zki0 <|
          z_endI 216 hE rfl h dX6_joined_216
      · refine z_weak (L' := [none, none, none]) (zsub_n (zsub_n (zsub_n zsub_0))) <|
          j_X6_joined_211z hX hE h
  rcases zif h with ⟨q15, h⟩ | ⟨q15, h⟩
  · refine z_tsIn (off := 127) 1 128 (42) hX dX6_joined_1 (zti 42 (by decide) q15) (by decide) (by decide) (by decide) rfl <|
      z_iload_n 128 hX dX6_joined_128 rfl <|
      z_iload_n 129 hX dX6_joined_129 rfl <|
      z_imul 130 hX dX6_joined_130 <|
      z_endI 131 hE rfl h dX6_joined_131
  rcases zif h with ⟨q16, h⟩ | ⟨q16, h⟩
  · refine z_tsIn (off := 119) 1 120 (43) hX dX6_joined_1 (zti 43 (by decide) q16) (by decide) (by decide) (by decide) rfl <|
      z_iload_n 120 hX dX6_joined_120 rfl <|
      z_iload_n 121 hX dX6_joined_121 rfl <|
      z_iadd 122 hX dX6_joined_122 <|
      z_endI 123 hE rfl h dX6_joined_123
  rcases zif h with ⟨q17, h⟩ | ⟨q17, h⟩
  · refine z_tsIn (off := 202) 1 203 (44) hX dX6_joined_1 (zti 44 (by decide) q17) (by decide) (by decide) (by decide) rfl <|
      z_iload_n 203 hX dX6_joined_203 rfl <|
      z_if_ne 204 211 hX dX6_joined_204 rfl h (fun q18 h => ?_) (fun q18 h => ?_)
    · refine z_weak (L' := [none, none, none]) (zsub_n (zsub_n (zsub_n zsub_0))) <|
        j_X6_joined_211z hX hE h
    · refine z_iload_n 207 hX dX6_joined_207 rfl <|
        z_if_eq 208 215 hX dX6_joined_208 rfl h (fun q19 h => ?_) (fun q19 h => ?_)
      · refine z_iconst 215 hX dX6_joined_215 zki0 <|
          z_endI 216 hE rfl h dX6_joined_216
      · refine z_weak (L' := [none, none, none]) (zsub_n (zsub_n (zsub_n zsub_0))) <|
          j_X6_joined_211z hX hE h
  rcases zif h with ⟨q20, h⟩ | ⟨q20, h⟩
  · refine z_tsIn (off := 123) 1 124 (45) hX dX6_joined_1 (zti 45 (by decide) q20) (by decide) (by decide) (by decide) rfl <|
      z_iload_n 124 hX dX6_joined_124 rfl <|
      z_iload_n 125 hX dX6_joined_125 rfl <|
      z_isub 126 hX dX6_joined_126 <|
      z_endI 127 hE rfl h dX6_joined_127
  rcases zif h with ⟨q21, h⟩ | ⟨q21, h⟩
  · refine z_tsIn (off := 202) 1 203 (46) hX dX6_joined_1 (zti 46 (by decide) q21) (by decide) (by decide) (by decide) rfl <|
      z_iload_n 203 hX dX6_joined_203 rfl <|
      z_if_ne 204 211 hX dX6_joined_204 rfl h (fun q22 h => ?_) (fun q22 h => ?_)
    · refine z_weak (L' := [none, none, none]) (zsub_n (zsub_n (zsub_n zsub_0))) <|
        j_X6_joined_211z hX hE h
    · refine z_iload_n 207 hX dX6_joined_207 rfl <|
        z_if_eq 208 215 hX dX6_joined_208 rfl h (fun q23 h => ?_) (fun q23 h => ?_)
      · refine z_iconst 215 hX dX6_joined_215 zki0 <|
          z_endI 216 hE rfl h dX6_joined_216
      · refine z_weak (L' := [none, none, none]) (zsub_n (zsub_n (zsub_n zsub_0))) <|
          j_X6_joined_211z hX hE h
  rcases zif h with ⟨q24, h⟩ | ⟨q24, h⟩
  · refine z_tsIn (off := 131) 1 132 (47) hX dX6_joined_1 (zti 47 (by decide) q24) (by decide) (by decide) (by decide) rfl <|
      z_iload_n 132 hX dX6_joined_132 rfl <|
      z_if_ne 133 140 hX dX6_joined_133 rfl h (fun q25 h => ?_) (fun q25 h => ?_)
    · refine z_iload_n 140 hX dX6_joined_140 rfl <|
        z_iload_n 141 hX dX6_joined_141 rfl <|
        z_idiv 142 hX dX6_joined_142 h fun h =>
        z_endI 143 hE rfl h dX6_joined_143
    · refine z_iconst 136 hX dX6_joined_136 zki0 <|
        z_goto 137 143 hX dX6_joined_137 rfl <|
        z_endI 143 hE rfl h dX6_joined_143
  rcases zif h with ⟨q26, h⟩ | ⟨q26, h⟩
  · refine z_tsIn (off := 202) 1 203 (48) hX dX6_joined_1 (zti 48 (by decide) q26) (by decide) (by decide) (by decide) rfl <|
      z_iload_n 203 hX dX6_joined_203 rfl <|
      z_if_ne 204 211 hX dX6_joined_204 rfl h (fun q27 h => ?_) (fun q27 h => ?_)
    · refine z_weak (L' := [none, none, none]) (zsub_n (zsub_n (zsub_n zsub_0))) <|
        j_X6_joined_211z hX hE h
    · refine z_iload_n 207 hX dX6_joined_207 rfl <|
        z_if_eq 208 215 hX dX6_joined_208 rfl h (fun q28 h => ?_) (fun q28 h => ?_)
      · refine z_iconst 215 hX dX6_joined_215 zki0 <|
          z_endI 216 hE rfl h dX6_joined_216
      · refine z_weak (L' := [none, none, none]) (zsub_n (zsub_n (zsub_n zsub_0))) <|
          j_X6_joined_211z hX hE h
  rcases zif h with ⟨q29, h⟩ | ⟨q29, h⟩
  · refine z_tsIn (off := 202) 1 203 (49) hX dX6_joined_1 (zti 49 (by decide) q29) (by decide) (by decide) (by decide) rfl <|
      z_iload_n 203 hX dX6_joined_203 rfl <|
      z_if_ne 204 211 hX dX6_joined_204 rfl h (fun q30 h => ?_) (fun q30 h => ?_)
    · refine z_weak (L' := [none, none, none]) (zsub_n (zsub_n (zsub_n zsub_0))) <|
        j_X6_joined_211z hX hE h
    · refine z_iload_n 207 hX dX6_joined_207 rfl <|
        z_if_eq 208 215 hX dX6_joined_208 rfl h (fun q31 h => ?_) (fun q31 h => ?_)
      · refine z_iconst 215 hX dX6_joined_215 zki0 <|
          z_endI 216 hE rfl h dX6_joined_216
      · refine z_weak (L' := [none, none, none]) (zsub_n (zsub_n (zsub_n zsub_0))) <|
          j_X6_joined_211z hX hE h
  rcases zif h with ⟨q32, h⟩ | ⟨q32, h⟩
  · refine z_tsIn (off := 202) 1 203 (50) hX dX6_joined_1 (zti 50 (by decide) q32) (by decide) (by decide) (by decide) rfl <|
      z_iload_n 203 hX dX6_joined_203 rfl <|
      z_if_ne 204 211 hX dX6_joined_204 rfl h (fun q33 h => ?_) (fun q33 h => ?_)
    · refine z_weak (L' := [none, none, none]) (zsub_n (zsub_n (zsub_n zsub_0))) <|
        j_X6_joined_211z hX hE h
    · refine z_iload_n 207 hX dX6_joined_207 rfl <|
        z_if_eq 208 215 hX dX6_joined_208 rfl h (fun q34 h => ?_) (fun q34 h => ?_)
      · refine z_iconst 215 hX dX6_joined_215 zki0 <|
          z_endI 216 hE rfl h dX6_joined_216
      · refine z_weak (L' := [none, none, none]) (zsub_n (zsub_n (zsub_n zsub_0))) <|
          j_X6_joined_211z hX hE h
  rcases zif h with ⟨q35, h⟩ | ⟨q35, h⟩
  · refine z_tsIn (off := 202) 1 203 (51) hX dX6_joined_1 (zti 51 (by decide) q35) (by decide) (by decide) (by decide) rfl <|
      z_iload_n 203 hX dX6_joined_203 rfl <|
      z_if_ne 204 211 hX dX6_joined_204 rfl h (fun q36 h => ?_) (fun q36 h => ?_)
    · refine z_weak (L' := [none, none, none]) (zsub_n (zsub_n (zsub_n zsub_0))) <|
        j_X6_joined_211z hX hE h
    · refine z_iload_n 207 hX dX6_joined_207 rfl <|
        z_if_eq 208 215 hX dX6_joined_208 rfl h (fun q37 h => ?_) (fun q37 h => ?_)
      · refine z_iconst 215 hX dX6_joined_215 zki0 <|
          z_endI 216 hE rfl h dX6_joined_216
      · refine z_weak (L' := [none, none, none]) (zsub_n (zsub_n (zsub_n zsub_0))) <|
          j_X6_joined_211z hX hE h
  rcases zif h with ⟨q38, h⟩ | ⟨q38, h⟩
  · refine z_tsIn (off := 202) 1 203 (52) hX dX6_joined_1 (zti 52 (by decide) q38) (by decide) (by decide) (by decide) rfl <|
      z_iload_n 203 hX dX6_joined_203 rfl <|
      z_if_ne 204 211 hX dX6_joined_204 rfl h (fun q39 h => ?_) (fun q39 h => ?_)
    · refine z_weak (L' := [none, none, none]) (zsub_n (zsub_n (zsub_n zsub_0))) <|
        j_X6_joined_211z hX hE h
    · refine z_iload_n 207 hX dX6_joined_207 rfl <|
        z_if_eq 208 215 hX dX6_joined_208 rfl h (fun q40 h => ?_) (fun q40 h => ?_)
      · refine z_iconst 215 hX dX6_joined_215 zki0 <|
          z_endI 216 hE rfl h dX6_joined_216
      · refine z_weak (L' := [none, none, none]) (zsub_n (zsub_n (zsub_n zsub_0))) <|
          j_X6_joined_211z hX hE h
  rcases zif h with ⟨q41, h⟩ | ⟨q41, h⟩
  · refine z_tsIn (off := 202) 1 203 (53) hX dX6_joined_1 (zti 53 (by decide) q41) (by decide) (by decide) (by decide) rfl <|
      z_iload_n 203 hX dX6_joined_203 rfl <|
      z_if_ne 204 211 hX dX6_joined_204 rfl h (fun q42 h => ?_) (fun q42 h => ?_)
    · refine z_weak (L' := [none, none, none]) (zsub_n (zsub_n (zsub_n zsub_0))) <|
        j_X6_joined_211z hX hE h
    · refine z_iload_n 207 hX dX6_joined_207 rfl <|
        z_if_eq 208 215 hX dX6_joined_208 rfl h (fun q43 h => ?_) (fun q43 h => ?_)
      · refine z_iconst 215 hX dX6_joined_215 zki0 <|
          z_endI 216 hE rfl h dX6_joined_216
      · refine z_weak (L' := [none, none, none]) (zsub_n (zsub_n (zsub_n zsub_0))) <|
          j_X6_joined_211z hX hE h
  rcases zif h with ⟨q44, h⟩ | ⟨q44, h⟩
  · refine z_tsIn (off := 202) 1 203 (54) hX dX6_joined_1 (zti 54 (by decide) q44) (by decide) (by decide) (by decide) rfl <|
      z_iload_n 203 hX dX6_joined_203 rfl <|
      z_if_ne 204 211 hX dX6_joined_204 rfl h (fun q45 h => ?_) (fun q45 h => ?_)
    · refine z_weak (L' := [none, none, none]) (zsub_n (zsub_n (zsub_n zsub_0))) <|
        j_X6_joined_211z hX hE h
    · refine z_iload_n 207 hX dX6_joined_207 rfl <|
        z_if_eq 208 215 hX dX6_joined_208 rfl h (fun q46 h => ?_) (fun q46 h => ?_)
      · refine z_iconst 215 hX dX6_joined_215 zki0 <|
          z_endI 216 hE rfl h dX6_joined_216
      · refine z_weak (L' := [none, none, none]) (zsub_n (zsub_n (zsub_n zsub_0))) <|
          j_X6_joined_211z hX hE h
  rcases zif h with ⟨q47, h⟩ | ⟨q47, h⟩
  · refine z_tsIn (off := 202) 1 203 (55) hX dX6_joined_1 (zti 55 (by decide) q47) (by decide) (by decide) (by decide) rfl <|
      z_iload_n 203 hX dX6_joined_203 rfl <|
      z_if_ne 204 211 hX dX6_joined_204 rfl h (fun q48 h => ?_) (fun q48 h => ?_)
    · refine z_weak (L' := [none, none, none]) (zsub_n (zsub_n (zsub_n zsub_0))) <|
        j_X6_joined_211z hX hE h
    · refine z_iload_n 207 hX dX6_joined_207 rfl <|
        z_if_eq 208 215 hX dX6_joined_208 rfl h (fun q49 h => ?_) (fun q49 h => ?_)
      · refine z_iconst 215 hX dX6_joined_215 zki0 <|
          z_endI 216 hE rfl h dX6_joined_216
      · refine z_weak (L' := [none, none, none]) (zsub_n (zsub_n (zsub_n zsub_0))) <|
          j_X6_joined_211z hX hE h
  rcases zif h with ⟨q50, h⟩ | ⟨q50, h⟩
  · refine z_tsIn (off := 202) 1 203 (56) hX dX6_joined_1 (zti 56 (by decide) q50) (by decide) (by decide) (by decide) rfl <|
      z_iload_n 203 hX dX6_joined_203 rfl <|
      z_if_ne 204 211 hX dX6_joined_204 rfl h (fun q51 h => ?_) (fun q51 h => ?_)
    · refine z_weak (L' := [none, none, none]) (zsub_n (zsub_n (zsub_n zsub_0))) <|
        j_X6_joined_211z hX hE h
    · refine z_iload_n 207 hX dX6_joined_207 rfl <|
        z_if_eq 208 215 hX dX6_joined_208 rfl h (fun q52 h => ?_) (fun q52 h => ?_)
      · refine z_iconst 215 hX dX6_joined_215 zki0 <|
          z_endI 216 hE rfl h dX6_joined_216
      · refine z_weak (L' := [none, none, none]) (zsub_n (zsub_n (zsub_n zsub_0))) <|
          j_X6_joined_211z hX hE h
  rcases zif h with ⟨q53, h⟩ | ⟨q53, h⟩
  · refine z_tsIn (off := 202) 1 203 (57) hX dX6_joined_1 (zti 57 (by decide) q53) (by decide) (by decide) (by decide) rfl <|
      z_iload_n 203 hX dX6_joined_203 rfl <|
      z_if_ne 204 211 hX dX6_joined_204 rfl h (fun q54 h => ?_) (fun q54 h => ?_)
    · refine z_weak (L' := [none, none, none]) (zsub_n (zsub_n (zsub_n zsub_0))) <|
        j_X6_joined_211z hX hE h
    · refine z_iload_n 207 hX dX6_joined_207 rfl <|
        z_if_eq 208 215 hX dX6_joined_208 rfl h (fun q55 h => ?_) (fun q55 h => ?_)
      · refine z_iconst 215 hX dX6_joined_215 zki0 <|
          z_endI 216 hE rfl h dX6_joined_216
      · refine z_weak (L' := [none, none, none]) (zsub_n (zsub_n (zsub_n zsub_0))) <|
          j_X6_joined_211z hX hE h
  rcases zif h with ⟨q56, h⟩ | ⟨q56, h⟩
  · refine z_tsIn (off := 202) 1 203 (58) hX dX6_joined_1 (zti 58 (by decide) q56) (by decide) (by decide) (by decide) rfl <|
      z_iload_n 203 hX dX6_joined_203 rfl <|
      z_if_ne 204 211 hX dX6_joined_204 rfl h (fun q57 h => ?_) (fun q57 h => ?_)
    · refine z_weak (L' := [none, none, none]) (zsub_n (zsub_n (zsub_n zsub_0))) <|
        j_X6_joined_211z hX hE h
    · refine z_iload_n 207 hX dX6_joined_207 rfl <|
        z_if_eq 208 215 hX dX6_joined_208 rfl h (fun q58 h => ?_) (fun q58 h => ?_)
      · refine z_iconst 215 hX dX6_joined_215 zki0 <|
          z_endI 216 hE rfl h dX6_joined_216
      · refine z_weak (L' := [none, none, none]) (zsub_n (zsub_n (zsub_n zsub_0))) <|
          j_X6_joined_211z hX hE h
  rcases zif h with ⟨q59, h⟩ | ⟨q59, h⟩
  · refine z_tsIn (off := 202) 1 203 (59) hX dX6_joined_1 (zti 59 (by decide) q59) (by decide) (by decide) (by decide) rfl <|
      z_iload_n 203 hX dX6_joined_203 rfl <|
      z_if_ne 204 211 hX dX6_joined_204 rfl h (fun q60 h => ?_) (fun q60 h => ?_)
    · refine z_weak (L' := [none, none, none]) (zsub_n (zsub_n (zsub_n zsub_0))) <|
        j_X6_joined_211z hX hE h
    · refine z_iload_n 207 hX dX6_joined_207 rfl <|
        z_if_eq 208 215 hX dX6_joined_208 rfl h (fun q61 h => ?_) (fun q61 h => ?_)
      · refine z_iconst 215 hX dX6_joined_215 zki0 <|
          z_endI 216 hE rfl h dX6_joined_216
      · refine z_weak (L' := [none, none, none]) (zsub_n (zsub_n (zsub_n zsub_0))) <|
          j_X6_joined_211z hX hE h
  rcases zif h with ⟨q62, h⟩ | ⟨q62, h⟩
  · refine z_tsIn (off := 155) 1 156 (60) hX dX6_joined_1 (zti 60 (by decide) q62) (by decide) (by decide) (by decide) rfl <|
      z_iload_n 156 hX dX6_joined_156 rfl <|
      z_iload_n 157 hX dX6_joined_157 rfl <|
      z_icmp_ge 158 165 hX dX6_joined_158 rfl h (fun q63 h => ?_) (fun q63 h => ?_)
    · refine z_iconst 165 hX dX6_joined_165 zki0 <|
        z_endI 166 hE rfl h dX6_joined_166
    · refine z_iconst 161 hX dX6_joined_161 zki1 <|
        z_goto 162 166 hX dX6_joined_162 rfl <|
        z_endI 166 hE rfl h dX6_joined_166
  rcases zif h with ⟨q64, h⟩ | ⟨q64, h⟩
  · refine z_tsIn (off := 166) 1 167 (61) hX dX6_joined_1 (zti 61 (by decide) q64) (by decide) (by decide) (by decide) rfl <|
      z_iload_n 167 hX dX6_joined_167 rfl <|
      z_iload_n 168 hX dX6_joined_168 rfl <|
      z_icmp_ne 169 176 hX dX6_joined_169 rfl h (fun q65 h => ?_) (fun q65 h => ?_)
    · refine z_iconst 176 hX dX6_joined_176 zki0 <|
        z_endI 177 hE rfl h dX6_joined_177
    · refine z_iconst 172 hX dX6_joined_172 zki1 <|
        z_goto 173 177 hX dX6_joined_173 rfl <|
        z_endI 177 hE rfl h dX6_joined_177
  rcases zif h with ⟨q66, h⟩ | ⟨q66, h⟩
  · refine z_tsIn (off := 177) 1 178 (62) hX dX6_joined_1 (zti 62 (by decide) q66) (by decide) (by decide) (by decide) rfl <|
      z_iload_n 178 hX dX6_joined_178 rfl <|
      z_iload_n 179 hX dX6_joined_179 rfl <|
      z_icmp_le 180 187 hX dX6_joined_180 rfl h (fun q67 h => ?_) (fun q67 h => ?_)
    · refine z_iconst 187 hX dX6_joined_187 zki0 <|
        z_endI 188 hE rfl h dX6_joined_188
    · refine z_iconst 183 hX dX6_joined_183 zki1 <|
        z_goto 184 188 hX dX6_joined_184 rfl <|
        z_endI 188 hE rfl h dX6_joined_188
  refine z_tsOut 1 203 hX dX6_joined_1 (by have e0 := zne 37 (by decide) q1; have e1 := zne 38 (by decide) q3; have e2 := zne 39 (by decide) q6; have e3 := zne 40 (by decide) q9; have e4 := zne 41 (by decide) q12; have e5 := zne 42 (by decide) q15; have e6 := zne 43 (by decide) q16; have e7 := zne 44 (by decide) q17; have e8 := zne 45 (by decide) q20; have e9 := zne 46 (by decide) q21; have e10 := zne 47 (by decide) q24; have e11 := zne 48 (by decide) q26; have e12 := zne 49 (by decide) q29; have e13 := zne 50 (by decide) q32; have e14 := zne 51 (by decide) q35; have e15 := zne 52 (by decide) q38; have e16 := zne 53 (by decide) q41; have e17 := zne 54 (by decide) q44; have e18 := zne 55 (by decide) q47; have e19 := zne 56 (by decide) q50; have e20 := zne 57 (by decide) q53; have e21 := zne 58 (by decide) q56; have e22 := zne 59 (by decide) q59; have e23 := zne 60 (by decide) q62; have e24 := zne 61 (by decide) q64; have e25 := zne 62 (by decide) q66; omega) rfl <|
    z_iload_n 203 hX dX6_joined_203 rfl <|
    z_if_ne 204 211 hX dX6_joined_204 rfl h (fun q68 h => ?_) (fun q68 h => ?_)
  · refine z_weak (L' := [none, none, none]) (zsub_n (zsub_n (zsub_n zsub_0))) <|
      j_X6_joined_211z hX hE h
  · refine z_iload_n 207 hX dX6_joined_207 rfl <|
      z_if_eq 208 215 hX dX6_joined_208 rfl h (fun q69 h => ?_) (fun q69 h => ?_)
    · refine z_iconst 215 hX dX6_joined_215 zki0 <|
        z_endI 216 hE rfl h dX6_joined_216
    · refine z_weak (L' := [none, none, none]) (zsub_n (zsub_n (zsub_n zsub_0))) <|
        j_X6_joined_211z hX hE h
def j_X6_worth_141 (rc : Nat → Int32 → Int32 → zW → Option (Int32 × zW)) (K196 : Nat → Int32 → zW → Option (Int32 × zW)) (a0 : Nat) (a5 : Int32) (a6 : Int32) (a7 : Int32) (w : zW) : Option (Int32 × zW) :=
  if a7 < (mI 4) then
    if a5 < (nI 2) then
      zlet (a6 + nI 1) fun x4 =>
      rc a0 a5 x4 w
    else
      zld w (a0 + 2) 60 (a5 - (nI 2)) fun x5 =>
      zld w (a0 + 2) 60 (a5 - (nI 1)) fun x6 =>
      zb (f_X6_joined (-a7) x5 x6) fun x8 =>
      zsto w (a0 + 2) 60 (a5 - (nI 2)) x8 fun w1 =>
      zlet (a5 + mI 1) fun x9 =>
      zlet (a6 + nI 1) fun x10 =>
      rc a0 x9 x10 w1
  else
    zlet (a6 + nI 1) fun x2 =>
    rc a0 a5 x2 w
theorem j_X6_worth_141z {rc : Nat → Int32 → Int32 → zW → Option (Int32 × zW)} {K196 : Nat → Int32 → zW → Option (Int32 × zW)} {G : zG} {X : zX} {w : zW} {re : Int32} {we : zW} {a0 : Nat} {a5 : Int32} {a6 : Int32} {a7 : Int32} (hX : zOk G X cX6_worth 8 RX6 1) (hE : zEI G X cX6_worth .int re we) (hrc : ∀ (a0 : Nat) (a5 : Int32) (a6 : Int32) (w3 : zW) (ha0 : shp a0 = (6, 0)), rc a0 a5 a6 w3 = some (re, we) → zZ G X w3 35 [some (.ref (zα G a0)), none, none, none, none, some (.int a5), some (.int a6), none] []) (hK196 : ∀ (a0 : Nat) (a5 : Int32) (w3 : zW) (ha0 : shp a0 = (6, 0)), K196 a0 a5 w3 = some (re, we) → zZ G X w3 196 [some (.ref (zα G a0)), none, none, none, none, some (.int a5), none, none] []) (ha0 : shp a0 = (6, 0)) (h : j_X6_worth_141 rc K196 a0 a5 a6 a7 w = some (re, we)) : zZ G X w 141 [some (.ref (zα G a0)), none, none, none, none, some (.int a5), some (.int a6), some (.int a7)] [] := by
  rw [j_X6_worth_141] at h
  refine z_iload 141 hX dX6_worth_141 rfl <|
    z_bipush 143 hX dX6_worth_143 zkbm4 <|
    z_icmp_ge 145 190 hX dX6_worth_145 rfl h (fun q1 h => ?_) (fun q1 h => ?_)
  · refine z_iincG 190 (fun x2 => [some (.ref (zα G a0)), none, none, none, none, some (.int a5), some (.int x2), some (.int a7)]) hX dX6_worth_190 rfl zki1 rfl (fun _ => rfl) h fun x2 h =>
      z_goto 193 35 hX dX6_worth_193 rfl <|
      z_weak (L' := [some (.ref (zα G a0)), none, none, none, none, some (.int a5), some (.int x2), none]) (zsub_s (zsub_n (zsub_n (zsub_n (zsub_n (zsub_s (zsub_s (zsub_n zsub_0)))))))) <|
      hrc _ _ _ _ ha0 h
  · refine z_iload 148 hX dX6_worth_148 rfl <|
      z_iconst 150 hX dX6_worth_150 zki2 <|
      z_icmp_lt 151 190 hX dX6_worth_151 rfl h (fun q3 h => ?_) (fun q3 h => ?_)
    · refine z_iincG 190 (fun x4 => [some (.ref (zα G a0)), none, none, none, none, some (.int a5), some (.int x4), some (.int a7)]) hX dX6_worth_190 rfl zki1 rfl (fun _ => rfl) h fun x4 h =>
        z_goto 193 35 hX dX6_worth_193 rfl <|
        z_weak (L' := [some (.ref (zα G a0)), none, none, none, none, some (.int a5), some (.int x4), none]) (zsub_s (zsub_n (zsub_n (zsub_n (zsub_n (zsub_s (zsub_s (zsub_n zsub_0)))))))) <|
        hrc _ _ _ _ ha0 h
    · refine z_aload_n 154 hX dX6_worth_154 rfl <|
        zgX6_15 155 hX dX6_worth_155 ha0 <|
        z_iload 158 hX dX6_worth_158 rfl <|
        z_iconst 160 hX dX6_worth_160 zki2 <|
        z_isub 161 hX dX6_worth_161 <|
        z_iload 162 hX dX6_worth_162 rfl <|
        z_ineg 164 hX dX6_worth_164 <|
        z_aload_n 165 hX dX6_worth_165 rfl <|
        zgX6_15 166 hX dX6_worth_166 ha0 <|
        z_iload 169 hX dX6_worth_169 rfl <|
        z_iconst 171 hX dX6_worth_171 zki2 <|
        z_isub 172 hX dX6_worth_172 <|
        z_iald 173 hX dX6_worth_173 (zr6_stack _ ha0) h fun x5 _ h =>
        z_aload_n 174 hX dX6_worth_174 rfl <|
        zgX6_15 175 hX dX6_worth_175 ha0 <|
        z_iload 178 hX dX6_worth_178 rfl <|
        z_iconst 180 hX dX6_worth_180 zki1 <|
        z_isub 181 hX dX6_worth_181 <|
        z_iald 182 hX dX6_worth_182 (zr6_stack _ ha0) h fun x6 _ h =>
        zb1 h fun x8 r7 h => zcX6_31 183 [.int (-a7), .int x5, .int x6] [.int (a5 - (nI 2)), .ref (zα G (a0 + 2))] hX dX6_worth_183 (c_X6_joined (zgd0 hX) r7) rfl rfl rfl (Nat.le_of_ble_eq_true rfl) (Nat.le_of_ble_eq_true rfl) <|
        z_iast 186 hX dX6_worth_186 (zr6_stack _ ha0) h fun w1 h =>
        z_iincG 187 (fun x9 => [some (.ref (zα G a0)), none, none, none, none, some (.int x9), some (.int a6), some (.int a7)]) hX dX6_worth_187 rfl zkim1 rfl (fun _ => rfl) h fun x9 h =>
        z_iincG 190 (fun x10 => [some (.ref (zα G a0)), none, none, none, none, some (.int x9), some (.int x10), some (.int a7)]) hX dX6_worth_190 rfl zki1 rfl (fun _ => rfl) h fun x10 h =>
        z_goto 193 35 hX dX6_worth_193 rfl <|
        z_weak (L' := [some (.ref (zα G a0)), none, none, none, none, some (.int x9), some (.int x10), none]) (zsub_s (zsub_n (zsub_n (zsub_n (zsub_n (zsub_s (zsub_s (zsub_n zsub_0)))))))) <|
        hrc _ _ _ _ ha0 h
def j_X6_worth_137 (rc : Nat → Int32 → Int32 → zW → Option (Int32 × zW)) (K196 : Nat → Int32 → zW → Option (Int32 × zW)) (a0 : Nat) (a5 : Int32) (a6 : Int32) (b0 : Nat) (b1 : Int32) (b2 : Int32) (w : zW) : Option (Int32 × zW) :=
  zsto w b0 60 b1 b2 fun w1 =>
  zlet (a6 + nI 1) fun x1 =>
  rc a0 a5 x1 w1
theorem j_X6_worth_137z {rc : Nat → Int32 → Int32 → zW → Option (Int32 × zW)} {K196 : Nat → Int32 → zW → Option (Int32 × zW)} {G : zG} {X : zX} {w : zW} {re : Int32} {we : zW} {a0 : Nat} {a5 : Int32} {a6 : Int32} {b0 : Nat} {b1 : Int32} {b2 : Int32} (hX : zOk G X cX6_worth 8 RX6 1) (hE : zEI G X cX6_worth .int re we) (hrc : ∀ (a0 : Nat) (a5 : Int32) (a6 : Int32) (w3 : zW) (ha0 : shp a0 = (6, 0)), rc a0 a5 a6 w3 = some (re, we) → zZ G X w3 35 [some (.ref (zα G a0)), none, none, none, none, some (.int a5), some (.int a6), none] []) (hK196 : ∀ (a0 : Nat) (a5 : Int32) (w3 : zW) (ha0 : shp a0 = (6, 0)), K196 a0 a5 w3 = some (re, we) → zZ G X w3 196 [some (.ref (zα G a0)), none, none, none, none, some (.int a5), none, none] []) (ha0 : shp a0 = (6, 0)) (hb0 : shp b0 = (20, 60)) (h : j_X6_worth_137 rc K196 a0 a5 a6 b0 b1 b2 w = some (re, we)) : zZ G X w 137 [some (.ref (zα G a0)), none, none, none, none, some (.int a5), some (.int a6), none] [.int b2, .int b1, .ref (zα G b0)] := by
  rw [j_X6_worth_137] at h
  refine z_iast 137 hX dX6_worth_137 hb0 h fun w1 h =>
    z_goto 138 190 hX dX6_worth_138 rfl <|
    z_iincG 190 (fun x1 => [some (.ref (zα G a0)), none, none, none, none, some (.int a5), some (.int x1), none]) hX dX6_worth_190 rfl zki1 rfl (fun _ => rfl) h fun x1 h =>
    z_goto 193 35 hX dX6_worth_193 rfl <|
    hrc _ _ _ _ ha0 h
def j_X6_worth_99 (rc : Nat → Int32 → Int32 → zW → Option (Int32 × zW)) (K196 : Nat → Int32 → zW → Option (Int32 × zW)) (a0 : Nat) (a5 : Int32) (a6 : Int32) (a7 : Int32) (w : zW) : Option (Int32 × zW) :=
  if a7 = (mI 33) then
    if a5 < (nI 1) then
      j_X6_worth_141 rc K196 a0 a5 a6 a7 w
    else
      zld w (a0 + 2) 60 (a5 - (nI 1)) fun x3 =>
      if x3 = nI 0 then
        j_X6_worth_137 rc K196 a0 a5 a6 (a0 + 2) (a5 - (nI 1)) (nI 1) w
      else
        j_X6_worth_137 rc K196 a0 a5 a6 (a0 + 2) (a5 - (nI 1)) (nI 0) w
  else
    j_X6_worth_141 rc K196 a0 a5 a6 a7 w
theorem j_X6_worth_99z {rc : Nat → Int32 → Int32 → zW → Option (Int32 × zW)} {K196 : Nat → Int32 → zW → Option (Int32 × zW)} {G : zG} {X : zX} {w : zW} {re : Int32} {we : zW} {a0 : Nat} {a5 : Int32} {a6 : Int32} {a7 : Int32} (hX : zOk G X cX6_worth 8 RX6 1) (hE : zEI G X cX6_worth .int re we) (hrc : ∀ (a0 : Nat) (a5 : Int32) (a6 : Int32) (w3 : zW) (ha0 : shp a0 = (6, 0)), rc a0 a5 a6 w3 = some (re, we) → zZ G X w3 35 [some (.ref (zα G a0)), none, none, none, none, some (.int a5), some (.int a6), none] []) (hK196 : ∀ (a0 : Nat) (a5 : Int32) (w3 : zW) (ha0 : shp a0 = (6, 0)), K196 a0 a5 w3 = some (re, we) → zZ G X w3 196 [some (.ref (zα G a0)), none, none, none, none, some (.int a5), none, none] []) (ha0 : shp a0 = (6, 0)) (h : j_X6_worth_99 rc K196 a0 a5 a6 a7 w = some (re, we)) : zZ G X w 99 [some (.ref (zα G a0)), none, none, none, none, some (.int a5), some (.int a6), some (.int a7)] [] := by
  rw [j_X6_worth_99] at h
  refine z_iload 99 hX dX6_worth_99 rfl <|
    z_bipush 101 hX dX6_worth_101 zkbm33 <|
    z_icmp_ne 103 141 hX dX6_worth_103 rfl h (fun q1 h => ?_) (fun q1 h => ?_)
  · refine j_X6_worth_141z hX hE hrc hK196 ha0 h
  · refine z_iload 106 hX dX6_worth_106 rfl <|
      z_iconst 108 hX dX6_worth_108 zki1 <|
      z_icmp_lt 109 141 hX dX6_worth_109 rfl h (fun q2 h => ?_) (fun q2 h => ?_)
    · refine j_X6_worth_141z hX hE hrc hK196 ha0 h
    · refine z_aload_n 112 hX dX6_worth_112 rfl <|
        zgX6_15 113 hX dX6_worth_113 ha0 <|
        z_iload 116 hX dX6_worth_116 rfl <|
        z_iconst 118 hX dX6_worth_118 zki1 <|
        z_isub 119 hX dX6_worth_119 <|
        z_aload_n 120 hX dX6_worth_120 rfl <|
        zgX6_15 121 hX dX6_worth_121 ha0 <|
        z_iload 124 hX dX6_worth_124 rfl <|
        z_iconst 126 hX dX6_worth_126 zki1 <|
        z_isub 127 hX dX6_worth_127 <|
        z_iald 128 hX dX6_worth_128 (zr6_stack _ ha0) h fun x3 _ h =>
        z_if_ne 129 136 hX dX6_worth_129 rfl h (fun q4 h => ?_) (fun q4 h => ?_)
      · refine z_iconst 136 hX dX6_worth_136 zki0 <|
          z_weak (L' := [some (.ref (zα G a0)), none, none, none, none, some (.int a5), some (.int a6), none]) (zsub_s (zsub_n (zsub_n (zsub_n (zsub_n (zsub_s (zsub_s (zsub_n zsub_0)))))))) <|
          j_X6_worth_137z hX hE hrc hK196 ha0 (zr6_stack _ ha0) h
      · refine z_iconst 132 hX dX6_worth_132 zki1 <|
          z_goto 133 137 hX dX6_worth_133 rfl <|
          z_weak (L' := [some (.ref (zα G a0)), none, none, none, none, some (.int a5), some (.int a6), none]) (zsub_s (zsub_n (zsub_n (zsub_n (zsub_n (zsub_s (zsub_s (zsub_n zsub_0)))))))) <|
          j_X6_worth_137z hX hE hrc hK196 ha0 (zr6_stack _ ha0) h
def j_X6_worth_92 (rc : Nat → Int32 → Int32 → zW → Option (Int32 × zW)) (K196 : Nat → Int32 → zW → Option (Int32 × zW)) (a0 : Nat) (a5 : Int32) (a6 : Int32) (b0 : Nat) (b1 : Int32) (b2 : Int32) (w : zW) : Option (Int32 × zW) :=
  zsto w b0 60 b1 b2 fun w1 =>
  zlet (a5 + nI 1) fun x1 =>
  zlet (a6 + nI 1) fun x2 =>
  rc a0 x1 x2 w1
theorem j_X6_worth_92z {rc : Nat → Int32 → Int32 → zW → Option (Int32 × zW)} {K196 : Nat → Int32 → zW → Option (Int32 × zW)} {G : zG} {X : zX} {w : zW} {re : Int32} {we : zW} {a0 : Nat} {a5 : Int32} {a6 : Int32} {b0 : Nat} {b1 : Int32} {b2 : Int32} (hX : zOk G X cX6_worth 8 RX6 1) (hE : zEI G X cX6_worth .int re we) (hrc : ∀ (a0 : Nat) (a5 : Int32) (a6 : Int32) (w3 : zW) (ha0 : shp a0 = (6, 0)), rc a0 a5 a6 w3 = some (re, we) → zZ G X w3 35 [some (.ref (zα G a0)), none, none, none, none, some (.int a5), some (.int a6), none] []) (hK196 : ∀ (a0 : Nat) (a5 : Int32) (w3 : zW) (ha0 : shp a0 = (6, 0)), K196 a0 a5 w3 = some (re, we) → zZ G X w3 196 [some (.ref (zα G a0)), none, none, none, none, some (.int a5), none, none] []) (ha0 : shp a0 = (6, 0)) (hb0 : shp b0 = (20, 60)) (h : j_X6_worth_92 rc K196 a0 a5 a6 b0 b1 b2 w = some (re, we)) : zZ G X w 92 [some (.ref (zα G a0)), none, none, none, none, some (.int a5), some (.int a6), none] [.int b2, .int b1, .ref (zα G b0)] := by
  rw [j_X6_worth_92] at h
  refine z_iast 92 hX dX6_worth_92 hb0 h fun w1 h =>
    z_iincG 93 (fun x1 => [some (.ref (zα G a0)), none, none, none, none, some (.int x1), some (.int a6), none]) hX dX6_worth_93 rfl zki1 rfl (fun _ => rfl) h fun x1 h =>
    z_goto 96 190 hX dX6_worth_96 rfl <|
    z_iincG 190 (fun x2 => [some (.ref (zα G a0)), none, none, none, none, some (.int x1), some (.int x2), none]) hX dX6_worth_190 rfl zki1 rfl (fun _ => rfl) h fun x2 h =>
    z_goto 193 35 hX dX6_worth_193 rfl <|
    hrc _ _ _ _ ha0 h
def l_X6_worth_35 (K196 : Nat → Int32 → zW → Option (Int32 × zW)) : Nat → Nat → Int32 → Int32 → zW → Option (Int32 × zW)
  | 0, _, _, _, _ => none
  | n + 1, a0, a5, a6, w =>
    if a6 < (w a0 3) then
      zld w (a0 + 1) 60 a6 fun x2 =>
      if x2 < (mI 4) then
        j_X6_worth_99 (l_X6_worth_35 K196 n) K196 a0 a5 a6 x2 w
      else
      if a5 < (nI 60) then
        if x2 < nI 0 then
          zld w (a0 + 3) 4 ((mI 1) - x2) fun x6 =>
          j_X6_worth_92 (l_X6_worth_35 K196 n) K196 a0 a5 a6 (a0 + 2) a5 x6 w
        else
          j_X6_worth_92 (l_X6_worth_35 K196 n) K196 a0 a5 a6 (a0 + 2) a5 x2 w
      else
        j_X6_worth_99 (l_X6_worth_35 K196 n) K196 a0 a5 a6 x2 w
    else
      K196 a0 a5 w
theorem l_X6_worth_35z {K196 : Nat → Int32 → zW → Option (Int32 × zW)} {G : zG} {X : zX} {re : Int32} {we : zW} (hX : zOk G X cX6_worth 8 RX6 1) (hE : zEI G X cX6_worth .int re we) (hK196 : ∀ (a0 : Nat) (a5 : Int32) (w3 : zW) (ha0 : shp a0 = (6, 0)), K196 a0 a5 w3 = some (re, we) → zZ G X w3 196 [some (.ref (zα G a0)), none, none, none, none, some (.int a5), none, none] []) : ∀ (n : Nat) (a0 : Nat) (a5 : Int32) (a6 : Int32) (w : zW) (ha0 : shp a0 = (6, 0)), l_X6_worth_35 K196 n a0 a5 a6 w = some (re, we) → zZ G X w 35 [some (.ref (zα G a0)), none, none, none, none, some (.int a5), some (.int a6), none] [] := by
  intro n
  induction n with
  | zero =>
    intro a0 a5 a6 w ha0 h
    rw [l_X6_worth_35.eq_1] at h
    cases h
  | succ n ih =>
    intro a0 a5 a6 w ha0 h
    rw [l_X6_worth_35.eq_2] at h
    refine z_iload 35 hX dX6_worth_35 rfl <|
      z_aload_n 37 hX dX6_worth_37 rfl <|
      zgX6_21 38 hX dX6_worth_38 ha0 <|
      z_icmp_ge 41 196 hX dX6_worth_41 rfl h (fun q1 h => ?_) (fun q1 h => ?_)
    · refine z_weak (L' := [some (.ref (zα G a0)), none, none, none, none, some (.int a5), none, none]) (zsub_s (zsub_n (zsub_n (zsub_n (zsub_n (zsub_s (zsub_n (zsub_n zsub_0)))))))) <|
        hK196 _ _ _ ha0 h
    · refine z_aload_n 44 hX dX6_worth_44 rfl <|
        zgX6_9 45 hX dX6_worth_45 ha0 <|
        z_iload 48 hX dX6_worth_48 rfl <|
        z_iald 50 hX dX6_worth_50 (zr6_signs _ ha0) h fun x2 _ h =>
        z_istore 51 [some (.ref (zα G a0)), none, none, none, none, some (.int a5), some (.int a6), some (.int x2)] hX dX6_worth_51 (Nat.le_of_ble_eq_true rfl) rfl rfl <|
        z_iload 53 hX dX6_worth_53 rfl <|
        z_bipush 55 hX dX6_worth_55 zkbm4 <|
        z_icmp_lt 57 99 hX dX6_worth_57 rfl h (fun q3 h => ?_) (fun q3 h => ?_)
      · refine j_X6_worth_99z hX hE ih hK196 ha0 h
      · refine z_iload 60 hX dX6_worth_60 rfl <|
          z_bipush 62 hX dX6_worth_62 zkb60 <|
          z_icmp_ge 64 99 hX dX6_worth_64 rfl h (fun q4 h => ?_) (fun q4 h => ?_)
        · refine j_X6_worth_99z hX hE ih hK196 ha0 h
        · refine z_aload_n 67 hX dX6_worth_67 rfl <|
            zgX6_15 68 hX dX6_worth_68 ha0 <|
            z_iload 71 hX dX6_worth_71 rfl <|
            z_iload 73 hX dX6_worth_73 rfl <|
            z_if_lt 75 83 hX dX6_worth_75 rfl h (fun q5 h => ?_) (fun q5 h => ?_)
          · refine z_aload_n 83 hX dX6_worth_83 rfl <|
              zgX6_18 84 hX dX6_worth_84 ha0 <|
              z_iconst 87 hX dX6_worth_87 zkim1 <|
              z_iload 88 hX dX6_worth_88 rfl <|
              z_isub 90 hX dX6_worth_90 <|
              z_iald 91 hX dX6_worth_91 (zr6_named _ ha0) h fun x6 _ h =>
              z_weak (L' := [some (.ref (zα G a0)), none, none, none, none, some (.int a5), some (.int a6), none]) (zsub_s (zsub_n (zsub_n (zsub_n (zsub_n (zsub_s (zsub_s (zsub_n zsub_0)))))))) <|
              j_X6_worth_92z hX hE ih hK196 ha0 (zr6_stack _ ha0) h
          · refine z_iload 78 hX dX6_worth_78 rfl <|
              z_goto 80 92 hX dX6_worth_80 rfl <|
              z_weak (L' := [some (.ref (zα G a0)), none, none, none, none, some (.int a5), some (.int a6), none]) (zsub_s (zsub_n (zsub_n (zsub_n (zsub_n (zsub_s (zsub_s (zsub_n zsub_0)))))))) <|
              j_X6_worth_92z hX hE ih hK196 ha0 (zr6_stack _ ha0) h
def f_X6_worth (a0 : Nat) (a1 : Int32) (a2 : Int32) (a3 : Int32) (a4 : Int32) (w : zW) : Option (Int32 × zW) :=
  zlet (zupd w (a0 + 3) 0 a1) fun w1 =>
  zlet (zupd w1 (a0 + 3) 1 a2) fun w2 =>
  zlet (zupd w2 (a0 + 3) 2 a3) fun w3 =>
  zlet (zupd w3 (a0 + 3) 3 a4) fun w4 =>
  l_X6_worth_35 (fun k196_a0 k196_a5 w15 =>
    if nI 0 < k196_a5 then
      zld w15 (k196_a0 + 2) 60 (k196_a5 - (nI 1)) fun x102 =>
      some (x102, w15)
    else
      some (nI 0, w15)) zfuel a0 (nI 0) (nI 0) w4
theorem c_X6_worth {G : zG} {l : Launch} (hG : zgood G) {w : zW} {re : Int32} {we : zW} {a0 : Nat} {a1 : Int32} {a2 : Int32} {a3 : Int32} {a4 : Int32} (ha0 : shp a0 = (6, 0)) (h : f_X6_worth a0 a1 a2 a3 a4 w = some (re, we)) : zMet G l yX6_worth cX6_worth 8 (some .int) 1 [.ref (zα G a0), .int a1, .int a2, .int a3, .int a4] w (some (.int re)) we := by
  refine zMet_of (L0 := [some (.ref (zα G a0)), some (.int a1), some (.int a2), some (.int a3), some (.int a4), none, none, none]) hG zplX6 (Nat.le_of_ble_eq_true rfl) rfl rfl (fun X hl hX hEI hEV hEA => ?_)
  subst hl
  have hX : zOk G X cX6_worth 8 RX6 1 := hX
  have hE := hEI _ _ rfl rfl
  rw [f_X6_worth] at h
  refine z_aload_n 0 hX dX6_worth_0 rfl <|
    zgX6_18 1 hX dX6_worth_1 ha0 <|
    z_iconst 4 hX dX6_worth_4 zki0 <|
    z_iload_n 5 hX dX6_worth_5 rfl <|
    z_iastc (j := 0) 6 hX dX6_worth_6 (zr6_named _ ha0) (zink 0 4 (by decide) (by decide)) (nI_clamp (by decide)) <|
    z_w h fun w1 h =>
    z_aload_n 7 hX dX6_worth_7 rfl <|
    zgX6_18 8 hX dX6_worth_8 ha0 <|
    z_iconst 11 hX dX6_worth_11 zki1 <|
    z_iload_n 12 hX dX6_worth_12 rfl <|
    z_iastc (j := 1) 13 hX dX6_worth_13 (zr6_named _ ha0) (zink 1 4 (by decide) (by decide)) (nI_clamp (by decide)) <|
    z_w h fun w2 h =>
    z_aload_n 14 hX dX6_worth_14 rfl <|
    zgX6_18 15 hX dX6_worth_15 ha0 <|
    z_iconst 18 hX dX6_worth_18 zki2 <|
    z_iload_n 19 hX dX6_worth_19 rfl <|
    z_iastc (j := 2) 20 hX dX6_worth_20 (zr6_named _ ha0) (zink 2 4 (by decide) (by decide)) (nI_clamp (by decide)) <|
    z_w h fun w3 h =>
    z_aload_n 21 hX dX6_worth_21 rfl <|
    zgX6_18 22 hX dX6_worth_22 ha0 <|
    z_iconst 25 hX dX6_worth_25 zki3 <|
    z_iload 26 hX dX6_worth_26 rfl <|
    z_iastc (j := 3) 28 hX dX6_worth_28 (zr6_named _ ha0) (zink 3 4 (by decide) (by decide)) (nI_clamp (by decide)) <|
    z_w h fun w4 h =>
    z_iconst 29 hX dX6_worth_29 zki0 <|
    z_istore 30 [some (.ref (zα G a0)), some (.int a1), some (.int a2), some (.int a3), some (.int a4), some (.int (nI 0)), none, none] hX dX6_worth_30 (Nat.le_of_ble_eq_true rfl) rfl rfl <|
    z_iconst 32 hX dX6_worth_32 zki0 <|
    z_istore 33 [some (.ref (zα G a0)), some (.int a1), some (.int a2), some (.int a3), some (.int a4), some (.int (nI 0)), some (.int (nI 0)), none] hX dX6_worth_33 (Nat.le_of_ble_eq_true rfl) rfl rfl <|
    z_weak (L' := [some (.ref (zα G a0)), none, none, none, none, some (.int (nI 0)), some (.int (nI 0)), none]) (zsub_s (zsub_n (zsub_n (zsub_n (zsub_n (zsub_s (zsub_s (zsub_n zsub_0)))))))) <|
    l_X6_worth_35z hX hE (fun k196_a0 k196_a5 w15 hk196_a0 h => ?_) _ _ _ _ _ ha0 h
  · refine z_iload 196 hX dX6_worth_196 rfl <|
      z_if_le 198 213 hX dX6_worth_198 rfl h (fun q101 h => ?_) (fun q101 h => ?_)
    · refine z_iconst 213 hX dX6_worth_213 zki0 <|
        z_endI2 214 hE rfl h dX6_worth_214
    · refine z_aload_n 201 hX dX6_worth_201 rfl <|
        zgX6_15 202 hX dX6_worth_202 hk196_a0 <|
        z_iload 205 hX dX6_worth_205 rfl <|
        z_iconst 207 hX dX6_worth_207 zki1 <|
        z_isub 208 hX dX6_worth_208 <|
        z_iald 209 hX dX6_worth_209 (zr6_stack _ hk196_a0) h fun x102 _ h =>
        z_goto 210 214 hX dX6_worth_210 rfl <|
        z_endI2 214 hE rfl h dX6_worth_214
def j_X3_turnBy_47 (rc : Nat → Int32 → Int32 → zW → Option zW) (K54 : zW → Option zW) (a1 : Nat) (a2 : Int32) (a3 : Int32) (b1 : Int32) (b2 : Int32) (w : zW) : Option zW :=
  zsto w 117 48 b1 b2 fun w1 =>
  zlet (a3 + nI 1) fun x1 =>
  rc a1 a2 x1 w1
theorem j_X3_turnBy_47z {rc : Nat → Int32 → Int32 → zW → Option zW} {K54 : zW → Option zW} {G : zG} {X : zX} {w : zW} {we : zW} {a1 : Nat} {a2 : Int32} {a3 : Int32} {b1 : Int32} {b2 : Int32} (hX : zOk G X cX3_turnBy 5 RX3 2) (hE : zEV G X cX3_turnBy we) (hrc : ∀ (a1 : Nat) (a2 : Int32) (a3 : Int32) (w3 : zW) (ha1 : shp a1 = (6, 0)), rc a1 a2 a3 w3 = some we → zZ G X w3 2 [some (.ref (zα G 116)), some (.ref (zα G a1)), some (.int a2), some (.int a3), none] []) (hK54 : ∀ (w3 : zW) , K54 w3 = some we → zZ G X w3 54 [none, none, none, none, none] []) (ha1 : shp a1 = (6, 0)) (h : j_X3_turnBy_47 rc K54 a1 a2 a3 b1 b2 w = some we) : zZ G X w 47 [some (.ref (zα G 116)), some (.ref (zα G a1)), some (.int a2), some (.int a3), none] [.int b2, .int b1, .ref (zα G 117)] := by
  rw [j_X3_turnBy_47] at h
  refine z_iast 47 hX dX3_turnBy_47 (rfl : shp 117 = (20, 48)) h fun w1 h =>
    z_iincG 48 (fun x1 => [some (.ref (zα G 116)), some (.ref (zα G a1)), some (.int a2), some (.int x1), none]) hX dX3_turnBy_48 rfl zki1 rfl (fun _ => rfl) h fun x1 h =>
    z_goto 51 2 hX dX3_turnBy_51 rfl <|
    hrc _ _ _ _ ha1 h
def l_X3_turnBy_2 (K54 : zW → Option zW) : Nat → Nat → Int32 → Int32 → zW → Option zW
  | 0, _, _, _, _ => none
  | n + 1, a1, a2, a3, w =>
    if a3 < (w 116 1) then
      zld w 117 48 a3 fun x2 =>
      zb2 (f_X6_worth a1 x2 a3 (w 116 1) a2 w) fun x4 w1 =>
      zb (f_X11_isLetter x4) fun x6 =>
      if x6 = nI 0 then
        j_X3_turnBy_47 (l_X3_turnBy_2 K54 n) K54 a1 a2 a3 a3 (nI 1) w1
      else
        j_X3_turnBy_47 (l_X3_turnBy_2 K54 n) K54 a1 a2 a3 a3 x4 w1
    else
      K54 w
theorem l_X3_turnBy_2z {K54 : zW → Option zW} {G : zG} {X : zX} {we : zW} (hX : zOk G X cX3_turnBy 5 RX3 2) (hE : zEV G X cX3_turnBy we) (hK54 : ∀ (w3 : zW) , K54 w3 = some we → zZ G X w3 54 [none, none, none, none, none] []) : ∀ (n : Nat) (a1 : Nat) (a2 : Int32) (a3 : Int32) (w : zW) (ha1 : shp a1 = (6, 0)), l_X3_turnBy_2 K54 n a1 a2 a3 w = some we → zZ G X w 2 [some (.ref (zα G 116)), some (.ref (zα G a1)), some (.int a2), some (.int a3), none] [] := by
  intro n
  induction n with
  | zero =>
    intro a1 a2 a3 w ha1 h
    rw [l_X3_turnBy_2.eq_1] at h
    cases h
  | succ n ih =>
    intro a1 a2 a3 w ha1 h
    rw [l_X3_turnBy_2.eq_2] at h
    refine z_iload_n 2 hX dX3_turnBy_2 rfl <|
      z_aload_n 3 hX dX3_turnBy_3 rfl <|
      zgX3_24 4 hX dX3_turnBy_4 (rfl : shp 116 = (3, 0)) <|
      z_icmp_ge 7 54 hX dX3_turnBy_7 rfl h (fun q1 h => ?_) (fun q1 h => ?_)
    · refine z_weak (L' := [none, none, none, none, none]) (zsub_n (zsub_n (zsub_n (zsub_n (zsub_n zsub_0))))) <|
        hK54 _ h
    · refine z_aload_n 10 hX dX3_turnBy_10 rfl <|
        z_aload_n 11 hX dX3_turnBy_11 rfl <|
        zgX3_9 12 hX dX3_turnBy_12 (rfl : shp 116 = (3, 0)) <|
        z_iload_n 15 hX dX3_turnBy_15 rfl <|
        z_iald 16 hX dX3_turnBy_16 (rfl : shp 117 = (20, 48)) h fun x2 _ h =>
        z_iload_n 17 hX dX3_turnBy_17 rfl <|
        z_aload_n 18 hX dX3_turnBy_18 rfl <|
        zgX3_24 19 hX dX3_turnBy_19 (rfl : shp 116 = (3, 0)) <|
        z_iload_n 22 hX dX3_turnBy_22 rfl <|
        zb12 h fun x4 w1 r3 h => zcX3_25 23 [.int x2, .int a3, .int (w 116 1), .int a2] [] hX dX3_turnBy_23 (c_X6_worth (zgd0 hX) ha1 r3) ha1 rfl rfl rfl (Nat.le_of_ble_eq_true rfl) (Nat.le_of_ble_eq_true rfl) <|
        z_istore 26 [some (.ref (zα G 116)), some (.ref (zα G a1)), some (.int a2), some (.int a3), some (.int x4)] hX dX3_turnBy_26 (Nat.le_of_ble_eq_true rfl) rfl rfl <|
        z_aload_n 28 hX dX3_turnBy_28 rfl <|
        zgX3_9 29 hX dX3_turnBy_29 (rfl : shp 116 = (3, 0)) <|
        z_iload_n 32 hX dX3_turnBy_32 rfl <|
        z_iload 33 hX dX3_turnBy_33 rfl <|
        zb1 h fun x6 r5 h => zcX3_31 35 [.int x4] [.int a3, .ref (zα G 117)] hX dX3_turnBy_35 (c_X11_isLetter (zgd0 hX) r5) rfl rfl rfl (Nat.le_of_ble_eq_true rfl) (Nat.le_of_ble_eq_true rfl) <|
        z_if_eq 38 46 hX dX3_turnBy_38 rfl h (fun q7 h => ?_) (fun q7 h => ?_)
      · refine z_iconst 46 hX dX3_turnBy_46 zki1 <|
          z_weak (L' := [some (.ref (zα G 116)), some (.ref (zα G a1)), some (.int a2), some (.int a3), none]) (zsub_s (zsub_s (zsub_s (zsub_s (zsub_n zsub_0))))) <|
          j_X3_turnBy_47z hX hE ih hK54 ha1 h
      · refine z_iload 41 hX dX3_turnBy_41 rfl <|
          z_goto 43 47 hX dX3_turnBy_43 rfl <|
          z_weak (L' := [some (.ref (zα G 116)), some (.ref (zα G a1)), some (.int a2), some (.int a3), none]) (zsub_s (zsub_s (zsub_s (zsub_s (zsub_n zsub_0))))) <|
          j_X3_turnBy_47z hX hE ih hK54 ha1 h
def f_X3_turnBy (a1 : Nat) (a2 : Int32) (w : zW) : Option zW :=
  l_X3_turnBy_2 (fun w11 =>
    some w11) zfuel a1 a2 (nI 0) w
theorem c_X3_turnBy {G : zG} {l : Launch} (hG : zgood G) {w : zW} {we : zW} {a1 : Nat} {a2 : Int32} (ha1 : shp a1 = (6, 0)) (h : f_X3_turnBy a1 a2 w = some we) : zMet G l yX3_turnBy cX3_turnBy 5 none 2 [.ref (zα G 116), .ref (zα G a1), .int a2] w none we := by
  refine zMet_of (L0 := [some (.ref (zα G 116)), some (.ref (zα G a1)), some (.int a2), none, none]) hG zplX3 (Nat.le_of_ble_eq_true rfl) rfl rfl (fun X hl hX hEI hEV hEA => ?_)
  subst hl
  have hX : zOk G X cX3_turnBy 5 RX3 2 := hX
  have hE := hEV rfl rfl
  rw [f_X3_turnBy] at h
  refine z_iconst 0 hX dX3_turnBy_0 zki0 <|
    z_istore_n 1 [some (.ref (zα G 116)), some (.ref (zα G a1)), some (.int a2), some (.int (nI 0)), none] hX dX3_turnBy_1 (Nat.le_of_ble_eq_true rfl) rfl rfl <|
    l_X3_turnBy_2z hX hE (fun w11 h => ?_) _ _ _ _ _ ha1 h
  · refine z_endV 54 hE h dX3_turnBy_54
def f_X4_isMissing (a0 : Nat) (w : zW) : Option Int32 :=
  if (w a0 1) = nI 0 then
    some (nI 1)
  else
    some (nI 0)
theorem c_X4_isMissing {G : zG} {l : Launch} (hG : zgood G) {w : zW} {re : Int32} {a0 : Nat} (ha0 : shp a0 = (4, 0)) (h : f_X4_isMissing a0 w = some re) : zMet G l yX4_isMissing cX4_isMissing 1 (some .boolean) 0 [.ref (zα G a0)] w (some (.int re)) w := by
  refine zMet_of (L0 := [some (.ref (zα G a0))]) hG zplX4 (Nat.le_of_ble_eq_true rfl) rfl rfl (fun X hl hX hEI hEV hEA => ?_)
  subst hl
  have hX : zOk G X cX4_isMissing 1 RX4 0 := hX
  have hE := hEI _ _ rfl rfl
  rw [f_X4_isMissing] at h
  refine z_aload_n 0 hX dX4_isMissing_0 rfl <|
    zgX4_15 1 hX dX4_isMissing_1 ha0 <|
    z_if_ne 4 11 hX dX4_isMissing_4 rfl h (fun q1 h => ?_) (fun q1 h => ?_)
  · refine z_iconst 11 hX dX4_isMissing_11 zki0 <|
      z_endI 12 hE (znar_bool (by decide)) h dX4_isMissing_12
  · refine z_iconst 7 hX dX4_isMissing_7 zki1 <|
      z_goto 8 12 hX dX4_isMissing_8 rfl <|
      z_endI 12 hE (znar_bool (by decide)) h dX4_isMissing_12
def f_X4_begin (a0 : Nat) (a1 : Int32) (a2 : Int32) (w : zW) : Option zW :=
  zlet (zupd w a0 1 a1) fun w1 =>
  zlet (zupd w1 a0 2 a2) fun w2 =>
  zb (f_J7_fill_53178 (a0 + 1) 24 (nI 0) w2) fun w3 =>
  some w3
theorem c_X4_begin {G : zG} {l : Launch} (hG : zgood G) {w : zW} {we : zW} {a0 : Nat} {a1 : Int32} {a2 : Int32} (ha0 : shp a0 = (4, 0)) (h : f_X4_begin a0 a1 a2 w = some we) : zMet G l yX4_begin cX4_begin 3 none 1 [.ref (zα G a0), .int a1, .int a2] w none we := by
  refine zMet_of (L0 := [some (.ref (zα G a0)), some (.int a1), some (.int a2)]) hG zplX4 (Nat.le_of_ble_eq_true rfl) rfl rfl (fun X hl hX hEI hEV hEA => ?_)
  subst hl
  have hX : zOk G X cX4_begin 3 RX4 1 := hX
  have hE := hEV rfl rfl
  rw [f_X4_begin] at h
  refine z_aload_n 0 hX dX4_begin_0 rfl <|
    z_iload_n 1 hX dX4_begin_1 rfl <|
    zpX4_15 2 hX dX4_begin_2 ha0 <|
    z_w h fun w1 h =>
    z_aload_n 5 hX dX4_begin_5 rfl <|
    z_iload_n 6 hX dX4_begin_6 rfl <|
    zpX4_19 7 hX dX4_begin_7 ha0 <|
    z_w h fun w2 h =>
    z_aload_n 10 hX dX4_begin_10 rfl <|
    zgX4_9 11 hX dX4_begin_11 ha0 <|
    z_iconst 14 hX dX4_begin_14 zki0 <|
    zb1 h fun w3 r1 h => zcX4_22 15 [.ref (zα G (a0 + 1)), .int (nI 0)] [] hX dX4_begin_15 (c_J7_fill_53178 (zgd0 hX) (zr4_numbers _ ha0) r1) rfl rfl rfl (Nat.le_of_ble_eq_true rfl) (Nat.le_of_ble_eq_true rfl) <|
    z_endV 18 hE h dX4_begin_18
def j_X4_write_34 (b0 : Nat) (b1 : Int32) (b2 : Int32) (w : zW) : Option zW :=
  zsto w b0 24 b1 b2 fun w1 =>
  some w1
theorem j_X4_write_34z {G : zG} {X : zX} {w : zW} {we : zW} {b0 : Nat} {b1 : Int32} {b2 : Int32} (hX : zOk G X cX4_write 3 RX4 0) (hE : zEV G X cX4_write we) (hb0 : shp b0 = (20, 24)) (h : j_X4_write_34 b0 b1 b2 w = some we) : zZ G X w 34 [none, none, none] [.int b2, .int b1, .ref (zα G b0)] := by
  rw [j_X4_write_34] at h
  refine z_iast 34 hX dX4_write_34 hb0 h fun w1 h =>
    z_endV 35 hE h dX4_write_35
def f_X4_write (a0 : Nat) (a1 : Int32) (a2 : Int32) (w : zW) : Option zW :=
  if (w a0 1) = (nI 8) then
    j_X4_write_34 (a0 + 1) a1 a2.toInt8.toInt32 w
  else
  if (w a0 1) = (nI 16) then
    j_X4_write_34 (a0 + 1) a1 a2.toInt16.toInt32 w
  else
    j_X4_write_34 (a0 + 1) a1 a2 w
theorem c_X4_write {G : zG} {l : Launch} (hG : zgood G) {w : zW} {we : zW} {a0 : Nat} {a1 : Int32} {a2 : Int32} (ha0 : shp a0 = (4, 0)) (h : f_X4_write a0 a1 a2 w = some we) : zMet G l yX4_write cX4_write 3 none 0 [.ref (zα G a0), .int a1, .int a2] w none we := by
  refine zMet_of (L0 := [some (.ref (zα G a0)), some (.int a1), some (.int a2)]) hG zplX4 (Nat.le_of_ble_eq_true rfl) rfl rfl (fun X hl hX hEI hEV hEA => ?_)
  subst hl
  have hX : zOk G X cX4_write 3 RX4 0 := hX
  have hE := hEV rfl rfl
  rw [f_X4_write] at h
  refine z_aload_n 0 hX dX4_write_0 rfl <|
    zgX4_9 1 hX dX4_write_1 ha0 <|
    z_iload_n 4 hX dX4_write_4 rfl <|
    z_aload_n 5 hX dX4_write_5 rfl <|
    zgX4_15 6 hX dX4_write_6 ha0 <|
    z_bipush 9 hX dX4_write_9 zkb8 <|
    z_icmp_ne 11 19 hX dX4_write_11 rfl h (fun q1 h => ?_) (fun q1 h => ?_)
  · refine z_aload_n 19 hX dX4_write_19 rfl <|
      zgX4_15 20 hX dX4_write_20 ha0 <|
      z_bipush 23 hX dX4_write_23 zkb16 <|
      z_icmp_ne 25 33 hX dX4_write_25 rfl h (fun q2 h => ?_) (fun q2 h => ?_)
    · refine z_iload_n 33 hX dX4_write_33 rfl <|
        z_weak (L' := [none, none, none]) (zsub_n (zsub_n (zsub_n zsub_0))) <|
        j_X4_write_34z hX hE (zr4_numbers _ ha0) h
    · refine z_iload_n 28 hX dX4_write_28 rfl <|
        z_i2s 29 hX dX4_write_29 <|
        z_goto 30 34 hX dX4_write_30 rfl <|
        z_weak (L' := [none, none, none]) (zsub_n (zsub_n (zsub_n zsub_0))) <|
        j_X4_write_34z hX hE (zr4_numbers _ ha0) h
  · refine z_iload_n 14 hX dX4_write_14 rfl <|
      z_i2b 15 hX dX4_write_15 <|
      z_goto 16 34 hX dX4_write_16 rfl <|
      z_weak (L' := [none, none, none]) (zsub_n (zsub_n (zsub_n zsub_0))) <|
      j_X4_write_34z hX hE (zr4_numbers _ ha0) h
def f_X4_holds (a0 : Nat) (a1 : Int32) (a2 : Int32) (w : zW) : Option Int32 :=
  if a2 < nI 0 then
    some (nI 0)
  else
  if a1 < nI 0 then
    some (nI 0)
  else
  if (w a0 2) < a2 then
    some (nI 0)
  else
  if ((w a0 2) - a2) < a1 then
    some (nI 0)
  else
    some (nI 1)
theorem c_X4_holds {G : zG} {l : Launch} (hG : zgood G) {w : zW} {re : Int32} {a0 : Nat} {a1 : Int32} {a2 : Int32} (ha0 : shp a0 = (4, 0)) (h : f_X4_holds a0 a1 a2 w = some re) : zMet G l yX4_holds cX4_holds 3 (some .boolean) 0 [.ref (zα G a0), .int a1, .int a2] w (some (.int re)) w := by
  refine zMet_of (L0 := [some (.ref (zα G a0)), some (.int a1), some (.int a2)]) hG zplX4 (Nat.le_of_ble_eq_true rfl) rfl rfl (fun X hl hX hEI hEV hEA => ?_)
  subst hl
  have hX : zOk G X cX4_holds 3 RX4 0 := hX
  have hE := hEI _ _ rfl rfl
  rw [f_X4_holds] at h
  refine z_iload_n 0 hX dX4_holds_0 rfl <|
    z_if_lt 1 30 hX dX4_holds_1 rfl h (fun q1 h => ?_) (fun q1 h => ?_)
  · refine z_iconst 30 hX dX4_holds_30 zki0 <|
      z_endI 31 hE (znar_bool (by decide)) h dX4_holds_31
  · refine z_iload_n 4 hX dX4_holds_4 rfl <|
      z_if_lt 5 30 hX dX4_holds_5 rfl h (fun q2 h => ?_) (fun q2 h => ?_)
    · refine z_iconst 30 hX dX4_holds_30 zki0 <|
        z_endI 31 hE (znar_bool (by decide)) h dX4_holds_31
    · refine z_iload_n 8 hX dX4_holds_8 rfl <|
        z_aload_n 9 hX dX4_holds_9 rfl <|
        zgX4_19 10 hX dX4_holds_10 ha0 <|
        z_icmp_gt 13 30 hX dX4_holds_13 rfl h (fun q3 h => ?_) (fun q3 h => ?_)
      · refine z_iconst 30 hX dX4_holds_30 zki0 <|
          z_endI 31 hE (znar_bool (by decide)) h dX4_holds_31
      · refine z_iload_n 16 hX dX4_holds_16 rfl <|
          z_aload_n 17 hX dX4_holds_17 rfl <|
          zgX4_19 18 hX dX4_holds_18 ha0 <|
          z_iload_n 21 hX dX4_holds_21 rfl <|
          z_isub 22 hX dX4_holds_22 <|
          z_icmp_gt 23 30 hX dX4_holds_23 rfl h (fun q4 h => ?_) (fun q4 h => ?_)
        · refine z_iconst 30 hX dX4_holds_30 zki0 <|
            z_endI 31 hE (znar_bool (by decide)) h dX4_holds_31
        · refine z_iconst 26 hX dX4_holds_26 zki1 <|
            z_goto 27 31 hX dX4_holds_27 rfl <|
            z_endI 31 hE (znar_bool (by decide)) h dX4_holds_31
def f_X5_note (a1 : Int32) (w : zW) : Option zW :=
  if (w 125 1) < (nI 30) then
    zsto w 126 30 (w 125 1) a1 fun w1 =>
    zlet (zupd w1 125 1 ((w1 125 1) + (nI 1))) fun w2 =>
    some w2
  else
    some w
theorem c_X5_note {G : zG} {l : Launch} (hG : zgood G) {w : zW} {we : zW} {a1 : Int32}  (h : f_X5_note a1 w = some we) : zMet G l yX5_note cX5_note 2 none 0 [.ref (zα G 125), .int a1] w none we := by
  refine zMet_of (L0 := [some (.ref (zα G 125)), some (.int a1)]) hG zplX5 (Nat.le_of_ble_eq_true rfl) rfl rfl (fun X hl hX hEI hEV hEA => ?_)
  subst hl
  have hX : zOk G X cX5_note 2 RX5 0 := hX
  have hE := hEV rfl rfl
  rw [f_X5_note] at h
  refine z_aload_n 0 hX dX5_note_0 rfl <|
    zgX5_29 1 hX dX5_note_1 (rfl : shp 125 = (5, 0)) <|
    z_bipush 4 hX dX5_note_4 zkb30 <|
    z_icmp_ge 6 29 hX dX5_note_6 rfl h (fun q1 h => ?_) (fun q1 h => ?_)
  · refine z_endV 29 hE h dX5_note_29
  · refine z_aload_n 9 hX dX5_note_9 rfl <|
      zgX5_9 10 hX dX5_note_10 (rfl : shp 125 = (5, 0)) <|
      z_aload_n 13 hX dX5_note_13 rfl <|
      zgX5_29 14 hX dX5_note_14 (rfl : shp 125 = (5, 0)) <|
      z_iload_n 17 hX dX5_note_17 rfl <|
      z_iast 18 hX dX5_note_18 (rfl : shp 126 = (20, 30)) h fun w1 h =>
      z_aload_n 19 hX dX5_note_19 rfl <|
      z_dup 20 hX dX5_note_20 rfl <|
      zgX5_29 21 hX dX5_note_21 (rfl : shp 125 = (5, 0)) <|
      z_iconst 24 hX dX5_note_24 zki1 <|
      z_iadd 25 hX dX5_note_25 <|
      zpX5_29 26 hX dX5_note_26 (rfl : shp 125 = (5, 0)) <|
      z_w h fun w2 h =>
      z_endV 29 hE h dX5_note_29
def f_X5_quotient (a1 : Int32) (a2 : Int32) (w : zW) : Option (Int32 × zW) :=
  if a2 = nI 0 then
    zlet (zupd w 125 2 (nI 1)) fun w1 =>
    some (nI 0, w1)
  else
    zguard (decide (¬ a2 = 0)) (
    some (a1 / a2, w))
theorem c_X5_quotient {G : zG} {l : Launch} (hG : zgood G) {w : zW} {re : Int32} {we : zW} {a1 : Int32} {a2 : Int32}  (h : f_X5_quotient a1 a2 w = some (re, we)) : zMet G l yX5_quotient cX5_quotient 3 (some .int) 0 [.ref (zα G 125), .int a1, .int a2] w (some (.int re)) we := by
  refine zMet_of (L0 := [some (.ref (zα G 125)), some (.int a1), some (.int a2)]) hG zplX5 (Nat.le_of_ble_eq_true rfl) rfl rfl (fun X hl hX hEI hEV hEA => ?_)
  subst hl
  have hX : zOk G X cX5_quotient 3 RX5 0 := hX
  have hE := hEI _ _ rfl rfl
  rw [f_X5_quotient] at h
  refine z_iload_n 0 hX dX5_quotient_0 rfl <|
    z_if_ne 1 11 hX dX5_quotient_1 rfl h (fun q1 h => ?_) (fun q1 h => ?_)
  · refine z_iload_n 11 hX dX5_quotient_11 rfl <|
      z_iload_n 12 hX dX5_quotient_12 rfl <|
      z_idiv 13 hX dX5_quotient_13 h fun h =>
      z_endI2 14 hE rfl h dX5_quotient_14
  · refine z_aload_n 4 hX dX5_quotient_4 rfl <|
      z_iconst 5 hX dX5_quotient_5 zki1 <|
      zpX5_32 6 hX dX5_quotient_6 (rfl : shp 125 = (5, 0)) (by decide) <|
      z_w h fun w1 h =>
      z_iconst 9 hX dX5_quotient_9 zki0 <|
      z_endI2 10 hE rfl h dX5_quotient_10
abbrev zrec_X5_speak (G : zG) (l : Launch) (F : Nat → Int32 → Int32 → Int32 → Int32 → zW → Option (Int32 × zW)) (hd : Nat) : Prop :=
  (∀ {w we : zW} {re : Int32} {a1 a2 a3 a4 : Int32}, F 0 a1 a2 a3 a4 w = some (re, we) → zMet G l yX5_speak cX5_speak 8 (some .int) hd [.ref (zα G 125), .int a1, .int a2, .int a3, .int a4] w (some (.int re)) we) ∧
  (∀ {w we : zW} {re : Int32} {a1 a2 a3 a4 : Int32}, F 1 a1 a2 a3 a4 w = some (re, we) → zMet G l yX5_sound cX5_sound 5 (some .int) hd [.ref (zα G 125), .int a1, .int a2, .int a3, .int a4] w (some (.int re)) we)
def l_X5_speak_22 (F : Nat → Int32 → Int32 → Int32 → Int32 → zW → Option (Int32 × zW)) (K52 : Int32 → Int32 → Int32 → Int32 → zW → Option (Int32 × zW)) (K90 : zW → Option (Int32 × zW)) : Nat → Int32 → Int32 → Int32 → Int32 → Int32 → zW → Option (Int32 × zW)
  | 0, _, _, _, _, _, _ => none
  | n + 1, a1, a3, a4, a5, a6, w =>
    if a6 < (nI 7) then
      if a5 < nI 0 then
        K90 w
      else
        ztld 3 28 ((a1 * (nI 7)) + a5) fun x3 =>
        if x3 = nI 0 then
          ztld 0 7 a5 fun x5 =>
          zlet (a6 + nI 1) fun x6 =>
          (l_X5_speak_22 F K52 K90 n) a1 a3 a4 x5 x6 w
        else
          K52 a3 a4 a5 x3 w
    else
      K90 w
theorem l_X5_speak_22z {F : Nat → Int32 → Int32 → Int32 → Int32 → zW → Option (Int32 × zW)} {K52 : Int32 → Int32 → Int32 → Int32 → zW → Option (Int32 × zW)} {K90 : zW → Option (Int32 × zW)} {G : zG} {X : zX} {re : Int32} {we : zW} (hd : Nat) (hb : 1 ≤ hd) (hF : zrec_X5_speak G X.2.1 F hd) (hX : zOk G X cX5_speak 8 RX5 (hd + 1)) (hE : zEI G X cX5_speak .int re we) (hK52 : ∀ (a3 : Int32) (a4 : Int32) (a5 : Int32) (a7 : Int32) (w3 : zW) , K52 a3 a4 a5 a7 w3 = some (re, we) → zZ G X w3 52 [some (.ref (zα G 125)), none, none, some (.int a3), some (.int a4), some (.int a5), none, some (.int a7)] []) (hK90 : ∀ (w3 : zW) , K90 w3 = some (re, we) → zZ G X w3 90 [none, none, none, none, none, none, none, none] []) : ∀ (n : Nat) (a1 : Int32) (a3 : Int32) (a4 : Int32) (a5 : Int32) (a6 : Int32) (w : zW) , l_X5_speak_22 F K52 K90 n a1 a3 a4 a5 a6 w = some (re, we) → zZ G X w 22 [some (.ref (zα G 125)), some (.int a1), none, some (.int a3), some (.int a4), some (.int a5), some (.int a6), none] [] := by
  intro n
  induction n with
  | zero =>
    intro a1 a3 a4 a5 a6 w  h
    rw [l_X5_speak_22.eq_1] at h
    cases h
  | succ n ih =>
    intro a1 a3 a4 a5 a6 w  h
    rw [l_X5_speak_22.eq_2] at h
    refine z_iload 22 hX dX5_speak_22 rfl <|
      z_bipush 24 hX dX5_speak_24 zkb7 <|
      z_icmp_ge 26 90 hX dX5_speak_26 rfl h (fun q1 h => ?_) (fun q1 h => ?_)
    · refine z_weak (L' := [none, none, none, none, none, none, none, none]) (zsub_n (zsub_n (zsub_n (zsub_n (zsub_n (zsub_n (zsub_n (zsub_n zsub_0)))))))) <|
        hK90 _ h
    · refine z_iload 29 hX dX5_speak_29 rfl <|
        z_if_lt 31 90 hX dX5_speak_31 rfl h (fun q2 h => ?_) (fun q2 h => ?_)
      · refine z_weak (L' := [none, none, none, none, none, none, none, none]) (zsub_n (zsub_n (zsub_n (zsub_n (zsub_n (zsub_n (zsub_n (zsub_n zsub_0)))))))) <|
          hK90 _ h
      · refine z_gets (C := RX11) 34 hX dX5_speak_34 zSz3 (Or.inr ⟨rfl, rfl, by decide +kernel⟩) <|
          z_iload_n 37 hX dX5_speak_37 rfl <|
          z_bipush 38 hX dX5_speak_38 zkb7 <|
          z_imul 40 hX dX5_speak_40 <|
          z_iload 41 hX dX5_speak_41 rfl <|
          z_iadd 43 hX dX5_speak_43 <|
          z_sald 44 hX dX5_speak_44 zSt3 h fun x3 h =>
          z_istore 45 [some (.ref (zα G 125)), some (.int a1), none, some (.int a3), some (.int a4), some (.int a5), some (.int a6), some (.int x3)] hX dX5_speak_45 (Nat.le_of_ble_eq_true rfl) rfl rfl <|
          z_iload 47 hX dX5_speak_47 rfl <|
          z_if_eq 49 76 hX dX5_speak_49 rfl h (fun q4 h => ?_) (fun q4 h => ?_)
        · refine z_gets (C := RX11) 76 hX dX5_speak_76 zSz0 (Or.inr ⟨rfl, rfl, by decide +kernel⟩) <|
            z_iload 79 hX dX5_speak_79 rfl <|
            z_sald 81 hX dX5_speak_81 zSt0 h fun x5 h =>
            z_istore 82 [some (.ref (zα G 125)), some (.int a1), none, some (.int a3), some (.int a4), some (.int x5), some (.int a6), some (.int x3)] hX dX5_speak_82 (Nat.le_of_ble_eq_true rfl) rfl rfl <|
            z_iincG 84 (fun x6 => [some (.ref (zα G 125)), some (.int a1), none, some (.int a3), some (.int a4), some (.int x5), some (.int x6), some (.int x3)]) hX dX5_speak_84 rfl zki1 rfl (fun _ => rfl) h fun x6 h =>
            z_goto 87 22 hX dX5_speak_87 rfl <|
            z_weak (L' := [some (.ref (zα G 125)), some (.int a1), none, some (.int a3), some (.int a4), some (.int x5), some (.int x6), none]) (zsub_s (zsub_s (zsub_n (zsub_s (zsub_s (zsub_s (zsub_s (zsub_n zsub_0)))))))) <|
            ih _ _ _ _ _ _ h
        · refine z_weak (L' := [some (.ref (zα G 125)), none, none, some (.int a3), some (.int a4), some (.int a5), none, some (.int x3)]) (zsub_s (zsub_n (zsub_n (zsub_s (zsub_s (zsub_s (zsub_n (zsub_s zsub_0)))))))) <|
            hK52 _ _ _ _ _ h
def b_X5_speak (F : Nat → Int32 → Int32 → Int32 → Int32 → zW → Option (Int32 × zW)) (a1 : Int32) (a2 : Int32) (a3 : Int32) (a4 : Int32) (w : zW) : Option (Int32 × zW) :=
  if (w 125 2) = nI 0 then
    if (nI 30) < a4 then
      some (nI 0, w)
    else
      l_X5_speak_22 F (fun k52_a3 k52_a4 k52_a5 k52_a7 w11 =>
        zb (f_X5_note k52_a7 w11) fun w12 =>
        ztld 0 7 k52_a5 fun x104 =>
        zb2 (F 1 k52_a7 x104 k52_a3 (k52_a4 + (nI 1)) w12) fun x106 w13 =>
        some (x106, w13)) (fun w21 =>
        some (nI 0, w21)) zfuel a1 a3 a4 a2 (nI 0) w
  else
    some (nI 0, w)
theorem cb_X5_speak {F : Nat → Int32 → Int32 → Int32 → Int32 → zW → Option (Int32 × zW)} {G : zG} {l : Launch} (hG : zgood G) {w : zW} {re : Int32} {we : zW} {a1 : Int32} {a2 : Int32} {a3 : Int32} {a4 : Int32} (hd : Nat) (hb : 1 ≤ hd) (hF : zrec_X5_speak G l F hd)  (h : b_X5_speak F a1 a2 a3 a4 w = some (re, we)) : zMet G l yX5_speak cX5_speak 8 (some .int) (hd + 1) [.ref (zα G 125), .int a1, .int a2, .int a3, .int a4] w (some (.int re)) we := by
  refine zMet_of (L0 := [some (.ref (zα G 125)), some (.int a1), some (.int a2), some (.int a3), some (.int a4), none, none, none]) hG zplX5 (Nat.le_of_ble_eq_true rfl) rfl rfl (fun X hl hX hEI hEV hEA => ?_)
  subst hl
  have hX : zOk G X cX5_speak 8 RX5 (hd + 1) := hX
  have hE := hEI _ _ rfl rfl
  rw [b_X5_speak] at h
  refine z_aload_n 0 hX dX5_speak_0 rfl <|
    zgX5_32 1 hX dX5_speak_1 (rfl : shp 125 = (5, 0)) <|
    z_if_ne 4 14 hX dX5_speak_4 rfl h (fun q1 h => ?_) (fun q1 h => ?_)
  · refine z_iconst 14 hX dX5_speak_14 zki0 <|
      z_endI2 15 hE rfl h dX5_speak_15
  · refine z_iload 7 hX dX5_speak_7 rfl <|
      z_bipush 9 hX dX5_speak_9 zkb30 <|
      z_icmp_le 11 16 hX dX5_speak_11 rfl h (fun q2 h => ?_) (fun q2 h => ?_)
    · refine z_iload_n 16 hX dX5_speak_16 rfl <|
        z_istore 17 [some (.ref (zα G 125)), some (.int a1), some (.int a2), some (.int a3), some (.int a4), some (.int a2), none, none] hX dX5_speak_17 (Nat.le_of_ble_eq_true rfl) rfl rfl <|
        z_iconst 19 hX dX5_speak_19 zki0 <|
        z_istore 20 [some (.ref (zα G 125)), some (.int a1), some (.int a2), some (.int a3), some (.int a4), some (.int a2), some (.int (nI 0)), none] hX dX5_speak_20 (Nat.le_of_ble_eq_true rfl) rfl rfl <|
        z_weak (L' := [some (.ref (zα G 125)), some (.int a1), none, some (.int a3), some (.int a4), some (.int a2), some (.int (nI 0)), none]) (zsub_s (zsub_s (zsub_n (zsub_s (zsub_s (zsub_s (zsub_s (zsub_n zsub_0)))))))) <|
        l_X5_speak_22z hd hb hF hX hE (fun k52_a3 k52_a4 k52_a5 k52_a7 w11 h => ?_) (fun w21 h => ?_) _ _ _ _ _ _ _ h
      · refine z_aload_n 52 hX dX5_speak_52 rfl <|
          z_iload 53 hX dX5_speak_53 rfl <|
          zb1 h fun w12 r103 h => zcX5_43 55 [.int k52_a7] [] hX dX5_speak_55 (c_X5_note (zgd0 hX) r103) (rfl : shp 125 = (5, 0)) rfl rfl rfl (Nat.le_of_ble_eq_true rfl) (by omega) <|
          z_aload_n 58 hX dX5_speak_58 rfl <|
          z_iload 59 hX dX5_speak_59 rfl <|
          z_gets (C := RX11) 61 hX dX5_speak_61 zSz0 (Or.inr ⟨rfl, rfl, by decide +kernel⟩) <|
          z_iload 64 hX dX5_speak_64 rfl <|
          z_sald 66 hX dX5_speak_66 zSt0 h fun x104 h =>
          z_iload_n 67 hX dX5_speak_67 rfl <|
          z_iload 68 hX dX5_speak_68 rfl <|
          z_iconst 70 hX dX5_speak_70 zki1 <|
          z_iadd 71 hX dX5_speak_71 <|
          zb12 h fun x106 w13 r105 h => zcX5_50 72 [.int k52_a7, .int x104, .int k52_a3, .int (k52_a4 + (nI 1))] [] hX dX5_speak_72 (hF.2 r105) (rfl : shp 125 = (5, 0)) rfl rfl rfl (Nat.le_of_ble_eq_true rfl) (by omega) <|
          z_endI2 75 hE rfl h dX5_speak_75
      · refine z_iconst 90 hX dX5_speak_90 zki0 <|
          z_endI2 91 hE rfl h dX5_speak_91
    · refine z_iconst 14 hX dX5_speak_14 zki0 <|
        z_endI2 15 hE rfl h dX5_speak_15
def b_X5_sound (F : Nat → Int32 → Int32 → Int32 → Int32 → zW → Option (Int32 × zW)) (a1 : Int32) (a2 : Int32) (a3 : Int32) (a4 : Int32) (w : zW) : Option (Int32 × zW) :=
  if a1 = nI 10 then
    some (a3 + (w 125 5), w)
  else
  if a1 = nI 11 then
    zb2 (F 0 (nI 0) (w 125 3) a3 a4 w) fun x4 w1 =>
    some (x4 * (nI 2), w1)
  else
  if a1 = nI 12 then
    zb2 (F 0 (nI 1) (w 125 3) a3 a4 w) fun x7 w2 =>
    some (x7 - (w2 125 4), w2)
  else
  if a1 = nI 13 then
    zb2 (f_X5_quotient a3 ((w 125 4) - (w 125 5)) w) fun x10 w3 =>
    some (x10, w3)
  else
  if a1 = nI 20 then
    zb2 (F 0 (nI 0) a2 a3 a4 w) fun x13 w4 =>
    some (x13 - (nI 6), w4)
  else
  if a1 = nI 21 then
    zb2 (F 0 (nI 3) a2 a3 a4 w) fun x16 w5 =>
    zb2 (F 0 (nI 1) (w5 125 3) (nI 1) a4 w5) fun x18 w6 =>
    some (x16 + x18, w6)
  else
  if a1 = nI 30 then
    zb2 (F 0 (nI 1) a2 a3 a4 w) fun x21 w7 =>
    some (-x21, w7)
  else
  if a1 = nI 40 then
    zb2 (F 0 (nI 2) a2 (a3 / (nI 2)) a4 w) fun x24 w8 =>
    some (x24, w8)
  else
  if a1 = nI 50 then
    zb2 (F 0 (nI 0) a2 a3 a4 w) fun x27 w9 =>
    some (x27 * (nI 3), w9)
  else
  if a1 = nI 51 then
    zb2 (F 0 (nI 2) a2 a3 a4 w) fun x30 w10 =>
    some (x30 ^^^ (w10 125 5), w10)
  else
  if a1 = nI 60 then
    zb2 (F 0 (nI 1) a2 (a3 + (nI 1)) a4 w) fun x33 w11 =>
    some (x33, w11)
  else
  if a1 = nI 70 then
    some (nI 8, w)
  else
  if a1 = nI 71 then
    zb2 (F 0 (nI 1) a2 a3 a4 w) fun x37 w12 =>
    some (x37 + (w12 125 4), w12)
  else
    some (nI 0, w)
theorem cb_X5_sound {F : Nat → Int32 → Int32 → Int32 → Int32 → zW → Option (Int32 × zW)} {G : zG} {l : Launch} (hG : zgood G) {w : zW} {re : Int32} {we : zW} {a1 : Int32} {a2 : Int32} {a3 : Int32} {a4 : Int32} (hd : Nat) (hb : 1 ≤ hd) (hF : zrec_X5_speak G l F hd)  (h : b_X5_sound F a1 a2 a3 a4 w = some (re, we)) : zMet G l yX5_sound cX5_sound 5 (some .int) (hd + 1) [.ref (zα G 125), .int a1, .int a2, .int a3, .int a4] w (some (.int re)) we := by
  refine zMet_of (L0 := [some (.ref (zα G 125)), some (.int a1), some (.int a2), some (.int a3), some (.int a4)]) hG zplX5 (Nat.le_of_ble_eq_true rfl) rfl rfl (fun X hl hX hEI hEV hEA => ?_)
  subst hl
  have hX : zOk G X cX5_sound 5 RX5 (hd + 1) := hX
  have hE := hEI _ _ rfl rfl
  rw [b_X5_sound] at h
  refine z_iload_n 0 hX dX5_sound_0 rfl <|
    ?_
  rcases zif h with ⟨q1, h⟩ | ⟨q1, h⟩
  · refine z_lsw (off := 115) 1 116 hX dX5_sound_1 (by decide) (by rw [zti 10 (by decide) q1]; decide) rfl <|
      z_iload_n 116 hX dX5_sound_116 rfl <|
      z_aload_n 117 hX dX5_sound_117 rfl <|
      zgX5_26 118 hX dX5_sound_118 (rfl : shp 125 = (5, 0)) <|
      z_iadd 121 hX dX5_sound_121 <|
      z_endI2 122 hE rfl h dX5_sound_122
  rcases zif h with ⟨q2, h⟩ | ⟨q2, h⟩
  · refine z_lsw (off := 122) 1 123 hX dX5_sound_1 (by decide) (by rw [zti 11 (by decide) q2]; decide) rfl <|
      z_aload_n 123 hX dX5_sound_123 rfl <|
      z_iconst 124 hX dX5_sound_124 zki0 <|
      z_aload_n 125 hX dX5_sound_125 rfl <|
      zgX5_21 126 hX dX5_sound_126 (rfl : shp 125 = (5, 0)) <|
      z_iload_n 129 hX dX5_sound_129 rfl <|
      z_iload 130 hX dX5_sound_130 rfl <|
      zb12 h fun x4 w1 r3 h => zcX5_36 132 [.int (nI 0), .int (w 125 3), .int a3, .int a4] [] hX dX5_sound_132 (hF.1 r3) (rfl : shp 125 = (5, 0)) rfl rfl rfl (Nat.le_of_ble_eq_true rfl) (by omega) <|
      z_iconst 135 hX dX5_sound_135 zki2 <|
      z_imul 136 hX dX5_sound_136 <|
      z_endI2 137 hE rfl h dX5_sound_137
  rcases zif h with ⟨q5, h⟩ | ⟨q5, h⟩
  · refine z_lsw (off := 137) 1 138 hX dX5_sound_1 (by decide) (by rw [zti 12 (by decide) q5]; decide) rfl <|
      z_aload_n 138 hX dX5_sound_138 rfl <|
      z_iconst 139 hX dX5_sound_139 zki1 <|
      z_aload_n 140 hX dX5_sound_140 rfl <|
      zgX5_21 141 hX dX5_sound_141 (rfl : shp 125 = (5, 0)) <|
      z_iload_n 144 hX dX5_sound_144 rfl <|
      z_iload 145 hX dX5_sound_145 rfl <|
      zb12 h fun x7 w2 r6 h => zcX5_36 147 [.int (nI 1), .int (w 125 3), .int a3, .int a4] [] hX dX5_sound_147 (hF.1 r6) (rfl : shp 125 = (5, 0)) rfl rfl rfl (Nat.le_of_ble_eq_true rfl) (by omega) <|
      z_aload_n 150 hX dX5_sound_150 rfl <|
      zgX5_25 151 hX dX5_sound_151 (rfl : shp 125 = (5, 0)) <|
      z_isub 154 hX dX5_sound_154 <|
      z_endI2 155 hE rfl h dX5_sound_155
  rcases zif h with ⟨q8, h⟩ | ⟨q8, h⟩
  · refine z_lsw (off := 155) 1 156 hX dX5_sound_1 (by decide) (by rw [zti 13 (by decide) q8]; decide) rfl <|
      z_aload_n 156 hX dX5_sound_156 rfl <|
      z_iload_n 157 hX dX5_sound_157 rfl <|
      z_aload_n 158 hX dX5_sound_158 rfl <|
      zgX5_25 159 hX dX5_sound_159 (rfl : shp 125 = (5, 0)) <|
      z_aload_n 162 hX dX5_sound_162 rfl <|
      zgX5_26 163 hX dX5_sound_163 (rfl : shp 125 = (5, 0)) <|
      z_isub 166 hX dX5_sound_166 <|
      zb12 h fun x10 w3 r9 h => zcX5_53 167 [.int a3, .int ((w 125 4) - (w 125 5))] [] hX dX5_sound_167 (c_X5_quotient (zgd0 hX) r9) (rfl : shp 125 = (5, 0)) rfl rfl rfl (Nat.le_of_ble_eq_true rfl) (by omega) <|
      z_endI2 170 hE rfl h dX5_sound_170
  rcases zif h with ⟨q11, h⟩ | ⟨q11, h⟩
  · refine z_lsw (off := 170) 1 171 hX dX5_sound_1 (by decide) (by rw [zti 20 (by decide) q11]; decide) rfl <|
      z_aload_n 171 hX dX5_sound_171 rfl <|
      z_iconst 172 hX dX5_sound_172 zki0 <|
      z_iload_n 173 hX dX5_sound_173 rfl <|
      z_iload_n 174 hX dX5_sound_174 rfl <|
      z_iload 175 hX dX5_sound_175 rfl <|
      zb12 h fun x13 w4 r12 h => zcX5_36 177 [.int (nI 0), .int a2, .int a3, .int a4] [] hX dX5_sound_177 (hF.1 r12) (rfl : shp 125 = (5, 0)) rfl rfl rfl (Nat.le_of_ble_eq_true rfl) (by omega) <|
      z_bipush 180 hX dX5_sound_180 zkb6 <|
      z_isub 182 hX dX5_sound_182 <|
      z_endI2 183 hE rfl h dX5_sound_183
  rcases zif h with ⟨q14, h⟩ | ⟨q14, h⟩
  · refine z_lsw (off := 183) 1 184 hX dX5_sound_1 (by decide) (by rw [zti 21 (by decide) q14]; decide) rfl <|
      z_aload_n 184 hX dX5_sound_184 rfl <|
      z_iconst 185 hX dX5_sound_185 zki3 <|
      z_iload_n 186 hX dX5_sound_186 rfl <|
      z_iload_n 187 hX dX5_sound_187 rfl <|
      z_iload 188 hX dX5_sound_188 rfl <|
      zb12 h fun x16 w5 r15 h => zcX5_36 190 [.int (nI 3), .int a2, .int a3, .int a4] [] hX dX5_sound_190 (hF.1 r15) (rfl : shp 125 = (5, 0)) rfl rfl rfl (Nat.le_of_ble_eq_true rfl) (by omega) <|
      z_aload_n 193 hX dX5_sound_193 rfl <|
      z_iconst 194 hX dX5_sound_194 zki1 <|
      z_aload_n 195 hX dX5_sound_195 rfl <|
      zgX5_21 196 hX dX5_sound_196 (rfl : shp 125 = (5, 0)) <|
      z_iconst 199 hX dX5_sound_199 zki1 <|
      z_iload 200 hX dX5_sound_200 rfl <|
      zb12 h fun x18 w6 r17 h => zcX5_36 202 [.int (nI 1), .int (w5 125 3), .int (nI 1), .int a4] [.int x16] hX dX5_sound_202 (hF.1 r17) (rfl : shp 125 = (5, 0)) rfl rfl rfl (Nat.le_of_ble_eq_true rfl) (by omega) <|
      z_iadd 205 hX dX5_sound_205 <|
      z_endI2 206 hE rfl h dX5_sound_206
  rcases zif h with ⟨q19, h⟩ | ⟨q19, h⟩
  · refine z_lsw (off := 206) 1 207 hX dX5_sound_1 (by decide) (by rw [zti 30 (by decide) q19]; decide) rfl <|
      z_aload_n 207 hX dX5_sound_207 rfl <|
      z_iconst 208 hX dX5_sound_208 zki1 <|
      z_iload_n 209 hX dX5_sound_209 rfl <|
      z_iload_n 210 hX dX5_sound_210 rfl <|
      z_iload 211 hX dX5_sound_211 rfl <|
      zb12 h fun x21 w7 r20 h => zcX5_36 213 [.int (nI 1), .int a2, .int a3, .int a4] [] hX dX5_sound_213 (hF.1 r20) (rfl : shp 125 = (5, 0)) rfl rfl rfl (Nat.le_of_ble_eq_true rfl) (by omega) <|
      z_ineg 216 hX dX5_sound_216 <|
      z_endI2 217 hE rfl h dX5_sound_217
  rcases zif h with ⟨q22, h⟩ | ⟨q22, h⟩
  · refine z_lsw (off := 217) 1 218 hX dX5_sound_1 (by decide) (by rw [zti 40 (by decide) q22]; decide) rfl <|
      z_aload_n 218 hX dX5_sound_218 rfl <|
      z_iconst 219 hX dX5_sound_219 zki2 <|
      z_iload_n 220 hX dX5_sound_220 rfl <|
      z_iload_n 221 hX dX5_sound_221 rfl <|
      z_iconst 222 hX dX5_sound_222 zki2 <|
      z_idivc 223 hX dX5_sound_223 (by decide) <|
      z_iload 224 hX dX5_sound_224 rfl <|
      zb12 h fun x24 w8 r23 h => zcX5_36 226 [.int (nI 2), .int a2, .int (a3 / (nI 2)), .int a4] [] hX dX5_sound_226 (hF.1 r23) (rfl : shp 125 = (5, 0)) rfl rfl rfl (Nat.le_of_ble_eq_true rfl) (by omega) <|
      z_endI2 229 hE rfl h dX5_sound_229
  rcases zif h with ⟨q25, h⟩ | ⟨q25, h⟩
  · refine z_lsw (off := 229) 1 230 hX dX5_sound_1 (by decide) (by rw [zti 50 (by decide) q25]; decide) rfl <|
      z_aload_n 230 hX dX5_sound_230 rfl <|
      z_iconst 231 hX dX5_sound_231 zki0 <|
      z_iload_n 232 hX dX5_sound_232 rfl <|
      z_iload_n 233 hX dX5_sound_233 rfl <|
      z_iload 234 hX dX5_sound_234 rfl <|
      zb12 h fun x27 w9 r26 h => zcX5_36 236 [.int (nI 0), .int a2, .int a3, .int a4] [] hX dX5_sound_236 (hF.1 r26) (rfl : shp 125 = (5, 0)) rfl rfl rfl (Nat.le_of_ble_eq_true rfl) (by omega) <|
      z_iconst 239 hX dX5_sound_239 zki3 <|
      z_imul 240 hX dX5_sound_240 <|
      z_endI2 241 hE rfl h dX5_sound_241
  rcases zif h with ⟨q28, h⟩ | ⟨q28, h⟩
  · refine z_lsw (off := 241) 1 242 hX dX5_sound_1 (by decide) (by rw [zti 51 (by decide) q28]; decide) rfl <|
      z_aload_n 242 hX dX5_sound_242 rfl <|
      z_iconst 243 hX dX5_sound_243 zki2 <|
      z_iload_n 244 hX dX5_sound_244 rfl <|
      z_iload_n 245 hX dX5_sound_245 rfl <|
      z_iload 246 hX dX5_sound_246 rfl <|
      zb12 h fun x30 w10 r29 h => zcX5_36 248 [.int (nI 2), .int a2, .int a3, .int a4] [] hX dX5_sound_248 (hF.1 r29) (rfl : shp 125 = (5, 0)) rfl rfl rfl (Nat.le_of_ble_eq_true rfl) (by omega) <|
      z_aload_n 251 hX dX5_sound_251 rfl <|
      zgX5_26 252 hX dX5_sound_252 (rfl : shp 125 = (5, 0)) <|
      z_ixor 255 hX dX5_sound_255 <|
      z_endI2 256 hE rfl h dX5_sound_256
  rcases zif h with ⟨q31, h⟩ | ⟨q31, h⟩
  · refine z_lsw (off := 256) 1 257 hX dX5_sound_1 (by decide) (by rw [zti 60 (by decide) q31]; decide) rfl <|
      z_aload_n 257 hX dX5_sound_257 rfl <|
      z_iconst 258 hX dX5_sound_258 zki1 <|
      z_iload_n 259 hX dX5_sound_259 rfl <|
      z_iload_n 260 hX dX5_sound_260 rfl <|
      z_iconst 261 hX dX5_sound_261 zki1 <|
      z_iadd 262 hX dX5_sound_262 <|
      z_iload 263 hX dX5_sound_263 rfl <|
      zb12 h fun x33 w11 r32 h => zcX5_36 265 [.int (nI 1), .int a2, .int (a3 + (nI 1)), .int a4] [] hX dX5_sound_265 (hF.1 r32) (rfl : shp 125 = (5, 0)) rfl rfl rfl (Nat.le_of_ble_eq_true rfl) (by omega) <|
      z_endI2 268 hE rfl h dX5_sound_268
  rcases zif h with ⟨q34, h⟩ | ⟨q34, h⟩
  · refine z_lsw (off := 268) 1 269 hX dX5_sound_1 (by decide) (by rw [zti 70 (by decide) q34]; decide) rfl <|
      z_bipush 269 hX dX5_sound_269 zkb8 <|
      z_endI2 271 hE rfl h dX5_sound_271
  rcases zif h with ⟨q35, h⟩ | ⟨q35, h⟩
  · refine z_lsw (off := 271) 1 272 hX dX5_sound_1 (by decide) (by rw [zti 71 (by decide) q35]; decide) rfl <|
      z_aload_n 272 hX dX5_sound_272 rfl <|
      z_iconst 273 hX dX5_sound_273 zki1 <|
      z_iload_n 274 hX dX5_sound_274 rfl <|
      z_iload_n 275 hX dX5_sound_275 rfl <|
      z_iload 276 hX dX5_sound_276 rfl <|
      zb12 h fun x37 w12 r36 h => zcX5_36 278 [.int (nI 1), .int a2, .int a3, .int a4] [] hX dX5_sound_278 (hF.1 r36) (rfl : shp 125 = (5, 0)) rfl rfl rfl (Nat.le_of_ble_eq_true rfl) (by omega) <|
      z_aload_n 281 hX dX5_sound_281 rfl <|
      zgX5_25 282 hX dX5_sound_282 (rfl : shp 125 = (5, 0)) <|
      z_iadd 285 hX dX5_sound_285 <|
      z_endI2 286 hE rfl h dX5_sound_286
  refine z_lsw (off := 286) 1 287 hX dX5_sound_1 (by decide) (Eq.trans (lv_osw q1 (by decide)) <| Eq.trans (lv_osw q2 (by decide)) <| Eq.trans (lv_osw q5 (by decide)) <| Eq.trans (lv_osw q8 (by decide)) <| Eq.trans (lv_osw q11 (by decide)) <| Eq.trans (lv_osw q14 (by decide)) <| Eq.trans (lv_osw q19 (by decide)) <| Eq.trans (lv_osw q22 (by decide)) <| Eq.trans (lv_osw q25 (by decide)) <| Eq.trans (lv_osw q28 (by decide)) <| Eq.trans (lv_osw q31 (by decide)) <| Eq.trans (lv_osw q34 (by decide)) <| Eq.trans (lv_osw q35 (by decide)) rfl) rfl <|
    z_iconst 287 hX dX5_sound_287 zki0 <|
    z_endI2 288 hE rfl h dX5_sound_288
def F_X5_speak : Nat → Nat → Int32 → Int32 → Int32 → Int32 → zW → Option (Int32 × zW)
  | 0, _, _, _, _, _, _ => none
  | d + 1, 0, x0, x1, x2, x3, w => b_X5_speak (F_X5_speak d) x0 x1 x2 x3 w
  | d + 1, _, x0, x1, x2, x3, w => b_X5_sound (F_X5_speak d) x0 x1 x2 x3 w
theorem cF_X5_speak {G : zG} {l : Launch} (hG : zgood G) : ∀ d : Nat, zrec_X5_speak G l (F_X5_speak d) (1 + d) := by
  intro d
  induction d with
  | zero => exact ⟨fun h => (by cases h), fun h => (by cases h)⟩
  | succ d ih => exact ⟨fun h => cb_X5_speak hG _ (Nat.le_add_right _ _) ih h, fun h => cb_X5_sound hG _ (Nat.le_add_right _ _) ih h⟩
def f_X5_speak (a1 : Int32) (a2 : Int32) (a3 : Int32) (a4 : Int32) (w : zW) : Option (Int32 × zW) := F_X5_speak 100 0 a1 a2 a3 a4 w
theorem c_X5_speak {G : zG} {l : Launch} (hG : zgood G) {w : zW} {re : Int32} {we : zW} {a1 : Int32} {a2 : Int32} {a3 : Int32} {a4 : Int32} (h : f_X5_speak a1 a2 a3 a4 w = some (re, we)) : zMet G l yX5_speak cX5_speak 8 (some .int) 101 [.ref (zα G 125), .int a1, .int a2, .int a3, .int a4] w (some (.int re)) we := (cF_X5_speak hG 100).1 h
def f_X5_sound (a1 : Int32) (a2 : Int32) (a3 : Int32) (a4 : Int32) (w : zW) : Option (Int32 × zW) := F_X5_speak 100 1 a1 a2 a3 a4 w
theorem c_X5_sound {G : zG} {l : Launch} (hG : zgood G) {w : zW} {re : Int32} {we : zW} {a1 : Int32} {a2 : Int32} {a3 : Int32} {a4 : Int32} (h : f_X5_sound a1 a2 a3 a4 w = some (re, we)) : zMet G l yX5_sound cX5_sound 5 (some .int) 101 [.ref (zα G 125), .int a1, .int a2, .int a3, .int a4] w (some (.int re)) we := (cF_X5_speak hG 100).2 h
def f_X5_answer (a1 : Nat) (a2 : Int32) (a3 : Int32) (a4 : Int32) (w : zW) : Option (Int32 × zW) :=
  zlet (zupd w 125 3 (w a1 1)) fun w1 =>
  zlet (zupd w1 125 4 (w1 a1 2)) fun w2 =>
  zlet (zupd w2 125 5 a2) fun w3 =>
  zlet (zupd w3 125 1 (nI 0)) fun w4 =>
  zlet (zupd w4 125 2 (nI 0)) fun w5 =>
  zb2 (f_X5_speak a3 (w5 125 3) a4 (nI 0) w5) fun x2 w6 =>
  some (x2, w6)
theorem c_X5_answer {G : zG} {l : Launch} (hG : zgood G) {w : zW} {re : Int32} {we : zW} {a1 : Nat} {a2 : Int32} {a3 : Int32} {a4 : Int32} (ha1 : shp a1 = (9, 0)) (h : f_X5_answer a1 a2 a3 a4 w = some (re, we)) : zMet G l yX5_answer cX5_answer 5 (some .int) 102 [.ref (zα G 125), .ref (zα G a1), .int a2, .int a3, .int a4] w (some (.int re)) we := by
  refine zMet_of (L0 := [some (.ref (zα G 125)), some (.ref (zα G a1)), some (.int a2), some (.int a3), some (.int a4)]) hG zplX5 (Nat.le_of_ble_eq_true rfl) rfl rfl (fun X hl hX hEI hEV hEA => ?_)
  subst hl
  have hX : zOk G X cX5_answer 5 RX5 102 := hX
  have hE := hEI _ _ rfl rfl
  rw [f_X5_answer] at h
  refine z_aload_n 0 hX dX5_answer_0 rfl <|
    z_aload_n 1 hX dX5_answer_1 rfl <|
    zgX5_15 2 hX dX5_answer_2 ha1 <|
    zpX5_21 5 hX dX5_answer_5 (rfl : shp 125 = (5, 0)) <|
    z_w h fun w1 h =>
    z_aload_n 8 hX dX5_answer_8 rfl <|
    z_aload_n 9 hX dX5_answer_9 rfl <|
    zgX5_22 10 hX dX5_answer_10 ha1 <|
    zpX5_25 13 hX dX5_answer_13 (rfl : shp 125 = (5, 0)) <|
    z_w h fun w2 h =>
    z_aload_n 16 hX dX5_answer_16 rfl <|
    z_iload_n 17 hX dX5_answer_17 rfl <|
    zpX5_26 18 hX dX5_answer_18 (rfl : shp 125 = (5, 0)) <|
    z_w h fun w3 h =>
    z_aload_n 21 hX dX5_answer_21 rfl <|
    z_iconst 22 hX dX5_answer_22 zki0 <|
    zpX5_29 23 hX dX5_answer_23 (rfl : shp 125 = (5, 0)) <|
    z_w h fun w4 h =>
    z_aload_n 26 hX dX5_answer_26 rfl <|
    z_iconst 27 hX dX5_answer_27 zki0 <|
    zpX5_32 28 hX dX5_answer_28 (rfl : shp 125 = (5, 0)) (by decide) <|
    z_w h fun w5 h =>
    z_aload_n 31 hX dX5_answer_31 rfl <|
    z_iload_n 32 hX dX5_answer_32 rfl <|
    z_aload_n 33 hX dX5_answer_33 rfl <|
    zgX5_21 34 hX dX5_answer_34 (rfl : shp 125 = (5, 0)) <|
    z_iload 37 hX dX5_answer_37 rfl <|
    z_iconst 39 hX dX5_answer_39 zki0 <|
    zb12 h fun x2 w6 r1 h => zcX5_36 40 [.int a3, .int (w5 125 3), .int a4, .int (nI 0)] [] hX dX5_answer_40 (c_X5_speak (zgd0 hX) r1) (rfl : shp 125 = (5, 0)) rfl rfl rfl (Nat.le_of_ble_eq_true rfl) (Nat.le_of_ble_eq_true rfl) <|
    z_endI2 43 hE rfl h dX5_answer_43
def f_X6_isTold (a0 : Nat) (w : zW) : Option Int32 :=
  if nI 0 < (w a0 3) then
    some (nI 1)
  else
    some (nI 0)
theorem c_X6_isTold {G : zG} {l : Launch} (hG : zgood G) {w : zW} {re : Int32} {a0 : Nat} (ha0 : shp a0 = (6, 0)) (h : f_X6_isTold a0 w = some re) : zMet G l yX6_isTold cX6_isTold 1 (some .boolean) 0 [.ref (zα G a0)] w (some (.int re)) w := by
  refine zMet_of (L0 := [some (.ref (zα G a0))]) hG zplX6 (Nat.le_of_ble_eq_true rfl) rfl rfl (fun X hl hX hEI hEV hEA => ?_)
  subst hl
  have hX : zOk G X cX6_isTold 1 RX6 0 := hX
  have hE := hEI _ _ rfl rfl
  rw [f_X6_isTold] at h
  refine z_aload_n 0 hX dX6_isTold_0 rfl <|
    zgX6_21 1 hX dX6_isTold_1 ha0 <|
    z_if_le 4 11 hX dX6_isTold_4 rfl h (fun q1 h => ?_) (fun q1 h => ?_)
  · refine z_iconst 11 hX dX6_isTold_11 zki0 <|
      z_endI 12 hE (znar_bool (by decide)) h dX6_isTold_12
  · refine z_iconst 7 hX dX6_isTold_7 zki1 <|
      z_goto 8 12 hX dX6_isTold_8 rfl <|
      z_endI 12 hE (znar_bool (by decide)) h dX6_isTold_12
def f_X6_copyFrom (a0 : Nat) (a1 : Nat) (w : zW) : Option zW :=
  zlet (zupd w a0 3 (w a1 3)) fun w1 =>
  zguard (zcpyok (nI 0) (nI 0) (nI 60) 60 60) (zlet (zcopy w1 (a1 + 1) (a0 + 1) (nI 0) (nI 0) (nI 60)) fun w2 =>
  some w2)
theorem c_X6_copyFrom {G : zG} {l : Launch} (hG : zgood G) {w : zW} {we : zW} {a0 : Nat} {a1 : Nat} (ha0 : shp a0 = (6, 0)) (ha1 : shp a1 = (6, 0)) (h : f_X6_copyFrom a0 a1 w = some we) : zMet G l yX6_copyFrom cX6_copyFrom 2 none 1 [.ref (zα G a0), .ref (zα G a1)] w none we := by
  refine zMet_of (L0 := [some (.ref (zα G a0)), some (.ref (zα G a1))]) hG zplX6 (Nat.le_of_ble_eq_true rfl) rfl rfl (fun X hl hX hEI hEV hEA => ?_)
  subst hl
  have hX : zOk G X cX6_copyFrom 2 RX6 1 := hX
  have hE := hEV rfl rfl
  rw [f_X6_copyFrom] at h
  refine z_aload_n 0 hX dX6_copyFrom_0 rfl <|
    z_aload_n 1 hX dX6_copyFrom_1 rfl <|
    zgX6_21 2 hX dX6_copyFrom_2 ha1 <|
    zpX6_21 5 hX dX6_copyFrom_5 ha0 <|
    z_w h fun w1 h =>
    z_aload_n 8 hX dX6_copyFrom_8 rfl <|
    zgX6_9 9 hX dX6_copyFrom_9 ha1 <|
    z_iconst 12 hX dX6_copyFrom_12 zki0 <|
    z_aload_n 13 hX dX6_copyFrom_13 rfl <|
    zgX6_9 14 hX dX6_copyFrom_14 ha0 <|
    z_iconst 17 hX dX6_copyFrom_17 zki0 <|
    z_bipush 18 hX dX6_copyFrom_18 zkb60 <|
    z_copy 20 hX dX6_copyFrom_20 zw997 zw619 zw618 zw87 (zr6_signs _ ha1) (zr6_signs _ ha0) rfl (Nat.le_of_ble_eq_true rfl) (Nat.le_of_ble_eq_true rfl) h fun h =>
    z_w h fun w2 h =>
    z_endV 23 hE h dX6_copyFrom_23
def f_X7_has (a1 : Int32) (w : zW) : Option Int32 :=
  if a1 < nI 0 then
    some (nI 0)
  else
  if a1 < (w 3 1) then
    some (nI 1)
  else
    some (nI 0)
theorem c_X7_has {G : zG} {l : Launch} (hG : zgood G) {w : zW} {re : Int32} {a1 : Int32}  (h : f_X7_has a1 w = some re) : zMet G l yX7_has cX7_has 2 (some .boolean) 0 [.ref (zα G 3), .int a1] w (some (.int re)) w := by
  refine zMet_of (L0 := [some (.ref (zα G 3)), some (.int a1)]) hG zplX7 (Nat.le_of_ble_eq_true rfl) rfl rfl (fun X hl hX hEI hEV hEA => ?_)
  subst hl
  have hX : zOk G X cX7_has 2 RX7 0 := hX
  have hE := hEI _ _ rfl rfl
  rw [f_X7_has] at h
  refine z_iload_n 0 hX dX7_has_0 rfl <|
    z_if_lt 1 16 hX dX7_has_1 rfl h (fun q1 h => ?_) (fun q1 h => ?_)
  · refine z_iconst 16 hX dX7_has_16 zki0 <|
      z_endI 17 hE (znar_bool (by decide)) h dX7_has_17
  · refine z_iload_n 4 hX dX7_has_4 rfl <|
      z_aload_n 5 hX dX7_has_5 rfl <|
      zgX7_18 6 hX dX7_has_6 (rfl : shp 3 = (7, 0)) <|
      z_icmp_ge 9 16 hX dX7_has_9 rfl h (fun q2 h => ?_) (fun q2 h => ?_)
    · refine z_iconst 16 hX dX7_has_16 zki0 <|
        z_endI 17 hE (znar_bool (by decide)) h dX7_has_17
    · refine z_iconst 12 hX dX7_has_12 zki1 <|
        z_goto 13 17 hX dX7_has_13 rfl <|
        z_endI 17 hE (znar_bool (by decide)) h dX7_has_17
def f_X10_copyFrom (a0 : Nat) (a1 : Nat) (w : zW) : Option zW :=
  zlet (zupd w a0 1 (w a1 1)) fun w1 =>
  zlet (zupd w1 a0 2 (w1 a1 2)) fun w2 =>
  zguard (zcpyok (nI 0) (nI 0) (nI 6) 6 6) (zlet (zcopy w2 (a1 + 1) (a0 + 1) (nI 0) (nI 0) (nI 6)) fun w3 =>
  some w3)
theorem c_X10_copyFrom {G : zG} {l : Launch} (hG : zgood G) {w : zW} {we : zW} {a0 : Nat} {a1 : Nat} (ha0 : shp a0 = (10, 0)) (ha1 : shp a1 = (10, 0)) (h : f_X10_copyFrom a0 a1 w = some we) : zMet G l yX10_copyFrom cX10_copyFrom 2 none 1 [.ref (zα G a0), .ref (zα G a1)] w none we := by
  refine zMet_of (L0 := [some (.ref (zα G a0)), some (.ref (zα G a1))]) hG zplX10 (Nat.le_of_ble_eq_true rfl) rfl rfl (fun X hl hX hEI hEV hEA => ?_)
  subst hl
  have hX : zOk G X cX10_copyFrom 2 RX10 1 := hX
  have hE := hEV rfl rfl
  rw [f_X10_copyFrom] at h
  refine z_aload_n 0 hX dX10_copyFrom_0 rfl <|
    z_aload_n 1 hX dX10_copyFrom_1 rfl <|
    zgX10_15 2 hX dX10_copyFrom_2 ha1 <|
    zpX10_15 5 hX dX10_copyFrom_5 ha0 <|
    z_w h fun w1 h =>
    z_aload_n 8 hX dX10_copyFrom_8 rfl <|
    z_aload_n 9 hX dX10_copyFrom_9 rfl <|
    zgX10_19 10 hX dX10_copyFrom_10 ha1 <|
    zpX10_19 13 hX dX10_copyFrom_13 ha0 <|
    z_w h fun w2 h =>
    z_aload_n 16 hX dX10_copyFrom_16 rfl <|
    zgX10_9 17 hX dX10_copyFrom_17 ha1 <|
    z_iconst 20 hX dX10_copyFrom_20 zki0 <|
    z_aload_n 21 hX dX10_copyFrom_21 rfl <|
    zgX10_9 22 hX dX10_copyFrom_22 ha0 <|
    z_iconst 25 hX dX10_copyFrom_25 zki0 <|
    z_bipush 26 hX dX10_copyFrom_26 zkb6 <|
    z_copy 28 hX dX10_copyFrom_28 zw992 zw619 zw618 zw87 (zr10_letters _ ha1) (zr10_letters _ ha0) rfl (Nat.le_of_ble_eq_true rfl) (Nat.le_of_ble_eq_true rfl) h fun h =>
    z_w h fun w3 h =>
    z_endV 31 hE h dX10_copyFrom_31
def l_X7_copyFrom_10 (K37 : zW → Option zW) : Nat → Nat → Nat → Int32 → zW → Option zW
  | 0, _, _, _, _ => none
  | n + 1, a0, a1, a2, w =>
    if a2 < (nI 12) then
      zguard (zin a2 12) (
      zguard (zin a2 12) (
      zb (f_X10_copyFrom (((a0 + 1) + 1) + 2 * a2.toNatClampNeg) (((a1 + 1) + 1) + 2 * a2.toNatClampNeg) w) fun w1 =>
      zlet (a2 + nI 1) fun x5 =>
      (l_X7_copyFrom_10 K37 n) a0 a1 x5 w1))
    else
      K37 w
theorem l_X7_copyFrom_10z {K37 : zW → Option zW} {G : zG} {X : zX} {we : zW} (hX : zOk G X cX7_copyFrom 3 RX7 2) (hE : zEV G X cX7_copyFrom we) (hK37 : ∀ (w3 : zW) , K37 w3 = some we → zZ G X w3 37 [none, none, none] []) : ∀ (n : Nat) (a0 : Nat) (a1 : Nat) (a2 : Int32) (w : zW) (ha0 : shp a0 = (7, 0)) (ha1 : shp a1 = (7, 0)), l_X7_copyFrom_10 K37 n a0 a1 a2 w = some we → zZ G X w 10 [some (.ref (zα G a0)), some (.ref (zα G a1)), some (.int a2)] [] := by
  intro n
  induction n with
  | zero =>
    intro a0 a1 a2 w ha0 ha1 h
    rw [l_X7_copyFrom_10.eq_1] at h
    cases h
  | succ n ih =>
    intro a0 a1 a2 w ha0 ha1 h
    rw [l_X7_copyFrom_10.eq_2] at h
    refine z_iload_n 10 hX dX7_copyFrom_10 rfl <|
      z_bipush 11 hX dX7_copyFrom_11 zkb12 <|
      z_icmp_ge 13 37 hX dX7_copyFrom_13 rfl h (fun q1 h => ?_) (fun q1 h => ?_)
    · refine z_weak (L' := [none, none, none]) (zsub_n (zsub_n (zsub_n zsub_0))) <|
        hK37 _ h
    · refine z_aload_n 16 hX dX7_copyFrom_16 rfl <|
        zgX7_11 17 hX dX7_copyFrom_17 ha0 <|
        z_iload_n 20 hX dX7_copyFrom_20 rfl <|
        z_aald 21 hX dX7_copyFrom_21 (zr7_words _ ha0) (by decide) h fun q2 h =>
        z_aload_n 22 hX dX7_copyFrom_22 rfl <|
        zgX7_11 23 hX dX7_copyFrom_23 ha1 <|
        z_iload_n 26 hX dX7_copyFrom_26 rfl <|
        z_aald 27 hX dX7_copyFrom_27 (zr7_words _ ha1) (by decide) h fun q3 h =>
        zb1 h fun w1 r4 h => zcX7_22 28 [.ref (zα G (((a1 + 1) + 1) + 2 * a2.toNatClampNeg))] [] hX dX7_copyFrom_28 (c_X10_copyFrom (zgd0 hX) (ze22 _ (zr7_words _ ha0) _ q2) (ze22 _ (zr7_words _ ha1) _ q3) r4) (ze22 _ (zr7_words _ ha0) _ q2) rfl rfl rfl (Nat.le_of_ble_eq_true rfl) (Nat.le_of_ble_eq_true rfl) <|
        z_iincG 31 (fun x5 => [some (.ref (zα G a0)), some (.ref (zα G a1)), some (.int x5)]) hX dX7_copyFrom_31 rfl zki1 rfl (fun _ => rfl) h fun x5 h =>
        z_goto 34 10 hX dX7_copyFrom_34 rfl <|
        ih _ _ _ _ ha0 ha1 h
def f_X7_copyFrom (a0 : Nat) (a1 : Nat) (w : zW) : Option zW :=
  zlet (zupd w a0 1 (w a1 1)) fun w1 =>
  l_X7_copyFrom_10 (fun w12 =>
    some w12) zfuel a0 a1 (nI 0) w1
theorem c_X7_copyFrom {G : zG} {l : Launch} (hG : zgood G) {w : zW} {we : zW} {a0 : Nat} {a1 : Nat} (ha0 : shp a0 = (7, 0)) (ha1 : shp a1 = (7, 0)) (h : f_X7_copyFrom a0 a1 w = some we) : zMet G l yX7_copyFrom cX7_copyFrom 3 none 2 [.ref (zα G a0), .ref (zα G a1)] w none we := by
  refine zMet_of (L0 := [some (.ref (zα G a0)), some (.ref (zα G a1)), none]) hG zplX7 (Nat.le_of_ble_eq_true rfl) rfl rfl (fun X hl hX hEI hEV hEA => ?_)
  subst hl
  have hX : zOk G X cX7_copyFrom 3 RX7 2 := hX
  have hE := hEV rfl rfl
  rw [f_X7_copyFrom] at h
  refine z_aload_n 0 hX dX7_copyFrom_0 rfl <|
    z_aload_n 1 hX dX7_copyFrom_1 rfl <|
    zgX7_18 2 hX dX7_copyFrom_2 ha1 <|
    zpX7_18 5 hX dX7_copyFrom_5 ha0 <|
    z_w h fun w1 h =>
    z_iconst 8 hX dX7_copyFrom_8 zki0 <|
    z_istore_n 9 [some (.ref (zα G a0)), some (.ref (zα G a1)), some (.int (nI 0))] hX dX7_copyFrom_9 (Nat.le_of_ble_eq_true rfl) rfl rfl <|
    l_X7_copyFrom_10z hX hE (fun w12 h => ?_) _ _ _ _ _ ha0 ha1 h
  · refine z_endV 37 hE h dX7_copyFrom_37
def f_X9_copyFrom (a0 : Nat) (a1 : Nat) (w : zW) : Option zW :=
  zlet (zupd w a0 1 (w a1 1)) fun w1 =>
  zlet (zupd w1 a0 2 (w1 a1 2)) fun w2 =>
  zlet (zupd w2 a0 3 (w2 a1 3)) fun w3 =>
  zguard (zcpyok (nI 0) (nI 0) (nI 24) 24 24) (zlet (zcopy w3 (a1 + 1) (a0 + 1) (nI 0) (nI 0) (nI 24)) fun w4 =>
  some w4)
theorem c_X9_copyFrom {G : zG} {l : Launch} (hG : zgood G) {w : zW} {we : zW} {a0 : Nat} {a1 : Nat} (ha0 : shp a0 = (9, 0)) (ha1 : shp a1 = (9, 0)) (h : f_X9_copyFrom a0 a1 w = some we) : zMet G l yX9_copyFrom cX9_copyFrom 2 none 1 [.ref (zα G a0), .ref (zα G a1)] w none we := by
  refine zMet_of (L0 := [some (.ref (zα G a0)), some (.ref (zα G a1))]) hG zplX9 (Nat.le_of_ble_eq_true rfl) rfl rfl (fun X hl hX hEI hEV hEA => ?_)
  subst hl
  have hX : zOk G X cX9_copyFrom 2 RX9 1 := hX
  have hE := hEV rfl rfl
  rw [f_X9_copyFrom] at h
  refine z_aload_n 0 hX dX9_copyFrom_0 rfl <|
    z_aload_n 1 hX dX9_copyFrom_1 rfl <|
    zgX9_15 2 hX dX9_copyFrom_2 ha1 <|
    zpX9_15 5 hX dX9_copyFrom_5 ha0 <|
    z_w h fun w1 h =>
    z_aload_n 8 hX dX9_copyFrom_8 rfl <|
    z_aload_n 9 hX dX9_copyFrom_9 rfl <|
    zgX9_19 10 hX dX9_copyFrom_10 ha1 <|
    zpX9_19 13 hX dX9_copyFrom_13 ha0 <|
    z_w h fun w2 h =>
    z_aload_n 16 hX dX9_copyFrom_16 rfl <|
    z_aload_n 17 hX dX9_copyFrom_17 rfl <|
    zgX9_22 18 hX dX9_copyFrom_18 ha1 <|
    zpX9_22 21 hX dX9_copyFrom_21 ha0 <|
    z_w h fun w3 h =>
    z_aload_n 24 hX dX9_copyFrom_24 rfl <|
    zgX9_9 25 hX dX9_copyFrom_25 ha1 <|
    z_iconst 28 hX dX9_copyFrom_28 zki0 <|
    z_aload_n 29 hX dX9_copyFrom_29 rfl <|
    zgX9_9 30 hX dX9_copyFrom_30 ha0 <|
    z_iconst 33 hX dX9_copyFrom_33 zki0 <|
    z_bipush 34 hX dX9_copyFrom_34 zkb24 <|
    z_copy 36 hX dX9_copyFrom_36 zw770 zw619 zw618 zw87 (zr9_stones _ ha1) (zr9_stones _ ha0) rfl (Nat.le_of_ble_eq_true rfl) (Nat.le_of_ble_eq_true rfl) h fun h =>
    z_w h fun w4 h =>
    z_endV 39 hE h dX9_copyFrom_39
def l_X8_copyFrom_2 (K29 : Nat → Nat → zW → Option zW) : Nat → Nat → Nat → Int32 → zW → Option zW
  | 0, _, _, _, _ => none
  | n + 1, a0, a1, a2, w =>
    if a2 < (nI 6) then
      zguard (zin a2 6) (
      zguard (zin a2 6) (
      zb (f_X9_copyFrom (((a0 + 1) + 38) + 2 * a2.toNatClampNeg) (((a1 + 1) + 38) + 2 * a2.toNatClampNeg) w) fun w1 =>
      zlet (a2 + nI 1) fun x5 =>
      (l_X8_copyFrom_2 K29 n) a0 a1 x5 w1))
    else
      K29 a0 a1 w
theorem l_X8_copyFrom_2z {K29 : Nat → Nat → zW → Option zW} {G : zG} {X : zX} {we : zW} (hX : zOk G X cX8_copyFrom 3 RX8 3) (hE : zEV G X cX8_copyFrom we) (hK29 : ∀ (a0 : Nat) (a1 : Nat) (w3 : zW) (ha0 : shp a0 = (8, 0)) (ha1 : shp a1 = (8, 0)), K29 a0 a1 w3 = some we → zZ G X w3 29 [some (.ref (zα G a0)), some (.ref (zα G a1)), none] []) : ∀ (n : Nat) (a0 : Nat) (a1 : Nat) (a2 : Int32) (w : zW) (ha0 : shp a0 = (8, 0)) (ha1 : shp a1 = (8, 0)), l_X8_copyFrom_2 K29 n a0 a1 a2 w = some we → zZ G X w 2 [some (.ref (zα G a0)), some (.ref (zα G a1)), some (.int a2)] [] := by
  intro n
  induction n with
  | zero =>
    intro a0 a1 a2 w ha0 ha1 h
    rw [l_X8_copyFrom_2.eq_1] at h
    cases h
  | succ n ih =>
    intro a0 a1 a2 w ha0 ha1 h
    rw [l_X8_copyFrom_2.eq_2] at h
    refine z_iload_n 2 hX dX8_copyFrom_2 rfl <|
      z_bipush 3 hX dX8_copyFrom_3 zkb6 <|
      z_icmp_ge 5 29 hX dX8_copyFrom_5 rfl h (fun q1 h => ?_) (fun q1 h => ?_)
    · refine z_weak (L' := [some (.ref (zα G a0)), some (.ref (zα G a1)), none]) (zsub_s (zsub_s (zsub_n zsub_0))) <|
        hK29 _ _ _ ha0 ha1 h
    · refine z_aload_n 8 hX dX8_copyFrom_8 rfl <|
        zgX8_11 9 hX dX8_copyFrom_9 ha0 <|
        z_iload_n 12 hX dX8_copyFrom_12 rfl <|
        z_aald 13 hX dX8_copyFrom_13 (zr8_walls _ ha0) (by decide) h fun q2 h =>
        z_aload_n 14 hX dX8_copyFrom_14 rfl <|
        zgX8_11 15 hX dX8_copyFrom_15 ha1 <|
        z_iload_n 18 hX dX8_copyFrom_18 rfl <|
        z_aald 19 hX dX8_copyFrom_19 (zr8_walls _ ha1) (by decide) h fun q3 h =>
        zb1 h fun w1 r4 h => zcX8_52 20 [.ref (zα G (((a1 + 1) + 38) + 2 * a2.toNatClampNeg))] [] hX dX8_copyFrom_20 (c_X9_copyFrom (zgd0 hX) (ze21 _ (zr8_walls _ ha0) _ q2) (ze21 _ (zr8_walls _ ha1) _ q3) r4) (ze21 _ (zr8_walls _ ha0) _ q2) rfl rfl rfl (Nat.le_of_ble_eq_true rfl) (Nat.le_of_ble_eq_true rfl) <|
        z_iincG 23 (fun x5 => [some (.ref (zα G a0)), some (.ref (zα G a1)), some (.int x5)]) hX dX8_copyFrom_23 rfl zki1 rfl (fun _ => rfl) h fun x5 h =>
        z_goto 26 2 hX dX8_copyFrom_26 rfl <|
        ih _ _ _ _ ha0 ha1 h
def f_X8_copyFrom (a0 : Nat) (a1 : Nat) (w : zW) : Option zW :=
  l_X8_copyFrom_2 (fun k29_a0 k29_a1 w11 =>
    zb (f_X7_copyFrom (k29_a0 + 2) (k29_a1 + 2) w11) fun w12 =>
    zb (f_X6_copyFrom (k29_a0 + 28) (k29_a1 + 28) w12) fun w13 =>
    zb (f_X6_copyFrom (k29_a0 + 32) (k29_a1 + 32) w13) fun w14 =>
    zguard (zcpyok (nI 0) (nI 0) (nI 60) 60 60) (zlet (zcopy w14 (k29_a1 + 36) (k29_a0 + 36) (nI 0) (nI 0) (nI 60)) fun w15 =>
    zguard (zcpyok (nI 0) (nI 0) (nI 27) 27 27) (zlet (zcopy w15 (k29_a1 + 37) (k29_a0 + 37) (nI 0) (nI 0) (nI 27)) fun w16 =>
    zguard (zcpyok (nI 0) (nI 0) (nI 24) 24 24) (zlet (zcopy w16 (k29_a1 + 38) (k29_a0 + 38) (nI 0) (nI 0) (nI 24)) fun w17 =>
    zlet (zupd w17 k29_a0 7 (w17 k29_a1 7)) fun w18 =>
    zlet (zupd w18 k29_a0 8 (w18 k29_a1 8)) fun w19 =>
    zlet (zupd w19 k29_a0 9 (w19 k29_a1 9)) fun w20 =>
    zlet (zupd w20 k29_a0 10 (w20 k29_a1 10)) fun w21 =>
    zlet (zupd w21 k29_a0 11 (w21 k29_a1 11)) fun w22 =>
    zlet (zupd w22 k29_a0 12 (w22 k29_a1 12)) fun w23 =>
    some w23)))) zfuel a0 a1 (nI 0) w
theorem c_X8_copyFrom {G : zG} {l : Launch} (hG : zgood G) {w : zW} {we : zW} {a0 : Nat} {a1 : Nat} (ha0 : shp a0 = (8, 0)) (ha1 : shp a1 = (8, 0)) (h : f_X8_copyFrom a0 a1 w = some we) : zMet G l yX8_copyFrom cX8_copyFrom 3 none 3 [.ref (zα G a0), .ref (zα G a1)] w none we := by
  refine zMet_of (L0 := [some (.ref (zα G a0)), some (.ref (zα G a1)), none]) hG zplX8 (Nat.le_of_ble_eq_true rfl) rfl rfl (fun X hl hX hEI hEV hEA => ?_)
  subst hl
  have hX : zOk G X cX8_copyFrom 3 RX8 3 := hX
  have hE := hEV rfl rfl
  rw [f_X8_copyFrom] at h
  refine z_iconst 0 hX dX8_copyFrom_0 zki0 <|
    z_istore_n 1 [some (.ref (zα G a0)), some (.ref (zα G a1)), some (.int (nI 0))] hX dX8_copyFrom_1 (Nat.le_of_ble_eq_true rfl) rfl rfl <|
    l_X8_copyFrom_2z hX hE (fun k29_a0 k29_a1 w11 hk29_a0 hk29_a1 h => ?_) _ _ _ _ _ ha0 ha1 h
  · refine z_aload_n 29 hX dX8_copyFrom_29 rfl <|
      zgX8_20 30 hX dX8_copyFrom_30 hk29_a0 <|
      z_aload_n 33 hX dX8_copyFrom_33 rfl <|
      zgX8_20 34 hX dX8_copyFrom_34 hk29_a1 <|
      zb1 h fun w12 r101 h => zcX8_56 37 [.ref (zα G (k29_a1 + 2))] [] hX dX8_copyFrom_37 (c_X7_copyFrom (zgd0 hX) (zr8_tongue _ hk29_a0) (zr8_tongue _ hk29_a1) r101) (zr8_tongue _ hk29_a0) rfl rfl rfl (Nat.le_of_ble_eq_true rfl) (Nat.le_of_ble_eq_true rfl) <|
      z_aload_n 40 hX dX8_copyFrom_40 rfl <|
      zgX8_27 41 hX dX8_copyFrom_41 hk29_a0 <|
      z_aload_n 44 hX dX8_copyFrom_44 rfl <|
      zgX8_27 45 hX dX8_copyFrom_45 hk29_a1 <|
      zb1 h fun w13 r102 h => zcX8_59 48 [.ref (zα G (k29_a1 + 28))] [] hX dX8_copyFrom_48 (c_X6_copyFrom (zgd0 hX) (zr8_turns _ hk29_a0) (zr8_turns _ hk29_a1) r102) (zr8_turns _ hk29_a0) rfl rfl rfl (Nat.le_of_ble_eq_true rfl) (Nat.le_of_ble_eq_true rfl) <|
      z_aload_n 51 hX dX8_copyFrom_51 rfl <|
      zgX8_31 52 hX dX8_copyFrom_52 hk29_a0 <|
      z_aload_n 55 hX dX8_copyFrom_55 rfl <|
      zgX8_31 56 hX dX8_copyFrom_56 hk29_a1 <|
      zb1 h fun w14 r103 h => zcX8_59 59 [.ref (zα G (k29_a1 + 32))] [] hX dX8_copyFrom_59 (c_X6_copyFrom (zgd0 hX) (zr8_prices _ hk29_a0) (zr8_prices _ hk29_a1) r103) (zr8_prices _ hk29_a0) rfl rfl rfl (Nat.le_of_ble_eq_true rfl) (Nat.le_of_ble_eq_true rfl) <|
      z_aload_n 62 hX dX8_copyFrom_62 rfl <|
      zgX8_34 63 hX dX8_copyFrom_63 hk29_a1 <|
      z_iconst 66 hX dX8_copyFrom_66 zki0 <|
      z_aload_n 67 hX dX8_copyFrom_67 rfl <|
      zgX8_34 68 hX dX8_copyFrom_68 hk29_a0 <|
      z_iconst 71 hX dX8_copyFrom_71 zki0 <|
      z_bipush 72 hX dX8_copyFrom_72 zkb60 <|
      z_copy 74 hX dX8_copyFrom_74 zw998 zw619 zw618 zw87 (zr8_tape _ hk29_a1) (zr8_tape _ hk29_a0) rfl (Nat.le_of_ble_eq_true rfl) (Nat.le_of_ble_eq_true rfl) h fun h =>
      z_w h fun w15 h =>
      z_aload_n 77 hX dX8_copyFrom_77 rfl <|
      zgX8_38 78 hX dX8_copyFrom_78 hk29_a1 <|
      z_iconst 81 hX dX8_copyFrom_81 zki0 <|
      z_aload_n 82 hX dX8_copyFrom_82 rfl <|
      zgX8_38 83 hX dX8_copyFrom_83 hk29_a0 <|
      z_iconst 86 hX dX8_copyFrom_86 zki0 <|
      z_bipush 87 hX dX8_copyFrom_87 zkb27 <|
      z_copy 89 hX dX8_copyFrom_89 zw998 zw619 zw618 zw87 (zr8_heaped _ hk29_a1) (zr8_heaped _ hk29_a0) rfl (Nat.le_of_ble_eq_true rfl) (Nat.le_of_ble_eq_true rfl) h fun h =>
      z_w h fun w16 h =>
      z_aload_n 92 hX dX8_copyFrom_92 rfl <|
      zgX8_41 93 hX dX8_copyFrom_93 hk29_a1 <|
      z_iconst 96 hX dX8_copyFrom_96 zki0 <|
      z_aload_n 97 hX dX8_copyFrom_97 rfl <|
      zgX8_41 98 hX dX8_copyFrom_98 hk29_a0 <|
      z_iconst 101 hX dX8_copyFrom_101 zki0 <|
      z_bipush 102 hX dX8_copyFrom_102 zkb24 <|
      z_copy 104 hX dX8_copyFrom_104 zw998 zw619 zw618 zw87 (zr8_waiting _ hk29_a1) (zr8_waiting _ hk29_a0) rfl (Nat.le_of_ble_eq_true rfl) (Nat.le_of_ble_eq_true rfl) h fun h =>
      z_w h fun w17 h =>
      z_aload_n 107 hX dX8_copyFrom_107 rfl <|
      z_aload_n 108 hX dX8_copyFrom_108 rfl <|
      zgX8_68 109 hX dX8_copyFrom_109 hk29_a1 <|
      zpX8_68 112 hX dX8_copyFrom_112 hk29_a0 <|
      z_w h fun w18 h =>
      z_aload_n 115 hX dX8_copyFrom_115 rfl <|
      z_aload_n 116 hX dX8_copyFrom_116 rfl <|
      zgX8_71 117 hX dX8_copyFrom_117 hk29_a1 <|
      zpX8_71 120 hX dX8_copyFrom_120 hk29_a0 <|
      z_w h fun w19 h =>
      z_aload_n 123 hX dX8_copyFrom_123 rfl <|
      z_aload_n 124 hX dX8_copyFrom_124 rfl <|
      zgX8_74 125 hX dX8_copyFrom_125 hk29_a1 <|
      zpX8_74 128 hX dX8_copyFrom_128 hk29_a0 <|
      z_w h fun w20 h =>
      z_aload_n 131 hX dX8_copyFrom_131 rfl <|
      z_aload_n 132 hX dX8_copyFrom_132 rfl <|
      zgX8_77 133 hX dX8_copyFrom_133 hk29_a1 <|
      zpX8_77 136 hX dX8_copyFrom_136 hk29_a0 <|
      z_w h fun w21 h =>
      z_aload_n 139 hX dX8_copyFrom_139 rfl <|
      z_aload_n 140 hX dX8_copyFrom_140 rfl <|
      zgX8_44 141 hX dX8_copyFrom_141 hk29_a1 <|
      zpX8_44 144 hX dX8_copyFrom_144 hk29_a0 <|
      z_w h fun w22 h =>
      z_aload_n 147 hX dX8_copyFrom_147 rfl <|
      z_aload_n 148 hX dX8_copyFrom_148 rfl <|
      zgX8_48 149 hX dX8_copyFrom_149 hk29_a1 <|
      zpX8_48 152 hX dX8_copyFrom_152 hk29_a0 <|
      z_w h fun w23 h =>
      z_endV 155 hE h dX8_copyFrom_155
