theorem c_X12_joined {G : zG} {l : Launch} (hG : zgood G) {w : zW} {re : Int32} {a0 : Int32} {a1 : Int32} {a2 : Int32}  (h : f_X12_joined a0 a1 a2 = some re) : zMet G l yX12_joined cX12_joined 3 (some .int) 0 [.int a0, .int a1, .int a2] w (some (.int re)) w := by
  refine zMet_of (L0 := [some (.int a0), some (.int a1), some (.int a2)]) hG zplX12 (Nat.le_of_ble_eq_true rfl) rfl rfl (fun X hl hX hEI hEV hEA => ?_)
  subst hl
  have hX : zOk G X cX12_joined 3 RX12 0 := hX
  have hE := hEI _ _ rfl rfl
  rw [f_X12_joined] at h
  refine z_iload_n 0 hX dX12_joined_0 rfl <|
    ?_
  rcases zif h with ⟨q1, h⟩ | ⟨q1, h⟩
  · refine z_tsIn (off := 153) 1 154 (37) hX dX12_joined_1 (zti 37 (by decide) q1) (by decide) (by decide) (by decide) rfl <|
      z_iload_n 154 hX dX12_joined_154 rfl <|
      z_if_eq 155 163 hX dX12_joined_155 rfl h (fun q2 h => ?_) (fun q2 h => ?_)
    · refine z_weak (L' := [none, none, none]) (zsub_n (zsub_n (zsub_n zsub_0))) <|
        j_X12_joined_163z hX hE h
    · refine z_iload_n 158 hX dX12_joined_158 rfl <|
        z_iconst 159 hX dX12_joined_159 zkim1 <|
        z_icmp_ne 160 167 hX dX12_joined_160 rfl h (fun q3 h => ?_) (fun q3 h => ?_)
      · refine z_iload_n 167 hX dX12_joined_167 rfl <|
          z_iload_n 168 hX dX12_joined_168 rfl <|
          z_irem 169 hX dX12_joined_169 h fun h =>
          z_endI 170 hE rfl h dX12_joined_170
      · refine z_weak (L' := [none, none, none]) (zsub_n (zsub_n (zsub_n zsub_0))) <|
          j_X12_joined_163z hX hE h
  rcases zif h with ⟨q4, h⟩ | ⟨q4, h⟩
  · refine z_tsIn (off := 203) 1 204 (38) hX dX12_joined_1 (zti 38 (by decide) q4) (by decide) (by decide) (by decide) rfl <|
      z_iload_n 204 hX dX12_joined_204 rfl <|
      z_if_eq 205 216 hX dX12_joined_205 rfl h (fun q5 h => ?_) (fun q5 h => ?_)
    · refine z_iconst 216 hX dX12_joined_216 zki0 <|
        z_endI 217 hE rfl h dX12_joined_217
    · refine z_iload_n 208 hX dX12_joined_208 rfl <|
        z_if_eq 209 216 hX dX12_joined_209 rfl h (fun q6 h => ?_) (fun q6 h => ?_)
      · refine z_iconst 216 hX dX12_joined_216 zki0 <|
          z_endI 217 hE rfl h dX12_joined_217
      · refine z_iconst 212 hX dX12_joined_212 zki1 <|
          z_goto 213 217 hX dX12_joined_213 rfl <|
          z_endI 217 hE rfl h dX12_joined_217
  rcases zif h with ⟨q7, h⟩ | ⟨q7, h⟩
  · refine z_tsIn (off := 217) 1 218 (39) hX dX12_joined_1 (zti 39 (by decide) q7) (by decide) (by decide) (by decide) rfl <|
      z_iload_n 218 hX dX12_joined_218 rfl <|
      z_if_ne 219 226 hX dX12_joined_219 rfl h (fun q8 h => ?_) (fun q8 h => ?_)
    · refine z_weak (L' := [none, none, none]) (zsub_n (zsub_n (zsub_n zsub_0))) <|
        j_X12_joined_226z hX hE h
    · refine z_iload_n 222 hX dX12_joined_222 rfl <|
        z_if_eq 223 230 hX dX12_joined_223 rfl h (fun q9 h => ?_) (fun q9 h => ?_)
      · refine z_iconst 230 hX dX12_joined_230 zki0 <|
          z_endI 231 hE rfl h dX12_joined_231
      · refine z_weak (L' := [none, none, none]) (zsub_n (zsub_n (zsub_n zsub_0))) <|
          j_X12_joined_226z hX hE h
  rcases zif h with ⟨q10, h⟩ | ⟨q10, h⟩
  · refine z_tsIn (off := 217) 1 218 (40) hX dX12_joined_1 (zti 40 (by decide) q10) (by decide) (by decide) (by decide) rfl <|
      z_iload_n 218 hX dX12_joined_218 rfl <|
      z_if_ne 219 226 hX dX12_joined_219 rfl h (fun q11 h => ?_) (fun q11 h => ?_)
    · refine z_weak (L' := [none, none, none]) (zsub_n (zsub_n (zsub_n zsub_0))) <|
        j_X12_joined_226z hX hE h
    · refine z_iload_n 222 hX dX12_joined_222 rfl <|
        z_if_eq 223 230 hX dX12_joined_223 rfl h (fun q12 h => ?_) (fun q12 h => ?_)
      · refine z_iconst 230 hX dX12_joined_230 zki0 <|
          z_endI 231 hE rfl h dX12_joined_231
      · refine z_weak (L' := [none, none, none]) (zsub_n (zsub_n (zsub_n zsub_0))) <|
          j_X12_joined_226z hX hE h
  rcases zif h with ⟨q13, h⟩ | ⟨q13, h⟩
  · refine z_tsIn (off := 217) 1 218 (41) hX dX12_joined_1 (zti 41 (by decide) q13) (by decide) (by decide) (by decide) rfl <|
      z_iload_n 218 hX dX12_joined_218 rfl <|
      z_if_ne 219 226 hX dX12_joined_219 rfl h (fun q14 h => ?_) (fun q14 h => ?_)
    · refine z_weak (L' := [none, none, none]) (zsub_n (zsub_n (zsub_n zsub_0))) <|
        j_X12_joined_226z hX hE h
    · refine z_iload_n 222 hX dX12_joined_222 rfl <|
        z_if_eq 223 230 hX dX12_joined_223 rfl h (fun q15 h => ?_) (fun q15 h => ?_)
      · refine z_iconst 230 hX dX12_joined_230 zki0 <|
          z_endI 231 hE rfl h dX12_joined_231
      · refine z_weak (L' := [none, none, none]) (zsub_n (zsub_n (zsub_n zsub_0))) <|
          j_X12_joined_226z hX hE h
  rcases zif h with ⟨q16, h⟩ | ⟨q16, h⟩
  · refine z_tsIn (off := 127) 1 128 (42) hX dX12_joined_1 (zti 42 (by decide) q16) (by decide) (by decide) (by decide) rfl <|
      z_iload_n 128 hX dX12_joined_128 rfl <|
      z_iload_n 129 hX dX12_joined_129 rfl <|
      z_imul 130 hX dX12_joined_130 <|
      z_endI 131 hE rfl h dX12_joined_131
  rcases zif h with ⟨q17, h⟩ | ⟨q17, h⟩
  · refine z_tsIn (off := 119) 1 120 (43) hX dX12_joined_1 (zti 43 (by decide) q17) (by decide) (by decide) (by decide) rfl <|
      z_iload_n 120 hX dX12_joined_120 rfl <|
      z_iload_n 121 hX dX12_joined_121 rfl <|
      z_iadd 122 hX dX12_joined_122 <|
      z_endI 123 hE rfl h dX12_joined_123
  rcases zif h with ⟨q18, h⟩ | ⟨q18, h⟩
  · refine z_tsIn (off := 217) 1 218 (44) hX dX12_joined_1 (zti 44 (by decide) q18) (by decide) (by decide) (by decide) rfl <|
      z_iload_n 218 hX dX12_joined_218 rfl <|
      z_if_ne 219 226 hX dX12_joined_219 rfl h (fun q19 h => ?_) (fun q19 h => ?_)
    · refine z_weak (L' := [none, none, none]) (zsub_n (zsub_n (zsub_n zsub_0))) <|
        j_X12_joined_226z hX hE h
    · refine z_iload_n 222 hX dX12_joined_222 rfl <|
        z_if_eq 223 230 hX dX12_joined_223 rfl h (fun q20 h => ?_) (fun q20 h => ?_)
      · refine z_iconst 230 hX dX12_joined_230 zki0 <|
          z_endI 231 hE rfl h dX12_joined_231
      · refine z_weak (L' := [none, none, none]) (zsub_n (zsub_n (zsub_n zsub_0))) <|
          j_X12_joined_226z hX hE h
  rcases zif h with ⟨q21, h⟩ | ⟨q21, h⟩
  · refine z_tsIn (off := 123) 1 124 (45) hX dX12_joined_1 (zti 45 (by decide) q21) (by decide) (by decide) (by decide) rfl <|
      z_iload_n 124 hX dX12_joined_124 rfl <|
      z_iload_n 125 hX dX12_joined_125 rfl <|
      z_isub 126 hX dX12_joined_126 <|
      z_endI 127 hE rfl h dX12_joined_127
  rcases zif h with ⟨q22, h⟩ | ⟨q22, h⟩
  · refine z_tsIn (off := 217) 1 218 (46) hX dX12_joined_1 (zti 46 (by decide) q22) (by decide) (by decide) (by decide) rfl <|
      z_iload_n 218 hX dX12_joined_218 rfl <|
      z_if_ne 219 226 hX dX12_joined_219 rfl h (fun q23 h => ?_) (fun q23 h => ?_)
    · refine z_weak (L' := [none, none, none]) (zsub_n (zsub_n (zsub_n zsub_0))) <|
        j_X12_joined_226z hX hE h
    · refine z_iload_n 222 hX dX12_joined_222 rfl <|
        z_if_eq 223 230 hX dX12_joined_223 rfl h (fun q24 h => ?_) (fun q24 h => ?_)
      · refine z_iconst 230 hX dX12_joined_230 zki0 <|
          z_endI 231 hE rfl h dX12_joined_231
      · refine z_weak (L' := [none, none, none]) (zsub_n (zsub_n (zsub_n zsub_0))) <|
          j_X12_joined_226z hX hE h
  rcases zif h with ⟨q25, h⟩ | ⟨q25, h⟩
  · refine z_tsIn (off := 131) 1 132 (47) hX dX12_joined_1 (zti 47 (by decide) q25) (by decide) (by decide) (by decide) rfl <|
      z_iload_n 132 hX dX12_joined_132 rfl <|
      z_if_ne 133 140 hX dX12_joined_133 rfl h (fun q26 h => ?_) (fun q26 h => ?_)
    · refine z_iload_n 140 hX dX12_joined_140 rfl <|
        z_iconst 141 hX dX12_joined_141 zkim1 <|
        z_icmp_ne 142 150 hX dX12_joined_142 rfl h (fun q27 h => ?_) (fun q27 h => ?_)
      · refine z_iload_n 150 hX dX12_joined_150 rfl <|
          z_iload_n 151 hX dX12_joined_151 rfl <|
          z_idiv 152 hX dX12_joined_152 h fun h =>
          z_endI 153 hE rfl h dX12_joined_153
      · refine z_iload_n 145 hX dX12_joined_145 rfl <|
          z_ineg 146 hX dX12_joined_146 <|
          z_goto 147 153 hX dX12_joined_147 rfl <|
          z_endI 153 hE rfl h dX12_joined_153
    · refine z_iconst 136 hX dX12_joined_136 zki0 <|
        z_goto 137 153 hX dX12_joined_137 rfl <|
        z_endI 153 hE rfl h dX12_joined_153
  rcases zif h with ⟨q28, h⟩ | ⟨q28, h⟩
  · refine z_tsIn (off := 217) 1 218 (48) hX dX12_joined_1 (zti 48 (by decide) q28) (by decide) (by decide) (by decide) rfl <|
      z_iload_n 218 hX dX12_joined_218 rfl <|
      z_if_ne 219 226 hX dX12_joined_219 rfl h (fun q29 h => ?_) (fun q29 h => ?_)
    · refine z_weak (L' := [none, none, none]) (zsub_n (zsub_n (zsub_n zsub_0))) <|
        j_X12_joined_226z hX hE h
    · refine z_iload_n 222 hX dX12_joined_222 rfl <|
        z_if_eq 223 230 hX dX12_joined_223 rfl h (fun q30 h => ?_) (fun q30 h => ?_)
      · refine z_iconst 230 hX dX12_joined_230 zki0 <|
          z_endI 231 hE rfl h dX12_joined_231
      · refine z_weak (L' := [none, none, none]) (zsub_n (zsub_n (zsub_n zsub_0))) <|
          j_X12_joined_226z hX hE h
  rcases zif h with ⟨q31, h⟩ | ⟨q31, h⟩
  · refine z_tsIn (off := 217) 1 218 (49) hX dX12_joined_1 (zti 49 (by decide) q31) (by decide) (by decide) (by decide) rfl <|
      z_iload_n 218 hX dX12_joined_218 rfl <|
      z_if_ne 219 226 hX dX12_joined_219 rfl h (fun q32 h => ?_) (fun q32 h => ?_)
    · refine z_weak (L' := [none, none, none]) (zsub_n (zsub_n (zsub_n zsub_0))) <|
        j_X12_joined_226z hX hE h
    · refine z_iload_n 222 hX dX12_joined_222 rfl <|
        z_if_eq 223 230 hX dX12_joined_223 rfl h (fun q33 h => ?_) (fun q33 h => ?_)
      · refine z_iconst 230 hX dX12_joined_230 zki0 <|
          z_endI 231 hE rfl h dX12_joined_231
      · refine z_weak (L' := [none, none, none]) (zsub_n (zsub_n (zsub_n zsub_0))) <|
          j_X12_joined_226z hX hE h
  rcases zif h with ⟨q34, h⟩ | ⟨q34, h⟩
  · refine z_tsIn (off := 217) 1 218 (50) hX dX12_joined_1 (zti 50 (by decide) q34) (by decide) (by decide) (by decide) rfl <|
      z_iload_n 218 hX dX12_joined_218 rfl <|
      z_if_ne 219 226 hX dX12_joined_219 rfl h (fun q35 h => ?_) (fun q35 h => ?_)
    · refine z_weak (L' := [none, none, none]) (zsub_n (zsub_n (zsub_n zsub_0))) <|
        j_X12_joined_226z hX hE h
    · refine z_iload_n 222 hX dX12_joined_222 rfl <|
        z_if_eq 223 230 hX dX12_joined_223 rfl h (fun q36 h => ?_) (fun q36 h => ?_)
      · refine z_iconst 230 hX dX12_joined_230 zki0 <|
          z_endI 231 hE rfl h dX12_joined_231
      · refine z_weak (L' := [none, none, none]) (zsub_n (zsub_n (zsub_n zsub_0))) <|
          j_X12_joined_226z hX hE h
  rcases zif h with ⟨q37, h⟩ | ⟨q37, h⟩
  · refine z_tsIn (off := 217) 1 218 (51) hX dX12_joined_1 (zti 51 (by decide) q37) (by decide) (by decide) (by decide) rfl <|
      z_iload_n 218 hX dX12_joined_218 rfl <|
      z_if_ne 219 226 hX dX12_joined_219 rfl h (fun q38 h => ?_) (fun q38 h => ?_)
    · refine z_weak (L' := [none, none, none]) (zsub_n (zsub_n (zsub_n zsub_0))) <|
        j_X12_joined_226z hX hE h
    · refine z_iload_n 222 hX dX12_joined_222 rfl <|
        z_if_eq 223 230 hX dX12_joined_223 rfl h (fun q39 h => ?_) (fun q39 h => ?_)
      · refine z_iconst 230 hX dX12_joined_230 zki0 <|
          z_endI 231 hE rfl h dX12_joined_231
      · refine z_weak (L' := [none, none, none]) (zsub_n (zsub_n (zsub_n zsub_0))) <|
          j_X12_joined_226z hX hE h
  rcases zif h with ⟨q40, h⟩ | ⟨q40, h⟩
  · refine z_tsIn (off := 217) 1 218 (52) hX dX12_joined_1 (zti 52 (by decide) q40) (by decide) (by decide) (by decide) rfl <|
      z_iload_n 218 hX dX12_joined_218 rfl <|
      z_if_ne 219 226 hX dX12_joined_219 rfl h (fun q41 h => ?_) (fun q41 h => ?_)
    · refine z_weak (L' := [none, none, none]) (zsub_n (zsub_n (zsub_n zsub_0))) <|
        j_X12_joined_226z hX hE h
    · refine z_iload_n 222 hX dX12_joined_222 rfl <|
        z_if_eq 223 230 hX dX12_joined_223 rfl h (fun q42 h => ?_) (fun q42 h => ?_)
      · refine z_iconst 230 hX dX12_joined_230 zki0 <|
          z_endI 231 hE rfl h dX12_joined_231
      · refine z_weak (L' := [none, none, none]) (zsub_n (zsub_n (zsub_n zsub_0))) <|
          j_X12_joined_226z hX hE h
  rcases zif h with ⟨q43, h⟩ | ⟨q43, h⟩
  · refine z_tsIn (off := 217) 1 218 (53) hX dX12_joined_1 (zti 53 (by decide) q43) (by decide) (by decide) (by decide) rfl <|
      z_iload_n 218 hX dX12_joined_218 rfl <|
      z_if_ne 219 226 hX dX12_joined_219 rfl h (fun q44 h => ?_) (fun q44 h => ?_)
    · refine z_weak (L' := [none, none, none]) (zsub_n (zsub_n (zsub_n zsub_0))) <|
        j_X12_joined_226z hX hE h
    · refine z_iload_n 222 hX dX12_joined_222 rfl <|
        z_if_eq 223 230 hX dX12_joined_223 rfl h (fun q45 h => ?_) (fun q45 h => ?_)
      · refine z_iconst 230 hX dX12_joined_230 zki0 <|
          z_endI 231 hE rfl h dX12_joined_231
      · refine z_weak (L' := [none, none, none]) (zsub_n (zsub_n (zsub_n zsub_0))) <|
          j_X12_joined_226z hX hE h
  rcases zif h with ⟨q46, h⟩ | ⟨q46, h⟩
  · refine z_tsIn (off := 217) 1 218 (54) hX dX12_joined_1 (zti 54 (by decide) q46) (by decide) (by decide) (by decide) rfl <|
      z_iload_n 218 hX dX12_joined_218 rfl <|
      z_if_ne 219 226 hX dX12_joined_219 rfl h (fun q47 h => ?_) (fun q47 h => ?_)
    · refine z_weak (L' := [none, none, none]) (zsub_n (zsub_n (zsub_n zsub_0))) <|
        j_X12_joined_226z hX hE h
    · refine z_iload_n 222 hX dX12_joined_222 rfl <|
        z_if_eq 223 230 hX dX12_joined_223 rfl h (fun q48 h => ?_) (fun q48 h => ?_)
      · refine z_iconst 230 hX dX12_joined_230 zki0 <|
          z_endI 231 hE rfl h dX12_joined_231
      · refine z_weak (L' := [none, none, none]) (zsub_n (zsub_n (zsub_n zsub_0))) <|
          j_X12_joined_226z hX hE h
  rcases zif h with ⟨q49, h⟩ | ⟨q49, h⟩
  · refine z_tsIn (off := 217) 1 218 (55) hX dX12_joined_1 (zti 55 (by decide) q49) (by decide) (by decide) (by decide) rfl <|
      z_iload_n 218 hX dX12_joined_218 rfl <|
      z_if_ne 219 226 hX dX12_joined_219 rfl h (fun q50 h => ?_) (fun q50 h => ?_)
    · refine z_weak (L' := [none, none, none]) (zsub_n (zsub_n (zsub_n zsub_0))) <|
        j_X12_joined_226z hX hE h
    · refine z_iload_n 222 hX dX12_joined_222 rfl <|
        z_if_eq 223 230 hX dX12_joined_223 rfl h (fun q51 h => ?_) (fun q51 h => ?_)
      · refine z_iconst 230 hX dX12_joined_230 zki0 <|
          z_endI 231 hE rfl h dX12_joined_231
      · refine z_weak (L' := [none, none, none]) (zsub_n (zsub_n (zsub_n zsub_0))) <|
          j_X12_joined_226z hX hE h
  rcases zif h with ⟨q52, h⟩ | ⟨q52, h⟩
  · refine z_tsIn (off := 217) 1 218 (56) hX dX12_joined_1 (zti 56 (by decide) q52) (by decide) (by decide) (by decide) rfl <|
      z_iload_n 218 hX dX12_joined_218 rfl <|
      z_if_ne 219 226 hX dX12_joined_219 rfl h (fun q53 h => ?_) (fun q53 h => ?_)
    · refine z_weak (L' := [none, none, none]) (zsub_n (zsub_n (zsub_n zsub_0))) <|
        j_X12_joined_226z hX hE h
    · refine z_iload_n 222 hX dX12_joined_222 rfl <|
        z_if_eq 223 230 hX dX12_joined_223 rfl h (fun q54 h => ?_) (fun q54 h => ?_)
      · refine z_iconst 230 hX dX12_joined_230 zki0 <|
          z_endI 231 hE rfl h dX12_joined_231
      · refine z_weak (L' := [none, none, none]) (zsub_n (zsub_n (zsub_n zsub_0))) <|
          j_X12_joined_226z hX hE h
  rcases zif h with ⟨q55, h⟩ | ⟨q55, h⟩
  · refine z_tsIn (off := 217) 1 218 (57) hX dX12_joined_1 (zti 57 (by decide) q55) (by decide) (by decide) (by decide) rfl <|
      z_iload_n 218 hX dX12_joined_218 rfl <|
      z_if_ne 219 226 hX dX12_joined_219 rfl h (fun q56 h => ?_) (fun q56 h => ?_)
    · refine z_weak (L' := [none, none, none]) (zsub_n (zsub_n (zsub_n zsub_0))) <|
        j_X12_joined_226z hX hE h
    · refine z_iload_n 222 hX dX12_joined_222 rfl <|
        z_if_eq 223 230 hX dX12_joined_223 rfl h (fun q57 h => ?_) (fun q57 h => ?_)
      · refine z_iconst 230 hX dX12_joined_230 zki0 <|
          z_endI 231 hE rfl h dX12_joined_231
      · refine z_weak (L' := [none, none, none]) (zsub_n (zsub_n (zsub_n zsub_0))) <|
          j_X12_joined_226z hX hE h
  rcases zif h with ⟨q58, h⟩ | ⟨q58, h⟩
  · refine z_tsIn (off := 217) 1 218 (58) hX dX12_joined_1 (zti 58 (by decide) q58) (by decide) (by decide) (by decide) rfl <|
      z_iload_n 218 hX dX12_joined_218 rfl <|
      z_if_ne 219 226 hX dX12_joined_219 rfl h (fun q59 h => ?_) (fun q59 h => ?_)
    · refine z_weak (L' := [none, none, none]) (zsub_n (zsub_n (zsub_n zsub_0))) <|
        j_X12_joined_226z hX hE h
    · refine z_iload_n 222 hX dX12_joined_222 rfl <|
        z_if_eq 223 230 hX dX12_joined_223 rfl h (fun q60 h => ?_) (fun q60 h => ?_)
      · refine z_iconst 230 hX dX12_joined_230 zki0 <|
          z_endI 231 hE rfl h dX12_joined_231
      · refine z_weak (L' := [none, none, none]) (zsub_n (zsub_n (zsub_n zsub_0))) <|
          j_X12_joined_226z hX hE h
  rcases zif h with ⟨q61, h⟩ | ⟨q61, h⟩
  · refine z_tsIn (off := 217) 1 218 (59) hX dX12_joined_1 (zti 59 (by decide) q61) (by decide) (by decide) (by decide) rfl <|
      z_iload_n 218 hX dX12_joined_218 rfl <|
      z_if_ne 219 226 hX dX12_joined_219 rfl h (fun q62 h => ?_) (fun q62 h => ?_)
    · refine z_weak (L' := [none, none, none]) (zsub_n (zsub_n (zsub_n zsub_0))) <|
        j_X12_joined_226z hX hE h
    · refine z_iload_n 222 hX dX12_joined_222 rfl <|
        z_if_eq 223 230 hX dX12_joined_223 rfl h (fun q63 h => ?_) (fun q63 h => ?_)
      · refine z_iconst 230 hX dX12_joined_230 zki0 <|
          z_endI 231 hE rfl h dX12_joined_231
      · refine z_weak (L' := [none, none, none]) (zsub_n (zsub_n (zsub_n zsub_0))) <|
          j_X12_joined_226z hX hE h
  rcases zif h with ⟨q64, h⟩ | ⟨q64, h⟩
  · refine z_tsIn (off := 170) 1 171 (60) hX dX12_joined_1 (zti 60 (by decide) q64) (by decide) (by decide) (by decide) rfl <|
      z_iload_n 171 hX dX12_joined_171 rfl <|
      z_iload_n 172 hX dX12_joined_172 rfl <|
      z_icmp_ge 173 180 hX dX12_joined_173 rfl h (fun q65 h => ?_) (fun q65 h => ?_)
    · refine z_iconst 180 hX dX12_joined_180 zki0 <|
        z_endI 181 hE rfl h dX12_joined_181
    · refine z_iconst 176 hX dX12_joined_176 zki1 <|
        z_goto 177 181 hX dX12_joined_177 rfl <|
        z_endI 181 hE rfl h dX12_joined_181
  rcases zif h with ⟨q66, h⟩ | ⟨q66, h⟩
  · refine z_tsIn (off := 192) 1 193 (61) hX dX12_joined_1 (zti 61 (by decide) q66) (by decide) (by decide) (by decide) rfl <|
      z_iload_n 193 hX dX12_joined_193 rfl <|
      z_iload_n 194 hX dX12_joined_194 rfl <|
      z_icmp_ne 195 202 hX dX12_joined_195 rfl h (fun q67 h => ?_) (fun q67 h => ?_)
    · refine z_iconst 202 hX dX12_joined_202 zki0 <|
        z_endI 203 hE rfl h dX12_joined_203
    · refine z_iconst 198 hX dX12_joined_198 zki1 <|
        z_goto 199 203 hX dX12_joined_199 rfl <|
        z_endI 203 hE rfl h dX12_joined_203
  rcases zif h with ⟨q68, h⟩ | ⟨q68, h⟩
  · refine z_tsIn (off := 181) 1 182 (62) hX dX12_joined_1 (zti 62 (by decide) q68) (by decide) (by decide) (by decide) rfl <|
      z_iload_n 182 hX dX12_joined_182 rfl <|
      z_iload_n 183 hX dX12_joined_183 rfl <|
      z_icmp_le 184 191 hX dX12_joined_184 rfl h (fun q69 h => ?_) (fun q69 h => ?_)
    · refine z_iconst 191 hX dX12_joined_191 zki0 <|
        z_endI 192 hE rfl h dX12_joined_192
    · refine z_iconst 187 hX dX12_joined_187 zki1 <|
        z_goto 188 192 hX dX12_joined_188 rfl <|
        z_endI 192 hE rfl h dX12_joined_192
  refine z_tsOut 1 218 hX dX12_joined_1 (by have e0 := zne 37 (by decide) q1; have e1 := zne 38 (by decide) q4; have e2 := zne 39 (by decide) q7; have e3 := zne 40 (by decide) q10; have e4 := zne 41 (by decide) q13; have e5 := zne 42 (by decide) q16; have e6 := zne 43 (by decide) q17; have e7 := zne 44 (by decide) q18; have e8 := zne 45 (by decide) q21; have e9 := zne 46 (by decide) q22; have e10 := zne 47 (by decide) q25; have e11 := zne 48 (by decide) q28; have e12 := zne 49 (by decide) q31; have e13 := zne 50 (by decide) q34; have e14 := zne 51 (by decide) q37; have e15 := zne 52 (by decide) q40; have e16 := zne 53 (by decide) q43; have e17 := zne 54 (by decide) q46; have e18 := zne 55 (by decide) q49; have e19 := zne 56 (by decide) q52; have e20 := zne 57 (by decide) q55; have e21 := zne 58 (by decide) q58; have e22 := zne 59 (by decide) q61; have e23 := zne 60 (by decide) q64; have e24 := zne 61 (by decide) q66; have e25 := zne 62 (by decide) q68; omega) rfl <|
    z_iload_n 218 hX dX12_joined_218 rfl <|
    z_if_ne 219 226 hX dX12_joined_219 rfl h (fun q70 h => ?_) (fun q70 h => ?_)
  · refine z_weak (L' := [none, none, none]) (zsub_n (zsub_n (zsub_n zsub_0))) <|
      j_X12_joined_226z hX hE h
  · refine z_iload_n 222 hX dX12_joined_222 rfl <|
      z_if_eq 223 230 hX dX12_joined_223 rfl h (fun q71 h => ?_) (fun q71 h => ?_)
    · refine z_iconst 230 hX dX12_joined_230 zki0 <|
        z_endI 231 hE rfl h dX12_joined_231
    · refine z_weak (L' := [none, none, none]) (zsub_n (zsub_n (zsub_n zsub_0))) <|
        j_X12_joined_226z hX hE h
def j_X12_worked_88 (rc : Int32 → Int32 → Int32 → zW → Option (Int32 × zW)) (K164 : zW → Option (Int32 × zW)) (a2 : Int32) (a3 : Int32) (a4 : Int32) (b1 : Int32) (b2 : Int32) (w : zW) : Option (Int32 × zW) :=
  zsto w 134 64 b1 b2 fun w1 =>
  zlet (a3 + nI 1) fun x1 =>
  zlet (a4 + nI 1) fun x2 =>
  rc a2 x1 x2 w1
theorem j_X12_worked_88z {rc : Int32 → Int32 → Int32 → zW → Option (Int32 × zW)} {K164 : zW → Option (Int32 × zW)} {G : zG} {X : zX} {w : zW} {re : Int32} {we : zW} {a2 : Int32} {a3 : Int32} {a4 : Int32} {b1 : Int32} {b2 : Int32} (hX : zOk G X cX12_worked 7 RX12 1) (hE : zEI G X cX12_worked .int re we) (hrc : ∀ (a2 : Int32) (a3 : Int32) (a4 : Int32) (w3 : zW) , rc a2 a3 a4 w3 = some (re, we) → zZ G X w3 14 [some (.ref (zα G 128)), none, some (.int a2), some (.int a3), some (.int a4), none, none] []) (hK164 : ∀ (w3 : zW) , K164 w3 = some (re, we) → zZ G X w3 164 [some (.ref (zα G 128)), none, none, none, none, none, none] [])  (h : j_X12_worked_88 rc K164 a2 a3 a4 b1 b2 w = some (re, we)) : zZ G X w 88 [some (.ref (zα G 128)), none, some (.int a2), some (.int a3), some (.int a4), none, none] [.int b2, .int b1, .ref (zα G 134)] := by
  rw [j_X12_worked_88] at h
  refine z_iast 88 hX dX12_worked_88 (rfl : shp 134 = (20, 64)) h fun w1 h =>
    z_iincG 89 (fun x1 => [some (.ref (zα G 128)), none, some (.int a2), some (.int x1), some (.int a4), none, none]) hX dX12_worked_89 rfl zki1 rfl (fun _ => rfl) h fun x1 h =>
    z_goto 92 158 hX dX12_worked_92 rfl <|
    z_iincG 158 (fun x2 => [some (.ref (zα G 128)), none, some (.int a2), some (.int x1), some (.int x2), none, none]) hX dX12_worked_158 rfl zki1 rfl (fun _ => rfl) h fun x2 h =>
    z_goto 161 14 hX dX12_worked_161 rfl <|
    hrc _ _ _ _ h
def j_X12_worked_66 (rc : Int32 → Int32 → Int32 → zW → Option (Int32 × zW)) (K164 : zW → Option (Int32 × zW)) (a2 : Int32) (a3 : Int32) (a4 : Int32) (a5 : Int32) (a6 : Int32) (w : zW) : Option (Int32 × zW) :=
  if a5 = nI 0 then
    j_X12_worked_88 rc K164 a2 a3 a4 a3 a6 w
  else
    zld w 133 128 a6 fun x2 =>
    j_X12_worked_88 rc K164 a2 a3 a4 a3 x2 w
theorem j_X12_worked_66z {rc : Int32 → Int32 → Int32 → zW → Option (Int32 × zW)} {K164 : zW → Option (Int32 × zW)} {G : zG} {X : zX} {w : zW} {re : Int32} {we : zW} {a2 : Int32} {a3 : Int32} {a4 : Int32} {a5 : Int32} {a6 : Int32} (hX : zOk G X cX12_worked 7 RX12 1) (hE : zEI G X cX12_worked .int re we) (hrc : ∀ (a2 : Int32) (a3 : Int32) (a4 : Int32) (w3 : zW) , rc a2 a3 a4 w3 = some (re, we) → zZ G X w3 14 [some (.ref (zα G 128)), none, some (.int a2), some (.int a3), some (.int a4), none, none] []) (hK164 : ∀ (w3 : zW) , K164 w3 = some (re, we) → zZ G X w3 164 [some (.ref (zα G 128)), none, none, none, none, none, none] [])  (h : j_X12_worked_66 rc K164 a2 a3 a4 a5 a6 w = some (re, we)) : zZ G X w 66 [some (.ref (zα G 128)), none, some (.int a2), some (.int a3), some (.int a4), some (.int a5), some (.int a6)] [] := by
  rw [j_X12_worked_66] at h
  refine z_aload_n 66 hX dX12_worked_66 rfl <|
    zgX12_25 67 hX dX12_worked_67 (rfl : shp 128 = (12, 0)) <|
    z_iload_n 70 hX dX12_worked_70 rfl <|
    z_iload 71 hX dX12_worked_71 rfl <|
    z_if_ne 73 81 hX dX12_worked_73 rfl h (fun q1 h => ?_) (fun q1 h => ?_)
  · refine z_aload_n 81 hX dX12_worked_81 rfl <|
      zgX12_22 82 hX dX12_worked_82 (rfl : shp 128 = (12, 0)) <|
      z_iload 85 hX dX12_worked_85 rfl <|
      z_iald 87 hX dX12_worked_87 (rfl : shp 133 = (20, 128)) h fun x2 _ h =>
      z_weak (L' := [some (.ref (zα G 128)), none, some (.int a2), some (.int a3), some (.int a4), none, none]) (zsub_s (zsub_n (zsub_s (zsub_s (zsub_s (zsub_n (zsub_n zsub_0))))))) <|
      j_X12_worked_88z hX hE hrc hK164 h
  · refine z_iload 76 hX dX12_worked_76 rfl <|
      z_goto 78 88 hX dX12_worked_78 rfl <|
      z_weak (L' := [some (.ref (zα G 128)), none, some (.int a2), some (.int a3), some (.int a4), none, none]) (zsub_s (zsub_n (zsub_s (zsub_s (zsub_s (zsub_n (zsub_n zsub_0))))))) <|
      j_X12_worked_88z hX hE hrc hK164 h
def j_X12_worked_124 (rc : Int32 → Int32 → Int32 → zW → Option (Int32 × zW)) (K164 : zW → Option (Int32 × zW)) (a2 : Int32) (a3 : Int32) (a4 : Int32) (b1 : Int32) (b2 : Int32) (w : zW) : Option (Int32 × zW) :=
  zsto w 134 64 b1 b2 fun w1 =>
  zlet (a4 + nI 1) fun x1 =>
  rc a2 a3 x1 w1
theorem j_X12_worked_124z {rc : Int32 → Int32 → Int32 → zW → Option (Int32 × zW)} {K164 : zW → Option (Int32 × zW)} {G : zG} {X : zX} {w : zW} {re : Int32} {we : zW} {a2 : Int32} {a3 : Int32} {a4 : Int32} {b1 : Int32} {b2 : Int32} (hX : zOk G X cX12_worked 7 RX12 1) (hE : zEI G X cX12_worked .int re we) (hrc : ∀ (a2 : Int32) (a3 : Int32) (a4 : Int32) (w3 : zW) , rc a2 a3 a4 w3 = some (re, we) → zZ G X w3 14 [some (.ref (zα G 128)), none, some (.int a2), some (.int a3), some (.int a4), none, none] []) (hK164 : ∀ (w3 : zW) , K164 w3 = some (re, we) → zZ G X w3 164 [some (.ref (zα G 128)), none, none, none, none, none, none] [])  (h : j_X12_worked_124 rc K164 a2 a3 a4 b1 b2 w = some (re, we)) : zZ G X w 124 [some (.ref (zα G 128)), none, some (.int a2), some (.int a3), some (.int a4), none, none] [.int b2, .int b1, .ref (zα G 134)] := by
  rw [j_X12_worked_124] at h
  refine z_iast 124 hX dX12_worked_124 (rfl : shp 134 = (20, 64)) h fun w1 h =>
    z_goto 125 158 hX dX12_worked_125 rfl <|
    z_iincG 158 (fun x1 => [some (.ref (zα G 128)), none, some (.int a2), some (.int a3), some (.int x1), none, none]) hX dX12_worked_158 rfl zki1 rfl (fun _ => rfl) h fun x1 h =>
    z_goto 161 14 hX dX12_worked_161 rfl <|
    hrc _ _ _ _ h
def l_X12_worked_14 (K164 : zW → Option (Int32 × zW)) : Nat → Int32 → Int32 → Int32 → zW → Option (Int32 × zW)
  | 0, _, _, _, _ => none
  | n + 1, a2, a3, a4, w =>
    zld w 129 628 a2 fun x1 =>
    if a4 < x1 then
      zld w 129 628 ((a2 + (nI 1)) + ((nI 2) * a4)) fun x3 =>
      zld w 129 628 ((a2 + (nI 2)) + ((nI 2) * a4)) fun x4 =>
      if x3 = nI 0 then
        j_X12_worked_66 (l_X12_worked_14 K164 n) K164 a2 a3 a4 x3 x4 w
      else
      if x3 = (nI 1) then
        j_X12_worked_66 (l_X12_worked_14 K164 n) K164 a2 a3 a4 x3 x4 w
      else
      if x3 = (nI 2) then
        zld w 134 64 (a3 - (nI 1)) fun x14 =>
        if x14 = nI 0 then
          j_X12_worked_124 (l_X12_worked_14 K164 n) K164 a2 a3 a4 (a3 - (nI 1)) (nI 1) w
        else
          j_X12_worked_124 (l_X12_worked_14 K164 n) K164 a2 a3 a4 (a3 - (nI 1)) (nI 0) w
      else
        zlet (a3 + mI 1) fun x8 =>
        zld w 134 64 (x8 - (nI 1)) fun x9 =>
        zld w 134 64 x8 fun x10 =>
        zb (f_X12_joined x4 x9 x10) fun x12 =>
        zsto w 134 64 (x8 - (nI 1)) x12 fun w1 =>
        zlet (a4 + nI 1) fun x13 =>
        (l_X12_worked_14 K164 n) a2 x8 x13 w1
    else
      K164 w
theorem l_X12_worked_14z {K164 : zW → Option (Int32 × zW)} {G : zG} {X : zX} {re : Int32} {we : zW} (hX : zOk G X cX12_worked 7 RX12 1) (hE : zEI G X cX12_worked .int re we) (hK164 : ∀ (w3 : zW) , K164 w3 = some (re, we) → zZ G X w3 164 [some (.ref (zα G 128)), none, none, none, none, none, none] []) : ∀ (n : Nat) (a2 : Int32) (a3 : Int32) (a4 : Int32) (w : zW) , l_X12_worked_14 K164 n a2 a3 a4 w = some (re, we) → zZ G X w 14 [some (.ref (zα G 128)), none, some (.int a2), some (.int a3), some (.int a4), none, none] [] := by
  intro n
  induction n with
  | zero =>
    intro a2 a3 a4 w  h
    rw [l_X12_worked_14.eq_1] at h
    cases h
  | succ n ih =>
    intro a2 a3 a4 w  h
    rw [l_X12_worked_14.eq_2] at h
    refine z_iload 14 hX dX12_worked_14 rfl <|
      z_aload_n 16 hX dX12_worked_16 rfl <|
      zgX12_7 17 hX dX12_worked_17 (rfl : shp 128 = (12, 0)) <|
      z_iload_n 20 hX dX12_worked_20 rfl <|
      z_iald 21 hX dX12_worked_21 (rfl : shp 129 = (20, 628)) h fun x1 _ h =>
      z_icmp_ge 22 164 hX dX12_worked_22 rfl h (fun q2 h => ?_) (fun q2 h => ?_)
    · refine z_weak (L' := [some (.ref (zα G 128)), none, none, none, none, none, none]) (zsub_s (zsub_n (zsub_n (zsub_n (zsub_n (zsub_n (zsub_n zsub_0))))))) <|
        hK164 _ h
    · refine z_aload_n 25 hX dX12_worked_25 rfl <|
        zgX12_7 26 hX dX12_worked_26 (rfl : shp 128 = (12, 0)) <|
        z_iload_n 29 hX dX12_worked_29 rfl <|
        z_iconst 30 hX dX12_worked_30 zki1 <|
        z_iadd 31 hX dX12_worked_31 <|
        z_iconst 32 hX dX12_worked_32 zki2 <|
        z_iload 33 hX dX12_worked_33 rfl <|
        z_imul 35 hX dX12_worked_35 <|
        z_iadd 36 hX dX12_worked_36 <|
        z_iald 37 hX dX12_worked_37 (rfl : shp 129 = (20, 628)) h fun x3 _ h =>
        z_istore 38 [some (.ref (zα G 128)), none, some (.int a2), some (.int a3), some (.int a4), some (.int x3), none] hX dX12_worked_38 (Nat.le_of_ble_eq_true rfl) rfl rfl <|
        z_aload_n 40 hX dX12_worked_40 rfl <|
        zgX12_7 41 hX dX12_worked_41 (rfl : shp 128 = (12, 0)) <|
        z_iload_n 44 hX dX12_worked_44 rfl <|
        z_iconst 45 hX dX12_worked_45 zki2 <|
        z_iadd 46 hX dX12_worked_46 <|
        z_iconst 47 hX dX12_worked_47 zki2 <|
        z_iload 48 hX dX12_worked_48 rfl <|
        z_imul 50 hX dX12_worked_50 <|
        z_iadd 51 hX dX12_worked_51 <|
        z_iald 52 hX dX12_worked_52 (rfl : shp 129 = (20, 628)) h fun x4 _ h =>
        z_istore 53 [some (.ref (zα G 128)), none, some (.int a2), some (.int a3), some (.int a4), some (.int x3), some (.int x4)] hX dX12_worked_53 (Nat.le_of_ble_eq_true rfl) rfl rfl <|
        z_iload 55 hX dX12_worked_55 rfl <|
        z_if_eq 57 66 hX dX12_worked_57 rfl h (fun q5 h => ?_) (fun q5 h => ?_)
      · refine j_X12_worked_66z hX hE ih hK164 h
      · refine z_iload 60 hX dX12_worked_60 rfl <|
          z_iconst 62 hX dX12_worked_62 zki1 <|
          z_icmp_ne 63 95 hX dX12_worked_63 rfl h (fun q6 h => ?_) (fun q6 h => ?_)
        · refine z_iload 95 hX dX12_worked_95 rfl <|
            z_iconst 97 hX dX12_worked_97 zki2 <|
            z_icmp_ne 98 128 hX dX12_worked_98 rfl h (fun q7 h => ?_) (fun q7 h => ?_)
          · refine z_iincG 128 (fun x8 => [some (.ref (zα G 128)), none, some (.int a2), some (.int x8), some (.int a4), some (.int x3), some (.int x4)]) hX dX12_worked_128 rfl zkim1 rfl (fun _ => rfl) h fun x8 h =>
              z_aload_n 131 hX dX12_worked_131 rfl <|
              zgX12_25 132 hX dX12_worked_132 (rfl : shp 128 = (12, 0)) <|
              z_iload_n 135 hX dX12_worked_135 rfl <|
              z_iconst 136 hX dX12_worked_136 zki1 <|
              z_isub 137 hX dX12_worked_137 <|
              z_iload 138 hX dX12_worked_138 rfl <|
              z_aload_n 140 hX dX12_worked_140 rfl <|
              zgX12_25 141 hX dX12_worked_141 (rfl : shp 128 = (12, 0)) <|
              z_iload_n 144 hX dX12_worked_144 rfl <|
              z_iconst 145 hX dX12_worked_145 zki1 <|
              z_isub 146 hX dX12_worked_146 <|
              z_iald 147 hX dX12_worked_147 (rfl : shp 134 = (20, 64)) h fun x9 _ h =>
              z_aload_n 148 hX dX12_worked_148 rfl <|
              zgX12_25 149 hX dX12_worked_149 (rfl : shp 128 = (12, 0)) <|
              z_iload_n 152 hX dX12_worked_152 rfl <|
              z_iald 153 hX dX12_worked_153 (rfl : shp 134 = (20, 64)) h fun x10 _ h =>
              zb1 h fun x12 r11 h => zcX12_120 154 [.int x4, .int x9, .int x10] [.int (x8 - (nI 1)), .ref (zα G 134)] hX dX12_worked_154 (c_X12_joined (zgd0 hX) r11) rfl rfl rfl (Nat.le_of_ble_eq_true rfl) (Nat.le_of_ble_eq_true rfl) <|
              z_iast 157 hX dX12_worked_157 (rfl : shp 134 = (20, 64)) h fun w1 h =>
              z_iincG 158 (fun x13 => [some (.ref (zα G 128)), none, some (.int a2), some (.int x8), some (.int x13), some (.int x3), some (.int x4)]) hX dX12_worked_158 rfl zki1 rfl (fun _ => rfl) h fun x13 h =>
              z_goto 161 14 hX dX12_worked_161 rfl <|
              z_weak (L' := [some (.ref (zα G 128)), none, some (.int a2), some (.int x8), some (.int x13), none, none]) (zsub_s (zsub_n (zsub_s (zsub_s (zsub_s (zsub_n (zsub_n zsub_0))))))) <|
              ih _ _ _ _ h
          · refine z_aload_n 101 hX dX12_worked_101 rfl <|
              zgX12_25 102 hX dX12_worked_102 (rfl : shp 128 = (12, 0)) <|
              z_iload_n 105 hX dX12_worked_105 rfl <|
              z_iconst 106 hX dX12_worked_106 zki1 <|
              z_isub 107 hX dX12_worked_107 <|
              z_aload_n 108 hX dX12_worked_108 rfl <|
              zgX12_25 109 hX dX12_worked_109 (rfl : shp 128 = (12, 0)) <|
              z_iload_n 112 hX dX12_worked_112 rfl <|
              z_iconst 113 hX dX12_worked_113 zki1 <|
              z_isub 114 hX dX12_worked_114 <|
              z_iald 115 hX dX12_worked_115 (rfl : shp 134 = (20, 64)) h fun x14 _ h =>
              z_if_ne 116 123 hX dX12_worked_116 rfl h (fun q15 h => ?_) (fun q15 h => ?_)
            · refine z_iconst 123 hX dX12_worked_123 zki0 <|
                z_weak (L' := [some (.ref (zα G 128)), none, some (.int a2), some (.int a3), some (.int a4), none, none]) (zsub_s (zsub_n (zsub_s (zsub_s (zsub_s (zsub_n (zsub_n zsub_0))))))) <|
                j_X12_worked_124z hX hE ih hK164 h
            · refine z_iconst 119 hX dX12_worked_119 zki1 <|
                z_goto 120 124 hX dX12_worked_120 rfl <|
                z_weak (L' := [some (.ref (zα G 128)), none, some (.int a2), some (.int a3), some (.int a4), none, none]) (zsub_s (zsub_n (zsub_s (zsub_s (zsub_s (zsub_n (zsub_n zsub_0))))))) <|
                j_X12_worked_124z hX hE ih hK164 h
        · refine j_X12_worked_66z hX hE ih hK164 h
def f_X12_worked (a1 : Int32) (w : zW) : Option (Int32 × zW) :=
  zlet ((nI 294) + ((nI 125) * a1)) fun x1 =>
  l_X12_worked_14 (fun w11 =>
    some (w11 134 0, w11)) zfuel x1 (nI 0) (nI 0) w
theorem c_X12_worked {G : zG} {l : Launch} (hG : zgood G) {w : zW} {re : Int32} {we : zW} {a1 : Int32}  (h : f_X12_worked a1 w = some (re, we)) : zMet G l yX12_worked cX12_worked 7 (some .int) 1 [.ref (zα G 128), .int a1] w (some (.int re)) we := by
  refine zMet_of (L0 := [some (.ref (zα G 128)), some (.int a1), none, none, none, none, none]) hG zplX12 (Nat.le_of_ble_eq_true rfl) rfl rfl (fun X hl hX hEI hEV hEA => ?_)
  subst hl
  have hX : zOk G X cX12_worked 7 RX12 1 := hX
  have hE := hEI _ _ rfl rfl
  rw [f_X12_worked] at h
  refine z_sipush 0 hX dX12_worked_0 zks294 <|
    z_bipush 3 hX dX12_worked_3 zkb125 <|
    z_iload_n 5 hX dX12_worked_5 rfl <|
    z_imul 6 hX dX12_worked_6 <|
    z_iadd 7 hX dX12_worked_7 <|
    z_top h fun x1 h =>
    z_istore_n 8 [some (.ref (zα G 128)), some (.int a1), some (.int x1), none, none, none, none] hX dX12_worked_8 (Nat.le_of_ble_eq_true rfl) rfl rfl <|
    z_iconst 9 hX dX12_worked_9 zki0 <|
    z_istore_n 10 [some (.ref (zα G 128)), some (.int a1), some (.int x1), some (.int (nI 0)), none, none, none] hX dX12_worked_10 (Nat.le_of_ble_eq_true rfl) rfl rfl <|
    z_iconst 11 hX dX12_worked_11 zki0 <|
    z_istore 12 [some (.ref (zα G 128)), some (.int a1), some (.int x1), some (.int (nI 0)), some (.int (nI 0)), none, none] hX dX12_worked_12 (Nat.le_of_ble_eq_true rfl) rfl rfl <|
    z_weak (L' := [some (.ref (zα G 128)), none, some (.int x1), some (.int (nI 0)), some (.int (nI 0)), none, none]) (zsub_s (zsub_n (zsub_s (zsub_s (zsub_s (zsub_n (zsub_n zsub_0))))))) <|
    l_X12_worked_14z hX hE (fun w11 h => ?_) _ _ _ _ _ h
  · refine z_aload_n 164 hX dX12_worked_164 rfl <|
      zgX12_25 165 hX dX12_worked_165 (rfl : shp 128 = (12, 0)) <|
      z_iconst 168 hX dX12_worked_168 zki0 <|
      z_ialdc (j := 0) 169 hX dX12_worked_169 (rfl : shp 134 = (20, 64)) (zink 0 64 (by decide) (by decide)) (nI_clamp (by decide)) <|
      z_endI2 170 hE rfl h dX12_worked_170
def l_X12_takes_2 (K62 : zW → Option zW) : Nat → Int32 → Int32 → zW → Option zW
  | 0, _, _, _ => none
  | n + 1, a1, a2, w =>
    zb (f_X12_its a1 (nI 2) w) fun x2 =>
    if a2 < x2 then
      zb (f_X12_at a1 a2) fun x5 =>
      zld w 129 628 x5 fun x6 =>
      if nI 0 < x6 then
        zb (f_X12_at a1 a2) fun x10 =>
        zld w 129 628 x10 fun x11 =>
        zsto w 135 48 (w 128 12) x11 fun w1 =>
        zlet (zupd w1 128 12 ((w1 128 12) + (nI 1))) fun w2 =>
        zlet (a2 + nI 1) fun x12 =>
        (l_X12_takes_2 K62 n) a1 x12 w2
      else
        zlet (a2 + nI 1) fun x8 =>
        (l_X12_takes_2 K62 n) a1 x8 w
    else
      K62 w
theorem l_X12_takes_2z {K62 : zW → Option zW} {G : zG} {X : zX} {we : zW} (hX : zOk G X cX12_takes 3 RX12 1) (hE : zEV G X cX12_takes we) (hK62 : ∀ (w3 : zW) , K62 w3 = some we → zZ G X w3 62 [none, none, none] []) : ∀ (n : Nat) (a1 : Int32) (a2 : Int32) (w : zW) , l_X12_takes_2 K62 n a1 a2 w = some we → zZ G X w 2 [some (.ref (zα G 128)), some (.int a1), some (.int a2)] [] := by
  intro n
  induction n with
  | zero =>
    intro a1 a2 w  h
    rw [l_X12_takes_2.eq_1] at h
    cases h
  | succ n ih =>
    intro a1 a2 w  h
    rw [l_X12_takes_2.eq_2] at h
    refine z_iload_n 2 hX dX12_takes_2 rfl <|
      z_aload_n 3 hX dX12_takes_3 rfl <|
      z_iload_n 4 hX dX12_takes_4 rfl <|
      z_iconst 5 hX dX12_takes_5 zki2 <|
      zb1 h fun x2 r1 h => zcX12_60 6 [.int a1, .int (nI 2)] [.int a2] hX dX12_takes_6 (c_X12_its (zgd0 hX) r1) (rfl : shp 128 = (12, 0)) rfl rfl rfl (Nat.le_of_ble_eq_true rfl) (Nat.le_of_ble_eq_true rfl) <|
      z_icmp_ge 9 62 hX dX12_takes_9 rfl h (fun q3 h => ?_) (fun q3 h => ?_)
    · refine z_weak (L' := [none, none, none]) (zsub_n (zsub_n (zsub_n zsub_0))) <|
        hK62 _ h
    · refine z_aload_n 12 hX dX12_takes_12 rfl <|
        zgX12_7 13 hX dX12_takes_13 (rfl : shp 128 = (12, 0)) <|
        z_aload_n 16 hX dX12_takes_16 rfl <|
        z_iload_n 17 hX dX12_takes_17 rfl <|
        z_iload_n 18 hX dX12_takes_18 rfl <|
        zb1 h fun x5 r4 h => zcX12_124 19 [.int a1, .int a2] [.ref (zα G 129)] hX dX12_takes_19 (c_X12_at (zgd0 hX) r4) (rfl : shp 128 = (12, 0)) rfl rfl rfl (Nat.le_of_ble_eq_true rfl) (Nat.le_of_ble_eq_true rfl) <|
        z_iald 22 hX dX12_takes_22 (rfl : shp 129 = (20, 628)) h fun x6 _ h =>
        z_if_le 23 56 hX dX12_takes_23 rfl h (fun q7 h => ?_) (fun q7 h => ?_)
      · refine z_iincG 56 (fun x8 => [some (.ref (zα G 128)), some (.int a1), some (.int x8)]) hX dX12_takes_56 rfl zki1 rfl (fun _ => rfl) h fun x8 h =>
          z_goto 59 2 hX dX12_takes_59 rfl <|
          ih _ _ _ h
      · refine z_aload_n 26 hX dX12_takes_26 rfl <|
          zgX12_28 27 hX dX12_takes_27 (rfl : shp 128 = (12, 0)) <|
          z_aload_n 30 hX dX12_takes_30 rfl <|
          zgX12_126 31 hX dX12_takes_31 (rfl : shp 128 = (12, 0)) <|
          z_aload_n 34 hX dX12_takes_34 rfl <|
          zgX12_7 35 hX dX12_takes_35 (rfl : shp 128 = (12, 0)) <|
          z_aload_n 38 hX dX12_takes_38 rfl <|
          z_iload_n 39 hX dX12_takes_39 rfl <|
          z_iload_n 40 hX dX12_takes_40 rfl <|
          zb1 h fun x10 r9 h => zcX12_124 41 [.int a1, .int a2] [.ref (zα G 129), .int (w 128 12), .ref (zα G 135)] hX dX12_takes_41 (c_X12_at (zgd0 hX) r9) (rfl : shp 128 = (12, 0)) rfl rfl rfl (Nat.le_of_ble_eq_true rfl) (Nat.le_of_ble_eq_true rfl) <|
          z_iald 44 hX dX12_takes_44 (rfl : shp 129 = (20, 628)) h fun x11 _ h =>
          z_iast 45 hX dX12_takes_45 (rfl : shp 135 = (20, 48)) h fun w1 h =>
          z_aload_n 46 hX dX12_takes_46 rfl <|
          z_dup 47 hX dX12_takes_47 rfl <|
          zgX12_126 48 hX dX12_takes_48 (rfl : shp 128 = (12, 0)) <|
          z_iconst 51 hX dX12_takes_51 zki1 <|
          z_iadd 52 hX dX12_takes_52 <|
          zpX12_126 53 hX dX12_takes_53 (rfl : shp 128 = (12, 0)) <|
          z_w h fun w2 h =>
          z_iincG 56 (fun x12 => [some (.ref (zα G 128)), some (.int a1), some (.int x12)]) hX dX12_takes_56 rfl zki1 rfl (fun _ => rfl) h fun x12 h =>
          z_goto 59 2 hX dX12_takes_59 rfl <|
          ih _ _ _ h
def f_X12_takes (a1 : Int32) (w : zW) : Option zW :=
  l_X12_takes_2 (fun w11 =>
    some w11) zfuel a1 (nI 0) w
theorem c_X12_takes {G : zG} {l : Launch} (hG : zgood G) {w : zW} {we : zW} {a1 : Int32}  (h : f_X12_takes a1 w = some we) : zMet G l yX12_takes cX12_takes 3 none 1 [.ref (zα G 128), .int a1] w none we := by
  refine zMet_of (L0 := [some (.ref (zα G 128)), some (.int a1), none]) hG zplX12 (Nat.le_of_ble_eq_true rfl) rfl rfl (fun X hl hX hEI hEV hEA => ?_)
  subst hl
  have hX : zOk G X cX12_takes 3 RX12 1 := hX
  have hE := hEV rfl rfl
  rw [f_X12_takes] at h
  refine z_iconst 0 hX dX12_takes_0 zki0 <|
    z_istore_n 1 [some (.ref (zα G 128)), some (.int a1), some (.int (nI 0))] hX dX12_takes_1 (Nat.le_of_ble_eq_true rfl) rfl rfl <|
    l_X12_takes_2z hX hE (fun w11 h => ?_) _ _ _ _ h
  · refine z_endV 62 hE h dX12_takes_62
def l_X12_turns_9 (K49 : zW → Option zW) : Nat → Int32 → Int32 → zW → Option zW
  | 0, _, _, _ => none
  | n + 1, a1, a2, w =>
    if a1 < a2 then
      zld w 135 48 a1 fun x2 =>
      zld w 135 48 a2 fun x3 =>
      zsto w 135 48 a1 x3 fun w1 =>
      zsto w1 135 48 a2 x2 fun w2 =>
      zlet (a1 + nI 1) fun x4 =>
      zlet (a2 + mI 1) fun x5 =>
      (l_X12_turns_9 K49 n) x4 x5 w2
    else
      K49 w
theorem l_X12_turns_9z {K49 : zW → Option zW} {G : zG} {X : zX} {we : zW} (hX : zOk G X cX12_turns 4 RX12 0) (hE : zEV G X cX12_turns we) (hK49 : ∀ (w3 : zW) , K49 w3 = some we → zZ G X w3 49 [none, none, none, none] []) : ∀ (n : Nat) (a1 : Int32) (a2 : Int32) (w : zW) , l_X12_turns_9 K49 n a1 a2 w = some we → zZ G X w 9 [some (.ref (zα G 128)), some (.int a1), some (.int a2), none] [] := by
  intro n
  induction n with
  | zero =>
    intro a1 a2 w  h
    rw [l_X12_turns_9.eq_1] at h
    cases h
  | succ n ih =>
    intro a1 a2 w  h
    rw [l_X12_turns_9.eq_2] at h
    refine z_iload_n 9 hX dX12_turns_9 rfl <|
      z_iload_n 10 hX dX12_turns_10 rfl <|
      z_icmp_ge 11 49 hX dX12_turns_11 rfl h (fun q1 h => ?_) (fun q1 h => ?_)
    · refine z_weak (L' := [none, none, none, none]) (zsub_n (zsub_n (zsub_n (zsub_n zsub_0)))) <|
        hK49 _ h
    · refine z_aload_n 14 hX dX12_turns_14 rfl <|
        zgX12_28 15 hX dX12_turns_15 (rfl : shp 128 = (12, 0)) <|
        z_iload_n 18 hX dX12_turns_18 rfl <|
        z_iald 19 hX dX12_turns_19 (rfl : shp 135 = (20, 48)) h fun x2 _ h =>
        z_istore_n 20 [some (.ref (zα G 128)), some (.int a1), some (.int a2), some (.int x2)] hX dX12_turns_20 (Nat.le_of_ble_eq_true rfl) rfl rfl <|
        z_aload_n 21 hX dX12_turns_21 rfl <|
        zgX12_28 22 hX dX12_turns_22 (rfl : shp 128 = (12, 0)) <|
        z_iload_n 25 hX dX12_turns_25 rfl <|
        z_aload_n 26 hX dX12_turns_26 rfl <|
        zgX12_28 27 hX dX12_turns_27 (rfl : shp 128 = (12, 0)) <|
        z_iload_n 30 hX dX12_turns_30 rfl <|
        z_iald 31 hX dX12_turns_31 (rfl : shp 135 = (20, 48)) h fun x3 _ h =>
        z_iast 32 hX dX12_turns_32 (rfl : shp 135 = (20, 48)) h fun w1 h =>
        z_aload_n 33 hX dX12_turns_33 rfl <|
        zgX12_28 34 hX dX12_turns_34 (rfl : shp 128 = (12, 0)) <|
        z_iload_n 37 hX dX12_turns_37 rfl <|
        z_iload_n 38 hX dX12_turns_38 rfl <|
        z_iast 39 hX dX12_turns_39 (rfl : shp 135 = (20, 48)) h fun w2 h =>
        z_iincG 40 (fun x4 => [some (.ref (zα G 128)), some (.int x4), some (.int a2), some (.int x2)]) hX dX12_turns_40 rfl zki1 rfl (fun _ => rfl) h fun x4 h =>
        z_iincG 43 (fun x5 => [some (.ref (zα G 128)), some (.int x4), some (.int x5), some (.int x2)]) hX dX12_turns_43 rfl zkim1 rfl (fun _ => rfl) h fun x5 h =>
        z_goto 46 9 hX dX12_turns_46 rfl <|
        z_weak (L' := [some (.ref (zα G 128)), some (.int x4), some (.int x5), none]) (zsub_s (zsub_s (zsub_s (zsub_n zsub_0)))) <|
        ih _ _ _ h
def f_X12_turns  (w : zW) : Option zW :=
  zlet ((w 128 12) - (nI 1)) fun x1 =>
  l_X12_turns_9 (fun w11 =>
    some w11) zfuel (nI 0) x1 w
theorem c_X12_turns {G : zG} {l : Launch} (hG : zgood G) {w : zW} {we : zW}   (h : f_X12_turns w = some we) : zMet G l yX12_turns cX12_turns 4 none 0 [.ref (zα G 128)] w none we := by
  refine zMet_of (L0 := [some (.ref (zα G 128)), none, none, none]) hG zplX12 (Nat.le_of_ble_eq_true rfl) rfl rfl (fun X hl hX hEI hEV hEA => ?_)
  subst hl
  have hX : zOk G X cX12_turns 4 RX12 0 := hX
  have hE := hEV rfl rfl
  rw [f_X12_turns] at h
  refine z_iconst 0 hX dX12_turns_0 zki0 <|
    z_istore_n 1 [some (.ref (zα G 128)), some (.int (nI 0)), none, none] hX dX12_turns_1 (Nat.le_of_ble_eq_true rfl) rfl rfl <|
    z_aload_n 2 hX dX12_turns_2 rfl <|
    zgX12_126 3 hX dX12_turns_3 (rfl : shp 128 = (12, 0)) <|
    z_iconst 6 hX dX12_turns_6 zki1 <|
    z_isub 7 hX dX12_turns_7 <|
    z_top h fun x1 h =>
    z_istore_n 8 [some (.ref (zα G 128)), some (.int (nI 0)), some (.int x1), none] hX dX12_turns_8 (Nat.le_of_ble_eq_true rfl) rfl rfl <|
    l_X12_turns_9z hX hE (fun w11 h => ?_) _ _ _ _ h
  · refine z_endV 49 hE h dX12_turns_49
def j_X12_reads_243 (rc : Int32 → Int32 → Int32 → zW → Option zW) (K250 : zW → Option zW) (a2 : Int32) (a3 : Int32) (a4 : Int32) (b1 : Int32) (b2 : Int32) (w : zW) : Option zW :=
  zsto w 135 48 b1 b2 fun w1 =>
  zlet (a4 + nI 1) fun x1 =>
  rc a2 a3 x1 w1
theorem j_X12_reads_243z {rc : Int32 → Int32 → Int32 → zW → Option zW} {K250 : zW → Option zW} {G : zG} {X : zX} {w : zW} {we : zW} {a2 : Int32} {a3 : Int32} {a4 : Int32} {b1 : Int32} {b2 : Int32} (hX : zOk G X cX12_reads 6 RX12 2) (hE : zEV G X cX12_reads we) (hrc : ∀ (a2 : Int32) (a3 : Int32) (a4 : Int32) (w3 : zW) , rc a2 a3 a4 w3 = some we → zZ G X w3 129 [some (.ref (zα G 128)), none, some (.int a2), some (.int a3), some (.int a4), none] []) (hK250 : ∀ (w3 : zW) , K250 w3 = some we → zZ G X w3 250 [none, none, none, none, none, none] [])  (h : j_X12_reads_243 rc K250 a2 a3 a4 b1 b2 w = some we) : zZ G X w 243 [some (.ref (zα G 128)), none, some (.int a2), some (.int a3), some (.int a4), none] [.int b2, .int b1, .ref (zα G 135)] := by
  rw [j_X12_reads_243] at h
  refine z_iast 243 hX dX12_reads_243 (rfl : shp 135 = (20, 48)) h fun w1 h =>
    z_iincG 244 (fun x1 => [some (.ref (zα G 128)), none, some (.int a2), some (.int a3), some (.int x1), none]) hX dX12_reads_244 rfl zki1 rfl (fun _ => rfl) h fun x1 h =>
    z_goto 247 129 hX dX12_reads_247 rfl <|
    hrc _ _ _ _ h
def j_X12_reads_160 (rc : Int32 → Int32 → Int32 → zW → Option zW) (K250 : zW → Option zW) (a2 : Int32) (a3 : Int32) (a4 : Int32) (w : zW) : Option zW :=
  if a2 = (nI 6) then
    zb (f_X12_hasText (nI 0) w) fun x4 =>
    if x4 = nI 0 then
      zlet (a4 + nI 1) fun x6 =>
      rc a2 a3 x6 w
    else
      zld w 135 48 a4 fun x7 =>
      zlet (zupd w 133 108 x7) fun w1 =>
      zlet (zupd w1 133 105 a4) fun w2 =>
      zlet (zupd w2 133 110 (w2 128 12)) fun w3 =>
      zlet (zupd w3 133 109 a3) fun w4 =>
      zb2 (f_X12_worked (nI 0) w4) fun x9 w5 =>
      zb (f_X12_isLetter x9) fun x11 =>
      if x11 = nI 0 then
        j_X12_reads_243 rc K250 a2 a3 a4 a4 (nI 1) w5
      else
        j_X12_reads_243 rc K250 a2 a3 a4 a4 x9 w5
  else
    zlet (a4 + nI 1) fun x2 =>
    rc a2 a3 x2 w
theorem j_X12_reads_160z {rc : Int32 → Int32 → Int32 → zW → Option zW} {K250 : zW → Option zW} {G : zG} {X : zX} {w : zW} {we : zW} {a2 : Int32} {a3 : Int32} {a4 : Int32} (hX : zOk G X cX12_reads 6 RX12 2) (hE : zEV G X cX12_reads we) (hrc : ∀ (a2 : Int32) (a3 : Int32) (a4 : Int32) (w3 : zW) , rc a2 a3 a4 w3 = some we → zZ G X w3 129 [some (.ref (zα G 128)), none, some (.int a2), some (.int a3), some (.int a4), none] []) (hK250 : ∀ (w3 : zW) , K250 w3 = some we → zZ G X w3 250 [none, none, none, none, none, none] [])  (h : j_X12_reads_160 rc K250 a2 a3 a4 w = some we) : zZ G X w 160 [some (.ref (zα G 128)), none, some (.int a2), some (.int a3), some (.int a4), none] [] := by
  rw [j_X12_reads_160] at h
  refine z_iload_n 160 hX dX12_reads_160 rfl <|
    z_bipush 161 hX dX12_reads_161 zkb6 <|
    z_icmp_ne 163 244 hX dX12_reads_163 rfl h (fun q1 h => ?_) (fun q1 h => ?_)
  · refine z_iincG 244 (fun x2 => [some (.ref (zα G 128)), none, some (.int a2), some (.int a3), some (.int x2), none]) hX dX12_reads_244 rfl zki1 rfl (fun _ => rfl) h fun x2 h =>
      z_goto 247 129 hX dX12_reads_247 rfl <|
      hrc _ _ _ _ h
  · refine z_aload_n 166 hX dX12_reads_166 rfl <|
      z_iconst 167 hX dX12_reads_167 zki0 <|
      zb1 h fun x4 r3 h => zcX12_117 168 [.int (nI 0)] [] hX dX12_reads_168 (c_X12_hasText (zgd0 hX) r3) (rfl : shp 128 = (12, 0)) rfl rfl rfl (Nat.le_of_ble_eq_true rfl) (Nat.le_of_ble_eq_true rfl) <|
      z_if_eq 171 244 hX dX12_reads_171 rfl h (fun q5 h => ?_) (fun q5 h => ?_)
    · refine z_iincG 244 (fun x6 => [some (.ref (zα G 128)), none, some (.int a2), some (.int a3), some (.int x6), none]) hX dX12_reads_244 rfl zki1 rfl (fun _ => rfl) h fun x6 h =>
        z_goto 247 129 hX dX12_reads_247 rfl <|
        hrc _ _ _ _ h
    · refine z_aload_n 174 hX dX12_reads_174 rfl <|
        zgX12_22 175 hX dX12_reads_175 (rfl : shp 128 = (12, 0)) <|
        z_bipush 178 hX dX12_reads_178 zkb108 <|
        z_aload_n 180 hX dX12_reads_180 rfl <|
        zgX12_28 181 hX dX12_reads_181 (rfl : shp 128 = (12, 0)) <|
        z_iload 184 hX dX12_reads_184 rfl <|
        z_iald 186 hX dX12_reads_186 (rfl : shp 135 = (20, 48)) h fun x7 _ h =>
        z_iastc (j := 108) 187 hX dX12_reads_187 (rfl : shp 133 = (20, 128)) (zink 108 128 (by decide) (by decide)) (nI_clamp (by decide)) <|
        z_w h fun w1 h =>
        z_aload_n 188 hX dX12_reads_188 rfl <|
        zgX12_22 189 hX dX12_reads_189 (rfl : shp 128 = (12, 0)) <|
        z_bipush 192 hX dX12_reads_192 zkb105 <|
        z_iload 194 hX dX12_reads_194 rfl <|
        z_iastc (j := 105) 196 hX dX12_reads_196 (rfl : shp 133 = (20, 128)) (zink 105 128 (by decide) (by decide)) (nI_clamp (by decide)) <|
        z_w h fun w2 h =>
        z_aload_n 197 hX dX12_reads_197 rfl <|
        zgX12_22 198 hX dX12_reads_198 (rfl : shp 128 = (12, 0)) <|
        z_bipush 201 hX dX12_reads_201 zkb110 <|
        z_aload_n 203 hX dX12_reads_203 rfl <|
        zgX12_126 204 hX dX12_reads_204 (rfl : shp 128 = (12, 0)) <|
        z_iastc (j := 110) 207 hX dX12_reads_207 (rfl : shp 133 = (20, 128)) (zink 110 128 (by decide) (by decide)) (nI_clamp (by decide)) <|
        z_w h fun w3 h =>
        z_aload_n 208 hX dX12_reads_208 rfl <|
        zgX12_22 209 hX dX12_reads_209 (rfl : shp 128 = (12, 0)) <|
        z_bipush 212 hX dX12_reads_212 zkb109 <|
        z_iload_n 214 hX dX12_reads_214 rfl <|
        z_iastc (j := 109) 215 hX dX12_reads_215 (rfl : shp 133 = (20, 128)) (zink 109 128 (by decide) (by decide)) (nI_clamp (by decide)) <|
        z_w h fun w4 h =>
        z_aload_n 216 hX dX12_reads_216 rfl <|
        z_iconst 217 hX dX12_reads_217 zki0 <|
        zb12 h fun x9 w5 r8 h => zcX12_139 218 [.int (nI 0)] [] hX dX12_reads_218 (c_X12_worked (zgd0 hX) r8) (rfl : shp 128 = (12, 0)) rfl rfl rfl (Nat.le_of_ble_eq_true rfl) (Nat.le_of_ble_eq_true rfl) <|
        z_istore 221 [some (.ref (zα G 128)), none, some (.int a2), some (.int a3), some (.int a4), some (.int x9)] hX dX12_reads_221 (Nat.le_of_ble_eq_true rfl) rfl rfl <|
        z_aload_n 223 hX dX12_reads_223 rfl <|
        zgX12_28 224 hX dX12_reads_224 (rfl : shp 128 = (12, 0)) <|
        z_iload 227 hX dX12_reads_227 rfl <|
        z_iload 229 hX dX12_reads_229 rfl <|
        zb1 h fun x11 r10 h => zcX12_142 231 [.int x9] [.int a4, .ref (zα G 135)] hX dX12_reads_231 (c_X12_isLetter (zgd0 hX) r10) rfl rfl rfl (Nat.le_of_ble_eq_true rfl) (Nat.le_of_ble_eq_true rfl) <|
        z_if_eq 234 242 hX dX12_reads_234 rfl h (fun q12 h => ?_) (fun q12 h => ?_)
      · refine z_iconst 242 hX dX12_reads_242 zki1 <|
          z_weak (L' := [some (.ref (zα G 128)), none, some (.int a2), some (.int a3), some (.int a4), none]) (zsub_s (zsub_n (zsub_s (zsub_s (zsub_s (zsub_n zsub_0)))))) <|
          j_X12_reads_243z hX hE hrc hK250 h
      · refine z_iload 237 hX dX12_reads_237 rfl <|
          z_goto 239 243 hX dX12_reads_239 rfl <|
          z_weak (L' := [some (.ref (zα G 128)), none, some (.int a2), some (.int a3), some (.int a4), none]) (zsub_s (zsub_n (zsub_s (zsub_s (zsub_s (zsub_n zsub_0)))))) <|
          j_X12_reads_243z hX hE hrc hK250 h
def l_X12_reads_129 (K250 : zW → Option zW) : Nat → Int32 → Int32 → Int32 → zW → Option zW
  | 0, _, _, _, _ => none
  | n + 1, a2, a3, a4, w =>
    if a4 < (w 128 12) then
      if a2 = (nI 4) then
        zld w 135 48 a4 fun x3 =>
        zsto w 135 48 a4 ((nI 27) - x3) fun w1 =>
        j_X12_reads_160 (l_X12_reads_129 K250 n) K250 a2 a3 a4 w1
      else
        j_X12_reads_160 (l_X12_reads_129 K250 n) K250 a2 a3 a4 w
    else
      K250 w
theorem l_X12_reads_129z {K250 : zW → Option zW} {G : zG} {X : zX} {we : zW} (hX : zOk G X cX12_reads 6 RX12 2) (hE : zEV G X cX12_reads we) (hK250 : ∀ (w3 : zW) , K250 w3 = some we → zZ G X w3 250 [none, none, none, none, none, none] []) : ∀ (n : Nat) (a2 : Int32) (a3 : Int32) (a4 : Int32) (w : zW) , l_X12_reads_129 K250 n a2 a3 a4 w = some we → zZ G X w 129 [some (.ref (zα G 128)), none, some (.int a2), some (.int a3), some (.int a4), none] [] := by
  intro n
  induction n with
  | zero =>
    intro a2 a3 a4 w  h
    rw [l_X12_reads_129.eq_1] at h
    cases h
  | succ n ih =>
    intro a2 a3 a4 w  h
    rw [l_X12_reads_129.eq_2] at h
    refine z_iload 129 hX dX12_reads_129 rfl <|
      z_aload_n 131 hX dX12_reads_131 rfl <|
      zgX12_126 132 hX dX12_reads_132 (rfl : shp 128 = (12, 0)) <|
      z_icmp_ge 135 250 hX dX12_reads_135 rfl h (fun q1 h => ?_) (fun q1 h => ?_)
    · refine z_weak (L' := [none, none, none, none, none, none]) (zsub_n (zsub_n (zsub_n (zsub_n (zsub_n (zsub_n zsub_0)))))) <|
        hK250 _ h
    · refine z_iload_n 138 hX dX12_reads_138 rfl <|
        z_iconst 139 hX dX12_reads_139 zki4 <|
        z_icmp_ne 140 160 hX dX12_reads_140 rfl h (fun q2 h => ?_) (fun q2 h => ?_)
      · refine j_X12_reads_160z hX hE ih hK250 h
      · refine z_aload_n 143 hX dX12_reads_143 rfl <|
          zgX12_28 144 hX dX12_reads_144 (rfl : shp 128 = (12, 0)) <|
          z_iload 147 hX dX12_reads_147 rfl <|
          z_bipush 149 hX dX12_reads_149 zkb27 <|
          z_aload_n 151 hX dX12_reads_151 rfl <|
          zgX12_28 152 hX dX12_reads_152 (rfl : shp 128 = (12, 0)) <|
          z_iload 155 hX dX12_reads_155 rfl <|
          z_iald 157 hX dX12_reads_157 (rfl : shp 135 = (20, 48)) h fun x3 _ h =>
          z_isub 158 hX dX12_reads_158 <|
          z_iast 159 hX dX12_reads_159 (rfl : shp 135 = (20, 48)) h fun w1 h =>
          j_X12_reads_160z hX hE ih hK250 h
def j_X12_reads_126 (a2 : Int32) (a3 : Int32) (w : zW) : Option zW :=
  l_X12_reads_129 (fun w11 =>
    some w11) zfuel a2 a3 (nI 0) w
theorem j_X12_reads_126z {G : zG} {X : zX} {w : zW} {we : zW} {a2 : Int32} {a3 : Int32} (hX : zOk G X cX12_reads 6 RX12 2) (hE : zEV G X cX12_reads we)  (h : j_X12_reads_126 a2 a3 w = some we) : zZ G X w 126 [some (.ref (zα G 128)), none, some (.int a2), some (.int a3), none, none] [] := by
  rw [j_X12_reads_126] at h
  refine z_iconst 126 hX dX12_reads_126 zki0 <|
    z_istore 127 [some (.ref (zα G 128)), none, some (.int a2), some (.int a3), some (.int (nI 0)), none] hX dX12_reads_127 (Nat.le_of_ble_eq_true rfl) rfl rfl <|
    l_X12_reads_129z hX hE (fun w11 h => ?_) _ _ _ _ _ h
  · refine z_endV 250 hE h dX12_reads_250
def l_X12_reads_79 (K114 : Int32 → Int32 → zW → Option zW) : Nat → Int32 → Int32 → Int32 → zW → Option zW
  | 0, _, _, _, _ => none
  | n + 1, a2, a3, a4, w =>
    if a4 < (((w 128 12) + (nI 1)) / (nI 2)) then
      zld w 135 48 ((nI 2) * a4) fun x2 =>
      zsto w 135 48 a4 x2 fun w1 =>
      zlet (a4 + nI 1) fun x3 =>
      (l_X12_reads_79 K114 n) a2 a3 x3 w1
    else
      K114 a2 a3 w
theorem l_X12_reads_79z {K114 : Int32 → Int32 → zW → Option zW} {G : zG} {X : zX} {we : zW} (hX : zOk G X cX12_reads 6 RX12 2) (hE : zEV G X cX12_reads we) (hK114 : ∀ (a2 : Int32) (a3 : Int32) (w3 : zW) , K114 a2 a3 w3 = some we → zZ G X w3 114 [some (.ref (zα G 128)), none, some (.int a2), some (.int a3), none, none] []) : ∀ (n : Nat) (a2 : Int32) (a3 : Int32) (a4 : Int32) (w : zW) , l_X12_reads_79 K114 n a2 a3 a4 w = some we → zZ G X w 79 [some (.ref (zα G 128)), none, some (.int a2), some (.int a3), some (.int a4), none] [] := by
  intro n
  induction n with
  | zero =>
    intro a2 a3 a4 w  h
    rw [l_X12_reads_79.eq_1] at h
    cases h
  | succ n ih =>
    intro a2 a3 a4 w  h
    rw [l_X12_reads_79.eq_2] at h
    refine z_iload 79 hX dX12_reads_79 rfl <|
      z_aload_n 81 hX dX12_reads_81 rfl <|
      zgX12_126 82 hX dX12_reads_82 (rfl : shp 128 = (12, 0)) <|
      z_iconst 85 hX dX12_reads_85 zki1 <|
      z_iadd 86 hX dX12_reads_86 <|
      z_iconst 87 hX dX12_reads_87 zki2 <|
      z_idivc 88 hX dX12_reads_88 (by decide) <|
      z_icmp_ge 89 114 hX dX12_reads_89 rfl h (fun q1 h => ?_) (fun q1 h => ?_)
    · refine z_weak (L' := [some (.ref (zα G 128)), none, some (.int a2), some (.int a3), none, none]) (zsub_s (zsub_n (zsub_s (zsub_s (zsub_n (zsub_n zsub_0)))))) <|
        hK114 _ _ _ h
    · refine z_aload_n 92 hX dX12_reads_92 rfl <|
        zgX12_28 93 hX dX12_reads_93 (rfl : shp 128 = (12, 0)) <|
        z_iload 96 hX dX12_reads_96 rfl <|
        z_aload_n 98 hX dX12_reads_98 rfl <|
        zgX12_28 99 hX dX12_reads_99 (rfl : shp 128 = (12, 0)) <|
        z_iconst 102 hX dX12_reads_102 zki2 <|
        z_iload 103 hX dX12_reads_103 rfl <|
        z_imul 105 hX dX12_reads_105 <|
        z_iald 106 hX dX12_reads_106 (rfl : shp 135 = (20, 48)) h fun x2 _ h =>
        z_iast 107 hX dX12_reads_107 (rfl : shp 135 = (20, 48)) h fun w1 h =>
        z_iincG 108 (fun x3 => [some (.ref (zα G 128)), none, some (.int a2), some (.int a3), some (.int x3), none]) hX dX12_reads_108 rfl zki1 rfl (fun _ => rfl) h fun x3 h =>
        z_goto 111 79 hX dX12_reads_111 rfl <|
        ih _ _ _ _ h
def j_X12_reads_71 (a2 : Int32) (a3 : Int32) (w : zW) : Option zW :=
  if a2 = (nI 2) then
    l_X12_reads_79 (fun k114_a2 k114_a3 w11 =>
      zlet (zupd w11 128 12 (((w11 128 12) + (nI 1)) / (nI 2))) fun w12 =>
      j_X12_reads_126 k114_a2 k114_a3 w12) zfuel a2 a3 (nI 0) w
  else
    j_X12_reads_126 a2 a3 w
theorem j_X12_reads_71z {G : zG} {X : zX} {w : zW} {we : zW} {a2 : Int32} {a3 : Int32} (hX : zOk G X cX12_reads 6 RX12 2) (hE : zEV G X cX12_reads we)  (h : j_X12_reads_71 a2 a3 w = some we) : zZ G X w 71 [some (.ref (zα G 128)), none, some (.int a2), some (.int a3), none, none] [] := by
  rw [j_X12_reads_71] at h
  refine z_iload_n 71 hX dX12_reads_71 rfl <|
    z_iconst 72 hX dX12_reads_72 zki2 <|
    z_icmp_ne 73 126 hX dX12_reads_73 rfl h (fun q1 h => ?_) (fun q1 h => ?_)
  · refine j_X12_reads_126z hX hE h
  · refine z_iconst 76 hX dX12_reads_76 zki0 <|
      z_istore 77 [some (.ref (zα G 128)), none, some (.int a2), some (.int a3), some (.int (nI 0)), none] hX dX12_reads_77 (Nat.le_of_ble_eq_true rfl) rfl rfl <|
      l_X12_reads_79z hX hE (fun k114_a2 k114_a3 w11 h => ?_) _ _ _ _ _ h
    · refine z_aload_n 114 hX dX12_reads_114 rfl <|
        z_aload_n 115 hX dX12_reads_115 rfl <|
        zgX12_126 116 hX dX12_reads_116 (rfl : shp 128 = (12, 0)) <|
        z_iconst 119 hX dX12_reads_119 zki1 <|
        z_iadd 120 hX dX12_reads_120 <|
        z_iconst 121 hX dX12_reads_121 zki2 <|
        z_idivc 122 hX dX12_reads_122 (by decide) <|
        zpX12_126 123 hX dX12_reads_123 (rfl : shp 128 = (12, 0)) <|
        z_w h fun w12 h =>
        j_X12_reads_126z hX hE h
def j_X12_reads_67 (a2 : Int32) (a3 : Int32) (w : zW) : Option zW :=
  zb (f_X12_turns w) fun w1 =>
  j_X12_reads_71 a2 a3 w1
theorem j_X12_reads_67z {G : zG} {X : zX} {w : zW} {we : zW} {a2 : Int32} {a3 : Int32} (hX : zOk G X cX12_reads 6 RX12 2) (hE : zEV G X cX12_reads we)  (h : j_X12_reads_67 a2 a3 w = some we) : zZ G X w 67 [some (.ref (zα G 128)), none, some (.int a2), some (.int a3), none, none] [] := by
  rw [j_X12_reads_67] at h
  refine z_aload_n 67 hX dX12_reads_67 rfl <|
    zb1 h fun w1 r1 h => zcX12_136 68 [] [] hX dX12_reads_68 (c_X12_turns (zgd0 hX) r1) (rfl : shp 128 = (12, 0)) rfl rfl rfl (Nat.le_of_ble_eq_true rfl) (Nat.le_of_ble_eq_true rfl) <|
    j_X12_reads_71z hX hE h
def j_X12_reads_52 (a2 : Int32) (a3 : Int32) (w : zW) : Option zW :=
  if a2 = (nI 1) then
    j_X12_reads_67 a2 a3 w
  else
  if a2 = (nI 4) then
    j_X12_reads_67 a2 a3 w
  else
  if a2 = (nI 5) then
    j_X12_reads_67 a2 a3 w
  else
    j_X12_reads_71 a2 a3 w
theorem j_X12_reads_52z {G : zG} {X : zX} {w : zW} {we : zW} {a2 : Int32} {a3 : Int32} (hX : zOk G X cX12_reads 6 RX12 2) (hE : zEV G X cX12_reads we)  (h : j_X12_reads_52 a2 a3 w = some we) : zZ G X w 52 [some (.ref (zα G 128)), none, some (.int a2), some (.int a3), none, none] [] := by
  rw [j_X12_reads_52] at h
  refine z_iload_n 52 hX dX12_reads_52 rfl <|
    z_iconst 53 hX dX12_reads_53 zki1 <|
    z_icmp_eq 54 67 hX dX12_reads_54 rfl h (fun q1 h => ?_) (fun q1 h => ?_)
  · refine j_X12_reads_67z hX hE h
  · refine z_iload_n 57 hX dX12_reads_57 rfl <|
      z_iconst 58 hX dX12_reads_58 zki4 <|
      z_icmp_eq 59 67 hX dX12_reads_59 rfl h (fun q2 h => ?_) (fun q2 h => ?_)
    · refine j_X12_reads_67z hX hE h
    · refine z_iload_n 62 hX dX12_reads_62 rfl <|
        z_iconst 63 hX dX12_reads_63 zki5 <|
        z_icmp_ne 64 71 hX dX12_reads_64 rfl h (fun q3 h => ?_) (fun q3 h => ?_)
      · refine j_X12_reads_71z hX hE h
      · refine j_X12_reads_67z hX hE h
def j_X12_reads_34 (a1 : Int32) (a2 : Int32) (a3 : Int32) (w : zW) : Option zW :=
  zb (f_X12_isWall a3 w) fun x2 =>
  if x2 = nI 0 then
    j_X12_reads_52 a2 a3 w
  else
  if a3 = a1 then
    j_X12_reads_52 a2 a3 w
  else
    zb (f_X12_takes a3 w) fun w1 =>
    j_X12_reads_52 a2 a3 w1
theorem j_X12_reads_34z {G : zG} {X : zX} {w : zW} {we : zW} {a1 : Int32} {a2 : Int32} {a3 : Int32} (hX : zOk G X cX12_reads 6 RX12 2) (hE : zEV G X cX12_reads we)  (h : j_X12_reads_34 a1 a2 a3 w = some we) : zZ G X w 34 [some (.ref (zα G 128)), some (.int a1), some (.int a2), some (.int a3), none, none] [] := by
  rw [j_X12_reads_34] at h
  refine z_aload_n 34 hX dX12_reads_34 rfl <|
    z_iload_n 35 hX dX12_reads_35 rfl <|
    zb1 h fun x2 r1 h => zcX12_133 36 [.int a3] [] hX dX12_reads_36 (c_X12_isWall (zgd0 hX) r1) (rfl : shp 128 = (12, 0)) rfl rfl rfl (Nat.le_of_ble_eq_true rfl) (Nat.le_of_ble_eq_true rfl) <|
    z_if_eq 39 52 hX dX12_reads_39 rfl h (fun q3 h => ?_) (fun q3 h => ?_)
  · refine z_weak (L' := [some (.ref (zα G 128)), none, some (.int a2), some (.int a3), none, none]) (zsub_s (zsub_n (zsub_s (zsub_s (zsub_n (zsub_n zsub_0)))))) <|
      j_X12_reads_52z hX hE h
  · refine z_iload_n 42 hX dX12_reads_42 rfl <|
      z_iload_n 43 hX dX12_reads_43 rfl <|
      z_icmp_eq 44 52 hX dX12_reads_44 rfl h (fun q4 h => ?_) (fun q4 h => ?_)
    · refine z_weak (L' := [some (.ref (zα G 128)), none, some (.int a2), some (.int a3), none, none]) (zsub_s (zsub_n (zsub_s (zsub_s (zsub_n (zsub_n zsub_0)))))) <|
        j_X12_reads_52z hX hE h
    · refine z_aload_n 47 hX dX12_reads_47 rfl <|
        z_iload_n 48 hX dX12_reads_48 rfl <|
        zb1 h fun w1 r5 h => zcX12_129 49 [.int a3] [] hX dX12_reads_49 (c_X12_takes (zgd0 hX) r5) (rfl : shp 128 = (12, 0)) rfl rfl rfl (Nat.le_of_ble_eq_true rfl) (Nat.le_of_ble_eq_true rfl) <|
        z_weak (L' := [some (.ref (zα G 128)), none, some (.int a2), some (.int a3), none, none]) (zsub_s (zsub_n (zsub_s (zsub_s (zsub_n (zsub_n zsub_0)))))) <|
        j_X12_reads_52z hX hE h
def f_X12_reads (a1 : Int32) (w : zW) : Option zW :=
  zlet (zupd w 128 12 (nI 0)) fun w1 =>
  zb (f_X12_takes a1 w1) fun w2 =>
  zb (f_X12_its a1 (nI 0) w2) fun x3 =>
  zb (f_X12_its a1 (nI 1) w2) fun x5 =>
  if x3 = (nI 3) then
    j_X12_reads_34 a1 x3 x5 w2
  else
  if x3 = (nI 5) then
    j_X12_reads_34 a1 x3 x5 w2
  else
    j_X12_reads_52 x3 x5 w2
theorem c_X12_reads {G : zG} {l : Launch} (hG : zgood G) {w : zW} {we : zW} {a1 : Int32}  (h : f_X12_reads a1 w = some we) : zMet G l yX12_reads cX12_reads 6 none 2 [.ref (zα G 128), .int a1] w none we := by
  refine zMet_of (L0 := [some (.ref (zα G 128)), some (.int a1), none, none, none, none]) hG zplX12 (Nat.le_of_ble_eq_true rfl) rfl rfl (fun X hl hX hEI hEV hEA => ?_)
  subst hl
  have hX : zOk G X cX12_reads 6 RX12 2 := hX
  have hE := hEV rfl rfl
  rw [f_X12_reads] at h
  refine z_aload_n 0 hX dX12_reads_0 rfl <|
    z_iconst 1 hX dX12_reads_1 zki0 <|
    zpX12_126 2 hX dX12_reads_2 (rfl : shp 128 = (12, 0)) <|
    z_w h fun w1 h =>
    z_aload_n 5 hX dX12_reads_5 rfl <|
    z_iload_n 6 hX dX12_reads_6 rfl <|
    zb1 h fun w2 r1 h => zcX12_129 7 [.int a1] [] hX dX12_reads_7 (c_X12_takes (zgd0 hX) r1) (rfl : shp 128 = (12, 0)) rfl rfl rfl (Nat.le_of_ble_eq_true rfl) (Nat.le_of_ble_eq_true rfl) <|
    z_aload_n 10 hX dX12_reads_10 rfl <|
    z_iload_n 11 hX dX12_reads_11 rfl <|
    z_iconst 12 hX dX12_reads_12 zki0 <|
    zb1 h fun x3 r2 h => zcX12_60 13 [.int a1, .int (nI 0)] [] hX dX12_reads_13 (c_X12_its (zgd0 hX) r2) (rfl : shp 128 = (12, 0)) rfl rfl rfl (Nat.le_of_ble_eq_true rfl) (Nat.le_of_ble_eq_true rfl) <|
    z_istore_n 16 [some (.ref (zα G 128)), some (.int a1), some (.int x3), none, none, none] hX dX12_reads_16 (Nat.le_of_ble_eq_true rfl) rfl rfl <|
    z_aload_n 17 hX dX12_reads_17 rfl <|
    z_iload_n 18 hX dX12_reads_18 rfl <|
    z_iconst 19 hX dX12_reads_19 zki1 <|
    zb1 h fun x5 r4 h => zcX12_60 20 [.int a1, .int (nI 1)] [] hX dX12_reads_20 (c_X12_its (zgd0 hX) r4) (rfl : shp 128 = (12, 0)) rfl rfl rfl (Nat.le_of_ble_eq_true rfl) (Nat.le_of_ble_eq_true rfl) <|
    z_istore_n 23 [some (.ref (zα G 128)), some (.int a1), some (.int x3), some (.int x5), none, none] hX dX12_reads_23 (Nat.le_of_ble_eq_true rfl) rfl rfl <|
    z_iload_n 24 hX dX12_reads_24 rfl <|
    z_iconst 25 hX dX12_reads_25 zki3 <|
    z_icmp_eq 26 34 hX dX12_reads_26 rfl h (fun q6 h => ?_) (fun q6 h => ?_)
  · refine j_X12_reads_34z hX hE h
  · refine z_iload_n 29 hX dX12_reads_29 rfl <|
      z_iconst 30 hX dX12_reads_30 zki5 <|
      z_icmp_ne 31 52 hX dX12_reads_31 rfl h (fun q7 h => ?_) (fun q7 h => ?_)
    · refine z_weak (L' := [some (.ref (zα G 128)), none, some (.int x3), some (.int x5), none, none]) (zsub_s (zsub_n (zsub_s (zsub_s (zsub_n (zsub_n zsub_0)))))) <|
        j_X12_reads_52z hX hE h
    · refine j_X12_reads_34z hX hE h
def f_X12_behind (a0 : Int32) (a1 : Int32)  : Option Int32 :=
  if a0 = nI 0 then
    if a1 = nI 0 then
      some (nI 1)
    else
      some (mI 1)
  else
  if a0 = nI 1 then
    if a1 = (nI 1) then
      some (nI 2)
    else
      some (mI 1)
  else
  if a0 = nI 2 then
    if a1 = (nI 2) then
      some (nI 3)
    else
    if a1 = (nI 3) then
      some (nI 4)
    else
      some (mI 1)
  else
  if a0 = nI 3 then
    if a1 = (nI 3) then
      some (nI 4)
    else
      some (mI 1)
  else
  if a1 = (nI 4) then
    some (nI 0)
  else
    some (mI 1)
theorem c_X12_behind {G : zG} {l : Launch} (hG : zgood G) {w : zW} {re : Int32} {a0 : Int32} {a1 : Int32}  (h : f_X12_behind a0 a1 = some re) : zMet G l yX12_behind cX12_behind 2 (some .int) 0 [.int a0, .int a1] w (some (.int re)) w := by
  refine zMet_of (L0 := [some (.int a0), some (.int a1)]) hG zplX12 (Nat.le_of_ble_eq_true rfl) rfl rfl (fun X hl hX hEI hEV hEA => ?_)
  subst hl
  have hX : zOk G X cX12_behind 2 RX12 0 := hX
  have hE := hEI _ _ rfl rfl
  rw [f_X12_behind] at h
  refine z_iload_n 0 hX dX12_behind_0 rfl <|
    ?_
  rcases zif h with ⟨q1, h⟩ | ⟨q1, h⟩
  · refine z_tsIn (off := 31) 1 32 (0) hX dX12_behind_1 (zti 0 (by decide) q1) (by decide) (by decide) (by decide) rfl <|
      z_iload_n 32 hX dX12_behind_32 rfl <|
      z_if_ne 33 40 hX dX12_behind_33 rfl h (fun q2 h => ?_) (fun q2 h => ?_)
    · refine z_iconst 40 hX dX12_behind_40 zkim1 <|
        z_endI 41 hE rfl h dX12_behind_41
    · refine z_iconst 36 hX dX12_behind_36 zki1 <|
        z_goto 37 41 hX dX12_behind_37 rfl <|
        z_endI 41 hE rfl h dX12_behind_41
  rcases zif h with ⟨q3, h⟩ | ⟨q3, h⟩
  · refine z_tsIn (off := 41) 1 42 (1) hX dX12_behind_1 (zti 1 (by decide) q3) (by decide) (by decide) (by decide) rfl <|
      z_iload_n 42 hX dX12_behind_42 rfl <|
      z_iconst 43 hX dX12_behind_43 zki1 <|
      z_icmp_ne 44 51 hX dX12_behind_44 rfl h (fun q4 h => ?_) (fun q4 h => ?_)
    · refine z_iconst 51 hX dX12_behind_51 zkim1 <|
        z_endI 52 hE rfl h dX12_behind_52
    · refine z_iconst 47 hX dX12_behind_47 zki2 <|
        z_goto 48 52 hX dX12_behind_48 rfl <|
        z_endI 52 hE rfl h dX12_behind_52
  rcases zif h with ⟨q5, h⟩ | ⟨q5, h⟩
  · refine z_tsIn (off := 52) 1 53 (2) hX dX12_behind_1 (zti 2 (by decide) q5) (by decide) (by decide) (by decide) rfl <|
      z_iload_n 53 hX dX12_behind_53 rfl <|
      z_iconst 54 hX dX12_behind_54 zki2 <|
      z_icmp_ne 55 62 hX dX12_behind_55 rfl h (fun q6 h => ?_) (fun q6 h => ?_)
    · refine z_iload_n 62 hX dX12_behind_62 rfl <|
        z_iconst 63 hX dX12_behind_63 zki3 <|
        z_icmp_ne 64 71 hX dX12_behind_64 rfl h (fun q7 h => ?_) (fun q7 h => ?_)
      · refine z_iconst 71 hX dX12_behind_71 zkim1 <|
          z_endI 72 hE rfl h dX12_behind_72
      · refine z_iconst 67 hX dX12_behind_67 zki4 <|
          z_goto 68 72 hX dX12_behind_68 rfl <|
          z_endI 72 hE rfl h dX12_behind_72
    · refine z_iconst 58 hX dX12_behind_58 zki3 <|
        z_goto 59 72 hX dX12_behind_59 rfl <|
        z_endI 72 hE rfl h dX12_behind_72
  rcases zif h with ⟨q8, h⟩ | ⟨q8, h⟩
  · refine z_tsIn (off := 72) 1 73 (3) hX dX12_behind_1 (zti 3 (by decide) q8) (by decide) (by decide) (by decide) rfl <|
      z_iload_n 73 hX dX12_behind_73 rfl <|
      z_iconst 74 hX dX12_behind_74 zki3 <|
      z_icmp_ne 75 82 hX dX12_behind_75 rfl h (fun q9 h => ?_) (fun q9 h => ?_)
    · refine z_iconst 82 hX dX12_behind_82 zkim1 <|
        z_endI 83 hE rfl h dX12_behind_83
    · refine z_iconst 78 hX dX12_behind_78 zki4 <|
        z_goto 79 83 hX dX12_behind_79 rfl <|
        z_endI 83 hE rfl h dX12_behind_83
  refine z_tsOut 1 84 hX dX12_behind_1 (by have e0 := zne 0 (by decide) q1; have e1 := zne 1 (by decide) q3; have e2 := zne 2 (by decide) q5; have e3 := zne 3 (by decide) q8; omega) rfl <|
    z_iload_n 84 hX dX12_behind_84 rfl <|
    z_iconst 85 hX dX12_behind_85 zki4 <|
    z_icmp_ne 86 93 hX dX12_behind_86 rfl h (fun q10 h => ?_) (fun q10 h => ?_)
  · refine z_iconst 93 hX dX12_behind_93 zkim1 <|
      z_endI 94 hE rfl h dX12_behind_94
  · refine z_iconst 89 hX dX12_behind_89 zki0 <|
      z_goto 90 94 hX dX12_behind_90 rfl <|
      z_endI 94 hE rfl h dX12_behind_94
def j_X12_unlike_58 (rc : Int32 → Int32 → Int32 → Int32 → Int32 → Option Int32) (K67 : Int32 → Option Int32) (w : zW) (a1 : Int32) (a2 : Int32) (a3 : Int32) (a5 : Int32) (b0 : Int32) (b1 : Int32)  : Option Int32 :=
  zlet (b0 + b1) fun x1 =>
  zlet (a5 + nI 1) fun x2 =>
  rc a1 a2 a3 x1 x2
theorem j_X12_unlike_58z {rc : Int32 → Int32 → Int32 → Int32 → Int32 → Option Int32} {K67 : Int32 → Option Int32} {G : zG} {X : zX} {w : zW} {re : Int32} {a1 : Int32} {a2 : Int32} {a3 : Int32} {a5 : Int32} {b0 : Int32} {b1 : Int32} (hX : zOk G X cX12_unlike 6 RX12 1) (hE : zEI G X cX12_unlike .int re w) (hrc : ∀ (a1 : Int32) (a2 : Int32) (a3 : Int32) (a4 : Int32) (a5 : Int32) , rc a1 a2 a3 a4 a5 = some re → zZ G X w 26 [some (.ref (zα G 128)), some (.int a1), some (.int a2), some (.int a3), some (.int a4), some (.int a5)] []) (hK67 : ∀ (a4 : Int32) , K67 a4 = some re → zZ G X w 67 [none, none, none, none, some (.int a4), none] [])  (h : j_X12_unlike_58 rc K67 w a1 a2 a3 a5 b0 b1 = some re) : zZ G X w 58 [some (.ref (zα G 128)), some (.int a1), some (.int a2), some (.int a3), none, some (.int a5)] [.int b1, .int b0] := by
  rw [j_X12_unlike_58] at h
  refine z_iadd 58 hX dX12_unlike_58 <|
    z_top h fun x1 h =>
    z_istore 59 [some (.ref (zα G 128)), some (.int a1), some (.int a2), some (.int a3), some (.int x1), some (.int a5)] hX dX12_unlike_59 (Nat.le_of_ble_eq_true rfl) rfl rfl <|
    z_iincG 61 (fun x2 => [some (.ref (zα G 128)), some (.int a1), some (.int a2), some (.int a3), some (.int x1), some (.int x2)]) hX dX12_unlike_61 rfl zki1 rfl (fun _ => rfl) h fun x2 h =>
    z_goto 64 26 hX dX12_unlike_64 rfl <|
    hrc _ _ _ _ _ h
def l_X12_unlike_26 (w : zW) (K67 : Int32 → Option Int32) : Nat → Int32 → Int32 → Int32 → Int32 → Int32 → Option Int32
  | 0, _, _, _, _, _ => none
  | n + 1, a1, a2, a3, a4, a5 =>
    if a5 < a3 then
      zld w 135 48 (a2 + a5) fun x2 =>
      zb (f_X12_letterOf a1 a5 w) fun x4 =>
      if x2 = x4 then
        j_X12_unlike_58 (l_X12_unlike_26 w K67 n) K67 w a1 a2 a3 a5 a4 (nI 0)
      else
        j_X12_unlike_58 (l_X12_unlike_26 w K67 n) K67 w a1 a2 a3 a5 a4 (nI 1)
    else
      K67 a4
theorem l_X12_unlike_26z {K67 : Int32 → Option Int32} {G : zG} {X : zX} {w : zW} {re : Int32} (hX : zOk G X cX12_unlike 6 RX12 1) (hE : zEI G X cX12_unlike .int re w) (hK67 : ∀ (a4 : Int32) , K67 a4 = some re → zZ G X w 67 [none, none, none, none, some (.int a4), none] []) : ∀ (n : Nat) (a1 : Int32) (a2 : Int32) (a3 : Int32) (a4 : Int32) (a5 : Int32) , l_X12_unlike_26 w K67 n a1 a2 a3 a4 a5 = some re → zZ G X w 26 [some (.ref (zα G 128)), some (.int a1), some (.int a2), some (.int a3), some (.int a4), some (.int a5)] [] := by
  intro n
  induction n with
  | zero =>
    intro a1 a2 a3 a4 a5  h
    rw [l_X12_unlike_26.eq_1] at h
    cases h
  | succ n ih =>
    intro a1 a2 a3 a4 a5  h
    rw [l_X12_unlike_26.eq_2] at h
    refine z_iload 26 hX dX12_unlike_26 rfl <|
      z_iload_n 28 hX dX12_unlike_28 rfl <|
      z_icmp_ge 29 67 hX dX12_unlike_29 rfl h (fun q1 h => ?_) (fun q1 h => ?_)
    · refine z_weak (L' := [none, none, none, none, some (.int a4), none]) (zsub_n (zsub_n (zsub_n (zsub_n (zsub_s (zsub_n zsub_0)))))) <|
        hK67 _ h
    · refine z_iload 32 hX dX12_unlike_32 rfl <|
        z_aload_n 34 hX dX12_unlike_34 rfl <|
        zgX12_28 35 hX dX12_unlike_35 (rfl : shp 128 = (12, 0)) <|
        z_iload_n 38 hX dX12_unlike_38 rfl <|
        z_iload 39 hX dX12_unlike_39 rfl <|
        z_iadd 41 hX dX12_unlike_41 <|
        z_iald 42 hX dX12_unlike_42 (rfl : shp 135 = (20, 48)) h fun x2 _ h =>
        z_aload_n 43 hX dX12_unlike_43 rfl <|
        z_iload_n 44 hX dX12_unlike_44 rfl <|
        z_iload 45 hX dX12_unlike_45 rfl <|
        zb1 h fun x4 r3 h => zcX12_148 47 [.int a1, .int a5] [.int x2, .int a4] hX dX12_unlike_47 (c_X12_letterOf (zgd0 hX) r3) (rfl : shp 128 = (12, 0)) rfl rfl rfl (Nat.le_of_ble_eq_true rfl) (Nat.le_of_ble_eq_true rfl) <|
        z_icmp_ne 50 57 hX dX12_unlike_50 rfl h (fun q5 h => ?_) (fun q5 h => ?_)
      · refine z_iconst 57 hX dX12_unlike_57 zki1 <|
          z_weak (L' := [some (.ref (zα G 128)), some (.int a1), some (.int a2), some (.int a3), none, some (.int a5)]) (zsub_s (zsub_s (zsub_s (zsub_s (zsub_n (zsub_s zsub_0)))))) <|
          j_X12_unlike_58z hX hE ih hK67 h
      · refine z_iconst 53 hX dX12_unlike_53 zki0 <|
          z_goto 54 58 hX dX12_unlike_54 rfl <|
          z_weak (L' := [some (.ref (zα G 128)), some (.int a1), some (.int a2), some (.int a3), none, some (.int a5)]) (zsub_s (zsub_s (zsub_s (zsub_s (zsub_n (zsub_s zsub_0)))))) <|
          j_X12_unlike_58z hX hE ih hK67 h
def f_X12_unlike (a1 : Int32) (a2 : Int32) (w : zW) : Option Int32 :=
  zb (f_X12_lengthOf a1 w) fun x2 =>
  if (w 128 12) < (a2 + x2) then
    some (nI 9999)
  else
    l_X12_unlike_26 w (fun k67_a4 =>
      some k67_a4) zfuel a1 a2 x2 (nI 0) (nI 0)
theorem c_X12_unlike {G : zG} {l : Launch} (hG : zgood G) {w : zW} {re : Int32} {a1 : Int32} {a2 : Int32}  (h : f_X12_unlike a1 a2 w = some re) : zMet G l yX12_unlike cX12_unlike 6 (some .int) 1 [.ref (zα G 128), .int a1, .int a2] w (some (.int re)) w := by
  refine zMet_of (L0 := [some (.ref (zα G 128)), some (.int a1), some (.int a2), none, none, none]) hG zplX12 (Nat.le_of_ble_eq_true rfl) rfl rfl (fun X hl hX hEI hEV hEA => ?_)
  subst hl
  have hX : zOk G X cX12_unlike 6 RX12 1 := hX
  have hE := hEI _ _ rfl rfl
  rw [f_X12_unlike] at h
  refine z_aload_n 0 hX dX12_unlike_0 rfl <|
    z_iload_n 1 hX dX12_unlike_1 rfl <|
    zb1 h fun x2 r1 h => zcX12_145 2 [.int a1] [] hX dX12_unlike_2 (c_X12_lengthOf (zgd0 hX) r1) (rfl : shp 128 = (12, 0)) rfl rfl rfl (Nat.le_of_ble_eq_true rfl) (Nat.le_of_ble_eq_true rfl) <|
    z_istore_n 5 [some (.ref (zα G 128)), some (.int a1), some (.int a2), some (.int x2), none, none] hX dX12_unlike_5 (Nat.le_of_ble_eq_true rfl) rfl rfl <|
    z_iload_n 6 hX dX12_unlike_6 rfl <|
    z_iload_n 7 hX dX12_unlike_7 rfl <|
    z_iadd 8 hX dX12_unlike_8 <|
    z_aload_n 9 hX dX12_unlike_9 rfl <|
    zgX12_126 10 hX dX12_unlike_10 (rfl : shp 128 = (12, 0)) <|
    z_icmp_le 13 20 hX dX12_unlike_13 rfl h (fun q3 h => ?_) (fun q3 h => ?_)
  · refine z_iconst 20 hX dX12_unlike_20 zki0 <|
      z_istore 21 [some (.ref (zα G 128)), some (.int a1), some (.int a2), some (.int x2), some (.int (nI 0)), none] hX dX12_unlike_21 (Nat.le_of_ble_eq_true rfl) rfl rfl <|
      z_iconst 23 hX dX12_unlike_23 zki0 <|
      z_istore 24 [some (.ref (zα G 128)), some (.int a1), some (.int a2), some (.int x2), some (.int (nI 0)), some (.int (nI 0))] hX dX12_unlike_24 (Nat.le_of_ble_eq_true rfl) rfl rfl <|
      l_X12_unlike_26z hX hE (fun k67_a4 h => ?_) _ _ _ _ _ _ h
    · refine z_iload 67 hX dX12_unlike_67 rfl <|
        z_endI 69 hE rfl h dX12_unlike_69
  · refine z_sipush 16 hX dX12_unlike_16 zks9999 <|
      z_endI 19 hE rfl h dX12_unlike_19
def j_X12_findWays_29 (rc : Int32 → zW → Option (Int32 × zW)) (K36 : zW → Option (Int32 × zW)) (a1 : Int32) (b1 : Int32) (b2 : Int32) (w : zW) : Option (Int32 × zW) :=
  zsto w 136 245 b1 b2 fun w1 =>
  zlet (a1 + nI 1) fun x1 =>
  rc x1 w1
theorem j_X12_findWays_29z {rc : Int32 → zW → Option (Int32 × zW)} {K36 : zW → Option (Int32 × zW)} {G : zG} {X : zX} {w : zW} {re : Int32} {we : zW} {a1 : Int32} {b1 : Int32} {b2 : Int32} (hX : zOk G X cX12_findWays 6 RX12 2) (hE : zEI G X cX12_findWays .int re we) (hrc : ∀ (a1 : Int32) (w3 : zW) , rc a1 w3 = some (re, we) → zZ G X w3 2 [some (.ref (zα G 128)), some (.int a1), none, none, none, none] []) (hK36 : ∀ (w3 : zW) , K36 w3 = some (re, we) → zZ G X w3 36 [some (.ref (zα G 128)), none, none, none, none, none] [])  (h : j_X12_findWays_29 rc K36 a1 b1 b2 w = some (re, we)) : zZ G X w 29 [some (.ref (zα G 128)), some (.int a1), none, none, none, none] [.int b2, .int b1, .ref (zα G 136)] := by
  rw [j_X12_findWays_29] at h
  refine z_iast 29 hX dX12_findWays_29 (rfl : shp 136 = (20, 245)) h fun w1 h =>
    z_iincG 30 (fun x1 => [some (.ref (zα G 128)), some (.int x1), none, none, none, none]) hX dX12_findWays_30 rfl zki1 rfl (fun _ => rfl) h fun x1 h =>
    z_goto 33 2 hX dX12_findWays_33 rfl <|
    hrc _ _ h
def l_X12_findWays_2 (K36 : zW → Option (Int32 × zW)) : Nat → Int32 → zW → Option (Int32 × zW)
  | 0, _, _ => none
  | n + 1, a1, w =>
    if a1 < (nI 5) then
      if a1 = (nI 4) then
        j_X12_findWays_29 (l_X12_findWays_2 K36 n) K36 a1 (((nI 5) * (w 128 12)) + a1) (nI 1) w
      else
        j_X12_findWays_29 (l_X12_findWays_2 K36 n) K36 a1 (((nI 5) * (w 128 12)) + a1) (nI 0) w
    else
      K36 w
theorem l_X12_findWays_2z {K36 : zW → Option (Int32 × zW)} {G : zG} {X : zX} {re : Int32} {we : zW} (hX : zOk G X cX12_findWays 6 RX12 2) (hE : zEI G X cX12_findWays .int re we) (hK36 : ∀ (w3 : zW) , K36 w3 = some (re, we) → zZ G X w3 36 [some (.ref (zα G 128)), none, none, none, none, none] []) : ∀ (n : Nat) (a1 : Int32) (w : zW) , l_X12_findWays_2 K36 n a1 w = some (re, we) → zZ G X w 2 [some (.ref (zα G 128)), some (.int a1), none, none, none, none] [] := by
  intro n
  induction n with
  | zero =>
    intro a1 w  h
    rw [l_X12_findWays_2.eq_1] at h
    cases h
  | succ n ih =>
    intro a1 w  h
    rw [l_X12_findWays_2.eq_2] at h
    refine z_iload_n 2 hX dX12_findWays_2 rfl <|
      z_iconst 3 hX dX12_findWays_3 zki5 <|
      z_icmp_ge 4 36 hX dX12_findWays_4 rfl h (fun q1 h => ?_) (fun q1 h => ?_)
    · refine z_weak (L' := [some (.ref (zα G 128)), none, none, none, none, none]) (zsub_s (zsub_n (zsub_n (zsub_n (zsub_n (zsub_n zsub_0)))))) <|
        hK36 _ h
    · refine z_aload_n 7 hX dX12_findWays_7 rfl <|
        zgX12_31 8 hX dX12_findWays_8 (rfl : shp 128 = (12, 0)) <|
        z_iconst 11 hX dX12_findWays_11 zki5 <|
        z_aload_n 12 hX dX12_findWays_12 rfl <|
        zgX12_126 13 hX dX12_findWays_13 (rfl : shp 128 = (12, 0)) <|
        z_imul 16 hX dX12_findWays_16 <|
        z_iload_n 17 hX dX12_findWays_17 rfl <|
        z_iadd 18 hX dX12_findWays_18 <|
        z_iload_n 19 hX dX12_findWays_19 rfl <|
        z_iconst 20 hX dX12_findWays_20 zki4 <|
        z_icmp_ne 21 28 hX dX12_findWays_21 rfl h (fun q2 h => ?_) (fun q2 h => ?_)
      · refine z_iconst 28 hX dX12_findWays_28 zki0 <|
          j_X12_findWays_29z hX hE ih hK36 h
      · refine z_iconst 24 hX dX12_findWays_24 zki1 <|
          z_goto 25 29 hX dX12_findWays_25 rfl <|
          j_X12_findWays_29z hX hE ih hK36 h
def l_X12_findWays_59 (K131 : Int32 → Int32 → Int32 → zW → Option (Int32 × zW)) : Nat → Int32 → Int32 → Int32 → Int32 → zW → Option (Int32 × zW)
  | 0, _, _, _, _, _ => none
  | n + 1, a1, a2, a3, a4, w =>
    if a4 < (w 129 1) then
      zb (f_X12_sortOf a4 w) fun x3 =>
      zb (f_X12_behind a2 x3) fun x5 =>
      if x5 = (mI 1) then
        zlet (a4 + nI 1) fun x7 =>
        (l_X12_findWays_59 K131 n) a1 a2 a3 x7 w
      else
        zb (f_X12_unlike a4 a1 w) fun x9 =>
        if x9 = nI 0 then
          zb (f_X12_lengthOf a4 w) fun x13 =>
          zld w 136 245 (((nI 5) * (a1 + x13)) + x5) fun x14 =>
          zb (f_X12_held (a3 + x14) (nI 0) (nI 999999)) fun x16 =>
          zlet (a4 + nI 1) fun x17 =>
          (l_X12_findWays_59 K131 n) a1 a2 x16 x17 w
        else
          zlet (a4 + nI 1) fun x11 =>
          (l_X12_findWays_59 K131 n) a1 a2 a3 x11 w
    else
      K131 a1 a2 a3 w
theorem l_X12_findWays_59z {K131 : Int32 → Int32 → Int32 → zW → Option (Int32 × zW)} {G : zG} {X : zX} {re : Int32} {we : zW} (hX : zOk G X cX12_findWays 6 RX12 2) (hE : zEI G X cX12_findWays .int re we) (hK131 : ∀ (a1 : Int32) (a2 : Int32) (a3 : Int32) (w3 : zW) , K131 a1 a2 a3 w3 = some (re, we) → zZ G X w3 131 [some (.ref (zα G 128)), some (.int a1), some (.int a2), some (.int a3), none, none] []) : ∀ (n : Nat) (a1 : Int32) (a2 : Int32) (a3 : Int32) (a4 : Int32) (w : zW) , l_X12_findWays_59 K131 n a1 a2 a3 a4 w = some (re, we) → zZ G X w 59 [some (.ref (zα G 128)), some (.int a1), some (.int a2), some (.int a3), some (.int a4), none] [] := by
  intro n
  induction n with
  | zero =>
    intro a1 a2 a3 a4 w  h
    rw [l_X12_findWays_59.eq_1] at h
    cases h
  | succ n ih =>
    intro a1 a2 a3 a4 w  h
    rw [l_X12_findWays_59.eq_2] at h
    refine z_iload 59 hX dX12_findWays_59 rfl <|
      z_aload_n 61 hX dX12_findWays_61 rfl <|
      zgX12_7 62 hX dX12_findWays_62 (rfl : shp 128 = (12, 0)) <|
      z_iconst 65 hX dX12_findWays_65 zki1 <|
      z_ialdc (j := 1) 66 hX dX12_findWays_66 (rfl : shp 129 = (20, 628)) (zink 1 628 (by decide) (by decide)) (nI_clamp (by decide)) <|
      z_icmp_ge 67 131 hX dX12_findWays_67 rfl h (fun q1 h => ?_) (fun q1 h => ?_)
    · refine z_weak (L' := [some (.ref (zα G 128)), some (.int a1), some (.int a2), some (.int a3), none, none]) (zsub_s (zsub_s (zsub_s (zsub_s (zsub_n (zsub_n zsub_0)))))) <|
        hK131 _ _ _ _ h
    · refine z_iload_n 70 hX dX12_findWays_70 rfl <|
        z_aload_n 71 hX dX12_findWays_71 rfl <|
        z_iload 72 hX dX12_findWays_72 rfl <|
        zb1 h fun x3 r2 h => zcX12_151 74 [.int a4] [.int a2] hX dX12_findWays_74 (c_X12_sortOf (zgd0 hX) r2) (rfl : shp 128 = (12, 0)) rfl rfl rfl (Nat.le_of_ble_eq_true rfl) (Nat.le_of_ble_eq_true rfl) <|
        zb1 h fun x5 r4 h => zcX12_154 77 [.int a2, .int x3] [] hX dX12_findWays_77 (c_X12_behind (zgd0 hX) r4) rfl rfl rfl (Nat.le_of_ble_eq_true rfl) (Nat.le_of_ble_eq_true rfl) <|
        z_istore 80 [some (.ref (zα G 128)), some (.int a1), some (.int a2), some (.int a3), some (.int a4), some (.int x5)] hX dX12_findWays_80 (Nat.le_of_ble_eq_true rfl) rfl rfl <|
        z_iload 82 hX dX12_findWays_82 rfl <|
        z_iconst 84 hX dX12_findWays_84 zkim1 <|
        z_icmp_eq 85 125 hX dX12_findWays_85 rfl h (fun q6 h => ?_) (fun q6 h => ?_)
      · refine z_iincG 125 (fun x7 => [some (.ref (zα G 128)), some (.int a1), some (.int a2), some (.int a3), some (.int x7), some (.int x5)]) hX dX12_findWays_125 rfl zki1 rfl (fun _ => rfl) h fun x7 h =>
          z_goto 128 59 hX dX12_findWays_128 rfl <|
          z_weak (L' := [some (.ref (zα G 128)), some (.int a1), some (.int a2), some (.int a3), some (.int x7), none]) (zsub_s (zsub_s (zsub_s (zsub_s (zsub_s (zsub_n zsub_0)))))) <|
          ih _ _ _ _ _ h
      · refine z_aload_n 88 hX dX12_findWays_88 rfl <|
          z_iload 89 hX dX12_findWays_89 rfl <|
          z_iload_n 91 hX dX12_findWays_91 rfl <|
          zb1 h fun x9 r8 h => zcX12_157 92 [.int a4, .int a1] [] hX dX12_findWays_92 (c_X12_unlike (zgd0 hX) r8) (rfl : shp 128 = (12, 0)) rfl rfl rfl (Nat.le_of_ble_eq_true rfl) (Nat.le_of_ble_eq_true rfl) <|
          z_if_ne 95 125 hX dX12_findWays_95 rfl h (fun q10 h => ?_) (fun q10 h => ?_)
        · refine z_iincG 125 (fun x11 => [some (.ref (zα G 128)), some (.int a1), some (.int a2), some (.int a3), some (.int x11), some (.int x5)]) hX dX12_findWays_125 rfl zki1 rfl (fun _ => rfl) h fun x11 h =>
            z_goto 128 59 hX dX12_findWays_128 rfl <|
            z_weak (L' := [some (.ref (zα G 128)), some (.int a1), some (.int a2), some (.int a3), some (.int x11), none]) (zsub_s (zsub_s (zsub_s (zsub_s (zsub_s (zsub_n zsub_0)))))) <|
            ih _ _ _ _ _ h
        · refine z_iload_n 98 hX dX12_findWays_98 rfl <|
            z_aload_n 99 hX dX12_findWays_99 rfl <|
            zgX12_31 100 hX dX12_findWays_100 (rfl : shp 128 = (12, 0)) <|
            z_iconst 103 hX dX12_findWays_103 zki5 <|
            z_iload_n 104 hX dX12_findWays_104 rfl <|
            z_aload_n 105 hX dX12_findWays_105 rfl <|
            z_iload 106 hX dX12_findWays_106 rfl <|
            zb1 h fun x13 r12 h => zcX12_145 108 [.int a4] [.int a1, .int (nI 5), .ref (zα G 136), .int a3] hX dX12_findWays_108 (c_X12_lengthOf (zgd0 hX) r12) (rfl : shp 128 = (12, 0)) rfl rfl rfl (Nat.le_of_ble_eq_true rfl) (Nat.le_of_ble_eq_true rfl) <|
            z_iadd 111 hX dX12_findWays_111 <|
            z_imul 112 hX dX12_findWays_112 <|
            z_iload 113 hX dX12_findWays_113 rfl <|
            z_iadd 115 hX dX12_findWays_115 <|
            z_iald 116 hX dX12_findWays_116 (rfl : shp 136 = (20, 245)) h fun x14 _ h =>
            z_iadd 117 hX dX12_findWays_117 <|
            z_iconst 118 hX dX12_findWays_118 zki0 <|
            z_ldc 119 hX dX12_findWays_119 zw1252 zkl999999 <|
            zb1 h fun x16 r15 h => zcX12_161 121 [.int (a3 + x14), .int (nI 0), .int (nI 999999)] [] hX dX12_findWays_121 (c_X12_held (zgd0 hX) r15) rfl rfl rfl (Nat.le_of_ble_eq_true rfl) (Nat.le_of_ble_eq_true rfl) <|
            z_istore_n 124 [some (.ref (zα G 128)), some (.int a1), some (.int a2), some (.int x16), some (.int a4), some (.int x5)] hX dX12_findWays_124 (Nat.le_of_ble_eq_true rfl) rfl rfl <|
            z_iincG 125 (fun x17 => [some (.ref (zα G 128)), some (.int a1), some (.int a2), some (.int x16), some (.int x17), some (.int x5)]) hX dX12_findWays_125 rfl zki1 rfl (fun _ => rfl) h fun x17 h =>
            z_goto 128 59 hX dX12_findWays_128 rfl <|
            z_weak (L' := [some (.ref (zα G 128)), some (.int a1), some (.int a2), some (.int x16), some (.int x17), none]) (zsub_s (zsub_s (zsub_s (zsub_s (zsub_s (zsub_n zsub_0)))))) <|
            ih _ _ _ _ _ h
def l_X12_findWays_49 (K148 : Int32 → zW → Option (Int32 × zW)) : Nat → Int32 → Int32 → zW → Option (Int32 × zW)
  | 0, _, _, _ => none
  | n + 1, a1, a2, w =>
    if a2 < (nI 5) then
      l_X12_findWays_59 (fun k131_a1 k131_a2 k131_a3 w11 =>
        zsto w11 136 245 (((nI 5) * k131_a1) + k131_a2) k131_a3 fun w12 =>
        zlet (k131_a2 + nI 1) fun x102 =>
        (l_X12_findWays_49 K148 n) k131_a1 x102 w12) zfuel a1 a2 (nI 0) (nI 0) w
    else
      K148 a1 w
theorem l_X12_findWays_49z {K148 : Int32 → zW → Option (Int32 × zW)} {G : zG} {X : zX} {re : Int32} {we : zW} (hX : zOk G X cX12_findWays 6 RX12 2) (hE : zEI G X cX12_findWays .int re we) (hK148 : ∀ (a1 : Int32) (w3 : zW) , K148 a1 w3 = some (re, we) → zZ G X w3 148 [some (.ref (zα G 128)), some (.int a1), none, none, none, none] []) : ∀ (n : Nat) (a1 : Int32) (a2 : Int32) (w : zW) , l_X12_findWays_49 K148 n a1 a2 w = some (re, we) → zZ G X w 49 [some (.ref (zα G 128)), some (.int a1), some (.int a2), none, none, none] [] := by
  intro n
  induction n with
  | zero =>
    intro a1 a2 w  h
    rw [l_X12_findWays_49.eq_1] at h
    cases h
  | succ n ih =>
    intro a1 a2 w  h
    rw [l_X12_findWays_49.eq_2] at h
    refine z_iload_n 49 hX dX12_findWays_49 rfl <|
      z_iconst 50 hX dX12_findWays_50 zki5 <|
      z_icmp_ge 51 148 hX dX12_findWays_51 rfl h (fun q1 h => ?_) (fun q1 h => ?_)
    · refine z_weak (L' := [some (.ref (zα G 128)), some (.int a1), none, none, none, none]) (zsub_s (zsub_s (zsub_n (zsub_n (zsub_n (zsub_n zsub_0)))))) <|
        hK148 _ _ h
    · refine z_iconst 54 hX dX12_findWays_54 zki0 <|
        z_istore_n 55 [some (.ref (zα G 128)), some (.int a1), some (.int a2), some (.int (nI 0)), none, none] hX dX12_findWays_55 (Nat.le_of_ble_eq_true rfl) rfl rfl <|
        z_iconst 56 hX dX12_findWays_56 zki0 <|
        z_istore 57 [some (.ref (zα G 128)), some (.int a1), some (.int a2), some (.int (nI 0)), some (.int (nI 0)), none] hX dX12_findWays_57 (Nat.le_of_ble_eq_true rfl) rfl rfl <|
        l_X12_findWays_59z hX hE (fun k131_a1 k131_a2 k131_a3 w11 h => ?_) _ _ _ _ _ _ h
      · refine z_aload_n 131 hX dX12_findWays_131 rfl <|
          zgX12_31 132 hX dX12_findWays_132 (rfl : shp 128 = (12, 0)) <|
          z_iconst 135 hX dX12_findWays_135 zki5 <|
          z_iload_n 136 hX dX12_findWays_136 rfl <|
          z_imul 137 hX dX12_findWays_137 <|
          z_iload_n 138 hX dX12_findWays_138 rfl <|
          z_iadd 139 hX dX12_findWays_139 <|
          z_iload_n 140 hX dX12_findWays_140 rfl <|
          z_iast 141 hX dX12_findWays_141 (rfl : shp 136 = (20, 245)) h fun w12 h =>
          z_iincG 142 (fun x102 => [some (.ref (zα G 128)), some (.int k131_a1), some (.int x102), some (.int k131_a3), none, none]) hX dX12_findWays_142 rfl zki1 rfl (fun _ => rfl) h fun x102 h =>
          z_goto 145 49 hX dX12_findWays_145 rfl <|
          z_weak (L' := [some (.ref (zα G 128)), some (.int k131_a1), some (.int x102), none, none, none]) (zsub_s (zsub_s (zsub_s (zsub_n (zsub_n (zsub_n zsub_0)))))) <|
          ih _ _ _ h
def l_X12_findWays_43 (K154 : zW → Option (Int32 × zW)) : Nat → Int32 → zW → Option (Int32 × zW)
  | 0, _, _ => none
  | n + 1, a1, w =>
    if a1 < nI 0 then
      K154 w
    else
      l_X12_findWays_49 (fun k148_a1 w11 =>
        zlet (k148_a1 + mI 1) fun x102 =>
        (l_X12_findWays_43 K154 n) x102 w11) zfuel a1 (nI 0) w
theorem l_X12_findWays_43z {K154 : zW → Option (Int32 × zW)} {G : zG} {X : zX} {re : Int32} {we : zW} (hX : zOk G X cX12_findWays 6 RX12 2) (hE : zEI G X cX12_findWays .int re we) (hK154 : ∀ (w3 : zW) , K154 w3 = some (re, we) → zZ G X w3 154 [some (.ref (zα G 128)), none, none, none, none, none] []) : ∀ (n : Nat) (a1 : Int32) (w : zW) , l_X12_findWays_43 K154 n a1 w = some (re, we) → zZ G X w 43 [some (.ref (zα G 128)), some (.int a1), none, none, none, none] [] := by
  intro n
  induction n with
  | zero =>
    intro a1 w  h
    rw [l_X12_findWays_43.eq_1] at h
    cases h
  | succ n ih =>
    intro a1 w  h
    rw [l_X12_findWays_43.eq_2] at h
    refine z_iload_n 43 hX dX12_findWays_43 rfl <|
      z_if_lt 44 154 hX dX12_findWays_44 rfl h (fun q1 h => ?_) (fun q1 h => ?_)
    · refine z_weak (L' := [some (.ref (zα G 128)), none, none, none, none, none]) (zsub_s (zsub_n (zsub_n (zsub_n (zsub_n (zsub_n zsub_0)))))) <|
        hK154 _ h
    · refine z_iconst 47 hX dX12_findWays_47 zki0 <|
        z_istore_n 48 [some (.ref (zα G 128)), some (.int a1), some (.int (nI 0)), none, none, none] hX dX12_findWays_48 (Nat.le_of_ble_eq_true rfl) rfl rfl <|
        l_X12_findWays_49z hX hE (fun k148_a1 w11 h => ?_) _ _ _ _ h
      · refine z_iincG 148 (fun x102 => [some (.ref (zα G 128)), some (.int x102), none, none, none, none]) hX dX12_findWays_148 rfl zkim1 rfl (fun _ => rfl) h fun x102 h =>
          z_goto 151 43 hX dX12_findWays_151 rfl <|
          ih _ _ h
def f_X12_findWays  (w : zW) : Option (Int32 × zW) :=
  l_X12_findWays_2 (fun w11 =>
    zlet ((w11 128 12) - (nI 1)) fun x101 =>
    l_X12_findWays_43 (fun w22 =>
      some (w22 136 0, w22)) zfuel x101 w11) zfuel (nI 0) w
theorem c_X12_findWays {G : zG} {l : Launch} (hG : zgood G) {w : zW} {re : Int32} {we : zW}   (h : f_X12_findWays w = some (re, we)) : zMet G l yX12_findWays cX12_findWays 6 (some .int) 2 [.ref (zα G 128)] w (some (.int re)) we := by
  refine zMet_of (L0 := [some (.ref (zα G 128)), none, none, none, none, none]) hG zplX12 (Nat.le_of_ble_eq_true rfl) rfl rfl (fun X hl hX hEI hEV hEA => ?_)
  subst hl
  have hX : zOk G X cX12_findWays 6 RX12 2 := hX
  have hE := hEI _ _ rfl rfl
  rw [f_X12_findWays] at h
  refine z_iconst 0 hX dX12_findWays_0 zki0 <|
    z_istore_n 1 [some (.ref (zα G 128)), some (.int (nI 0)), none, none, none, none] hX dX12_findWays_1 (Nat.le_of_ble_eq_true rfl) rfl rfl <|
    l_X12_findWays_2z hX hE (fun w11 h => ?_) _ _ _ h
  · refine z_aload_n 36 hX dX12_findWays_36 rfl <|
      zgX12_126 37 hX dX12_findWays_37 (rfl : shp 128 = (12, 0)) <|
      z_iconst 40 hX dX12_findWays_40 zki1 <|
      z_isub 41 hX dX12_findWays_41 <|
      z_top h fun x101 h =>
      z_istore_n 42 [some (.ref (zα G 128)), some (.int x101), none, none, none, none] hX dX12_findWays_42 (Nat.le_of_ble_eq_true rfl) rfl rfl <|
      l_X12_findWays_43z hX hE (fun w22 h => ?_) _ _ _ h
    · refine z_aload_n 154 hX dX12_findWays_154 rfl <|
        zgX12_31 155 hX dX12_findWays_155 (rfl : shp 128 = (12, 0)) <|
        z_iconst 158 hX dX12_findWays_158 zki0 <|
        z_ialdc (j := 0) 159 hX dX12_findWays_159 (rfl : shp 136 = (20, 245)) (zink 0 245 (by decide) (by decide)) (nI_clamp (by decide)) <|
        z_endI2 160 hE rfl h dX12_findWays_160
def f_X12_doesRead (a1 : Int32) (w : zW) : Option (Int32 × zW) :=
  zb (f_X12_reads a1 w) fun w1 =>
  if nI 0 < (w1 128 12) then
    zb2 (f_X12_findWays w1) fun x4 w2 =>
    if nI 0 < x4 then
      some (nI 1, w2)
    else
      some (nI 0, w2)
  else
    some (nI 0, w1)
theorem c_X12_doesRead {G : zG} {l : Launch} (hG : zgood G) {w : zW} {re : Int32} {we : zW} {a1 : Int32}  (h : f_X12_doesRead a1 w = some (re, we)) : zMet G l yX12_doesRead cX12_doesRead 2 (some .boolean) 3 [.ref (zα G 128), .int a1] w (some (.int re)) we := by
  refine zMet_of (L0 := [some (.ref (zα G 128)), some (.int a1)]) hG zplX12 (Nat.le_of_ble_eq_true rfl) rfl rfl (fun X hl hX hEI hEV hEA => ?_)
  subst hl
  have hX : zOk G X cX12_doesRead 2 RX12 3 := hX
  have hE := hEI _ _ rfl rfl
  rw [f_X12_doesRead] at h
  refine z_aload_n 0 hX dX12_doesRead_0 rfl <|
    z_iload_n 1 hX dX12_doesRead_1 rfl <|
    zb1 h fun w1 r1 h => zcX12_164 2 [.int a1] [] hX dX12_doesRead_2 (c_X12_reads (zgd0 hX) r1) (rfl : shp 128 = (12, 0)) rfl rfl rfl (Nat.le_of_ble_eq_true rfl) (Nat.le_of_ble_eq_true rfl) <|
    z_aload_n 5 hX dX12_doesRead_5 rfl <|
    zgX12_126 6 hX dX12_doesRead_6 (rfl : shp 128 = (12, 0)) <|
    z_if_le 9 23 hX dX12_doesRead_9 rfl h (fun q2 h => ?_) (fun q2 h => ?_)
  · refine z_iconst 23 hX dX12_doesRead_23 zki0 <|
      z_endI2 24 hE (znar_bool (by decide)) h dX12_doesRead_24
  · refine z_aload_n 12 hX dX12_doesRead_12 rfl <|
      zb12 h fun x4 w2 r3 h => zcX12_167 13 [] [] hX dX12_doesRead_13 (c_X12_findWays (zgd0 hX) r3) (rfl : shp 128 = (12, 0)) rfl rfl rfl (Nat.le_of_ble_eq_true rfl) (Nat.le_of_ble_eq_true rfl) <|
      z_if_le 16 23 hX dX12_doesRead_16 rfl h (fun q5 h => ?_) (fun q5 h => ?_)
    · refine z_iconst 23 hX dX12_doesRead_23 zki0 <|
        z_endI2 24 hE (znar_bool (by decide)) h dX12_doesRead_24
    · refine z_iconst 19 hX dX12_doesRead_19 zki1 <|
        z_goto 20 24 hX dX12_doesRead_20 rfl <|
        z_endI2 24 hE (znar_bool (by decide)) h dX12_doesRead_24
def j_X12_stuck_26 (rc : Int32 → Int32 → zW → Option (Int32 × zW)) (K33 : Int32 → zW → Option (Int32 × zW)) (a1 : Int32) (a2 : Int32) (b1 : Int32) (b2 : Int32) (w : zW) : Option (Int32 × zW) :=
  zsto w 136 245 b1 b2 fun w1 =>
  zlet (a2 + nI 1) fun x1 =>
  rc a1 x1 w1
theorem j_X12_stuck_26z {rc : Int32 → Int32 → zW → Option (Int32 × zW)} {K33 : Int32 → zW → Option (Int32 × zW)} {G : zG} {X : zX} {w : zW} {re : Int32} {we : zW} {a1 : Int32} {a2 : Int32} {b1 : Int32} {b2 : Int32} (hX : zOk G X cX12_stuck 6 RX12 2) (hE : zEI G X cX12_stuck .int re we) (hrc : ∀ (a1 : Int32) (a2 : Int32) (w3 : zW) , rc a1 a2 w3 = some (re, we) → zZ G X w3 4 [some (.ref (zα G 128)), some (.int a1), some (.int a2), none, none, none] []) (hK33 : ∀ (a1 : Int32) (w3 : zW) , K33 a1 w3 = some (re, we) → zZ G X w3 33 [some (.ref (zα G 128)), some (.int a1), none, none, none, none] [])  (h : j_X12_stuck_26 rc K33 a1 a2 b1 b2 w = some (re, we)) : zZ G X w 26 [some (.ref (zα G 128)), some (.int a1), some (.int a2), none, none, none] [.int b2, .int b1, .ref (zα G 136)] := by
  rw [j_X12_stuck_26] at h
  refine z_iast 26 hX dX12_stuck_26 (rfl : shp 136 = (20, 245)) h fun w1 h =>
    z_iincG 27 (fun x1 => [some (.ref (zα G 128)), some (.int a1), some (.int x1), none, none, none]) hX dX12_stuck_27 rfl zki1 rfl (fun _ => rfl) h fun x1 h =>
    z_goto 30 4 hX dX12_stuck_30 rfl <|
    hrc _ _ _ h
def l_X12_stuck_4 (K33 : Int32 → zW → Option (Int32 × zW)) : Nat → Int32 → Int32 → zW → Option (Int32 × zW)
  | 0, _, _, _ => none
  | n + 1, a1, a2, w =>
    if (w 128 12) < a2 then
      K33 a1 w
    else
    if a2 = nI 0 then
      j_X12_stuck_26 (l_X12_stuck_4 K33 n) K33 a1 a2 a2 (nI 1) w
    else
      j_X12_stuck_26 (l_X12_stuck_4 K33 n) K33 a1 a2 a2 (nI 0) w
theorem l_X12_stuck_4z {K33 : Int32 → zW → Option (Int32 × zW)} {G : zG} {X : zX} {re : Int32} {we : zW} (hX : zOk G X cX12_stuck 6 RX12 2) (hE : zEI G X cX12_stuck .int re we) (hK33 : ∀ (a1 : Int32) (w3 : zW) , K33 a1 w3 = some (re, we) → zZ G X w3 33 [some (.ref (zα G 128)), some (.int a1), none, none, none, none] []) : ∀ (n : Nat) (a1 : Int32) (a2 : Int32) (w : zW) , l_X12_stuck_4 K33 n a1 a2 w = some (re, we) → zZ G X w 4 [some (.ref (zα G 128)), some (.int a1), some (.int a2), none, none, none] [] := by
  intro n
  induction n with
  | zero =>
    intro a1 a2 w  h
    rw [l_X12_stuck_4.eq_1] at h
    cases h
  | succ n ih =>
    intro a1 a2 w  h
    rw [l_X12_stuck_4.eq_2] at h
    refine z_iload_n 4 hX dX12_stuck_4 rfl <|
      z_aload_n 5 hX dX12_stuck_5 rfl <|
      zgX12_126 6 hX dX12_stuck_6 (rfl : shp 128 = (12, 0)) <|
      z_icmp_gt 9 33 hX dX12_stuck_9 rfl h (fun q1 h => ?_) (fun q1 h => ?_)
    · refine z_weak (L' := [some (.ref (zα G 128)), some (.int a1), none, none, none, none]) (zsub_s (zsub_s (zsub_n (zsub_n (zsub_n (zsub_n zsub_0)))))) <|
        hK33 _ _ h
    · refine z_aload_n 12 hX dX12_stuck_12 rfl <|
        zgX12_31 13 hX dX12_stuck_13 (rfl : shp 128 = (12, 0)) <|
        z_iload_n 16 hX dX12_stuck_16 rfl <|
        z_iload_n 17 hX dX12_stuck_17 rfl <|
        z_if_ne 18 25 hX dX12_stuck_18 rfl h (fun q2 h => ?_) (fun q2 h => ?_)
      · refine z_iconst 25 hX dX12_stuck_25 zki0 <|
          j_X12_stuck_26z hX hE ih hK33 h
      · refine z_iconst 21 hX dX12_stuck_21 zki1 <|
          z_goto 22 26 hX dX12_stuck_22 rfl <|
          j_X12_stuck_26z hX hE ih hK33 h
def l_X12_stuck_82 (K155 : Int32 → Int32 → Int32 → zW → Option (Int32 × zW)) : Nat → Int32 → Int32 → Int32 → Int32 → zW → Option (Int32 × zW)
  | 0, _, _, _, _, _ => none
  | n + 1, a1, a2, a3, a4, w =>
    if a4 < (nI 5) then
      zb (f_X12_sortOf a3 w) fun x3 =>
      zb (f_X12_behind a4 x3) fun x5 =>
      zld w 136 245 a2 fun x6 =>
      if ((x6 >>> (a4 &&& 31)) &&& (nI 1)) = (nI 1) then
        if x5 = (mI 1) then
          zlet (a4 + nI 1) fun x10 =>
          (l_X12_stuck_82 K155 n) a1 a2 a3 x10 w
        else
          zb (f_X12_unlike a3 a2 w) fun x12 =>
          if x12 = nI 0 then
            zb (f_X12_lengthOf a3 w) fun x16 =>
            zld w 136 245 (a2 + x16) fun x17 =>
            zsto w 136 245 (a2 + x16) (x17 ||| ((nI 1) <<< (x5 &&& 31))) fun w1 =>
            zlet (a4 + nI 1) fun x18 =>
            (l_X12_stuck_82 K155 n) a1 a2 a3 x18 w1
          else
            zlet (a4 + nI 1) fun x14 =>
            (l_X12_stuck_82 K155 n) a1 a2 a3 x14 w
      else
        zlet (a4 + nI 1) fun x8 =>
        (l_X12_stuck_82 K155 n) a1 a2 a3 x8 w
    else
      K155 a1 a2 a3 w
