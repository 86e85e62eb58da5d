theorem lw_body {G : zG} {X : zX} {w : zW} {b j N : Nat} {xs : Nat → Int32} (hX : zOk G X code 4 "LetterWallsLaw" 2048) (hs : zscr X b N xs) (hN : N ≤ 384) (hj : j + 6 ≤ N) (hR : Rel w) (k : ∀ w2, Rel w2 → zZ G X w2 1478 (lwL G b j) []) : zZ G X w 27 (lwL G b j) [] := by
  refine z_aload_n 27 hX dL_law_27 rfl ?_
  refine z_iload_n 28 hX dL_law_28 rfl ?_
  refine z_sld 29 hX dL_law_29 hs (vp_in_nI (by omega) (by omega)) ?_
  refine z_bipush (v := nI 63) 30 hX dL_law_30 (by decide +kernel) ?_
  refine z_iand 32 hX dL_law_32 ?_
  generalize xs (nI j).toNatClampNeg &&& nI 63 = t
  by_cases q0 : t.toInt = 0
  · exact z_tsIn 33 208 0 hX dL_law_33 q0 (by decide) (by decide) rfl (by decide) (lw_c0 hX hs hN hj hR k)
  by_cases q1 : t.toInt = 1
  · exact z_tsIn 33 241 1 hX dL_law_33 q1 (by decide) (by decide) rfl (by decide) (lw_c1 hX hs hN hj hR k)
  by_cases q2 : t.toInt = 2
  · exact z_tsIn 33 274 2 hX dL_law_33 q2 (by decide) (by decide) rfl (by decide) (lw_c2 hX hs hN hj hR k)
  by_cases q3 : t.toInt = 3
  · exact z_tsIn 33 307 3 hX dL_law_33 q3 (by decide) (by decide) rfl (by decide) (lw_c3 hX hs hN hj hR k)
  by_cases q4 : t.toInt = 4
  · exact z_tsIn 33 350 4 hX dL_law_33 q4 (by decide) (by decide) rfl (by decide) (lw_c4 hX hs hN hj hR k)
  by_cases q5 : t.toInt = 5
  · exact z_tsIn 33 393 5 hX dL_law_33 q5 (by decide) (by decide) rfl (by decide) (lw_c5 hX hs hN hj hR k)
  by_cases q6 : t.toInt = 6
  · exact z_tsIn 33 426 6 hX dL_law_33 q6 (by decide) (by decide) rfl (by decide) (lw_c6 hX hs hN hj hR k)
  by_cases q7 : t.toInt = 7
  · exact z_tsIn 33 459 7 hX dL_law_33 q7 (by decide) (by decide) rfl (by decide) (lw_c7 hX hs hN hj hR k)
  by_cases q8 : t.toInt = 8
  · exact z_tsIn 33 492 8 hX dL_law_33 q8 (by decide) (by decide) rfl (by decide) (lw_c8 hX hs hN hj hR k)
  by_cases q9 : t.toInt = 9
  · exact z_tsIn 33 525 9 hX dL_law_33 q9 (by decide) (by decide) rfl (by decide) (lw_c9 hX hs hN hj hR k)
  by_cases q10 : t.toInt = 10
  · exact z_tsIn 33 558 10 hX dL_law_33 q10 (by decide) (by decide) rfl (by decide) (lw_c10 hX hs hN hj hR k)
  by_cases q11 : t.toInt = 11
  · exact z_tsIn 33 621 11 hX dL_law_33 q11 (by decide) (by decide) rfl (by decide) (lw_c11 hX hs hN hj hR k)
  by_cases q12 : t.toInt = 12
  · exact z_tsIn 33 644 12 hX dL_law_33 q12 (by decide) (by decide) rfl (by decide) (lw_c12 hX hs hN hj hR k)
  by_cases q13 : t.toInt = 13
  · exact z_tsIn 33 667 13 hX dL_law_33 q13 (by decide) (by decide) rfl (by decide) (lw_c13 hX hs hN hj hR k)
  by_cases q14 : t.toInt = 14
  · exact z_tsIn 33 700 14 hX dL_law_33 q14 (by decide) (by decide) rfl (by decide) (lw_c14 hX hs hN hj hR k)
  by_cases q15 : t.toInt = 15
  · exact z_tsIn 33 733 15 hX dL_law_33 q15 (by decide) (by decide) rfl (by decide) (lw_c15 hX hs hN hj hR k)
  by_cases q16 : t.toInt = 16
  · exact z_tsIn 33 756 16 hX dL_law_33 q16 (by decide) (by decide) rfl (by decide) (lw_c16 hX hs hN hj hR k)
  by_cases q17 : t.toInt = 17
  · exact z_tsIn 33 789 17 hX dL_law_33 q17 (by decide) (by decide) rfl (by decide) (lw_c17 hX hs hN hj hR k)
  by_cases q18 : t.toInt = 18
  · exact z_tsIn 33 812 18 hX dL_law_33 q18 (by decide) (by decide) rfl (by decide) (lw_c18 hX hs hN hj hR k)
  by_cases q19 : t.toInt = 19
  · exact z_tsIn 33 835 19 hX dL_law_33 q19 (by decide) (by decide) rfl (by decide) (lw_c19 hX hs hN hj hR k)
  by_cases q20 : t.toInt = 20
  · exact z_tsIn 33 868 20 hX dL_law_33 q20 (by decide) (by decide) rfl (by decide) (lw_c20 hX hs hN hj hR k)
  by_cases q21 : t.toInt = 21
  · exact z_tsIn 33 901 21 hX dL_law_33 q21 (by decide) (by decide) rfl (by decide) (lw_c21 hX hs hN hj hR k)
  by_cases q22 : t.toInt = 22
  · exact z_tsIn 33 924 22 hX dL_law_33 q22 (by decide) (by decide) rfl (by decide) (lw_c22 hX hs hN hj hR k)
  by_cases q23 : t.toInt = 23
  · exact z_tsIn 33 957 23 hX dL_law_33 q23 (by decide) (by decide) rfl (by decide) (lw_c23 hX hs hN hj hR k)
  by_cases q24 : t.toInt = 24
  · exact z_tsIn 33 1010 24 hX dL_law_33 q24 (by decide) (by decide) rfl (by decide) (lw_c24 hX hs hN hj hR k)
  by_cases q25 : t.toInt = 25
  · exact z_tsIn 33 1033 25 hX dL_law_33 q25 (by decide) (by decide) rfl (by decide) (lw_c25 hX hs hN hj hR k)
  by_cases q26 : t.toInt = 26
  · exact z_tsIn 33 1066 26 hX dL_law_33 q26 (by decide) (by decide) rfl (by decide) (lw_c26 hX hs hN hj hR k)
  by_cases q27 : t.toInt = 27
  · exact z_tsIn 33 1089 27 hX dL_law_33 q27 (by decide) (by decide) rfl (by decide) (lw_c27 hX hs hN hj hR k)
  by_cases q28 : t.toInt = 28
  · exact z_tsIn 33 1112 28 hX dL_law_33 q28 (by decide) (by decide) rfl (by decide) (lw_c28 hX hs hN hj hR k)
  by_cases q29 : t.toInt = 29
  · exact z_tsIn 33 1155 29 hX dL_law_33 q29 (by decide) (by decide) rfl (by decide) (lw_c29 hX hs hN hj hR k)
  by_cases q30 : t.toInt = 30
  · exact z_tsIn 33 1178 30 hX dL_law_33 q30 (by decide) (by decide) rfl (by decide) (lw_c30 hX hs hN hj hR k)
  by_cases q31 : t.toInt = 31
  · exact z_tsIn 33 1221 31 hX dL_law_33 q31 (by decide) (by decide) rfl (by decide) (lw_c31 hX hs hN hj hR k)
  by_cases q32 : t.toInt = 32
  · exact z_tsIn 33 1264 32 hX dL_law_33 q32 (by decide) (by decide) rfl (by decide) (lw_c32 hX hs hN hj hR k)
  by_cases q33 : t.toInt = 33
  · exact z_tsIn 33 1327 33 hX dL_law_33 q33 (by decide) (by decide) rfl (by decide) (lw_c33 hX hs hN hj hR k)
  by_cases q34 : t.toInt = 34
  · exact z_tsIn 33 1360 34 hX dL_law_33 q34 (by decide) (by decide) rfl (by decide) (lw_c34 hX hs hN hj hR k)
  by_cases q35 : t.toInt = 35
  · exact z_tsIn 33 1373 35 hX dL_law_33 q35 (by decide) (by decide) rfl (by decide) (lw_c35 hX hs hN hj hR k)
  by_cases q36 : t.toInt = 36
  · exact z_tsIn 33 1386 36 hX dL_law_33 q36 (by decide) (by decide) rfl (by decide) (lw_c36 hX hs hN hj hR k)
  by_cases q37 : t.toInt = 37
  · exact z_tsIn 33 1409 37 hX dL_law_33 q37 (by decide) (by decide) rfl (by decide) (lw_c37 hX hs hN hj hR k)
  by_cases q38 : t.toInt = 38
  · exact z_tsIn 33 1432 38 hX dL_law_33 q38 (by decide) (by decide) rfl (by decide) (lw_c38 hX hs hN hj hR k)
  by_cases q39 : t.toInt = 39
  · exact z_tsIn 33 1455 39 hX dL_law_33 q39 (by decide) (by decide) rfl (by decide) (lw_c39 hX hs hN hj hR k)
  exact z_tsOut 33 1478 hX dL_law_33 (by omega) (by decide) (k w hR)
theorem lw_loop {G : zG} {X : zX} {b N : Nat} {xs : Nat → Int32} (hX : zOk G X code 4 "LetterWallsLaw" 2048) (hs : zscr X b N xs) (hN : N ≤ 384) (hE : ∀ (w : zW) (L : List (Option Value)), zZ G X w 1485 L [.int 1]) : ∀ (n j : Nat) (w : zW), N - j ≤ n → j ≤ 390 → Rel w → zZ G X w 18 (lwL G b j) [] := by
  intro n
  induction n using Nat.strongRecOn with
  | ind n ih =>
    intro j w hn hj hR
    refine z_iload_n 18 hX dL_law_18 rfl ?_
    refine z_aload_n 19 hX dL_law_19 rfl ?_
    refine z_slen 20 hX dL_law_20 hs ?_
    refine z_bipush (v := nI 6) 21 hX dL_law_21 (by decide +kernel) ?_
    refine z_isub 23 hX dL_law_23 ?_
    refine z_icmp_gt (inst := inferInstance) (E1 := some ()) (E2 := some ()) (r := ()) 24 1484 hX dL_law_24 (by decide) (ite_self _) (fun _ _ => ?_) (fun q _ => ?_)
    · exact z_iconst (v := 1) 1484 hX dL_law_1484 (by decide +kernel) (hE w _)
    · have hlt : j + 6 ≤ N := by
        have e1 := nI_toInt (n := N) (by omega)
        have e2 := nI_toInt (n := 6) (by omega)
        have e3 := nI_toInt (n := j) (by omega)
        rw [Int32.lt_iff_toInt_lt, tsub (by rw [e1, e2]; omega) (by rw [e1, e2]; omega), e1, e2, e3] at q
        omega
      refine lw_body hX hs hN hlt hR (fun w2 hR2 => ?_)
      refine z_iinc (v := nI 6) 1478 (lwL G b (j + 6)) hX dL_law_1478 rfl (by decide +kernel) rfl (by rw [nI_add]; rfl) ?_
      refine z_goto 1481 18 hX dL_law_1481 (by decide) ?_
      exact ih (N - (j + 6)) (by omega) (j + 6) w2 (Nat.le_refl _) (by omega) hR2
