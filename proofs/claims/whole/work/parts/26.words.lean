theorem has_spec {w : zW} {s : Nat → Int32} (h : RT w 1 s) (a : Int32) : f_X7_has a w = some (bP (0 ≤ a.toInt ∧ a.toInt < (s 1).toInt)) := by
  have e := h.2.1.2.1.1
  simp only [f_X7_has, lt_nI a (show 0 < 2 ^ 31 by decide), e, Int32.lt_iff_toInt_lt]
  split
  · rw [bP_f (by omega)]
  · split
    · rw [bP_t (by omega)]
    · rw [bP_f (by omega)]
theorem isWord_spec {w : zW} {s : Nat → Int32} (hs : w 129 = s) (h : nn s) (h6 : (s 1).toInt ≤ 12) (a : Int32) : f_X12_isWord a w = some (bP (0 ≤ a.toInt ∧ a.toInt < (s 1).toInt)) := by
  have h0 := h 1 (by decide) (by decide)
  rw [f_X12_isWord, in_spec, hs]
  have e : (s 1 - nI 1).toInt = (s 1).toInt - 1 := tsub_k (by decide) (by omega)
  rw [e, zb_s, zbool_bP, zg_t, tnI (by decide)]
  congr 2
  exact propext ⟨fun q => ⟨by omega, by omega⟩, fun q => ⟨by omega, by omega⟩⟩
theorem lengthOf_k {w : zW} {s : Nat → Int32} (hs : w 129 = s) {j : Nat} (hj : j < 12) : f_X12_lengthOf (nI j) w = some (s (171 + 8 * j)) := by
  rw [f_X12_lengthOf, pk_mul, nI_add, nI_add, zld_k _ _ _ _ _ (by omega) (by decide), hs, show 170 + 8 * j + 1 = 171 + 8 * j by omega]
theorem sortOf_k {w : zW} {s : Nat → Int32} (hs : w 129 = s) {j : Nat} (hj : j < 12) : f_X12_sortOf (nI j) w = some (s (170 + 8 * j)) := by
  rw [f_X12_sortOf, pk_mul, nI_add, zld_k _ _ _ _ _ (by omega) (by decide), hs]
theorem letterOf_k {w : zW} {s : Nat → Int32} (hs : w 129 = s) {j k : Nat} (hj : j < 12) (hk : k < 6) : f_X12_letterOf (nI j) (nI k) w = some (s (172 + 8 * j + k)) := by
  rw [f_X12_letterOf, pk_mul, nI_add, nI_add, nI_add, zld_k _ _ _ _ _ (by omega) (by decide), hs, show 170 + 8 * j + 2 + k = 172 + 8 * j + k by omega]
/-- words change (and how many there are): what else holds goes on -/
theorem RT_words {w w1 : zW} {T : Nat} {s s1 : Nat → Int32} (h : RT w T s) (hw : ∀ k, ¬ (T + 2 ≤ k ∧ k ≤ T + 27) → w1 k = w k) (hs : ∀ p, p ≠ 1 → ¬ (170 ≤ p ∧ p < 266) → s1 p = s p) (hn : nn s1) (hc : w1 (T + 2) 1 = s1 1 ∧ (s1 1).toInt ≤ 12) (hW : Rword w1 T s1) : RT w1 T s1 := by
  obtain ⟨g1, g2, g3, g4, g5, g6, g7, g8⟩ := h
  have u : ∀ p, p ≠ 1 → ¬ (170 ≤ p ∧ p < 266) → s1 p = s p := hs
  refine ⟨hn, ?_, Rwall_c g3 g2.1.2 (fun k _ _ => hw k (by omega)) (u 0 (by omega) (by omega)) (fun p _ _ => u p (by omega) (by omega)), hW, Rheap_c g5 (hw _ (by omega)) (fun p _ _ => u p (by omega) (by omega)), Rtape_c g6 g2.2.2.2.2.1.2 (hw _ (by omega)) (u 4 (by omega) (by omega)) (fun p _ _ => u p (by omega) (by omega)), Rwait_c g7 g2.2.2.2.2.2.1.2 (hw _ (by omega)) (u 5 (by omega) (by omega)) (fun p _ _ => u p (by omega) (by omega)), Rtext_c g8 (fun k _ _ => hw k (by omega)) (fun p _ _ => u p (by omega) (by omega))⟩
  unfold Rcnt at g2 ⊢
  rw [hw T (by omega), u 0 (by omega) (by omega), u 2 (by omega) (by omega), u 3 (by omega) (by omega), u 4 (by omega) (by omega), u 5 (by omega) (by omega), u 6 (by omega) (by omega)]
  exact ⟨g2.1, hc, g2.2.2⟩
theorem op_word {w : zW} (hR : Rel w) (a b : Int32) : OK2 (f_X11_word a b) (f_X12_word a b) w := by
  have h := hR.1
  obtain ⟨c, hc, ec, etc⟩ := nn_nI h.1 1 (by decide) (by decide)
  have c12 := h.2.1.2.1.2
  have e9 := h.2.1.2.1.1.trans ec
  by_cases ha : 0 ≤ a.toInt ∧ a.toInt ≤ 4
  · by_cases hb : 1 ≤ b.toInt ∧ b.toInt ≤ 26
    · by_cases hf : c = 12
      · subst hf
        refine OK_err hR (k := 4) (by decide) (by decide) ?_ (fun w1 e => ?_)
        · rw [f_X11_word]
          simp (disch := omega) only [zb_s, zb2_s, zlet_e, zg_t, bP_0, bP_t0, in_k, isLetter_spec, XisLetter_spec, lt_nI, nI_lt2, eq_nI, tnI, tsub_k, tadd_k, if_pos, if_neg, zld_k, zsto_k, ztld_k, clamp_nI, zin_nI, zb2_eta, ↓reduceIte, nI_add, pk_mul, pk_sub, e9]
        · rw [f_X12_word]
          simp (disch := omega) only [zb_s, zb2_s, zlet_e, zg_t, bP_0, bP_t0, in_k, isLetter_spec, XisLetter_spec, lt_nI, nI_lt2, eq_nI, tnI, tsub_k, tadd_k, if_pos, if_neg, zld_k, zsto_k, ztld_k, clamp_nI, zin_nI, zb2_eta, ↓reduceIte, nI_add, pk_mul, pk_sub, e, ec]
      · obtain ⟨i, hi, rfl, ei⟩ := of_toInt a (by omega)
        obtain ⟨l, hl, rfl, el⟩ := of_toInt b (by omega)
        have hs1 : (1 : Nat) ≠ 172 + 8 * c := by omega
        refine ⟨nI c, zupd (zupd (zupd (zupd w (5 + 2 * c) 1 (nI i)) (5 + 2 * c + 1) 0 (nI l)) (5 + 2 * c) 2 (nI 1)) 3 1 (nI (c + 1)), zupd (zupd (zupd (zupd (zupd (zupd (zupd (zupd w (5 + 2 * c) 1 (nI i)) (5 + 2 * c + 1) 0 (nI l)) (5 + 2 * c) 2 (nI 1)) 3 1 (nI (c + 1))) 129 (170 + 8 * c) (nI i)) 129 (170 + 8 * c + 1) (nI 1)) 129 (170 + 8 * c + 2) (nI l)) 129 1 (nI (c + 1)), ?_, ?_, ?_⟩
        · rw [f_X11_word]
          simp (disch := omega) only [zb_s, zb2_s, zlet_e, zg_t, bP_0, bP_t0, in_k, isLetter_spec, XisLetter_spec, lt_nI, nI_lt2, eq_nI, tnI, tsub_k, tadd_k, if_pos, if_neg, zld_k, zsto_k, ztld_k, clamp_nI, zin_nI, zb2_eta, ↓reduceIte, nI_add, pk_mul, pk_sub, e9, f_X10_begin, zupd_eq, upd_eq, zupd_ne, show c + 1 - 1 = c by omega]
        · have e : zupd (zupd (zupd (zupd w (5 + 2 * c) 1 (nI i)) (5 + 2 * c + 1) 0 (nI l)) (5 + 2 * c) 2 (nI 1)) 3 1 (nI (c + 1)) 129 = w 129 := by
            rw [zupd_ne _ _ _ (by omega), zupd_ne _ _ _ (by omega), zupd_ne _ _ _ (by omega), zupd_ne _ _ _ (by omega)]
          rw [f_X12_word]
          simp (disch := omega) only [zb_s, zb2_s, zlet_e, zg_t, bP_0, bP_t0, in_k, isLetter_spec, XisLetter_spec, lt_nI, nI_lt2, eq_nI, tnI, tsub_k, tadd_k, if_pos, if_neg, zld_k, zsto_k, ztld_k, clamp_nI, zin_nI, zb2_eta, ↓reduceIte, nI_add, pk_mul, pk_sub, e, ec, zupd_eq, upd_eq, upd_ne, show c + 1 - 1 = c by omega]
        · refine Rel_now (s := upd (upd (upd (upd (w 129) (170 + 8 * c) (nI i)) (170 + 8 * c + 1) (nI 1)) (170 + 8 * c + 2) (nI l)) 1 (nI (c + 1))) hR (FX_upd (FX_upd (FX_upd (FX_upd (FX_refl w) _ _ (by omega)) _ _ (by omega)) _ _ (by omega)) _ _ (by omega)) ?_ (FM_upd (FM_upd (FM_upd (FM_upd (FM_refl _) _ _ (by omega)) _ _ (by omega)) _ _ (by omega)) _ _ (by omega)) ?_
          · refine RT_words h (fun k hk => ?_) (fun p h1 h2 => ?_) (nn_upd (nn_upd (nn_upd (nn_upd h.1 _ _ (by omega)) _ _ (by rw [tnI (by omega)]; omega)) _ _ (by omega)) _ _ (by rw [tnI (by omega)]; omega)) ?_ ?_
            · rw [zupd_ne _ _ _ (by omega), zupd_ne _ _ _ (by omega), zupd_ne _ _ _ (by omega), zupd_ne _ _ _ (by omega)]
            · rw [upd_ne _ _ (by omega), upd_ne _ _ (by omega), upd_ne _ _ (by omega), upd_ne _ _ (by omega)]
            · rw [zupd_eq, upd_eq, upd_eq, tnI (by omega)]
              exact ⟨rfl, by omega⟩
            · intro j hj
              rw [upd_eq, tnI (by omega)] at hj
              unfold Rwor1
              by_cases e : j = c
              · subst e
                rw [show 1 + 4 + 2 * j = 5 + 2 * j by omega, show 1 + 5 + 2 * j = 5 + 2 * j + 1 by omega]
                have z1 : zupd (zupd (zupd (zupd w (5 + 2 * j) 1 (nI i)) (5 + 2 * j + 1) 0 (nI l)) (5 + 2 * j) 2 (nI 1)) 3 1 (nI (j + 1)) (5 + 2 * j) = upd (upd (w (5 + 2 * j)) 1 (nI i)) 2 (nI 1) := by
                  rw [zupd_ne _ _ _ (by omega), zupd_eq, zupd_ne _ _ _ (by omega), zupd_eq]
                have z2 : zupd (zupd (zupd (zupd w (5 + 2 * j) 1 (nI i)) (5 + 2 * j + 1) 0 (nI l)) (5 + 2 * j) 2 (nI 1)) 3 1 (nI (j + 1)) (5 + 2 * j + 1) = upd (w (5 + 2 * j + 1)) 0 (nI l) := by
                  rw [zupd_ne _ _ _ (by omega), zupd_ne _ _ _ (by omega), zupd_eq, zupd_ne _ _ _ (by omega)]
                rw [z1, z2]
                simp (disch := omega) only [zb_s, zb2_s, zlet_e, zg_t, bP_0, bP_t0, in_k, isLetter_spec, XisLetter_spec, lt_nI, nI_lt2, eq_nI, tnI, tsub_k, tadd_k, if_pos, if_neg, zld_k, zsto_k, ztld_k, clamp_nI, zin_nI, zb2_eta, ↓reduceIte, nI_add, pk_mul, pk_sub, upd_eq, upd_ne, show 171 + 8 * j = 170 + 8 * j + 1 by omega, show ∀ k, 172 + 8 * j + k = 170 + 8 * j + 2 + k from fun k => by omega]
                refine ⟨⟨trivial, by omega⟩, ⟨trivial, by omega, by omega⟩, fun k hk => ?_⟩
                have : k = 0 := by omega
                subst this
                simp (disch := omega) only [zb_s, zb2_s, zlet_e, zg_t, bP_0, bP_t0, in_k, isLetter_spec, XisLetter_spec, lt_nI, nI_lt2, eq_nI, tnI, tsub_k, tadd_k, if_pos, if_neg, zld_k, zsto_k, ztld_k, clamp_nI, zin_nI, zb2_eta, ↓reduceIte, nI_add, pk_mul, pk_sub, upd_eq, upd_ne, Nat.add_zero]
                exact ⟨trivial, by omega, by omega⟩
              · have q := h.2.2.2.1 j (by omega)
                unfold Rwor1 at q
                have v : ∀ p, p < 170 + 8 * c → p ≠ 1 → upd (upd (upd (upd (w 129) (170 + 8 * c) (nI i)) (170 + 8 * c + 1) (nI 1)) (170 + 8 * c + 2) (nI l)) 1 (nI (c + 1)) p = w 129 p := fun p h1 h2 => by
                  rw [upd_ne _ _ (by omega), upd_ne _ _ (by omega), upd_ne _ _ (by omega), upd_ne _ _ (by omega)]
                have z : ∀ k, k ≠ 3 → k ≠ 5 + 2 * c → k ≠ 5 + 2 * c + 1 → zupd (zupd (zupd (zupd w (5 + 2 * c) 1 (nI i)) (5 + 2 * c + 1) 0 (nI l)) (5 + 2 * c) 2 (nI 1)) 3 1 (nI (c + 1)) k = w k := fun k h1 h2 h3 => by
                  rw [zupd_ne _ _ _ h1, zupd_ne _ _ _ h2, zupd_ne _ _ _ h3, zupd_ne _ _ _ h2]
                rw [z _ (by omega) (by omega) (by omega), z _ (by omega) (by omega) (by omega), v (170 + 8 * j) (by omega) (by omega), v (171 + 8 * j) (by omega) (by omega)]
                refine ⟨q.1, q.2.1, fun k hk => ?_⟩
                have := q.2.1.2.2
                rw [v _ (by omega) (by omega)]
                exact q.2.2 k hk
          · rw [zupd_eq, zupd_eq, zupd_eq, zupd_eq, zupd_ne _ _ _ (by omega), zupd_ne _ _ _ (by omega), zupd_ne _ _ _ (by omega), zupd_ne _ _ _ (by omega)]
    · refine OK_err hR (k := 1) (by decide) (by decide) ?_ (fun w1 e => ?_)
      · rw [f_X11_word]
        simp (disch := omega) only [zb_s, zb2_s, zlet_e, zg_t, bP_0, bP_t0, in_k, isLetter_spec, XisLetter_spec, lt_nI, nI_lt2, eq_nI, tnI, tsub_k, tadd_k, if_pos, if_neg, zld_k, zsto_k, ztld_k, clamp_nI, zin_nI, zb2_eta, ↓reduceIte, nI_add, pk_mul, pk_sub, j_X11_word_16]
      · rw [f_X12_word]
        simp (disch := omega) only [zb_s, zb2_s, zlet_e, zg_t, bP_0, bP_t0, in_k, isLetter_spec, XisLetter_spec, lt_nI, nI_lt2, eq_nI, tnI, tsub_k, tadd_k, if_pos, if_neg, zld_k, zsto_k, ztld_k, clamp_nI, zin_nI, zb2_eta, ↓reduceIte, nI_add, pk_mul, pk_sub, j_X12_word_16]
  · refine OK_err hR (k := 1) (by decide) (by decide) ?_ (fun w1 e => ?_)
    · rw [f_X11_word]
      by_cases hn : a.toInt < 0
      · simp (disch := omega) only [zb_s, zb2_s, zlet_e, zg_t, bP_0, bP_t0, in_k, isLetter_spec, XisLetter_spec, lt_nI, nI_lt2, eq_nI, tnI, tsub_k, tadd_k, if_pos, if_neg, zld_k, zsto_k, ztld_k, clamp_nI, zin_nI, zb2_eta, ↓reduceIte, nI_add, pk_mul, pk_sub, j_X11_word_16]
      · simp (disch := omega) only [zb_s, zb2_s, zlet_e, zg_t, bP_0, bP_t0, in_k, isLetter_spec, XisLetter_spec, lt_nI, nI_lt2, eq_nI, tnI, tsub_k, tadd_k, if_pos, if_neg, zld_k, zsto_k, ztld_k, clamp_nI, zin_nI, zb2_eta, ↓reduceIte, nI_add, pk_mul, pk_sub, j_X11_word_16]
    · rw [f_X12_word]
      simp (disch := omega) only [zb_s, zb2_s, zlet_e, zg_t, bP_0, bP_t0, in_k, isLetter_spec, XisLetter_spec, lt_nI, nI_lt2, eq_nI, tnI, tsub_k, tadd_k, if_pos, if_neg, zld_k, zsto_k, ztld_k, clamp_nI, zin_nI, zb2_eta, ↓reduceIte, nI_add, pk_mul, pk_sub, j_X12_word_16]
theorem op_letter {w : zW} (hR : Rel w) (a b : Int32) : OK2 (f_X11_letter a b) (f_X12_letter a b) w := by
  have h := hR.1
  have c12 := h.2.1.2.1.2
  by_cases ha : 0 ≤ a.toInt ∧ a.toInt < (w 129 1).toInt
  · obtain ⟨j, hj, rfl, ej⟩ := of_toInt a (by omega)
    have q := h.2.2.2.1 j (by omega)
    unfold Rwor1 at q
    rw [show 1 + 4 + 2 * j = 5 + 2 * j by omega, show 1 + 5 + 2 * j = 5 + 2 * j + 1 by omega] at q
    obtain ⟨c, hc, ec, etc⟩ := nn_nI h.1 (171 + 8 * j) (by omega) (by omega)
    have e9 := q.2.1.1.trans ec
    have l6 := q.2.1.2.2
    by_cases hb : 1 ≤ b.toInt ∧ b.toInt ≤ 26
    · by_cases hf : c = 6
      · subst hf
        refine OK_err hR (k := 4) (by decide) (by decide) ?_ (fun w1 e => ?_)
        · rw [f_X11_letter]
          simp (disch := omega) only [zb_s, zb2_s, zlet_e, zg_t, bP_0, bP_t0, in_k, isLetter_spec, XisLetter_spec, lt_nI, nI_lt2, eq_nI, tnI, tsub_k, tadd_k, if_pos, if_neg, zld_k, zsto_k, ztld_k, clamp_nI, zin_nI, zb2_eta, ↓reduceIte, nI_add, pk_mul, pk_sub, has_spec h, e9]
        · rw [f_X12_letter]
          simp (disch := omega) only [zb_s, zb2_s, zlet_e, zg_t, bP_0, bP_t0, in_k, isLetter_spec, XisLetter_spec, lt_nI, nI_lt2, eq_nI, tnI, tsub_k, tadd_k, if_pos, if_neg, zld_k, zsto_k, ztld_k, clamp_nI, zin_nI, zb2_eta, ↓reduceIte, nI_add, pk_mul, pk_sub, isWord_spec e h.1 c12, lengthOf_k e (show j < 12 by omega), ec]
      · obtain ⟨l, hl, rfl, el⟩ := of_toInt b (by omega)
        refine ⟨nI (c + 1), zupd (zupd w (5 + 2 * j + 1) c (nI l)) (5 + 2 * j) 2 (nI (c + 1)), zupd (zupd (zupd (zupd w (5 + 2 * j + 1) c (nI l)) (5 + 2 * j) 2 (nI (c + 1))) 129 (172 + 8 * j + c) (nI l)) 129 (171 + 8 * j) (nI (c + 1)), ?_, ?_, ?_⟩
        · rw [f_X11_letter]
          simp (disch := omega) only [zb_s, zb2_s, zlet_e, zg_t, bP_0, bP_t0, in_k, isLetter_spec, XisLetter_spec, lt_nI, nI_lt2, eq_nI, tnI, tsub_k, tadd_k, if_pos, if_neg, zld_k, zsto_k, ztld_k, clamp_nI, zin_nI, zb2_eta, ↓reduceIte, nI_add, pk_mul, pk_sub, has_spec h, e9, zupd_eq, upd_eq, zupd_ne]
        · have e : zupd (zupd w (5 + 2 * j + 1) c (nI l)) (5 + 2 * j) 2 (nI (c + 1)) 129 = w 129 := by
            rw [zupd_ne _ _ _ (by omega), zupd_ne _ _ _ (by omega)]
          rw [f_X12_letter]
          simp (disch := omega) only [zb_s, zb2_s, zlet_e, zg_t, bP_0, bP_t0, in_k, isLetter_spec, XisLetter_spec, lt_nI, nI_lt2, eq_nI, tnI, tsub_k, tadd_k, if_pos, if_neg, zld_k, zsto_k, ztld_k, clamp_nI, zin_nI, zb2_eta, ↓reduceIte, nI_add, pk_mul, pk_sub, isWord_spec e h.1 c12, lengthOf_k e (show j < 12 by omega), ec, show 170 + 8 * j + 2 + c = 172 + 8 * j + c by omega, show 170 + 8 * j + 1 = 171 + 8 * j by omega]
        · refine Rel_now (s := upd (upd (w 129) (172 + 8 * j + c) (nI l)) (171 + 8 * j) (nI (c + 1))) hR (FX_upd (FX_upd (FX_refl w) _ _ (by omega)) _ _ (by omega)) ?_ (FM_upd (FM_upd (FM_refl _) _ _ (by omega)) _ _ (by omega)) ?_
          · refine RT_words h (fun k hk => ?_) (fun p h1 h2 => ?_) (nn_upd (nn_upd h.1 _ _ (by omega)) _ _ (by rw [tnI (by omega)]; omega)) ?_ ?_
            · rw [zupd_ne _ _ _ (by omega), zupd_ne _ _ _ (by omega)]
            · rw [upd_ne _ _ (by omega), upd_ne _ _ (by omega)]
            · rw [zupd_ne _ _ _ (by omega), zupd_ne _ _ _ (by omega), upd_ne _ _ (by omega), upd_ne _ _ (by omega)]
              exact h.2.1.2.1
            · intro i hi
              rw [upd_ne _ _ (by omega), upd_ne _ _ (by omega)] at hi
              have qi := h.2.2.2.1 i hi
              unfold Rwor1 at qi ⊢
              by_cases e : i = j
              · subst e
                rw [show 1 + 4 + 2 * i = 5 + 2 * i by omega, show 1 + 5 + 2 * i = 5 + 2 * i + 1 by omega, zupd_eq, zupd_ne _ _ _ (show 5 + 2 * i ≠ 5 + 2 * i + 1 by omega), zupd_ne _ _ _ (show 5 + 2 * i + 1 ≠ 5 + 2 * i by omega), zupd_eq]
                simp (disch := omega) only [zb_s, zb2_s, zlet_e, zg_t, bP_0, bP_t0, in_k, isLetter_spec, XisLetter_spec, lt_nI, nI_lt2, eq_nI, tnI, tsub_k, tadd_k, if_pos, if_neg, zld_k, zsto_k, ztld_k, clamp_nI, zin_nI, zb2_eta, ↓reduceIte, nI_add, pk_mul, pk_sub, upd_eq, upd_ne]
                refine ⟨q.1, ⟨trivial, by omega, by omega⟩, fun k hk => ?_⟩
                by_cases ek : k = c
                · subst ek
                  rw [upd_eq, upd_eq, tnI (by omega)]
                  exact ⟨rfl, by omega, by omega⟩
                · rw [upd_ne _ _ ek, upd_ne _ _ (by omega)]
                  exact q.2.2 k (by omega)
              · rw [zupd_ne _ _ _ (by omega), zupd_ne _ _ _ (by omega), zupd_ne _ _ _ (by omega), zupd_ne _ _ _ (by omega)]
                have v : ∀ p, (p < 171 + 8 * j ∨ 178 + 8 * j ≤ p) → upd (upd (w 129) (172 + 8 * j + c) (nI l)) (171 + 8 * j) (nI (c + 1)) p = w 129 p := fun p h1 => by
                  rw [upd_ne _ _ (by omega), upd_ne _ _ (by omega)]
                rw [v (170 + 8 * i) (by omega), v (171 + 8 * i) (by omega)]
                refine ⟨qi.1, qi.2.1, fun k hk => ?_⟩
                have := qi.2.1.2.2
                rw [v _ (by omega)]
                exact qi.2.2 k hk
          · rw [zupd_eq, zupd_eq, zupd_ne _ _ _ (by omega), zupd_ne _ _ _ (by omega)]
    · refine OK_err hR (k := 1) (by decide) (by decide) ?_ (fun w1 e => ?_)
      · rw [f_X11_letter]
        simp (disch := omega) only [zb_s, zb2_s, zlet_e, zg_t, bP_0, bP_t0, in_k, isLetter_spec, XisLetter_spec, lt_nI, nI_lt2, eq_nI, tnI, tsub_k, tadd_k, if_pos, if_neg, zld_k, zsto_k, ztld_k, clamp_nI, zin_nI, zb2_eta, ↓reduceIte, nI_add, pk_mul, pk_sub, has_spec h, j_X11_letter_21]
      · rw [f_X12_letter]
        simp (disch := omega) only [zb_s, zb2_s, zlet_e, zg_t, bP_0, bP_t0, in_k, isLetter_spec, XisLetter_spec, lt_nI, nI_lt2, eq_nI, tnI, tsub_k, tadd_k, if_pos, if_neg, zld_k, zsto_k, ztld_k, clamp_nI, zin_nI, zb2_eta, ↓reduceIte, nI_add, pk_mul, pk_sub, isWord_spec e h.1 c12, j_X12_letter_15]
  · refine OK_err hR (k := 1) (by decide) (by decide) ?_ (fun w1 e => ?_)
    · rw [f_X11_letter]
      simp (disch := omega) only [zb_s, zb2_s, zlet_e, zg_t, bP_0, bP_t0, in_k, isLetter_spec, XisLetter_spec, lt_nI, nI_lt2, eq_nI, tnI, tsub_k, tadd_k, if_pos, if_neg, zld_k, zsto_k, ztld_k, clamp_nI, zin_nI, zb2_eta, ↓reduceIte, nI_add, pk_mul, pk_sub, has_spec h, j_X11_letter_21]
    · rw [f_X12_letter]
      simp (disch := omega) only [zb_s, zb2_s, zlet_e, zg_t, bP_0, bP_t0, in_k, isLetter_spec, XisLetter_spec, lt_nI, nI_lt2, eq_nI, tnI, tsub_k, tadd_k, if_pos, if_neg, zld_k, zsto_k, ztld_k, clamp_nI, zin_nI, zb2_eta, ↓reduceIte, nI_add, pk_mul, pk_sub, isWord_spec e h.1 c12, j_X12_letter_15]
theorem op_wordIs {w : zW} (hR : Rel w) (a b : Int32) : OK2 (f_X11_wordIs a b) (f_X12_wordIs a b) w := by
  have h := hR.1
  have c12 := h.2.1.2.1.2
  by_cases ha : 0 ≤ a.toInt ∧ a.toInt < (w 129 1).toInt
  · obtain ⟨j, hj, rfl, ej⟩ := of_toInt a (by omega)
    have q := h.2.2.2.1 j (by omega)
    unfold Rwor1 at q
    rw [show 1 + 4 + 2 * j = 5 + 2 * j by omega, show 1 + 5 + 2 * j = 5 + 2 * j + 1 by omega] at q
    obtain ⟨c, hc, ec, etc⟩ := nn_nI h.1 (171 + 8 * j) (by omega) (by omega)
    have e9 := q.2.1.1.trans ec
    have l6 := q.2.1.2.2
    have hj12 : j < 12 := by omega
    by_cases h1 : b.toInt = -1
    · refine OK_same hR (w 129 (170 + 8 * j)) ?_ ?_
      · rw [f_X11_wordIs]
        simp (disch := omega) only [zb_s, zb2_s, zlet_e, zg_t, bP_0, bP_t0, in_k, isLetter_spec, XisLetter_spec, lt_nI, nI_lt2, eq_nI, tnI, tsub_k, tadd_k, if_pos, if_neg, zld_k, zsto_k, ztld_k, clamp_nI, zin_nI, zb2_eta, ↓reduceIte, nI_add, pk_mul, pk_sub, has_spec h, q.1.1, eq_mI]
      · rw [f_X12_wordIs]
        simp (disch := omega) only [zb_s, zb2_s, zlet_e, zg_t, bP_0, bP_t0, in_k, isLetter_spec, XisLetter_spec, lt_nI, nI_lt2, eq_nI, tnI, tsub_k, tadd_k, if_pos, if_neg, zld_k, zsto_k, ztld_k, clamp_nI, zin_nI, zb2_eta, ↓reduceIte, nI_add, pk_mul, pk_sub, isWord_spec rfl h.1 c12, lengthOf_k rfl hj12, sortOf_k rfl hj12, ec, in_m, eq_mI]
    · by_cases h2 : b.toInt = -2
      · refine OK_same hR (nI c) ?_ ?_
        · rw [f_X11_wordIs]
          simp (disch := omega) only [zb_s, zb2_s, zlet_e, zg_t, bP_0, bP_t0, in_k, isLetter_spec, XisLetter_spec, lt_nI, nI_lt2, eq_nI, tnI, tsub_k, tadd_k, if_pos, if_neg, zld_k, zsto_k, ztld_k, clamp_nI, zin_nI, zb2_eta, ↓reduceIte, nI_add, pk_mul, pk_sub, has_spec h, e9, eq_mI]
        · rw [f_X12_wordIs]
          simp (disch := omega) only [zb_s, zb2_s, zlet_e, zg_t, bP_0, bP_t0, in_k, isLetter_spec, XisLetter_spec, lt_nI, nI_lt2, eq_nI, tnI, tsub_k, tadd_k, if_pos, if_neg, zld_k, zsto_k, ztld_k, clamp_nI, zin_nI, zb2_eta, ↓reduceIte, nI_add, pk_mul, pk_sub, isWord_spec rfl h.1 c12, lengthOf_k rfl hj12, ec, in_m, eq_mI]
      · by_cases hb : 0 ≤ b.toInt ∧ b.toInt < c
        · obtain ⟨k, hk, rfl, ek⟩ := of_toInt b (by omega)
          have hk6 : k < 6 := by omega
          have qk := (q.2.2 k (by omega)).1
          refine OK_same hR (w 129 (172 + 8 * j + k)) ?_ ?_
          · rw [f_X11_wordIs]
            simp (disch := omega) only [zb_s, zb2_s, zlet_e, zg_t, bP_0, bP_t0, in_k, isLetter_spec, XisLetter_spec, lt_nI, nI_lt2, eq_nI, tnI, tsub_k, tadd_k, if_pos, if_neg, zld_k, zsto_k, ztld_k, clamp_nI, zin_nI, zb2_eta, ↓reduceIte, nI_add, pk_mul, pk_sub, has_spec h, e9, eq_mI, qk]
          · rw [f_X12_wordIs]
            simp (disch := omega) only [zb_s, zb2_s, zlet_e, zg_t, bP_0, bP_t0, in_k, isLetter_spec, XisLetter_spec, lt_nI, nI_lt2, eq_nI, tnI, tsub_k, tadd_k, if_pos, if_neg, zld_k, zsto_k, ztld_k, clamp_nI, zin_nI, zb2_eta, ↓reduceIte, nI_add, pk_mul, pk_sub, isWord_spec rfl h.1 c12, lengthOf_k rfl hj12, letterOf_k rfl hj12 hk6, ec, in_m, eq_mI]
        · refine OK_err hR (k := 1) (by decide) (by decide) ?_ (fun w1 e => ?_)
          · rw [f_X11_wordIs]
            by_cases hn : b.toInt < 0
            · simp (disch := omega) only [zb_s, zb2_s, zlet_e, zg_t, bP_0, bP_t0, in_k, isLetter_spec, XisLetter_spec, lt_nI, nI_lt2, eq_nI, tnI, tsub_k, tadd_k, if_pos, if_neg, zld_k, zsto_k, ztld_k, clamp_nI, zin_nI, zb2_eta, ↓reduceIte, nI_add, pk_mul, pk_sub, has_spec h, j_X11_wordIs_75, e9, eq_mI]
            · simp (disch := omega) only [zb_s, zb2_s, zlet_e, zg_t, bP_0, bP_t0, in_k, isLetter_spec, XisLetter_spec, lt_nI, nI_lt2, eq_nI, tnI, tsub_k, tadd_k, if_pos, if_neg, zld_k, zsto_k, ztld_k, clamp_nI, zin_nI, zb2_eta, ↓reduceIte, nI_add, pk_mul, pk_sub, has_spec h, j_X11_wordIs_75, e9, eq_mI]
          · rw [f_X12_wordIs]
            simp (disch := omega) only [zb_s, zb2_s, zlet_e, zg_t, bP_0, bP_t0, in_k, isLetter_spec, XisLetter_spec, lt_nI, nI_lt2, eq_nI, tnI, tsub_k, tadd_k, if_pos, if_neg, zld_k, zsto_k, ztld_k, clamp_nI, zin_nI, zb2_eta, ↓reduceIte, nI_add, pk_mul, pk_sub, isWord_spec e h.1 c12, lengthOf_k e hj12, j_X12_wordIs_24, ec, in_m, eq_mI]
  · refine OK_err hR (k := 1) (by decide) (by decide) ?_ (fun w1 e => ?_)
    · rw [f_X11_wordIs]
      simp (disch := omega) only [zb_s, zb2_s, zlet_e, zg_t, bP_0, bP_t0, in_k, isLetter_spec, XisLetter_spec, lt_nI, nI_lt2, eq_nI, tnI, tsub_k, tadd_k, if_pos, if_neg, zld_k, zsto_k, ztld_k, clamp_nI, zin_nI, zb2_eta, ↓reduceIte, nI_add, pk_mul, pk_sub, has_spec h]
    · rw [f_X12_wordIs]
      simp (disch := omega) only [zb_s, zb2_s, zlet_e, zg_t, bP_0, bP_t0, in_k, isLetter_spec, XisLetter_spec, lt_nI, nI_lt2, eq_nI, tnI, tsub_k, tadd_k, if_pos, if_neg, zld_k, zsto_k, ztld_k, clamp_nI, zin_nI, zb2_eta, ↓reduceIte, nI_add, pk_mul, pk_sub, isWord_spec e h.1 c12, j_X12_wordIs_24]
