theorem op_seed {w : zW} (hR : Rel w) (a : Int32) : OK2 (f_X11_seed a) (f_X12_seed a) w := by
  have h := hR.1
  have c := h.2.1
  refine ⟨w 129 6, zupd w 1 12 a, zupd (zupd w 1 12 a) 129 6 a, ?_, ?_, ?_⟩
  · rw [f_X11_seed]
    simp (disch := omega) only [zb_s, zb2_s, zlet_e, zg_t, bP_0, bP_t0, in_k, isLetter_spec, XisLetter_spec, lt_nI, nI_lt2, eq_nI, tnI, tsub_k, tadd_k, if_pos, if_neg, zld_k, zsto_k, ztld_k, clamp_nI, zin_nI, zb2_eta, ↓reduceIte, nI_add, pk_mul, pk_sub, c.2.2.2.2.2.2]
  · rw [f_X12_seed]
    simp (disch := omega) only [zb_s, zb2_s, zlet_e, zg_t, bP_0, bP_t0, in_k, isLetter_spec, XisLetter_spec, lt_nI, nI_lt2, eq_nI, tnI, tsub_k, tadd_k, if_pos, if_neg, zld_k, zsto_k, ztld_k, clamp_nI, zin_nI, zb2_eta, ↓reduceIte, nI_add, pk_mul, pk_sub]
    rw [zupd_ne _ _ _ (by decide)]
  · refine Rel_now (s := upd (w 129) 6 a) hR (FX_upd (FX_refl w) _ _ (by omega)) (RT_cnt h (fun k hk => zupd_ne _ _ _ hk) (fun p _ _ h6 => upd_ne _ _ h6) (nn_upd h.1 _ _ (by omega)) ?_) (FM_upd (FM_refl _) _ _ (by omega)) ?_
    · unfold Rcnt at c ⊢
      rw [zupd_eq, zupd_ne _ _ _ (by decide)]
      simp only [upd]
      simpa using ⟨c.1, c.2.1, c.2.2.1, c.2.2.2.1, c.2.2.2.2.1, c.2.2.2.2.2.1⟩
    · rw [zupd_eq, zupd_ne _ _ _ (by decide)]
theorem op_have {w : zW} (hR : Rel w) (a b : Int32) : OK2 (f_X11_have a b) (f_X12_have a b) w := by
  have h := hR.1
  have c := h.2.1
  by_cases ha : 0 ≤ a.toInt ∧ a.toInt ≤ 1
  · obtain ⟨i, hi, rfl, ei⟩ := of_toInt a ha.1
    have : i = 0 ∨ i = 1 := by omega
    rcases this with rfl | rfl
    · by_cases hb : 0 ≤ b.toInt ∧ b.toInt ≤ 3
      · obtain ⟨v, hv, rfl, ev⟩ := of_toInt b hb.1
        refine ⟨w 129 2, zupd w 1 10 (nI v), zupd (zupd w 1 10 (nI v)) 129 2 (nI v), ?_, ?_, ?_⟩
        · rw [f_X11_have]
          simp (disch := omega) only [zb_s, zb2_s, zlet_e, zg_t, bP_0, bP_t0, in_k, isLetter_spec, XisLetter_spec, lt_nI, nI_lt2, eq_nI, tnI, tsub_k, tadd_k, if_pos, if_neg, zld_k, zsto_k, ztld_k, clamp_nI, zin_nI, zb2_eta, ↓reduceIte, nI_add, pk_mul, pk_sub, j_X11_have_24, j_X11_have_54, c.2.2.1.1]
        · rw [f_X12_have]
          simp (disch := omega) only [zb_s, zb2_s, zlet_e, zg_t, bP_0, bP_t0, in_k, isLetter_spec, XisLetter_spec, lt_nI, nI_lt2, eq_nI, tnI, tsub_k, tadd_k, if_pos, if_neg, zld_k, zsto_k, ztld_k, clamp_nI, zin_nI, zb2_eta, ↓reduceIte, nI_add, pk_mul, pk_sub, j_X12_have_21, zupd_ne w 10 (nI v) (show 129 ≠ 1 by decide)]
        · refine Rel_now (s := upd (w 129) 2 (nI v)) hR (FX_upd (FX_refl w) _ _ (by omega)) (RT_cnt h (fun k hk => zupd_ne _ _ _ hk) (fun p h2 _ _ => upd_ne _ _ h2) (nn_upd h.1 _ _ (by omega)) ?_) (FM_upd (FM_refl _) _ _ (by omega)) ?_
          · unfold Rcnt at c ⊢
            rw [zupd_eq, zupd_ne _ _ _ (by decide)]
            simp only [upd]
            simpa [ev] using ⟨c.1, c.2.1, by omega, c.2.2.2.1, c.2.2.2.2.1, c.2.2.2.2.2.1, c.2.2.2.2.2.2⟩
          · rw [zupd_eq, zupd_ne _ _ _ (by decide)]
      · refine OK_err hR (k := 1) (by decide) (by decide) ?_ (fun w1 e => ?_)
        · rw [f_X11_have]
          by_cases hn : b.toInt < 0
          · simp (disch := omega) only [zb_s, zb2_s, zlet_e, zg_t, bP_0, bP_t0, in_k, isLetter_spec, XisLetter_spec, lt_nI, nI_lt2, eq_nI, tnI, tsub_k, tadd_k, if_pos, if_neg, zld_k, zsto_k, ztld_k, clamp_nI, zin_nI, zb2_eta, ↓reduceIte, nI_add, pk_mul, pk_sub, j_X11_have_27]
          · simp (disch := omega) only [zb_s, zb2_s, zlet_e, zg_t, bP_0, bP_t0, in_k, isLetter_spec, XisLetter_spec, lt_nI, nI_lt2, eq_nI, tnI, tsub_k, tadd_k, if_pos, if_neg, zld_k, zsto_k, ztld_k, clamp_nI, zin_nI, zb2_eta, ↓reduceIte, nI_add, pk_mul, pk_sub, j_X11_have_24, j_X11_have_27]
        · rw [f_X12_have]
          simp (disch := omega) only [zb_s, zb2_s, zlet_e, zg_t, bP_0, bP_t0, in_k, isLetter_spec, XisLetter_spec, lt_nI, nI_lt2, eq_nI, tnI, tsub_k, tadd_k, if_pos, if_neg, zld_k, zsto_k, ztld_k, clamp_nI, zin_nI, zb2_eta, ↓reduceIte, nI_add, pk_mul, pk_sub, j_X12_have_21, j_X12_have_27]
    · by_cases hb : 0 ≤ b.toInt ∧ b.toInt ≤ 99999
      · obtain ⟨v, hv, rfl, ev⟩ := of_toInt b hb.1
        refine ⟨w 129 3, zupd w 1 11 (nI v), zupd (zupd w 1 11 (nI v)) 129 3 (nI v), ?_, ?_, ?_⟩
        · rw [f_X11_have]
          simp (disch := omega) only [zb_s, zb2_s, zlet_e, zg_t, bP_0, bP_t0, in_k, isLetter_spec, XisLetter_spec, lt_nI, nI_lt2, eq_nI, tnI, tsub_k, tadd_k, if_pos, if_neg, zld_k, zsto_k, ztld_k, clamp_nI, zin_nI, zb2_eta, ↓reduceIte, nI_add, pk_mul, pk_sub, j_X11_have_24, j_X11_have_54, c.2.2.2.1.1]
        · rw [f_X12_have]
          simp (disch := omega) only [zb_s, zb2_s, zlet_e, zg_t, bP_0, bP_t0, in_k, isLetter_spec, XisLetter_spec, lt_nI, nI_lt2, eq_nI, tnI, tsub_k, tadd_k, if_pos, if_neg, zld_k, zsto_k, ztld_k, clamp_nI, zin_nI, zb2_eta, ↓reduceIte, nI_add, pk_mul, pk_sub, j_X12_have_21, zupd_ne w 11 (nI v) (show 129 ≠ 1 by decide)]
        · refine Rel_now (s := upd (w 129) 3 (nI v)) hR (FX_upd (FX_refl w) _ _ (by omega)) (RT_cnt h (fun k hk => zupd_ne _ _ _ hk) (fun p _ h3 _ => upd_ne _ _ h3) (nn_upd h.1 _ _ (by omega)) ?_) (FM_upd (FM_refl _) _ _ (by omega)) ?_
          · unfold Rcnt at c ⊢
            rw [zupd_eq, zupd_ne _ _ _ (by decide)]
            simp only [upd]
            simpa [ev] using ⟨c.1, c.2.1, c.2.2.1, by omega, c.2.2.2.2.1, c.2.2.2.2.2.1, c.2.2.2.2.2.2⟩
          · rw [zupd_eq, zupd_ne _ _ _ (by decide)]
      · refine OK_err hR (k := 1) (by decide) (by decide) ?_ (fun w1 e => ?_)
        · rw [f_X11_have]
          by_cases hn : b.toInt < 0
          · simp (disch := omega) only [zb_s, zb2_s, zlet_e, zg_t, bP_0, bP_t0, in_k, isLetter_spec, XisLetter_spec, lt_nI, nI_lt2, eq_nI, tnI, tsub_k, tadd_k, if_pos, if_neg, zld_k, zsto_k, ztld_k, clamp_nI, zin_nI, zb2_eta, ↓reduceIte, nI_add, pk_mul, pk_sub, j_X11_have_27]
          · simp (disch := omega) only [zb_s, zb2_s, zlet_e, zg_t, bP_0, bP_t0, in_k, isLetter_spec, XisLetter_spec, lt_nI, nI_lt2, eq_nI, tnI, tsub_k, tadd_k, if_pos, if_neg, zld_k, zsto_k, ztld_k, clamp_nI, zin_nI, zb2_eta, ↓reduceIte, nI_add, pk_mul, pk_sub, j_X11_have_24, j_X11_have_27]
        · rw [f_X12_have]
          simp (disch := omega) only [zb_s, zb2_s, zlet_e, zg_t, bP_0, bP_t0, in_k, isLetter_spec, XisLetter_spec, lt_nI, nI_lt2, eq_nI, tnI, tsub_k, tadd_k, if_pos, if_neg, zld_k, zsto_k, ztld_k, clamp_nI, zin_nI, zb2_eta, ↓reduceIte, nI_add, pk_mul, pk_sub, j_X12_have_21, j_X12_have_27]
  · refine OK_err hR (k := 1) (by decide) (by decide) ?_ (fun w1 e => ?_)
    · rw [f_X11_have]
      by_cases hn : a.toInt < 0
      · simp (disch := omega) only [zb_s, zb2_s, zlet_e, zg_t, bP_0, bP_t0, in_k, isLetter_spec, XisLetter_spec, lt_nI, nI_lt2, eq_nI, tnI, tsub_k, tadd_k, if_pos, if_neg, zld_k, zsto_k, ztld_k, clamp_nI, zin_nI, zb2_eta, ↓reduceIte, nI_add, pk_mul, pk_sub, j_X11_have_27]
      · simp (disch := omega) only [zb_s, zb2_s, zlet_e, zg_t, bP_0, bP_t0, in_k, isLetter_spec, XisLetter_spec, lt_nI, nI_lt2, eq_nI, tnI, tsub_k, tadd_k, if_pos, if_neg, zld_k, zsto_k, ztld_k, clamp_nI, zin_nI, zb2_eta, ↓reduceIte, nI_add, pk_mul, pk_sub, j_X11_have_27]
    · rw [f_X12_have]
      simp (disch := omega) only [zb_s, zb2_s, zlet_e, zg_t, bP_0, bP_t0, in_k, isLetter_spec, XisLetter_spec, lt_nI, nI_lt2, eq_nI, tnI, tsub_k, tadd_k, if_pos, if_neg, zld_k, zsto_k, ztld_k, clamp_nI, zin_nI, zb2_eta, ↓reduceIte, nI_add, pk_mul, pk_sub, j_X12_have_27]
theorem op_told {w : zW} (hR : Rel w) (a : Int32) : OK2 (f_X11_told a) (f_X12_told a) w := by
  by_cases ha : 1 ≤ a.toInt ∧ a.toInt ≤ 6
  · obtain ⟨i, hi, rfl, ei⟩ := of_toInt a (by omega)
    have e := hR.2.2.2.1 i (by omega) (by omega)
    refine OK_same hR (w 131 i) ?_ ?_
    · rw [f_X11_told]
      simp (disch := omega) only [zb_s, zb2_s, zlet_e, zg_t, bP_0, bP_t0, in_k, isLetter_spec, XisLetter_spec, lt_nI, nI_lt2, eq_nI, tnI, tsub_k, tadd_k, if_pos, if_neg, zld_k, zsto_k, ztld_k, clamp_nI, zin_nI, zb2_eta, ↓reduceIte, nI_add, pk_mul, pk_sub, e]
    · rw [f_X12_told]
      simp (disch := omega) only [zb_s, zb2_s, zlet_e, zg_t, bP_0, bP_t0, in_k, isLetter_spec, XisLetter_spec, lt_nI, nI_lt2, eq_nI, tnI, tsub_k, tadd_k, if_pos, if_neg, zld_k, zsto_k, ztld_k, clamp_nI, zin_nI, zb2_eta, ↓reduceIte, nI_add, pk_mul, pk_sub]
  · refine OK_err hR (k := 1) (by decide) (by decide) ?_ (fun w1 e => ?_)
    · rw [f_X11_told]
      by_cases hn : a.toInt < 1
      · simp (disch := omega) only [zb_s, zb2_s, zlet_e, zg_t, bP_0, bP_t0, in_k, isLetter_spec, XisLetter_spec, lt_nI, nI_lt2, eq_nI, tnI, tsub_k, tadd_k, if_pos, if_neg, zld_k, zsto_k, ztld_k, clamp_nI, zin_nI, zb2_eta, ↓reduceIte, nI_add, pk_mul, pk_sub, j_X11_told_20]
      · simp (disch := omega) only [zb_s, zb2_s, zlet_e, zg_t, bP_0, bP_t0, in_k, isLetter_spec, XisLetter_spec, lt_nI, nI_lt2, eq_nI, tnI, tsub_k, tadd_k, if_pos, if_neg, zld_k, zsto_k, ztld_k, clamp_nI, zin_nI, zb2_eta, ↓reduceIte, nI_add, pk_mul, pk_sub, j_X11_told_20]
    · rw [f_X12_told]
      simp (disch := omega) only [zb_s, zb2_s, zlet_e, zg_t, bP_0, bP_t0, in_k, isLetter_spec, XisLetter_spec, lt_nI, nI_lt2, eq_nI, tnI, tsub_k, tadd_k, if_pos, if_neg, zld_k, zsto_k, ztld_k, clamp_nI, zin_nI, zb2_eta, ↓reduceIte, nI_add, pk_mul, pk_sub]
theorem op_body {w : zW} (hR : Rel w) (a : Int32) : OK2 (f_X11_body a) (f_X12_body a) w := by
  obtain ⟨t1, t2, t3, t4⟩ := hR.2.2.2.2.1
  have em : (w 128 21 - nI 1).toInt = (w 128 21).toInt - 1 := tsub_k (by decide) (by omega)
  by_cases ha : 0 ≤ a.toInt ∧ a.toInt < (w 128 21).toInt
  · obtain ⟨i, hi, rfl, ei⟩ := of_toInt a (by omega)
    have e := t4 i (by omega)
    refine OK_same hR (w 139 i) ?_ ?_
    · rw [f_X11_body]
      simp (disch := omega) only [zb_s, zb2_s, zlet_e, zg_t, bP_0, bP_t0, in_k, isLetter_spec, XisLetter_spec, lt_nI, nI_lt2, eq_nI, tnI, tsub_k, tadd_k, if_pos, if_neg, zld_k, zsto_k, ztld_k, clamp_nI, zin_nI, zb2_eta, ↓reduceIte, nI_add, pk_mul, pk_sub, e, t1, Int32.lt_iff_toInt_lt]
    · rw [f_X12_body, in_spec]
      simp (disch := omega) only [zb_s, zb2_s, zlet_e, zg_t, bP_0, bP_t0, in_k, isLetter_spec, XisLetter_spec, lt_nI, nI_lt2, eq_nI, tnI, tsub_k, tadd_k, if_pos, if_neg, zld_k, zsto_k, ztld_k, clamp_nI, zin_nI, zb2_eta, ↓reduceIte, nI_add, pk_mul, pk_sub, em]
  · obtain ⟨r, w1, w2, x1, x2, x3, x4⟩ := err_ok hR (k := 2) (by decide) (by decide)
    refine ⟨r, w1, w2, ?_, ?_, x4⟩
    · rw [f_X11_body]
      by_cases hn : a.toInt < 0
      · simp (disch := omega) only [zb_s, zb2_s, zlet_e, zg_t, bP_0, bP_t0, in_k, isLetter_spec, XisLetter_spec, lt_nI, nI_lt2, eq_nI, tnI, tsub_k, tadd_k, if_pos, if_neg, zld_k, zsto_k, ztld_k, clamp_nI, zin_nI, zb2_eta, ↓reduceIte, nI_add, pk_mul, pk_sub, j_X11_body_27]
        exact x1
      · simp (disch := omega) only [zb_s, zb2_s, zlet_e, zg_t, bP_0, bP_t0, in_k, isLetter_spec, XisLetter_spec, lt_nI, nI_lt2, eq_nI, tnI, tsub_k, tadd_k, if_pos, if_neg, zld_k, zsto_k, ztld_k, clamp_nI, zin_nI, zb2_eta, ↓reduceIte, nI_add, pk_mul, pk_sub, j_X11_body_27, t1, Int32.lt_iff_toInt_lt]
        exact x1
    · have e8 : w1 128 = w 128 := by
        rw [f_X11_error, zld_k _ _ _ _ _ (by omega) (by decide), zsto_k _ _ _ _ _ _ (by omega) (by decide)] at x1
        cases x1
        exact zupd_ne _ _ _ (by decide)
      rw [f_X12_body, in_spec, e8]
      simp (disch := omega) only [zb_s, zb2_s, zlet_e, zg_t, bP_0, bP_t0, in_k, isLetter_spec, XisLetter_spec, lt_nI, nI_lt2, eq_nI, tnI, tsub_k, tadd_k, if_pos, if_neg, zld_k, zsto_k, ztld_k, clamp_nI, zin_nI, zb2_eta, ↓reduceIte, nI_add, pk_mul, pk_sub, em]
      exact x3
