theorem tmI {k : Nat} (h : k ≤ 2 ^ 31) : (mI k).toInt = -(k : Int) := by
  rw [mI, Int32.toInt_neg]
  by_cases e : k = 2 ^ 31
  · subst e; decide
  · rw [tnI (by omega)]
    simp only [Int.bmod]
    split <;> omega
theorem lt_mI (a : Int32) {k : Nat} (h : k ≤ 2 ^ 31) : a < mI k ↔ a.toInt < -(k : Int) := by rw [Int32.lt_iff_toInt_lt, tmI h]
theorem eq_mI (a : Int32) {k : Nat} (h : k ≤ 2 ^ 31) : a = mI k ↔ a.toInt = -(k : Int) := by rw [← tmI h]; exact Int32.toInt_inj.symm
theorem in_m (a : Int32) {lo : Nat} {b : Int32} (h1 : lo ≤ 2 ^ 31) : f_X12_in a (mI lo) b = some (bP (-(lo : Int) ≤ a.toInt ∧ a.toInt ≤ b.toInt)) := by
  rw [in_spec, tmI h1]
theorem upd_self (s : Nat → Int32) (p : Nat) : upd s p (s p) = s := funext fun j => by
  by_cases e : j = p
  · rw [e, upd_eq]
  · rw [upd_ne _ _ e]
theorem zupd_self (w : zW) (k p : Nat) : zupd w k p (w k p) = w := funext fun j => by
  by_cases e : j = k
  · rw [e, zupd_eq, upd_self]
  · rw [zupd_ne _ _ _ e]
theorem RT_heap {w : zW} {T : Nat} {s : Nat → Int32} (h : RT w T s) {l b : Nat} (h1 : 1 ≤ l) (h2 : l ≤ 26) (hb : b ≤ 99) : RT (zupd w (T + 37) l (nI b)) T (upd s (266 + l) (nI b)) := by
  obtain ⟨g1, g2, g3, g4, g5, g6, g7, g8⟩ := h
  have u : ∀ p, p ≠ 266 + l → upd s (266 + l) (nI b) p = s p := fun p q => upd_ne s _ q
  have g : ∀ k, k ≠ T + 37 → zupd w (T + 37) l (nI b) k = w k := fun k q => zupd_ne w _ _ q
  refine ⟨nn_upd g1 _ _ (by rw [tnI (by omega)]; omega), ?_, Rwall_c g3 g2.1.2 (fun k _ _ => g k (by omega)) (u 0 (by omega)) (fun p _ _ => u p (by omega)), Rword_c g4 g2.2.1.2 (fun k _ _ => g k (by omega)) (u 1 (by omega)) (fun p _ _ => u p (by omega)), ?_, Rtape_c g6 g2.2.2.2.2.1.2 (g _ (by omega)) (u 4 (by omega)) (fun p _ _ => u p (by omega)), Rwait_c g7 g2.2.2.2.2.2.1.2 (g _ (by omega)) (u 5 (by omega)) (fun p _ _ => u p (by omega)), Rtext_c g8 (fun k _ _ => g k (by omega)) (fun p _ _ => u p (by omega))⟩
  · unfold Rcnt
    rw [g T (by omega), g (T + 2) (by omega), u 0 (by omega), u 1 (by omega), u 2 (by omega), u 3 (by omega), u 4 (by omega), u 5 (by omega), u 6 (by omega)]
    exact g2
  · intro k hk1 hk2
    rw [zupd_eq]
    by_cases e : k = l
    · subst e
      rw [upd_eq, upd_eq, tnI (by omega)]
      exact ⟨rfl, by omega⟩
    · rw [upd_ne _ _ e, u _ (by omega)]
      exact g5 k hk1 hk2
theorem op_heap {w : zW} (hR : Rel w) (a b : Int32) : OK2 (f_X11_heap a b) (f_X12_heap a b) w := by
  have h := hR.1
  by_cases ha : 1 ≤ a.toInt ∧ a.toInt ≤ 26
  · obtain ⟨l, hl, rfl, el⟩ := of_toInt a (by omega)
    have q := (h.2.2.2.2.1 l (by omega) (by omega)).1
    by_cases hb : -1 ≤ b.toInt ∧ b.toInt ≤ 99
    · by_cases hm : b.toInt = -1
      · refine OK_same hR (w 129 (266 + l)) ?_ ?_
        · rw [f_X11_heap]
          simp (disch := omega) only [zb_s, zb2_s, zlet_e, zg_t, bP_0, bP_t0, in_k, isLetter_spec, XisLetter_spec, lt_nI, nI_lt2, eq_nI, tnI, tsub_k, tadd_k, if_pos, if_neg, zld_k, zsto_k, ztld_k, clamp_nI, zin_nI, zb2_eta, ↓reduceIte, nI_add, pk_mul, pk_sub, lt_mI, q]
        · rw [f_X12_heap]
          simp (disch := omega) only [zb_s, zb2_s, zlet_e, zg_t, bP_0, bP_t0, in_k, isLetter_spec, XisLetter_spec, lt_nI, nI_lt2, eq_nI, tnI, tsub_k, tadd_k, if_pos, if_neg, zld_k, zsto_k, ztld_k, clamp_nI, zin_nI, zb2_eta, ↓reduceIte, nI_add, pk_mul, pk_sub, in_m, j_X12_heap_53, eq_mI]
          rw [zupd_self]
      · obtain ⟨v, hv, rfl, ev⟩ := of_toInt b (by omega)
        refine ⟨w 129 (266 + l), zupd w 38 l (nI v), zupd (zupd w 38 l (nI v)) 129 (266 + l) (nI v), ?_, ?_, ?_⟩
        · rw [f_X11_heap]
          simp (disch := omega) only [zb_s, zb2_s, zlet_e, zg_t, bP_0, bP_t0, in_k, isLetter_spec, XisLetter_spec, lt_nI, nI_lt2, eq_nI, tnI, tsub_k, tadd_k, if_pos, if_neg, zld_k, zsto_k, ztld_k, clamp_nI, zin_nI, zb2_eta, ↓reduceIte, nI_add, pk_mul, pk_sub, lt_mI, q]
        · have e : zupd w 38 l (nI v) 129 = w 129 := zupd_ne _ _ _ (by decide)
          rw [f_X12_heap]
          simp (disch := omega) only [zb_s, zb2_s, zlet_e, zg_t, bP_0, bP_t0, in_k, isLetter_spec, XisLetter_spec, lt_nI, nI_lt2, eq_nI, tnI, tsub_k, tadd_k, if_pos, if_neg, zld_k, zsto_k, ztld_k, clamp_nI, zin_nI, zb2_eta, ↓reduceIte, nI_add, pk_mul, pk_sub, in_m, j_X12_heap_53, eq_mI, e]
        · refine Rel_now (s := upd (w 129) (266 + l) (nI v)) hR (FX_upd (FX_refl w) _ _ (by omega)) (RT_heap h (by omega) (by omega) (by omega)) (FM_upd (FM_refl _) _ _ (by omega)) ?_
          rw [zupd_eq, zupd_ne _ _ _ (by decide)]
    · refine OK_err hR (k := 1) (by decide) (by decide) ?_ (fun w1 e => ?_)
      · rw [f_X11_heap]
        by_cases hn : b.toInt < -1
        · simp (disch := omega) only [zb_s, zb2_s, zlet_e, zg_t, bP_0, bP_t0, in_k, isLetter_spec, XisLetter_spec, lt_nI, nI_lt2, eq_nI, tnI, tsub_k, tadd_k, if_pos, if_neg, zld_k, zsto_k, ztld_k, clamp_nI, zin_nI, zb2_eta, ↓reduceIte, nI_add, pk_mul, pk_sub, j_X11_heap_18, lt_mI]
        · simp (disch := omega) only [zb_s, zb2_s, zlet_e, zg_t, bP_0, bP_t0, in_k, isLetter_spec, XisLetter_spec, lt_nI, nI_lt2, eq_nI, tnI, tsub_k, tadd_k, if_pos, if_neg, zld_k, zsto_k, ztld_k, clamp_nI, zin_nI, zb2_eta, ↓reduceIte, nI_add, pk_mul, pk_sub, j_X11_heap_18, lt_mI]
      · rw [f_X12_heap]
        simp (disch := omega) only [zb_s, zb2_s, zlet_e, zg_t, bP_0, bP_t0, in_k, isLetter_spec, XisLetter_spec, lt_nI, nI_lt2, eq_nI, tnI, tsub_k, tadd_k, if_pos, if_neg, zld_k, zsto_k, ztld_k, clamp_nI, zin_nI, zb2_eta, ↓reduceIte, nI_add, pk_mul, pk_sub, in_m, j_X12_heap_17]
  · refine OK_err hR (k := 1) (by decide) (by decide) ?_ (fun w1 e => ?_)
    · rw [f_X11_heap]
      simp (disch := omega) only [zb_s, zb2_s, zlet_e, zg_t, bP_0, bP_t0, in_k, isLetter_spec, XisLetter_spec, lt_nI, nI_lt2, eq_nI, tnI, tsub_k, tadd_k, if_pos, if_neg, zld_k, zsto_k, ztld_k, clamp_nI, zin_nI, zb2_eta, ↓reduceIte, nI_add, pk_mul, pk_sub, j_X11_heap_18]
    · rw [f_X12_heap]
      simp (disch := omega) only [zb_s, zb2_s, zlet_e, zg_t, bP_0, bP_t0, in_k, isLetter_spec, XisLetter_spec, lt_nI, nI_lt2, eq_nI, tnI, tsub_k, tadd_k, if_pos, if_neg, zld_k, zsto_k, ztld_k, clamp_nI, zin_nI, zb2_eta, ↓reduceIte, nI_add, pk_mul, pk_sub, j_X12_heap_17]
theorem op_tell {w : zW} (hR : Rel w) (a : Int32) : OK2 (f_X11_tell a) (f_X12_tell a) w := by
  have h := hR.1
  obtain ⟨g1, g2, g3, g4, g5, g6, g7, g8⟩ := h
  obtain ⟨c, hc, ec, etc⟩ := nn_nI g1 5 (by decide) (by decide)
  have c24 := g2.2.2.2.2.2.1.2
  have e9 := g2.2.2.2.2.2.1.1.trans ec
  by_cases hf : c = 24
  · subst hf
    refine OK_err hR (k := 4) (by decide) (by decide) ?_ (fun w1 e => ?_)
    · rw [f_X11_tell]
      simp (disch := omega) only [zb_s, zb2_s, zlet_e, zg_t, bP_0, bP_t0, in_k, isLetter_spec, XisLetter_spec, lt_nI, nI_lt2, eq_nI, tnI, tsub_k, tadd_k, if_pos, if_neg, zld_k, zsto_k, ztld_k, clamp_nI, zin_nI, zb2_eta, ↓reduceIte, nI_add, pk_mul, pk_sub, e9]
    · rw [f_X12_tell]
      simp (disch := omega) only [zb_s, zb2_s, zlet_e, zg_t, bP_0, bP_t0, in_k, isLetter_spec, XisLetter_spec, lt_nI, nI_lt2, eq_nI, tnI, tsub_k, tadd_k, if_pos, if_neg, zld_k, zsto_k, ztld_k, clamp_nI, zin_nI, zb2_eta, ↓reduceIte, nI_add, pk_mul, pk_sub, e, ec]
  · have u : ∀ p, p ≠ 5 → p ≠ 604 + c → upd (upd (w 129) (604 + c) a) 5 (nI (c + 1)) p = w 129 p := fun p q1 q2 => by rw [upd_ne _ _ q1, upd_ne _ _ q2]
    have g : ∀ k, k ≠ 1 → k ≠ 39 → zupd (zupd w 39 c a) 1 9 (nI (c + 1)) k = w k := fun k q1 q2 => by rw [zupd_ne _ _ _ q1, zupd_ne _ _ _ q2]
    refine ⟨nI (c + 1), zupd (zupd w 39 c a) 1 9 (nI (c + 1)), zupd (zupd (zupd (zupd w 39 c a) 1 9 (nI (c + 1))) 129 (604 + c) a) 129 5 (nI (c + 1)), ?_, ?_, ?_⟩
    · rw [f_X11_tell]
      simp (disch := omega) only [zb_s, zb2_s, zlet_e, zg_t, bP_0, bP_t0, in_k, isLetter_spec, XisLetter_spec, lt_nI, nI_lt2, eq_nI, tnI, tsub_k, tadd_k, if_pos, if_neg, zld_k, zsto_k, ztld_k, clamp_nI, zin_nI, zb2_eta, ↓reduceIte, nI_add, pk_mul, pk_sub, e9, zupd_ne w c a (show 1 ≠ 39 by decide), zupd_eq, upd_eq]
    · have e : zupd (zupd w 39 c a) 1 9 (nI (c + 1)) 129 = w 129 := g 129 (by decide) (by decide)
      rw [f_X12_tell]
      simp (disch := omega) only [zb_s, zb2_s, zlet_e, zg_t, bP_0, bP_t0, in_k, isLetter_spec, XisLetter_spec, lt_nI, nI_lt2, eq_nI, tnI, tsub_k, tadd_k, if_pos, if_neg, zld_k, zsto_k, ztld_k, clamp_nI, zin_nI, zb2_eta, ↓reduceIte, nI_add, pk_mul, pk_sub, e, ec, zupd_eq, upd_eq, upd_ne (w 129) a (show 5 ≠ 604 + c by omega)]
    · refine Rel_now (s := upd (upd (w 129) (604 + c) a) 5 (nI (c + 1))) hR (FX_upd (FX_upd (FX_refl w) _ _ (by omega)) _ _ (by omega)) ?_ (FM_upd (FM_upd (FM_refl _) _ _ (by omega)) _ _ (by omega)) ?_
      · refine ⟨nn_upd (nn_upd g1 _ _ (by omega)) _ _ (by rw [tnI (by omega)]; omega), ?_, Rwall_c g3 g2.1.2 (fun k _ _ => g k (by omega) (by omega)) (u 0 (by omega) (by omega)) (fun p _ _ => u p (by omega) (by omega)), Rword_c g4 g2.2.1.2 (fun k _ _ => g k (by omega) (by omega)) (u 1 (by omega) (by omega)) (fun p _ _ => u p (by omega) (by omega)), Rheap_c g5 (g _ (by omega) (by omega)) (fun p _ _ => u p (by omega) (by omega)), Rtape_c g6 g2.2.2.2.2.1.2 (g _ (by omega) (by omega)) (u 4 (by omega) (by omega)) (fun p _ _ => u p (by omega) (by omega)), ?_, Rtext_c g8 (fun k _ _ => g k (by omega) (by omega)) (fun p _ _ => u p (by omega) (by omega))⟩
        · unfold Rcnt at g2 ⊢
          rw [g 3 (by decide) (by decide), u 0 (by omega) (by omega), u 1 (by omega) (by omega), u 2 (by omega) (by omega), u 3 (by omega) (by omega), u 4 (by omega) (by omega), u 6 (by omega) (by omega), zupd_eq, zupd_ne _ _ _ (by decide), upd_eq]
          simp only [upd]
          simpa [tnI (show c + 1 < 2 ^ 31 by omega)] using ⟨g2.1, g2.2.1, g2.2.2.1, g2.2.2.2.1, g2.2.2.2.2.1, by omega, g2.2.2.2.2.2.2⟩
        · intro k hk
          rw [upd_eq, tnI (by omega)] at hk
          rw [zupd_ne _ _ _ (by decide), zupd_eq, upd_ne _ _ (show 604 + k ≠ 5 by omega)]
          by_cases e : k = c
          · subst e
            rw [upd_eq, upd_eq]
          · rw [upd_ne _ _ e, upd_ne _ _ (by omega)]
            exact g7 k (by omega)
      · rw [zupd_eq, zupd_eq, zupd_ne _ _ _ (by decide), zupd_ne _ _ _ (by decide)]
