theorem its_k {w : zW} {s : Nat → Int32} (hs : w 129 = s) {i j : Nat} (hi : i < 6) (hj : j < 27) : f_X12_its (nI i) (nI j) w = some (s (8 + 27 * i + j)) := by
  rw [f_X12_its, pk_mul, nI_add, nI_add, zld_k _ _ _ _ _ (by omega) (by decide), hs]
theorem at_k (i j : Nat) : f_X12_at (nI i) (nI j) = some (nI (11 + 27 * i + j)) := by
  rw [f_X12_at, pk_mul, nI_add, nI_add, nI_add]
  congr 2
  omega
theorem isPlace_k {w : zW} {s : Nat → Int32} (hs : w 129 = s) (h : nn s) {i : Nat} (hi : i < 6) (h24 : (s (10 + 27 * i)).toInt ≤ 24) (b : Int32) : f_X12_isPlace (nI i) b w = some (bP (0 ≤ b.toInt ∧ b.toInt < (s (10 + 27 * i)).toInt)) := by
  have h0 := h (10 + 27 * i) (by omega) (by omega)
  rw [f_X12_isPlace, its_k hs hi (by decide), zb_s, in_spec, zb_s, zbool_bP, zg_t, show 8 + 27 * i + 2 = 10 + 27 * i by omega]
  have e : (s (10 + 27 * i) - nI 1).toInt = (s (10 + 27 * i)).toInt - 1 := tsub (by rw [tnI (by decide)]; omega) (by rw [tnI (by decide)]; omega)
  rw [e, tnI (by decide)]
  congr 2
  exact propext ⟨fun q => ⟨by omega, by omega⟩, fun q => ⟨by omega, by omega⟩⟩
theorem hasPlace_k {w : zW} {s : Nat → Int32} (h : RT w 1 s) {i : Nat} (hi : (i : Int) < (s 0).toInt) (b : Int32) : f_X8_hasPlace (nI i) b w = some (bP (0 ≤ b.toInt ∧ b.toInt < (s (10 + 27 * i)).toInt)) := by
  have h6 := h.2.1.1.2
  have e := (h.2.2.1 i hi).2.2.1.1
  have ei : (nI i).toInt = i := tnI (by omega)
  rw [f_X8_hasPlace, hasWall_spec h, zb_s, if_neg (by rw [bP_0, ei]; omega), zin_nI (by omega) (by decide), zg_t, clamp_nI (by omega)]
  have e2 : 40 + 2 * i = 1 + 39 + 2 * i := by omega
  simp only [lt_nI b (show 0 < 2 ^ 31 by decide), e2, e, Int32.lt_iff_toInt_lt]
  split
  · rw [bP_f (by omega)]
  · split
    · rw [bP_t (by omega)]
    · rw [bP_f (by omega)]
theorem hasPlace_n {w : zW} {s : Nat → Int32} (h : RT w 1 s) {a : Int32} (ha : ¬ (0 ≤ a.toInt ∧ a.toInt < (s 0).toInt)) (b : Int32) : f_X8_hasPlace a b w = some (nI 0) := by
  rw [f_X8_hasPlace, hasWall_spec h, zb_s, if_pos (by rw [bP_0]; exact ha)]
/-- a brick of a wall becomes another one -/
theorem RT_brick {w : zW} {T : Nat} {s : Nat → Int32} (h : RT w T s) {i j b : Nat} (hi : (i : Int) < (s 0).toInt) (hj : (j : Int) < (s (10 + 27 * i)).toInt) (hb : b ≤ 26) : RT (zupd w (T + 40 + 2 * i) j (nI b)) T (upd s (11 + 27 * i + j) (nI b)) := by
  obtain ⟨h1, h2, h3, h4, h5, h6, h7, h8⟩ := h
  have hi6 := h2.1.2
  have hj24 := (h3 i hi).2.2.1.2
  have u : ∀ p, p ≠ 11 + 27 * i + j → upd s (11 + 27 * i + j) (nI b) p = s p := fun p q => upd_ne s _ q
  have g : ∀ k, k ≠ T + 40 + 2 * i → zupd w (T + 40 + 2 * i) j (nI b) k = w k := fun k q => zupd_ne w _ _ q
  refine ⟨?_, ?_, ?_, ?_, ?_, ?_, ?_, ?_⟩
  · intro p hp hp6
    by_cases e : p = 11 + 27 * i + j
    · rw [e, upd_eq, tnI (by omega)]
      omega
    · rw [u p e]
      exact h1 p hp hp6
  · unfold Rcnt
    rw [g T (by omega), g (T + 2) (by omega), u 0 (by omega), u 1 (by omega), u 2 (by omega), u 3 (by omega), u 4 (by omega), u 5 (by omega), u 6 (by omega)]
    exact h2
  · intro i' hi'
    rw [u 0 (by omega)] at hi'
    have q := h3 i' hi'
    unfold Rwal1 at q ⊢
    rw [g (T + 39 + 2 * i') (by omega), u (8 + 27 * i') (by omega), u (9 + 27 * i') (by omega), u (10 + 27 * i') (by omega)]
    refine ⟨q.1, q.2.1, q.2.2.1, fun j' hj' => ?_⟩
    have qj := q.2.2.2 j' hj'
    have l24 := q.2.2.1.2
    by_cases e : i' = i
    · subst e
      rw [zupd_eq]
      by_cases ej : j' = j
      · subst ej
        rw [upd_eq, upd_eq, tnI (by omega)]
        exact ⟨rfl, by omega⟩
      · rw [upd_ne _ _ ej, u _ (by omega)]
        exact qj
    · rw [g (T + 40 + 2 * i') (by omega), u _ (by omega)]
      exact qj
  · intro i' hi'
    rw [u 1 (by omega)] at hi'
    have l12 := h2.2.1.2
    have q := h4 i' hi'
    unfold Rwor1 at q ⊢
    rw [g (T + 4 + 2 * i') (by omega), g (T + 5 + 2 * i') (by omega), u (170 + 8 * i') (by omega), u (171 + 8 * i') (by omega)]
    refine ⟨q.1, q.2.1, fun k hk => ?_⟩
    rw [u _ (by omega)]
    exact q.2.2 k hk
  · intro l hl1 hl2
    rw [g _ (by omega), u _ (by omega)]
    exact h5 l hl1 hl2
  · intro k hk
    rw [u 4 (by omega)] at hk
    rw [g _ (by omega), u _ (by omega)]
    exact h6 k hk
  · intro k hk
    rw [u 5 (by omega)] at hk
    rw [g _ (by omega), u _ (by omega)]
    exact h7 k hk
  · intro t ht
    have q := h8 t ht
    unfold Rtex1 at q ⊢
    rw [g (T + 28 + 4 * t) (by omega), g (T + 29 + 4 * t) (by omega), u (294 + 125 * t) (by omega)]
    have ef : (fun k => upd s (11 + 27 * i + j) (nI b) (295 + 125 * t + k)) = fun k => s (295 + 125 * t + k) := funext fun k => u _ (by omega)
    rw [ef]
    exact q
theorem op_brickOf {w : zW} (hR : Rel w) (a b : Int32) : OK2 (f_X11_brickOf a b) (f_X12_brickOf a b) w := by
  have h := hR.1
  have h6 := h.2.1.1.2
  by_cases ha : 0 ≤ a.toInt ∧ a.toInt < (w 129 0).toInt
  · obtain ⟨i, hi, rfl, ei⟩ := of_toInt a ha.1
    have hi' : (i : Int) < (w 129 0).toInt := by omega
    have h24 := (h.2.2.1 i hi').2.2.1.2
    by_cases hb : 0 ≤ b.toInt ∧ b.toInt < (w 129 (10 + 27 * i)).toInt
    · obtain ⟨j, hj, rfl, ej⟩ := of_toInt b hb.1
      have q := ((h.2.2.1 i hi').2.2.2 j (by omega)).1
      refine OK_same hR (w 129 (11 + 27 * i + j)) ?_ ?_
      · rw [f_X11_brickOf, hasPlace_k h hi', zb_s, if_neg (by rw [bP_0]; omega), zin_nI (by omega) (by decide), zg_t, clamp_nI (by omega), zld_k _ _ _ _ _ (by omega) (by decide), show 40 + 2 * i + 1 = 1 + 40 + 2 * i by omega, q]
      · rw [f_X12_brickOf, isWall_spec rfl h.1 h6, zb_s, if_neg (by rw [bP_0]; omega), isPlace_k rfl h.1 (by omega) h24, zb_s, if_neg (by rw [bP_0]; omega), at_k, zb_s, zld_k _ _ _ _ _ (by omega) (by decide)]
    · refine OK_err hR (k := 1) (by decide) (by decide) ?_ (fun w1 e => ?_)
      · rw [f_X11_brickOf, hasPlace_k h hi', zb_s, if_pos (by rw [bP_0]; exact hb), zb2_eta]
      · rw [f_X12_brickOf, isWall_spec e h.1 h6, zb_s, if_neg (by rw [bP_0]; omega), isPlace_k e h.1 (by omega) h24, zb_s, if_pos (by rw [bP_0]; exact hb), j_X12_brickOf_31, zb2_eta]
  · refine OK_err hR (k := 1) (by decide) (by decide) ?_ (fun w1 e => ?_)
    · rw [f_X11_brickOf, hasPlace_n h ha, zb_s, if_pos rfl, zb2_eta]
    · rw [f_X12_brickOf, isWall_spec e h.1 h6, zb_s, if_pos (by rw [bP_0]; exact ha), j_X12_brickOf_31, zb2_eta]
theorem op_brick {w : zW} (hR : Rel w) (a b c : Int32) : OK2 (f_X11_brick a b c) (f_X12_brick a b c) w := by
  have h := hR.1
  have h6 := h.2.1.1.2
  by_cases ha : 0 ≤ a.toInt ∧ a.toInt < (w 129 0).toInt
  · obtain ⟨i, hi, rfl, ei⟩ := of_toInt a ha.1
    have hi' : (i : Int) < (w 129 0).toInt := by omega
    have h24 := (h.2.2.1 i hi').2.2.1.2
    have hp := hasPlace_k h hi'
    by_cases hb : 0 ≤ b.toInt ∧ b.toInt < (w 129 (10 + 27 * i)).toInt
    · obtain ⟨j, hj, rfl, ej⟩ := of_toInt b hb.1
      have q := ((h.2.2.1 i hi').2.2.2 j (by omega)).1
      by_cases hc : 0 ≤ c.toInt ∧ c.toInt ≤ 26
      · obtain ⟨v, hv, rfl, ev⟩ := of_toInt c hc.1
        have e40 : 40 + 2 * i + 1 = 1 + 40 + 2 * i := by omega
        refine ⟨w 129 (11 + 27 * i + j), zupd w (1 + 40 + 2 * i) j (nI v), zupd (zupd w (1 + 40 + 2 * i) j (nI v)) 129 (11 + 27 * i + j) (nI v), ?_, ?_, ?_⟩
        · rw [f_X11_brick]
          simp (disch := omega) only [zb_s, zb2_s, zlet_e, zg_t, bP_0, bP_t0, in_k, isLetter_spec, XisLetter_spec, lt_nI, nI_lt2, eq_nI, tnI, tsub_k, tadd_k, if_pos, if_neg, zld_k, zsto_k, ztld_k, clamp_nI, zin_nI, zb2_eta, ↓reduceIte, nI_add, pk_mul, pk_sub, hp, e40, q]
        · have e : zupd w (1 + 40 + 2 * i) j (nI v) 129 = w 129 := zupd_ne _ _ _ (by omega)
          rw [f_X12_brick]
          simp (disch := omega) only [zb_s, zb2_s, zlet_e, zg_t, bP_0, bP_t0, in_k, isLetter_spec, XisLetter_spec, lt_nI, nI_lt2, eq_nI, tnI, tsub_k, tadd_k, if_pos, if_neg, zld_k, zsto_k, ztld_k, clamp_nI, zin_nI, zb2_eta, ↓reduceIte, nI_add, pk_mul, pk_sub, isWall_spec e h.1 h6, isPlace_k e h.1 (show i < 6 by omega) h24, at_k, e]
        · refine Rel_now (s := upd (w 129) (11 + 27 * i + j) (nI v)) hR (FX_upd (FX_refl w) _ _ (by omega)) (RT_brick h hi' (by omega) (by omega)) (FM_upd (FM_refl _) _ _ (by omega)) ?_
          rw [zupd_eq, zupd_ne _ _ _ (by omega)]
      · refine OK_err hR (k := 1) (by decide) (by decide) ?_ (fun w1 e => ?_)
        · rw [f_X11_brick, j_X11_brick_22]
          by_cases hn : c.toInt < 0
          · simp (disch := omega) only [zb_s, zb2_s, zlet_e, zg_t, bP_0, bP_t0, in_k, isLetter_spec, XisLetter_spec, lt_nI, nI_lt2, eq_nI, tnI, tsub_k, tadd_k, if_pos, if_neg, zld_k, zsto_k, ztld_k, clamp_nI, zin_nI, zb2_eta, ↓reduceIte, nI_add, pk_mul, pk_sub, hp]
          · simp (disch := omega) only [zb_s, zb2_s, zlet_e, zg_t, bP_0, bP_t0, in_k, isLetter_spec, XisLetter_spec, lt_nI, nI_lt2, eq_nI, tnI, tsub_k, tadd_k, if_pos, if_neg, zld_k, zsto_k, ztld_k, clamp_nI, zin_nI, zb2_eta, ↓reduceIte, nI_add, pk_mul, pk_sub, hp]
        · rw [f_X12_brick, j_X12_brick_27]
          simp (disch := omega) only [zb_s, zb2_s, zlet_e, zg_t, bP_0, bP_t0, in_k, isLetter_spec, XisLetter_spec, lt_nI, nI_lt2, eq_nI, tnI, tsub_k, tadd_k, if_pos, if_neg, zld_k, zsto_k, ztld_k, clamp_nI, zin_nI, zb2_eta, ↓reduceIte, nI_add, pk_mul, pk_sub, isWall_spec e h.1 h6, isPlace_k e h.1 (show i < 6 by omega) h24]
    · refine OK_err hR (k := 1) (by decide) (by decide) ?_ (fun w1 e => ?_)
      · rw [f_X11_brick, j_X11_brick_22]
        simp (disch := omega) only [zb_s, zb2_s, zlet_e, zg_t, bP_0, bP_t0, in_k, isLetter_spec, XisLetter_spec, lt_nI, nI_lt2, eq_nI, tnI, tsub_k, tadd_k, if_pos, if_neg, zld_k, zsto_k, ztld_k, clamp_nI, zin_nI, zb2_eta, ↓reduceIte, nI_add, pk_mul, pk_sub, hp]
      · rw [f_X12_brick, j_X12_brick_27]
        simp (disch := omega) only [zb_s, zb2_s, zlet_e, zg_t, bP_0, bP_t0, in_k, isLetter_spec, XisLetter_spec, lt_nI, nI_lt2, eq_nI, tnI, tsub_k, tadd_k, if_pos, if_neg, zld_k, zsto_k, ztld_k, clamp_nI, zin_nI, zb2_eta, ↓reduceIte, nI_add, pk_mul, pk_sub, isWall_spec e h.1 h6, isPlace_k e h.1 (show i < 6 by omega) h24]
  · refine OK_err hR (k := 1) (by decide) (by decide) ?_ (fun w1 e => ?_)
    · rw [f_X11_brick, hasPlace_n h ha, j_X11_brick_22]
      simp (disch := omega) only [zb_s, zb2_s, zlet_e, zg_t, bP_0, bP_t0, in_k, isLetter_spec, XisLetter_spec, lt_nI, nI_lt2, eq_nI, tnI, tsub_k, tadd_k, if_pos, if_neg, zld_k, zsto_k, ztld_k, clamp_nI, zin_nI, zb2_eta, ↓reduceIte, nI_add, pk_mul, pk_sub]
    · rw [f_X12_brick, j_X12_brick_27]
      simp (disch := omega) only [zb_s, zb2_s, zlet_e, zg_t, bP_0, bP_t0, in_k, isLetter_spec, XisLetter_spec, lt_nI, nI_lt2, eq_nI, tnI, tsub_k, tadd_k, if_pos, if_neg, zld_k, zsto_k, ztld_k, clamp_nI, zin_nI, zb2_eta, ↓reduceIte, nI_add, pk_mul, pk_sub, isWall_spec e h.1 h6]
