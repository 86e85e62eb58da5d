theorem FX_set {w w1 : zW} (h : FX w w1) {k : Nat} (f : Nat → Int32) (hk : (0 < k ∧ k < 52) ∨ (112 ≤ k ∧ k < 125)) : FX w (zset w1 k f) := fun j hj => by rw [zset_ne _ _ (by omega)]; exact h j hj
theorem FM_set {w w1 : zW} (h : FM w w1) {k : Nat} (f : Nat → Int32) (hk : k = 129 ∨ (132 ≤ k ∧ k < 139) ∨ 143 ≤ k) : FM w (zset w1 k f) := by
  obtain ⟨m1, ⟨m2, m3, m4, m5, m6, m7⟩, m8, m9⟩ := h
  have g : ∀ j, j ≠ k → zset w1 k f j = w1 j := fun j hj => zset_ne _ _ hj
  exact ⟨fun j hj => (g j (by omega)).trans (m1 j hj), ⟨(g _ (by omega)).trans m2, (g _ (by omega)).trans m3, (g _ (by omega)).trans m4, (g _ (by omega)).trans m5, (g _ (by omega)).trans m6, (g _ (by omega)).trans m7⟩, by rw [g _ (by omega)]; exact m8, by rw [g _ (by omega)]; exact m9⟩
theorem op_wall {w : zW} (hR : Rel w) (a b : Int32) : OK2 (f_X11_wall a b) (f_X12_wall a b) w := by
  have h := hR.1
  have h6 := h.2.1.1.2
  obtain ⟨c, hc, ec, etc⟩ := nn_nI h.1 0 (by decide) (by decide)
  have e9 := h.2.1.1.1.trans ec
  by_cases ha : 0 ≤ a.toInt ∧ a.toInt ≤ 69
  · by_cases hb : 0 ≤ b.toInt ∧ b.toInt ≤ 24
    · by_cases hf : c = 6
      · subst hf
        refine OK_err hR (k := 4) (by decide) (by decide) ?_ (fun w1 e => ?_)
        · rw [f_X11_wall]
          simp (disch := omega) only [zb_s, zb2_s, zlet_e, zg_t, bP_0, bP_t0, in_k, isLetter_spec, XisLetter_spec, lt_nI, nI_lt2, eq_nI, tnI, tsub_k, tadd_k, if_pos, if_neg, zld_k, zsto_k, ztld_k, clamp_nI, zin_nI, zb2_eta, ↓reduceIte, nI_add, pk_mul, pk_sub, e9]
        · rw [f_X12_wall]
          simp (disch := omega) only [zb_s, zb2_s, zlet_e, zg_t, bP_0, bP_t0, in_k, isLetter_spec, XisLetter_spec, lt_nI, nI_lt2, eq_nI, tnI, tsub_k, tadd_k, if_pos, if_neg, zld_k, zsto_k, ztld_k, clamp_nI, zin_nI, zb2_eta, ↓reduceIte, nI_add, pk_mul, pk_sub, e, ec]
      · obtain ⟨km, hkm, rfl, ekm⟩ := of_toInt a (by omega)
        obtain ⟨n, hn, rfl, en⟩ := of_toInt b (by omega)
        obtain ⟨K, hK⟩ : ∃ K, K = km / 10 := ⟨_, rfl⟩
        obtain ⟨M, hM⟩ : ∃ M, M = km - K * 10 := ⟨_, rfl⟩
        obtain ⟨W, hW⟩ : ∃ W, W = zupd (zset (zupd (zupd (zupd w (40 + 2 * c) 1 (nI K)) (40 + 2 * c) 2 (nI M)) (40 + 2 * c) 3 (nI n)) (40 + 2 * c + 1) (frow (zupd (zupd (zupd w (40 + 2 * c) 1 (nI K)) (40 + 2 * c) 2 (nI M)) (40 + 2 * c) 3 (nI n) (40 + 2 * c + 1)) 0 24 (nI 0))) 1 7 (nI (c + 1)) := ⟨_, rfl⟩
        have eW : ∀ k, k ≠ 1 → k ≠ 40 + 2 * c → k ≠ 40 + 2 * c + 1 → W k = w k := fun k h1 h2 h3 => by
          rw [hW, zupd_ne _ _ _ h1, zset_ne _ _ h3, zupd_ne _ _ _ h2, zupd_ne _ _ _ h2, zupd_ne _ _ _ h2]
        obtain ⟨s1, hs1⟩ : ∃ s1, s1 = upd (upd (upd (upd (frow (w 129) (8 + 27 * c + 0) (8 + 27 * c + 27) (nI 0)) (8 + 27 * c + 0) (nI K)) (8 + 27 * c + 1) (nI M)) (8 + 27 * c + 2) (nI n)) 0 (nI (c + 1)) := ⟨_, rfl⟩
        have es : ∀ p, p ≠ 0 → ¬ (8 + 27 * c ≤ p ∧ p < 35 + 27 * c) → s1 p = w 129 p := fun p h1 h2 => by
          rw [hs1, upd_ne _ _ h1, upd_ne _ _ (by omega), upd_ne _ _ (by omega), upd_ne _ _ (by omega), frow_out (by omega)]
        have es2 : ∀ j, j < 24 → s1 (11 + 27 * c + j) = nI 0 := fun j hj => by
          rw [hs1, upd_ne _ _ (by omega), upd_ne _ _ (by omega), upd_ne _ _ (by omega), upd_ne _ _ (by omega), frow_in (by omega)]
        have s0 : s1 0 = nI (c + 1) := by rw [hs1, upd_eq]
        have sK : s1 (8 + 27 * c) = nI K := by rw [hs1, upd_ne _ _ (by omega), upd_ne _ _ (by omega), upd_ne _ _ (by omega), Nat.add_zero, upd_eq]
        have sM : s1 (9 + 27 * c) = nI M := by rw [hs1, upd_ne _ _ (by omega), upd_ne _ _ (by omega), show 8 + 27 * c + 1 = 9 + 27 * c by omega, upd_eq]
        have sn : s1 (10 + 27 * c) = nI n := by rw [hs1, upd_ne _ _ (by omega), show 8 + 27 * c + 2 = 10 + 27 * c by omega, upd_eq]
        refine ⟨nI c, W, zset W 129 s1, ?_, ?_, ?_⟩
        · have x1 : zset (zupd (zupd (zupd w (40 + 2 * c) 1 (nI K)) (40 + 2 * c) 2 (nI M)) (40 + 2 * c) 3 (nI n)) (40 + 2 * c + 1) (frow (zupd (zupd (zupd w (40 + 2 * c) 1 (nI K)) (40 + 2 * c) 2 (nI M)) (40 + 2 * c) 3 (nI n) (40 + 2 * c + 1)) 0 24 (nI 0)) 1 7 = nI c := by
            rw [zset_ne _ _ (by omega), zupd_ne _ _ _ (by omega), zupd_ne _ _ _ (by omega), zupd_ne _ _ _ (by omega), e9]
          have x2 : W 1 7 = nI (c + 1) := by rw [hW, zupd_eq, upd_eq]
          rw [f_X11_wall]
          simp (disch := omega) only [zb_s, zb2_s, zlet_e, zg_t, bP_0, bP_t0, in_k, isLetter_spec, XisLetter_spec, lt_nI, nI_lt2, eq_nI, tnI, tsub_k, tadd_k, if_pos, if_neg, zld_k, zsto_k, ztld_k, clamp_nI, zin_nI, zb2_eta, ↓reduceIte, nI_add, pk_mul, pk_sub, e9, f_X9_begin, pk_div, ← hK, ← hM, fill_spec, x1, ← hW, x2, show c + 1 - 1 = c by omega]
        · have e : W 129 = w 129 := eW 129 (by omega) (by omega) (by omega)
          have wl := fun K => wall_loop K (nI km) (nI n) (8 + 27 * c) (by omega) zfuel 0 W (by omega) (by unfold zfuel; omega)
          rw [f_X12_wall]
          simp (disch := omega) only [zb_s, zb2_s, zlet_e, zg_t, bP_0, bP_t0, in_k, isLetter_spec, XisLetter_spec, lt_nI, nI_lt2, eq_nI, tnI, tsub_k, tadd_k, if_pos, if_neg, zld_k, zsto_k, ztld_k, clamp_nI, zin_nI, zb2_eta, ↓reduceIte, nI_add, pk_mul, pk_sub, e, ec, wl, pk_div, ← hK, ← hM]
          have y : ∀ X : zW, zupd (zupd X 129 (8 + 27 * c + 0) (nI K)) 129 (8 + 27 * c + 1) (nI M) 129 0 = X 129 0 := fun X => by
            rw [zupd_eq, upd_ne _ _ (by omega), zupd_eq, upd_ne _ _ (by omega)]
          simp (disch := omega) only [zb_s, zb2_s, zlet_e, zg_t, bP_0, bP_t0, in_k, isLetter_spec, XisLetter_spec, lt_nI, nI_lt2, eq_nI, tnI, tsub_k, tadd_k, if_pos, if_neg, zld_k, zsto_k, ztld_k, clamp_nI, zin_nI, zb2_eta, ↓reduceIte, nI_add, pk_mul, pk_sub, zset_eq, zupd_eq, upd_ne, frow_out, ec, upd_eq, show c + 1 - 1 = c by omega]
          rw [hs1]
          simp only [zupd, zset_zset, zset_eq]
        · have g : FX w W := by
            rw [hW]
            exact FX_upd (FX_set (FX_upd (FX_upd (FX_upd (FX_refl w) _ _ (by omega)) _ _ (by omega)) _ _ (by omega)) _ (by omega)) _ _ (by omega)
          refine Rel_now (s := s1) hR g ?_ (FM_set (FM_refl _) _ (by omega)) (zset_eq _ _ _)
          refine RT_walls h (fun k h1 h2 => eW k h1 (by omega) (by omega)) (fun j hj => ?_) (fun p h1 h2 => es p h1 (by omega)) ?_ ?_ ?_
          · rw [hW, zupd_eq, upd_ne _ _ hj, zset_ne _ _ (by omega), zupd_ne _ _ _ (by omega), zupd_ne _ _ _ (by omega), zupd_ne _ _ _ (by omega)]
          · rw [hs1]
            refine nn_upd (nn_upd (nn_upd (nn_upd ?_ _ _ ?_) _ _ ?_) _ _ (by omega)) _ _ ?_
            · intro p hp hp6
              by_cases q : 8 + 27 * c + 0 ≤ p ∧ p < 8 + 27 * c + 27
              · rw [frow_in q]; decide
              · rw [frow_out q]; exact h.1 p hp hp6
            · rw [tnI (by omega)]; omega
            · rw [tnI (by omega)]; omega
            · rw [tnI (by omega)]; omega
          · rw [hW, zupd_eq, upd_eq, s0, tnI (by omega)]
            exact ⟨rfl, by omega⟩
          · intro i hi
            rw [s0, tnI (by omega)] at hi
            unfold Rwal1
            by_cases e : i = c
            · subst e
              have z1 : W (1 + 39 + 2 * i) = upd (upd (upd (w (40 + 2 * i)) 1 (nI K)) 2 (nI M)) 3 (nI n) := by
                rw [hW, show 1 + 39 + 2 * i = 40 + 2 * i by omega, zupd_ne _ _ _ (by omega), zset_ne _ _ (by omega), zupd_eq, zupd_eq, zupd_eq]
              have z2 : ∀ j, j < 24 → W (1 + 40 + 2 * i) j = nI 0 := fun j hj => by
                rw [hW, show 1 + 40 + 2 * i = 40 + 2 * i + 1 by omega, zupd_ne _ _ _ (by omega), zset_eq, frow_in (by omega)]
              rw [z1, sK, sM, sn]
              simp (disch := omega) only [zb_s, zb2_s, zlet_e, zg_t, bP_0, bP_t0, in_k, isLetter_spec, XisLetter_spec, lt_nI, nI_lt2, eq_nI, tnI, tsub_k, tadd_k, if_pos, if_neg, zld_k, zsto_k, ztld_k, clamp_nI, zin_nI, zb2_eta, ↓reduceIte, nI_add, pk_mul, pk_sub, upd_eq, upd_ne]
              refine ⟨⟨trivial, by omega⟩, ⟨trivial, by omega⟩, ⟨trivial, by omega⟩, fun j hj => ?_⟩
              rw [z2 j (by omega), es2 j (by omega)]
              exact ⟨rfl, by decide⟩
            · have q := h.2.2.1 i (by omega)
              unfold Rwal1 at q
              have l24 := q.2.2.1.2
              rw [eW _ (by omega) (by omega) (by omega), eW _ (by omega) (by omega) (by omega), es (8 + 27 * i) (by omega) (by omega), es (9 + 27 * i) (by omega) (by omega), es (10 + 27 * i) (by omega) (by omega)]
              refine ⟨q.1, q.2.1, q.2.2.1, fun j hj => ?_⟩
              rw [es _ (by omega) (by omega)]
              exact q.2.2.2 j hj
    · refine OK_err hR (k := 1) (by decide) (by decide) ?_ (fun w1 e => ?_)
      · rw [f_X11_wall]
        by_cases hn : b.toInt < 0
        · simp (disch := omega) only [zb_s, zb2_s, zlet_e, zg_t, bP_0, bP_t0, in_k, isLetter_spec, XisLetter_spec, lt_nI, nI_lt2, eq_nI, tnI, tsub_k, tadd_k, if_pos, if_neg, zld_k, zsto_k, ztld_k, clamp_nI, zin_nI, zb2_eta, ↓reduceIte, nI_add, pk_mul, pk_sub, j_X11_wall_20]
        · simp (disch := omega) only [zb_s, zb2_s, zlet_e, zg_t, bP_0, bP_t0, in_k, isLetter_spec, XisLetter_spec, lt_nI, nI_lt2, eq_nI, tnI, tsub_k, tadd_k, if_pos, if_neg, zld_k, zsto_k, ztld_k, clamp_nI, zin_nI, zb2_eta, ↓reduceIte, nI_add, pk_mul, pk_sub, j_X11_wall_20]
      · rw [f_X12_wall, in_k _ (by decide) (by decide), zb_s, if_neg (by rw [bP_0]; omega), in_k _ (by decide) (by decide), zb_s, if_pos (by rw [bP_0]; omega), j_X12_wall_20, zb2_eta]
  · refine OK_err hR (k := 1) (by decide) (by decide) ?_ (fun w1 e => ?_)
    · rw [f_X11_wall]
      by_cases hn : a.toInt < 0
      · simp (disch := omega) only [zb_s, zb2_s, zlet_e, zg_t, bP_0, bP_t0, in_k, isLetter_spec, XisLetter_spec, lt_nI, nI_lt2, eq_nI, tnI, tsub_k, tadd_k, if_pos, if_neg, zld_k, zsto_k, ztld_k, clamp_nI, zin_nI, zb2_eta, ↓reduceIte, nI_add, pk_mul, pk_sub, j_X11_wall_20]
      · simp (disch := omega) only [zb_s, zb2_s, zlet_e, zg_t, bP_0, bP_t0, in_k, isLetter_spec, XisLetter_spec, lt_nI, nI_lt2, eq_nI, tnI, tsub_k, tadd_k, if_pos, if_neg, zld_k, zsto_k, ztld_k, clamp_nI, zin_nI, zb2_eta, ↓reduceIte, nI_add, pk_mul, pk_sub, j_X11_wall_20]
    · rw [f_X12_wall, in_k _ (by decide) (by decide), zb_s, if_pos (by rw [bP_0]; omega), j_X12_wall_20, zb2_eta]
theorem heap_sum {w : zW} {s : Nat → Int32} (hs : w 129 = s) (hh : ∀ l : Nat, 1 ≤ l → l ≤ 26 → w 38 l = s (266 + l)) : ∀ (n i : Nat) (acc : Int32), 1 ≤ i → i ≤ 27 → 27 - i < n → ∃ r, l_X8_countHeap_4 w (fun x => some x) n acc (nI i) = some r ∧ l_X12_count_62 (fun x w1 => some (x, w1)) n acc (nI i) w = some (r, w) := by
  intro n
  induction n with
  | zero => intro i acc _ _ h; omega
  | succ n ih =>
    intro i acc h1 hi h
    rw [l_X8_countHeap_4.eq_2, l_X12_count_62.eq_2]
    by_cases e : i < 27
    · obtain ⟨r, x1, x2⟩ := ih (i + 1) (acc + s (266 + i)) (by omega) (by omega) (by omega)
      refine ⟨r, ?_, ?_⟩
      · have q := hh i (by omega) (by omega)
        simp (disch := omega) only [zb_s, zb2_s, zlet_e, zg_t, bP_0, bP_t0, in_k, isLetter_spec, XisLetter_spec, lt_nI, nI_lt2, eq_nI, tnI, tsub_k, tadd_k, if_pos, if_neg, zld_k, zsto_k, ztld_k, clamp_nI, zin_nI, zb2_eta, ↓reduceIte, nI_add, pk_mul, pk_sub, q]
        exact x1
      · simp (disch := omega) only [zb_s, zb2_s, zlet_e, zg_t, bP_0, bP_t0, in_k, isLetter_spec, XisLetter_spec, lt_nI, nI_lt2, eq_nI, tnI, tsub_k, tadd_k, if_pos, if_neg, zld_k, zsto_k, ztld_k, clamp_nI, zin_nI, zb2_eta, ↓reduceIte, nI_add, pk_mul, pk_sub, hs]
        exact x2
    · refine ⟨acc, ?_, ?_⟩
      · simp (disch := omega) only [zb_s, zb2_s, zlet_e, zg_t, bP_0, bP_t0, in_k, isLetter_spec, XisLetter_spec, lt_nI, nI_lt2, eq_nI, tnI, tsub_k, tadd_k, if_pos, if_neg, zld_k, zsto_k, ztld_k, clamp_nI, zin_nI, zb2_eta, ↓reduceIte, nI_add, pk_mul, pk_sub]
      · simp (disch := omega) only [zb_s, zb2_s, zlet_e, zg_t, bP_0, bP_t0, in_k, isLetter_spec, XisLetter_spec, lt_nI, nI_lt2, eq_nI, tnI, tsub_k, tadd_k, if_pos, if_neg, zld_k, zsto_k, ztld_k, clamp_nI, zin_nI, zb2_eta, ↓reduceIte, nI_add, pk_mul, pk_sub]
theorem op_count {w : zW} (hR : Rel w) (a : Int32) : OK2 (f_X11_count a) (f_X12_count a) w := by
  have h := hR.1
  obtain ⟨c0, c1, c2, c3, c4, c5, c6⟩ := h.2.1
  by_cases h0 : a.toInt = 0
  · exact OK_same hR (w 129 0) (by rw [f_X11_count]; simp (disch := omega) only [zb_s, zb2_s, zlet_e, zg_t, bP_0, bP_t0, in_k, isLetter_spec, XisLetter_spec, lt_nI, nI_lt2, eq_nI, tnI, tsub_k, tadd_k, if_pos, if_neg, zld_k, zsto_k, ztld_k, clamp_nI, zin_nI, zb2_eta, ↓reduceIte, nI_add, pk_mul, pk_sub, c0.1]) (by rw [f_X12_count]; simp (disch := omega) only [zb_s, zb2_s, zlet_e, zg_t, bP_0, bP_t0, in_k, isLetter_spec, XisLetter_spec, lt_nI, nI_lt2, eq_nI, tnI, tsub_k, tadd_k, if_pos, if_neg, zld_k, zsto_k, ztld_k, clamp_nI, zin_nI, zb2_eta, ↓reduceIte, nI_add, pk_mul, pk_sub])
  by_cases h1 : a.toInt = 1
  · exact OK_same hR (w 129 1) (by rw [f_X11_count]; simp (disch := omega) only [zb_s, zb2_s, zlet_e, zg_t, bP_0, bP_t0, in_k, isLetter_spec, XisLetter_spec, lt_nI, nI_lt2, eq_nI, tnI, tsub_k, tadd_k, if_pos, if_neg, zld_k, zsto_k, ztld_k, clamp_nI, zin_nI, zb2_eta, ↓reduceIte, nI_add, pk_mul, pk_sub, show w 3 1 = w 129 1 from c1.1]) (by rw [f_X12_count]; simp (disch := omega) only [zb_s, zb2_s, zlet_e, zg_t, bP_0, bP_t0, in_k, isLetter_spec, XisLetter_spec, lt_nI, nI_lt2, eq_nI, tnI, tsub_k, tadd_k, if_pos, if_neg, zld_k, zsto_k, ztld_k, clamp_nI, zin_nI, zb2_eta, ↓reduceIte, nI_add, pk_mul, pk_sub])
  by_cases h2 : a.toInt = 2
  · obtain ⟨r, x1, x2⟩ := heap_sum (w := w) rfl (fun l hl1 hl2 => (h.2.2.2.2.1 l hl1 hl2).1) zfuel 1 (nI 0) (by decide) (by decide) (by unfold zfuel; decide)
    refine OK_same hR r ?_ ?_
    · rw [f_X11_count]
      simp (disch := omega) only [zb_s, zb2_s, zlet_e, zg_t, bP_0, bP_t0, in_k, isLetter_spec, XisLetter_spec, lt_nI, nI_lt2, eq_nI, tnI, tsub_k, tadd_k, if_pos, if_neg, zld_k, zsto_k, ztld_k, clamp_nI, zin_nI, zb2_eta, ↓reduceIte, nI_add, pk_mul, pk_sub, f_X8_countHeap, x1]
    · rw [f_X12_count]
      simp (disch := omega) only [zb_s, zb2_s, zlet_e, zg_t, bP_0, bP_t0, in_k, isLetter_spec, XisLetter_spec, lt_nI, nI_lt2, eq_nI, tnI, tsub_k, tadd_k, if_pos, if_neg, zld_k, zsto_k, ztld_k, clamp_nI, zin_nI, zb2_eta, ↓reduceIte, nI_add, pk_mul, pk_sub, x2]
  by_cases h3 : a.toInt = 3
  · exact OK_same hR (w 129 4) (by rw [f_X11_count]; simp (disch := omega) only [zb_s, zb2_s, zlet_e, zg_t, bP_0, bP_t0, in_k, isLetter_spec, XisLetter_spec, lt_nI, nI_lt2, eq_nI, tnI, tsub_k, tadd_k, if_pos, if_neg, zld_k, zsto_k, ztld_k, clamp_nI, zin_nI, zb2_eta, ↓reduceIte, nI_add, pk_mul, pk_sub, c4.1]) (by rw [f_X12_count]; simp (disch := omega) only [zb_s, zb2_s, zlet_e, zg_t, bP_0, bP_t0, in_k, isLetter_spec, XisLetter_spec, lt_nI, nI_lt2, eq_nI, tnI, tsub_k, tadd_k, if_pos, if_neg, zld_k, zsto_k, ztld_k, clamp_nI, zin_nI, zb2_eta, ↓reduceIte, nI_add, pk_mul, pk_sub])
  by_cases h4 : a.toInt = 4
  · exact OK_same hR (w 129 5) (by rw [f_X11_count]; simp (disch := omega) only [zb_s, zb2_s, zlet_e, zg_t, bP_0, bP_t0, in_k, isLetter_spec, XisLetter_spec, lt_nI, nI_lt2, eq_nI, tnI, tsub_k, tadd_k, if_pos, if_neg, zld_k, zsto_k, ztld_k, clamp_nI, zin_nI, zb2_eta, ↓reduceIte, nI_add, pk_mul, pk_sub, c5.1]) (by rw [f_X12_count]; simp (disch := omega) only [zb_s, zb2_s, zlet_e, zg_t, bP_0, bP_t0, in_k, isLetter_spec, XisLetter_spec, lt_nI, nI_lt2, eq_nI, tnI, tsub_k, tadd_k, if_pos, if_neg, zld_k, zsto_k, ztld_k, clamp_nI, zin_nI, zb2_eta, ↓reduceIte, nI_add, pk_mul, pk_sub])
  by_cases h5 : a.toInt = 5
  · exact OK_same hR (w 128 21) (by rw [f_X11_count]; simp (disch := omega) only [zb_s, zb2_s, zlet_e, zg_t, bP_0, bP_t0, in_k, isLetter_spec, XisLetter_spec, lt_nI, nI_lt2, eq_nI, tnI, tsub_k, tadd_k, if_pos, if_neg, zld_k, zsto_k, ztld_k, clamp_nI, zin_nI, zb2_eta, ↓reduceIte, nI_add, pk_mul, pk_sub, hR.2.2.2.2.1.1]) (by rw [f_X12_count]; simp (disch := omega) only [zb_s, zb2_s, zlet_e, zg_t, bP_0, bP_t0, in_k, isLetter_spec, XisLetter_spec, lt_nI, nI_lt2, eq_nI, tnI, tsub_k, tadd_k, if_pos, if_neg, zld_k, zsto_k, ztld_k, clamp_nI, zin_nI, zb2_eta, ↓reduceIte, nI_add, pk_mul, pk_sub])
  by_cases h6 : a.toInt = 6
  · exact OK_same hR (w 129 6) (by rw [f_X11_count]; simp (disch := omega) only [zb_s, zb2_s, zlet_e, zg_t, bP_0, bP_t0, in_k, isLetter_spec, XisLetter_spec, lt_nI, nI_lt2, eq_nI, tnI, tsub_k, tadd_k, if_pos, if_neg, zld_k, zsto_k, ztld_k, clamp_nI, zin_nI, zb2_eta, ↓reduceIte, nI_add, pk_mul, pk_sub, c6]) (by rw [f_X12_count]; simp (disch := omega) only [zb_s, zb2_s, zlet_e, zg_t, bP_0, bP_t0, in_k, isLetter_spec, XisLetter_spec, lt_nI, nI_lt2, eq_nI, tnI, tsub_k, tadd_k, if_pos, if_neg, zld_k, zsto_k, ztld_k, clamp_nI, zin_nI, zb2_eta, ↓reduceIte, nI_add, pk_mul, pk_sub])
  refine OK_err hR (k := 1) (by decide) (by decide) ?_ (fun w1 e => ?_)
  · rw [f_X11_count]
    simp (disch := omega) only [zb_s, zb2_s, zlet_e, zg_t, bP_0, bP_t0, in_k, isLetter_spec, XisLetter_spec, lt_nI, nI_lt2, eq_nI, tnI, tsub_k, tadd_k, if_pos, if_neg, zld_k, zsto_k, ztld_k, clamp_nI, zin_nI, zb2_eta, ↓reduceIte, nI_add, pk_mul, pk_sub]
  · rw [f_X12_count]
    simp (disch := omega) only [zb_s, zb2_s, zlet_e, zg_t, bP_0, bP_t0, in_k, isLetter_spec, XisLetter_spec, lt_nI, nI_lt2, eq_nI, tnI, tsub_k, tadd_k, if_pos, if_neg, zld_k, zsto_k, ztld_k, clamp_nI, zin_nI, zb2_eta, ↓reduceIte, nI_add, pk_mul, pk_sub]
