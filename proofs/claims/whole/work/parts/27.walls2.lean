def frow (f : Nat → Int32) (lo hi : Nat) (v : Int32) : Nat → Int32 := fun p => if lo ≤ p ∧ p < hi then v else f p
theorem frow_end (f : Nat → Int32) {lo hi : Nat} (v : Int32) (h : hi ≤ lo) : frow f lo hi v = f := funext fun p => if_neg (by omega)
theorem frow_step (f : Nat → Int32) {lo hi : Nat} (v : Int32) (h : lo < hi) : frow (upd f lo v) (lo + 1) hi v = frow f lo hi v := funext fun p => by
  unfold frow
  by_cases e : p = lo
  · subst e
    rw [if_neg (by omega), if_pos (by omega), upd_eq]
  · by_cases q : lo + 1 ≤ p ∧ p < hi
    · rw [if_pos q, if_pos (by omega)]
    · rw [if_neg q, if_neg (by omega), upd_ne _ _ e]
theorem frow_in {f : Nat → Int32} {lo hi p : Nat} {v : Int32} (h : lo ≤ p ∧ p < hi) : frow f lo hi v p = v := if_pos h
theorem frow_out {f : Nat → Int32} {lo hi p : Nat} {v : Int32} (h : ¬ (lo ≤ p ∧ p < hi)) : frow f lo hi v p = f p := if_neg h
theorem zset_zset (w : zW) (k : Nat) (f g : Nat → Int32) : zset (zset w k f) k g = zset w k g := funext fun j => by
  by_cases e : j = k
  · rw [e, zset_eq, zset_eq]
  · rw [zset_ne _ _ e, zset_ne _ _ e, zset_ne _ _ e]
theorem zset_zupd (w : zW) (k i : Nat) (v : Int32) (g : Nat → Int32) : zset (zupd w k i v) k g = zset w k g := zset_zset w k _ g
theorem zset_self (w : zW) (k : Nat) : zset w k (w k) = w := funext fun j => by
  by_cases e : j = k
  · rw [e, zset_eq]
  · rw [zset_ne _ _ e]
theorem fill_loop (K : zW → Option zW) (a na : Nat) (v : Int32) (hna : na < 2 ^ 31) : ∀ (n i : Nat) (w : zW), i ≤ na → na - i < n → l_J7_fill_53178_5 K n a na v (nI i) (nI na) w = K (zset w a (frow (w a) i na v)) := by
  intro n
  induction n with
  | zero => intro i w _ h; omega
  | succ n ih =>
    intro i w hi h
    rw [l_J7_fill_53178_5.eq_2]
    by_cases e : i < na
    · simp (disch := omega) only [zb_s, zb2_s, zlet_e, zg_t, bP_0, bP_t0, in_k, isLetter_spec, XisLetter_spec, lt_nI, nI_lt2, eq_nI, tnI, tsub_k, tadd_k, if_pos, if_neg, zld_k, zsto_k, ztld_k, clamp_nI, zin_nI, zb2_eta, ↓reduceIte, nI_add, pk_mul, pk_sub]
      rw [ih (i + 1) _ (by omega) (by omega), zset_zupd, zupd_eq, frow_step _ _ e]
    · simp (disch := omega) only [zb_s, zb2_s, zlet_e, zg_t, bP_0, bP_t0, in_k, isLetter_spec, XisLetter_spec, lt_nI, nI_lt2, eq_nI, tnI, tsub_k, tadd_k, if_pos, if_neg, zld_k, zsto_k, ztld_k, clamp_nI, zin_nI, zb2_eta, ↓reduceIte, nI_add, pk_mul, pk_sub]
      rw [frow_end _ _ (by omega), zset_self]
theorem fill_spec (a na : Nat) (v : Int32) (w : zW) (hna : na < 100000) : f_J7_fill_53178 a na v w = some (zset w a (frow (w a) 0 na v)) := by
  rw [f_J7_fill_53178, zlet_e, show (nI 0 : Int32) = nI 0 from rfl]
  exact fill_loop _ a na v (by omega) zfuel 0 w (by omega) (by unfold zfuel; omega)
theorem wall_loop (K : Int32 → Int32 → Int32 → zW → Option (Int32 × zW)) (a1 a2 : Int32) (b : Nat) (hb : b + 27 ≤ 628) : ∀ (n i : Nat) (w : zW), i ≤ 27 → 27 - i < n → l_X12_wall_59 K n a1 a2 (nI b) (nI i) w = K a1 a2 (nI b) (zset w 129 (frow (w 129) (b + i) (b + 27) (nI 0))) := by
  intro n
  induction n with
  | zero => intro i w _ h; omega
  | succ n ih =>
    intro i w hi h
    rw [l_X12_wall_59.eq_2]
    by_cases e : i < 27
    · simp (disch := omega) only [zb_s, zb2_s, zlet_e, zg_t, bP_0, bP_t0, in_k, isLetter_spec, XisLetter_spec, lt_nI, nI_lt2, eq_nI, tnI, tsub_k, tadd_k, if_pos, if_neg, zld_k, zsto_k, ztld_k, clamp_nI, zin_nI, zb2_eta, ↓reduceIte, nI_add, pk_mul, pk_sub]
      rw [ih (i + 1) _ (by omega) (by omega), zset_zupd, zupd_eq, show b + (i + 1) = b + i + 1 by omega, frow_step _ _ (by omega)]
    · simp (disch := omega) only [zb_s, zb2_s, zlet_e, zg_t, bP_0, bP_t0, in_k, isLetter_spec, XisLetter_spec, lt_nI, nI_lt2, eq_nI, tnI, tsub_k, tadd_k, if_pos, if_neg, zld_k, zsto_k, ztld_k, clamp_nI, zin_nI, zb2_eta, ↓reduceIte, nI_add, pk_mul, pk_sub]
      rw [frow_end _ _ (by omega), zset_self]
theorem und_ok : ∀ k, k < 7 → ∀ j, j < 7 → f_X11_isUnder (nI k) (nI j) = f_X12_isUnder (nI k) (nI j) ∧ (f_X12_isUnder (nI k) (nI j) = some (nI 0) ∨ f_X12_isUnder (nI k) (nI j) = some (nI 1)) := by decide +kernel
theorem op_as {w : zW} (hR : Rel w) (a b : Int32) : OK2 (f_X11_as a b) (f_X12_as a b) w := by
  have h := hR.1
  have h6 := h.2.1.1.2
  by_cases ha : 0 ≤ a.toInt ∧ a.toInt < (w 129 0).toInt
  · obtain ⟨i, hi, rfl, ei⟩ := of_toInt a ha.1
    have q := h.2.2.1 i (by omega)
    unfold Rwal1 at q
    rw [show 1 + 39 + 2 * i = 40 + 2 * i by omega] at q
    have i6 : i < 6 := by omega
    by_cases hb : 0 ≤ b.toInt ∧ b.toInt ≤ 6
    · obtain ⟨j, hj, rfl, ej⟩ := of_toInt b hb.1
      obtain ⟨c, hc, ec, etc⟩ := nn_nI h.1 (8 + 27 * i) (by omega) (by omega)
      have e9 := q.1.1.trans ec
      obtain ⟨x1, x2⟩ := und_ok c (by have := q.1.2; omega) j (by omega)
      rcases x2 with x2 | x2
      · refine OK_err hR (k := 5) (by decide) (by decide) ?_ (fun w1 e => ?_)
        · rw [f_X11_as]
          simp (disch := omega) only [zb_s, zb2_s, zlet_e, zg_t, bP_0, bP_t0, in_k, isLetter_spec, XisLetter_spec, lt_nI, nI_lt2, eq_nI, tnI, tsub_k, tadd_k, if_pos, if_neg, zld_k, zsto_k, ztld_k, clamp_nI, zin_nI, zb2_eta, ↓reduceIte, nI_add, pk_mul, pk_sub, hasWall_spec h, e9, x1, x2]
        · rw [f_X12_as]
          simp (disch := omega) only [zb_s, zb2_s, zlet_e, zg_t, bP_0, bP_t0, in_k, isLetter_spec, XisLetter_spec, lt_nI, nI_lt2, eq_nI, tnI, tsub_k, tadd_k, if_pos, if_neg, zld_k, zsto_k, ztld_k, clamp_nI, zin_nI, zb2_eta, ↓reduceIte, nI_add, pk_mul, pk_sub, isWall_spec e h.1 h6, its_k e i6 (show 0 < 27 by decide), Nat.add_zero, ec, x2]
      · refine OK_same hR (w 129 (10 + 27 * i)) ?_ ?_
        · rw [f_X11_as]
          simp (disch := omega) only [zb_s, zb2_s, zlet_e, zg_t, bP_0, bP_t0, in_k, isLetter_spec, XisLetter_spec, lt_nI, nI_lt2, eq_nI, tnI, tsub_k, tadd_k, if_pos, if_neg, zld_k, zsto_k, ztld_k, clamp_nI, zin_nI, zb2_eta, ↓reduceIte, nI_add, pk_mul, pk_sub, hasWall_spec h, e9, x1, x2, q.2.2.1.1]
        · rw [f_X12_as]
          simp (disch := omega) only [zb_s, zb2_s, zlet_e, zg_t, bP_0, bP_t0, in_k, isLetter_spec, XisLetter_spec, lt_nI, nI_lt2, eq_nI, tnI, tsub_k, tadd_k, if_pos, if_neg, zld_k, zsto_k, ztld_k, clamp_nI, zin_nI, zb2_eta, ↓reduceIte, nI_add, pk_mul, pk_sub, isWall_spec rfl h.1 h6, its_k rfl i6 (show 0 < 27 by decide), its_k rfl i6 (show 2 < 27 by decide), Nat.add_zero, ec, x2, show 8 + 27 * i + 2 = 10 + 27 * i by omega]
    · refine OK_err hR (k := 1) (by decide) (by decide) ?_ (fun w1 e => ?_)
      · rw [f_X11_as]
        by_cases hn : b.toInt < 0
        · simp (disch := omega) only [zb_s, zb2_s, zlet_e, zg_t, bP_0, bP_t0, in_k, isLetter_spec, XisLetter_spec, lt_nI, nI_lt2, eq_nI, tnI, tsub_k, tadd_k, if_pos, if_neg, zld_k, zsto_k, ztld_k, clamp_nI, zin_nI, zb2_eta, ↓reduceIte, nI_add, pk_mul, pk_sub, hasWall_spec h, j_X11_as_21]
        · simp (disch := omega) only [zb_s, zb2_s, zlet_e, zg_t, bP_0, bP_t0, in_k, isLetter_spec, XisLetter_spec, lt_nI, nI_lt2, eq_nI, tnI, tsub_k, tadd_k, if_pos, if_neg, zld_k, zsto_k, ztld_k, clamp_nI, zin_nI, zb2_eta, ↓reduceIte, nI_add, pk_mul, pk_sub, hasWall_spec h, j_X11_as_21]
      · rw [f_X12_as]
        simp (disch := omega) only [zb_s, zb2_s, zlet_e, zg_t, bP_0, bP_t0, in_k, isLetter_spec, XisLetter_spec, lt_nI, nI_lt2, eq_nI, tnI, tsub_k, tadd_k, if_pos, if_neg, zld_k, zsto_k, ztld_k, clamp_nI, zin_nI, zb2_eta, ↓reduceIte, nI_add, pk_mul, pk_sub, isWall_spec e h.1 h6, j_X12_as_18]
  · refine OK_err hR (k := 1) (by decide) (by decide) ?_ (fun w1 e => ?_)
    · rw [f_X11_as]
      simp (disch := omega) only [zb_s, zb2_s, zlet_e, zg_t, bP_0, bP_t0, in_k, isLetter_spec, XisLetter_spec, lt_nI, nI_lt2, eq_nI, tnI, tsub_k, tadd_k, if_pos, if_neg, zld_k, zsto_k, ztld_k, clamp_nI, zin_nI, zb2_eta, ↓reduceIte, nI_add, pk_mul, pk_sub, hasWall_spec h, j_X11_as_21]
    · rw [f_X12_as]
      simp (disch := omega) only [zb_s, zb2_s, zlet_e, zg_t, bP_0, bP_t0, in_k, isLetter_spec, XisLetter_spec, lt_nI, nI_lt2, eq_nI, tnI, tsub_k, tadd_k, if_pos, if_neg, zld_k, zsto_k, ztld_k, clamp_nI, zin_nI, zb2_eta, ↓reduceIte, nI_add, pk_mul, pk_sub, isWall_spec e h.1 h6, j_X12_as_18]
/-- walls change (and how many there are): what else holds goes on -/
theorem RT_walls {w w1 : zW} {T : Nat} {s s1 : Nat → Int32} (h : RT w T s) (hw : ∀ k, k ≠ T → ¬ (T + 39 ≤ k ∧ k ≤ T + 50) → w1 k = w k) (hwT : ∀ j, j ≠ 7 → w1 T j = w T j) (hs : ∀ p, p ≠ 0 → ¬ (8 ≤ p ∧ p < 170) → s1 p = s p) (hn : nn s1) (hc : w1 T 7 = s1 0 ∧ (s1 0).toInt ≤ 6) (hW : Rwall w1 T s1) : RT w1 T s1 := by
  obtain ⟨g1, g2, g3, g4, g5, g6, g7, g8⟩ := h
  have u := hs
  refine ⟨hn, ?_, hW, Rword_c g4 g2.2.1.2 (fun k _ _ => hw k (by omega) (by omega)) (u 1 (by omega) (by omega)) (fun p _ _ => u p (by omega) (by omega)), Rheap_c g5 (hw _ (by omega) (by omega)) (fun p _ _ => u p (by omega) (by omega)), Rtape_c g6 g2.2.2.2.2.1.2 (hw _ (by omega) (by omega)) (u 4 (by omega) (by omega)) (fun p _ _ => u p (by omega) (by omega)), Rwait_c g7 g2.2.2.2.2.2.1.2 (hw _ (by omega) (by omega)) (u 5 (by omega) (by omega)) (fun p _ _ => u p (by omega) (by omega)), Rtext_c g8 (fun k _ _ => hw k (by omega) (by omega)) (fun p _ _ => u p (by omega) (by omega))⟩
  unfold Rcnt at g2 ⊢
  rw [hw (T + 2) (by omega) (by omega), hwT 8 (by decide), hwT 9 (by decide), hwT 10 (by decide), hwT 11 (by decide), hwT 12 (by decide), u 1 (by omega) (by omega), u 2 (by omega) (by omega), u 3 (by omega) (by omega), u 4 (by omega) (by omega), u 5 (by omega) (by omega), u 6 (by omega) (by omega)]
  exact ⟨hc, g2.2⟩
/-- kind or m of a wall becomes another one -/
theorem RT_km {w : zW} {s : Nat → Int32} (h : RT w 1 s) {i d v : Nat} (hi : (i : Int) < (s 0).toInt) (hd : d = 0 ∧ v < 7 ∨ d = 1 ∧ v < 10) : RT (zupd w (40 + 2 * i) (d + 1) (nI v)) 1 (upd s (8 + 27 * i + d) (nI v)) := by
  have h6 := h.2.1.1.2
  refine RT_walls h (fun k h1 h2 => zupd_ne _ _ _ (by omega)) (fun j hj => by rw [zupd_ne _ _ _ (by omega)]) (fun p h1 h2 => upd_ne _ _ (by omega)) (nn_upd h.1 _ _ (by rw [tnI (by omega)]; omega)) ?_ ?_
  · rw [zupd_ne _ _ _ (by omega), upd_ne _ _ (by omega)]
    exact h.2.1.1
  · intro i' hi'
    rw [upd_ne _ _ (by omega)] at hi'
    have q := h.2.2.1 i' hi'
    unfold Rwal1 at q ⊢
    by_cases e : i' = i
    · subst e
      rw [show 1 + 39 + 2 * i' = 40 + 2 * i' by omega] at q ⊢
      rw [zupd_eq, zupd_ne _ _ _ (show 1 + 40 + 2 * i' ≠ 40 + 2 * i' by omega), upd_ne _ _ (show 10 + 27 * i' ≠ 8 + 27 * i' + d by omega)]
      have g : ∀ j : Nat, upd s (8 + 27 * i' + d) (nI v) (11 + 27 * i' + j) = s (11 + 27 * i' + j) := fun j => upd_ne _ _ (by omega)
      simp only [g]
      rcases hd with ⟨rfl, hv⟩ | ⟨rfl, hv⟩
      · simp (disch := omega) only [zb_s, zb2_s, zlet_e, zg_t, bP_0, bP_t0, in_k, isLetter_spec, XisLetter_spec, lt_nI, nI_lt2, eq_nI, tnI, tsub_k, tadd_k, if_pos, if_neg, zld_k, zsto_k, ztld_k, clamp_nI, zin_nI, zb2_eta, ↓reduceIte, nI_add, pk_mul, pk_sub, upd_eq, upd_ne, Nat.add_zero, Nat.zero_add]
        exact ⟨⟨trivial, by omega⟩, q.2⟩
      · rw [show 8 + 27 * i' + 1 = 9 + 27 * i' by omega]
        simp (disch := omega) only [zb_s, zb2_s, zlet_e, zg_t, bP_0, bP_t0, in_k, isLetter_spec, XisLetter_spec, lt_nI, nI_lt2, eq_nI, tnI, tsub_k, tadd_k, if_pos, if_neg, zld_k, zsto_k, ztld_k, clamp_nI, zin_nI, zb2_eta, ↓reduceIte, nI_add, pk_mul, pk_sub, upd_eq, upd_ne]
        exact ⟨q.1, ⟨trivial, by omega⟩, q.2.2⟩
    · have l24 := q.2.2.1.2
      rw [zupd_ne _ _ _ (by omega), zupd_ne _ _ _ (by omega), upd_ne _ _ (show 8 + 27 * i' ≠ 8 + 27 * i + d by omega), upd_ne _ _ (show 9 + 27 * i' ≠ 8 + 27 * i + d by omega), upd_ne _ _ (show 10 + 27 * i' ≠ 8 + 27 * i + d by omega)]
      refine ⟨q.1, q.2.1, q.2.2.1, fun j hj => ?_⟩
      rw [upd_ne _ _ (by omega)]
      exact q.2.2.2 j hj
theorem op_set {w : zW} (hR : Rel w) (a b c : Int32) : OK2 (f_X11_set a b c) (f_X12_set a b c) w := by
  have h := hR.1
  have h6 := h.2.1.1.2
  by_cases ha : 0 ≤ a.toInt ∧ a.toInt < (w 129 0).toInt
  · obtain ⟨i, hi, rfl, ei⟩ := of_toInt a ha.1
    have hi' : (i : Int) < (w 129 0).toInt := by omega
    have q := h.2.2.1 i hi'
    unfold Rwal1 at q
    rw [show 1 + 39 + 2 * i = 40 + 2 * i by omega] at q
    have i6 : i < 6 := by omega
    by_cases hb : 0 ≤ b.toInt ∧ b.toInt ≤ 1
    · obtain ⟨d, hd, rfl, ed⟩ := of_toInt b hb.1
      have : d = 0 ∨ d = 1 := by omega
      by_cases hc : 0 ≤ c.toInt ∧ c.toInt ≤ (if d = 0 then 6 else 9)
      · obtain ⟨v, hv, rfl, ev⟩ := of_toInt c hc.1
        refine ⟨w 129 (8 + 27 * i + d), zupd w (40 + 2 * i) (d + 1) (nI v), zupd (zupd w (40 + 2 * i) (d + 1) (nI v)) 129 (8 + 27 * i + d) (nI v), ?_, ?_, ?_⟩
        · rcases this with rfl | rfl
          · rw [if_pos rfl] at hc
            rw [f_X11_set]
            simp (disch := omega) only [zb_s, zb2_s, zlet_e, zg_t, bP_0, bP_t0, in_k, isLetter_spec, XisLetter_spec, lt_nI, nI_lt2, eq_nI, tnI, tsub_k, tadd_k, if_pos, if_neg, zld_k, zsto_k, ztld_k, clamp_nI, zin_nI, zb2_eta, ↓reduceIte, nI_add, pk_mul, pk_sub, hasWall_spec h, j_X11_set_42, j_X11_set_79, q.1.1, Nat.add_zero, Nat.zero_add]
          · rw [if_neg (by decide)] at hc
            rw [f_X11_set]
            simp (disch := omega) only [zb_s, zb2_s, zlet_e, zg_t, bP_0, bP_t0, in_k, isLetter_spec, XisLetter_spec, lt_nI, nI_lt2, eq_nI, tnI, tsub_k, tadd_k, if_pos, if_neg, zld_k, zsto_k, ztld_k, clamp_nI, zin_nI, zb2_eta, ↓reduceIte, nI_add, pk_mul, pk_sub, hasWall_spec h, j_X11_set_42, j_X11_set_79, q.2.1.1, show 8 + 27 * i + 1 = 9 + 27 * i by omega, show 1 + 1 = 2 from rfl]
        · have e : zupd w (40 + 2 * i) (d + 1) (nI v) 129 = w 129 := zupd_ne _ _ _ (by omega)
          rcases this with rfl | rfl
          · rw [if_pos rfl] at hc
            rw [f_X12_set]
            simp (disch := omega) only [zb_s, zb2_s, zlet_e, zg_t, bP_0, bP_t0, in_k, isLetter_spec, XisLetter_spec, lt_nI, nI_lt2, eq_nI, tnI, tsub_k, tadd_k, if_pos, if_neg, zld_k, zsto_k, ztld_k, clamp_nI, zin_nI, zb2_eta, ↓reduceIte, nI_add, pk_mul, pk_sub, isWall_spec e h.1 h6, j_X12_set_30, its_k e i6 (show 0 < 27 by decide)]
          · rw [if_neg (by decide)] at hc
            rw [f_X12_set]
            simp (disch := omega) only [zb_s, zb2_s, zlet_e, zg_t, bP_0, bP_t0, in_k, isLetter_spec, XisLetter_spec, lt_nI, nI_lt2, eq_nI, tnI, tsub_k, tadd_k, if_pos, if_neg, zld_k, zsto_k, ztld_k, clamp_nI, zin_nI, zb2_eta, ↓reduceIte, nI_add, pk_mul, pk_sub, isWall_spec e h.1 h6, j_X12_set_30, its_k e i6 (show 1 < 27 by decide)]
        · refine Rel_now (s := upd (w 129) (8 + 27 * i + d) (nI v)) hR (FX_upd (FX_refl w) _ _ (by omega)) (RT_km h hi' ?_) (FM_upd (FM_refl _) _ _ (by omega)) ?_
          · rcases this with rfl | rfl
            · rw [if_pos rfl] at hc; omega
            · rw [if_neg (by decide)] at hc; omega
          · rw [zupd_eq, zupd_ne _ _ _ (by omega)]
      · refine OK_err hR (k := 1) (by decide) (by decide) ?_ (fun w1 e => ?_)
        · rcases this with rfl | rfl
          · rw [if_pos rfl] at hc
            rw [f_X11_set]
            by_cases hn : c.toInt < 0
            · simp (disch := omega) only [zb_s, zb2_s, zlet_e, zg_t, bP_0, bP_t0, in_k, isLetter_spec, XisLetter_spec, lt_nI, nI_lt2, eq_nI, tnI, tsub_k, tadd_k, if_pos, if_neg, zld_k, zsto_k, ztld_k, clamp_nI, zin_nI, zb2_eta, ↓reduceIte, nI_add, pk_mul, pk_sub, hasWall_spec h, j_X11_set_24]
            · simp (disch := omega) only [zb_s, zb2_s, zlet_e, zg_t, bP_0, bP_t0, in_k, isLetter_spec, XisLetter_spec, lt_nI, nI_lt2, eq_nI, tnI, tsub_k, tadd_k, if_pos, if_neg, zld_k, zsto_k, ztld_k, clamp_nI, zin_nI, zb2_eta, ↓reduceIte, nI_add, pk_mul, pk_sub, hasWall_spec h, j_X11_set_24, j_X11_set_42]
          · rw [if_neg (by decide)] at hc
            rw [f_X11_set]
            by_cases hn : c.toInt < 0
            · simp (disch := omega) only [zb_s, zb2_s, zlet_e, zg_t, bP_0, bP_t0, in_k, isLetter_spec, XisLetter_spec, lt_nI, nI_lt2, eq_nI, tnI, tsub_k, tadd_k, if_pos, if_neg, zld_k, zsto_k, ztld_k, clamp_nI, zin_nI, zb2_eta, ↓reduceIte, nI_add, pk_mul, pk_sub, hasWall_spec h, j_X11_set_24]
            · simp (disch := omega) only [zb_s, zb2_s, zlet_e, zg_t, bP_0, bP_t0, in_k, isLetter_spec, XisLetter_spec, lt_nI, nI_lt2, eq_nI, tnI, tsub_k, tadd_k, if_pos, if_neg, zld_k, zsto_k, ztld_k, clamp_nI, zin_nI, zb2_eta, ↓reduceIte, nI_add, pk_mul, pk_sub, hasWall_spec h, j_X11_set_24, j_X11_set_42]
        · rcases this with rfl | rfl
          · rw [if_pos rfl] at hc
            rw [f_X12_set]
            simp (disch := omega) only [zb_s, zb2_s, zlet_e, zg_t, bP_0, bP_t0, in_k, isLetter_spec, XisLetter_spec, lt_nI, nI_lt2, eq_nI, tnI, tsub_k, tadd_k, if_pos, if_neg, zld_k, zsto_k, ztld_k, clamp_nI, zin_nI, zb2_eta, ↓reduceIte, nI_add, pk_mul, pk_sub, isWall_spec e h.1 h6, j_X12_set_30, j_X12_set_36]
          · rw [if_neg (by decide)] at hc
            rw [f_X12_set]
            simp (disch := omega) only [zb_s, zb2_s, zlet_e, zg_t, bP_0, bP_t0, in_k, isLetter_spec, XisLetter_spec, lt_nI, nI_lt2, eq_nI, tnI, tsub_k, tadd_k, if_pos, if_neg, zld_k, zsto_k, ztld_k, clamp_nI, zin_nI, zb2_eta, ↓reduceIte, nI_add, pk_mul, pk_sub, isWall_spec e h.1 h6, j_X12_set_30, j_X12_set_36]
    · refine OK_err hR (k := 1) (by decide) (by decide) ?_ (fun w1 e => ?_)
      · rw [f_X11_set]
        by_cases hn : b.toInt < 0
        · simp (disch := omega) only [zb_s, zb2_s, zlet_e, zg_t, bP_0, bP_t0, in_k, isLetter_spec, XisLetter_spec, lt_nI, nI_lt2, eq_nI, tnI, tsub_k, tadd_k, if_pos, if_neg, zld_k, zsto_k, ztld_k, clamp_nI, zin_nI, zb2_eta, ↓reduceIte, nI_add, pk_mul, pk_sub, hasWall_spec h, j_X11_set_24]
        · simp (disch := omega) only [zb_s, zb2_s, zlet_e, zg_t, bP_0, bP_t0, in_k, isLetter_spec, XisLetter_spec, lt_nI, nI_lt2, eq_nI, tnI, tsub_k, tadd_k, if_pos, if_neg, zld_k, zsto_k, ztld_k, clamp_nI, zin_nI, zb2_eta, ↓reduceIte, nI_add, pk_mul, pk_sub, hasWall_spec h, j_X11_set_24]
      · rw [f_X12_set]
        simp (disch := omega) only [zb_s, zb2_s, zlet_e, zg_t, bP_0, bP_t0, in_k, isLetter_spec, XisLetter_spec, lt_nI, nI_lt2, eq_nI, tnI, tsub_k, tadd_k, if_pos, if_neg, zld_k, zsto_k, ztld_k, clamp_nI, zin_nI, zb2_eta, ↓reduceIte, nI_add, pk_mul, pk_sub, isWall_spec e h.1 h6, j_X12_set_36]
  · refine OK_err hR (k := 1) (by decide) (by decide) ?_ (fun w1 e => ?_)
    · rw [f_X11_set]
      simp (disch := omega) only [zb_s, zb2_s, zlet_e, zg_t, bP_0, bP_t0, in_k, isLetter_spec, XisLetter_spec, lt_nI, nI_lt2, eq_nI, tnI, tsub_k, tadd_k, if_pos, if_neg, zld_k, zsto_k, ztld_k, clamp_nI, zin_nI, zb2_eta, ↓reduceIte, nI_add, pk_mul, pk_sub, hasWall_spec h, j_X11_set_24]
    · rw [f_X12_set]
      simp (disch := omega) only [zb_s, zb2_s, zlet_e, zg_t, bP_0, bP_t0, in_k, isLetter_spec, XisLetter_spec, lt_nI, nI_lt2, eq_nI, tnI, tsub_k, tadd_k, if_pos, if_neg, zld_k, zsto_k, ztld_k, clamp_nI, zin_nI, zb2_eta, ↓reduceIte, nI_add, pk_mul, pk_sub, isWall_spec e h.1 h6, j_X12_set_36]
