/-- the texts change: what else holds goes on -/
theorem RT_texts {w w1 : zW} {T : Nat} {s s1 : Nat → Int32} (h : RT w T s) (hw : ∀ k, ¬ (T + 28 ≤ k ∧ k ≤ T + 35) → w1 k = w k) (hs : ∀ p, ¬ (294 ≤ p ∧ p < 544) → s1 p = s p) (hn : nn s1) (ht : Rtext w1 T s1) : RT w1 T s1 := by
  obtain ⟨h1, h2, h3, h4, h5, h6, h7, h8⟩ := h
  refine ⟨hn, ?_, ?_, ?_, ?_, ?_, ?_, ht⟩
  · unfold Rcnt
    rw [hs 0 (by omega), hs 1 (by omega), hs 2 (by omega), hs 3 (by omega), hs 4 (by omega), hs 5 (by omega), hs 6 (by omega), hw T (by omega), hw (T + 2) (by omega)]
    exact h2
  · exact Rwall_c h3 h2.1.2 (fun _ _ _ => hw _ (by omega)) (hs 0 (by omega)) (fun p _ _ => hs p (by omega))
  · exact Rword_c h4 h2.2.1.2 (fun _ _ _ => hw _ (by omega)) (hs 1 (by omega)) (fun p _ _ => hs p (by omega))
  · exact Rheap_c h5 (hw _ (by omega)) (fun p _ _ => hs p (by omega))
  · exact Rtape_c h6 h2.2.2.2.2.1.2 (hw _ (by omega)) (hs 4 (by omega)) (fun p _ _ => hs p (by omega))
  · exact Rwait_c h7 h2.2.2.2.2.2.1.2 (hw _ (by omega)) (hs 5 (by omega)) (fun p _ _ => hs p (by omega))
theorem textOf_k {u : Nat} (hu : u < 2) (w : zW) : f_X8_textOf (nI u) w = some (29 + 4 * u) := by
  have : u = 0 ∨ u = 1 := by omega
  rcases this with rfl | rfl <;> rfl
theorem textOk_0 {u c : Nat} (f g : Nat → Int32) (hc : c = 0) : textOk u c f g := by
  subst hc
  exact ⟨by omega, fun k hk => by omega, fun h => by omega⟩
theorem op_untell {w : zW} (hR : Rel w) (a : Int32) : OK2 (f_X11_untell a) (f_X12_untell a) w := by
  have h := hR.1
  by_cases ha : 0 ≤ a.toInt ∧ a.toInt ≤ 1
  · obtain ⟨u, hu, rfl, eu⟩ := of_toInt a ha.1
    have hu2 : u < 2 := by omega
    have q := (h.2.2.2.2.2.2.2 u hu2).1
    rw [show 1 + 28 + 4 * u = 29 + 4 * u by omega] at q
    obtain ⟨W, hW⟩ : ∃ W, W = zupd w (29 + 4 * u) 3 (nI 0) := ⟨_, rfl⟩
    have eW : ∀ k, k ≠ 29 + 4 * u → W k = w k := fun k hk => by rw [hW, zupd_ne _ _ _ hk]
    have hRR : Rel (zupd W 129 (294 + 125 * u) (nI 0)) := by
      refine Rel_now (s := upd (w 129) (294 + 125 * u) (nI 0)) hR (by rw [hW]; exact FX_upd (FX_refl w) _ _ (by omega)) ?_ (FM_upd (FM_refl _) _ _ (by omega)) (by rw [zupd_eq, eW 129 (by omega)])
      refine RT_texts h (fun k hk => eW k (by omega)) (fun p hp => upd_ne _ _ (by omega)) (nn_upd h.1 _ _ (Or.inr (Or.inr (by decide)))) (fun v hv => ?_)
      by_cases e : v = u
      · subst e
        unfold Rtex1
        rw [hW, show 1 + 28 + 4 * v = 29 + 4 * v by omega, zupd_eq, upd_eq, upd_eq]
        exact ⟨rfl, textOk_0 _ _ (by decide)⟩
      · have r := h.2.2.2.2.2.2.2 v hv
        unfold Rtex1 at r ⊢
        rw [eW _ (by omega), eW _ (by omega), upd_ne _ _ (by omega)]
        refine ⟨r.1, ?_⟩
        have c60 := r.2.1
        exact textOk_congr r.2 (fun k hk => upd_ne _ _ (by omega)) (fun _ _ => rfl)
    by_cases h0 : 0 < (w 129 (294 + 125 * u)).toInt
    · refine ⟨nI 1, W, zupd W 129 (294 + 125 * u) (nI 0), ?_, ?_, hRR⟩
      · rw [f_X11_untell]
        simp (disch := omega) only [zb_s, zb2_s, zlet_e, zg_t, bP_0, bP_t0, in_k, isLetter_spec, XisLetter_spec, lt_nI, nI_lt2, eq_nI, tnI, tsub_k, tadd_k, if_pos, if_neg, zld_k, zsto_k, ztld_k, clamp_nI, zin_nI, zb2_eta, ↓reduceIte, nI_add, pk_mul, pk_sub, textOf_k hu2, f_X6_isTold, q, j_X11_untell_36, ← hW]
      · rw [f_X12_untell]
        simp (disch := omega) only [zb_s, zb2_s, zlet_e, zg_t, bP_0, bP_t0, in_k, isLetter_spec, XisLetter_spec, lt_nI, nI_lt2, eq_nI, tnI, tsub_k, tadd_k, if_pos, if_neg, zld_k, zsto_k, ztld_k, clamp_nI, zin_nI, zb2_eta, ↓reduceIte, nI_add, pk_mul, pk_sub, f_X12_hasText, eW, j_X12_untell_28]
    · refine ⟨nI 0, W, zupd W 129 (294 + 125 * u) (nI 0), ?_, ?_, hRR⟩
      · rw [f_X11_untell]
        simp (disch := omega) only [zb_s, zb2_s, zlet_e, zg_t, bP_0, bP_t0, in_k, isLetter_spec, XisLetter_spec, lt_nI, nI_lt2, eq_nI, tnI, tsub_k, tadd_k, if_pos, if_neg, zld_k, zsto_k, ztld_k, clamp_nI, zin_nI, zb2_eta, ↓reduceIte, nI_add, pk_mul, pk_sub, textOf_k hu2, f_X6_isTold, q, j_X11_untell_36, ← hW]
      · rw [f_X12_untell]
        simp (disch := omega) only [zb_s, zb2_s, zlet_e, zg_t, bP_0, bP_t0, in_k, isLetter_spec, XisLetter_spec, lt_nI, nI_lt2, eq_nI, tnI, tsub_k, tadd_k, if_pos, if_neg, zld_k, zsto_k, ztld_k, clamp_nI, zin_nI, zb2_eta, ↓reduceIte, nI_add, pk_mul, pk_sub, f_X12_hasText, eW, j_X12_untell_28]
  · refine OK_err2 hR (k := 1) (by decide) (by decide) ?_ (fun w1 e => ?_)
    · rw [f_X11_untell]
      by_cases hn : a.toInt < 0
      · simp (disch := omega) only [zb_s, zb2_s, zlet_e, zg_t, bP_0, bP_t0, in_k, isLetter_spec, XisLetter_spec, lt_nI, nI_lt2, eq_nI, tnI, tsub_k, tadd_k, if_pos, if_neg, zld_k, zsto_k, ztld_k, clamp_nI, zin_nI, zb2_eta, ↓reduceIte, nI_add, pk_mul, pk_sub, j_X11_untell_9]
      · simp (disch := omega) only [zb_s, zb2_s, zlet_e, zg_t, bP_0, bP_t0, in_k, isLetter_spec, XisLetter_spec, lt_nI, nI_lt2, eq_nI, tnI, tsub_k, tadd_k, if_pos, if_neg, zld_k, zsto_k, ztld_k, clamp_nI, zin_nI, zb2_eta, ↓reduceIte, nI_add, pk_mul, pk_sub, j_X11_untell_9]
    · rw [f_X12_untell]
      simp (disch := omega) only [zb_s, zb2_s, zlet_e, zg_t, bP_0, bP_t0, in_k, isLetter_spec, XisLetter_spec, lt_nI, nI_lt2, eq_nI, tnI, tsub_k, tadd_k, if_pos, if_neg, zld_k, zsto_k, ztld_k, clamp_nI, zin_nI, zb2_eta, ↓reduceIte, nI_add, pk_mul, pk_sub]
theorem first_bad (P : Nat → Prop) : ∀ m : Nat, ∃ r, r ≤ m ∧ (∀ j, j < r → P j) ∧ (r = m ∨ (r < m ∧ ¬ P r)) := by
  intro m
  induction m with
  | zero => exact ⟨0, by omega, fun j hj => by omega, Or.inl rfl⟩
  | succ m ih =>
    obtain ⟨r, h1, h2, h3⟩ := ih
    rcases h3 with h3 | h3
    · subst h3
      by_cases hp : P r
      · exact ⟨r + 1, by omega, fun j hj => by
          by_cases e : j = r
          · subst e; exact hp
          · exact h2 j (by omega), Or.inl rfl⟩
      · exact ⟨r, by omega, h2, Or.inr ⟨by omega, hp⟩⟩
    · exact ⟨r, by omega, h2, Or.inr ⟨by omega, h3.2⟩⟩
/-- the row f with g's entries from lo (at b + lo) up to hi -/
def cpr (f g : Nat → Int32) (b lo hi : Nat) : Nat → Int32 := fun p => if b + lo ≤ p ∧ p < b + hi then g (p - b) else f p
theorem cpr_end (f g : Nat → Int32) (b : Nat) {lo hi : Nat} (h : hi ≤ lo) : cpr f g b lo hi = f := funext fun p => by
  unfold cpr
  rw [if_neg (by omega)]
theorem cpr_step (f g : Nat → Int32) {b lo hi p : Nat} (h : lo < hi) (hp : p = b + lo) : cpr (upd f p (g lo)) g b (lo + 1) hi = cpr f g b lo hi := funext fun q => by
  subst hp
  unfold cpr
  by_cases e : q = b + lo
  · subst e
    rw [if_neg (by omega), if_pos (by omega), upd_eq, Nat.add_sub_cancel_left]
  · by_cases e2 : b + lo ≤ q ∧ q < b + hi
    · rw [if_pos (by omega), if_pos e2]
    · rw [if_neg (by omega), if_neg e2, upd_ne _ _ e]
theorem cpr_last (f g : Nat → Int32) {b lo hi p : Nat} (h : lo ≤ hi) (hp : p = b + hi) : upd (cpr f g b lo hi) p (g hi) = cpr f g b lo (hi + 1) := funext fun q => by
  subst hp
  unfold cpr
  by_cases e : q = b + hi
  · subst e
    rw [upd_eq, if_pos (by omega), Nat.add_sub_cancel_left]
  · rw [upd_ne _ _ e]
    by_cases e2 : b + lo ≤ q ∧ q < b + hi
    · rw [if_pos e2, if_pos (by omega)]
    · rw [if_neg e2, if_neg (by omega)]
theorem zset_upd_cpr (w : zW) (c p : Nat) (g : Nat → Int32) {b lo hi : Nat} (h : lo < hi) (hp : p = b + lo) : zset (zupd w c p (g lo)) c (cpr (zupd w c p (g lo) c) g b (lo + 1) hi) = zset w c (cpr (w c) g b lo hi) := by
  rw [zset_zupd, zupd_eq, cpr_step _ _ h hp]
/-- bricks of one wall become others -/
theorem RT_cpr {w : zW} {s g : Nat → Int32} (h : RT w 1 s) {i r : Nat} (hi : (i : Int) < (s 0).toInt) (hr : (r : Int) ≤ (s (10 + 27 * i)).toInt) (hg : ∀ j, j < r → 0 ≤ (g j).toInt ∧ (g j).toInt ≤ 26) : RT (zset w (41 + 2 * i) (cpr (w (41 + 2 * i)) g 0 0 r)) 1 (cpr s g (11 + 27 * i) 0 r) := by
  induction r with
  | zero =>
    rw [cpr_end _ _ _ (Nat.le_refl _), cpr_end _ _ _ (Nat.le_refl _), zset_self]
    exact h
  | succ r ih =>
    have q := ih (by omega) (fun j hj => hg j (by omega))
    obtain ⟨v, hv, ev, tv⟩ := of_toInt (g r) (hg r (by omega)).1
    have i6 := h.2.1.1.2
    have l24 := (h.2.2.1 i hi).2.2.1.2
    have e0 : cpr s g (11 + 27 * i) 0 r 0 = s 0 := if_neg (by omega)
    have e10 : cpr s g (11 + 27 * i) 0 r (10 + 27 * i) = s (10 + 27 * i) := if_neg (by omega)
    have := RT_brick q (i := i) (j := r) (b := v) (by rw [e0]; exact hi) (by rw [e10]; omega) (by have := (hg r (by omega)).2; omega)
    rw [← ev, cpr_last _ _ (by omega) rfl, zupd, show 1 + 40 + 2 * i = 41 + 2 * i by omega, zset_eq, zset_zset, cpr_last _ _ (by omega) (by omega)] at this
    exact this
theorem Xbricks_loop (K1 K2 : Int32 → zW → Option (Int32 × zW)) {a b m r : Nat} (g : Nat → Int32) (hm : m ≤ 24) (hr : r ≤ m) (hab : a + 1 ≠ b + 1) (hg : ∀ j, j < r → 0 ≤ (g j).toInt ∧ (g j).toInt ≤ 26) (hb : r = m ∨ (r < m ∧ ¬ (0 ≤ (g r).toInt ∧ (g r).toInt ≤ 26))) : ∀ (n k : Nat) (w : zW), k ≤ r → (∀ j, j < m → w (a + 1) j = g j) → m - k < n → l_X11_bricks_72 K1 K2 n a b (nI m) (nI k) w = (if r = m then K2 (nI r) else K1 (nI r)) (zset w (b + 1) (cpr (w (b + 1)) g 0 k r)) := by
  intro n
  induction n with
  | zero => intro k w _ _ h; omega
  | succ n ih =>
    intro k w hk hw h
    rw [l_X11_bricks_72.eq_2]
    by_cases e : k < m
    · rw [if_pos (by rw [lt_nI _ (by omega), tnI (by omega)]; omega), zld_k _ _ _ _ _ (by omega) (by decide), hw k e]
      by_cases er : k < r
      · have st : j_X11_bricks_104 (l_X11_bricks_72 K1 K2 n) K1 K2 a b (nI m) (nI k) (g k) w = (if r = m then K2 (nI r) else K1 (nI r)) (zset w (b + 1) (cpr (w (b + 1)) g 0 k r)) := by
          rw [j_X11_bricks_104, zsto_k _ _ _ _ _ _ (by omega) (by decide), zlet_e, nI_add, ih (k + 1) _ (by omega) (fun j hj => by rw [zupd_ne _ _ _ hab]; exact hw j hj) (by omega), zset_upd_cpr _ _ _ _ er (by omega)]
        by_cases e0 : g k = nI 0
        · rw [if_pos e0]
          exact st
        · have := hg k er
          rw [if_neg e0, XisLetter_spec, zb_s, if_neg (by rw [bP_0]; rw [eq_nI _ (by decide)] at e0; omega)]
          exact st
      · have ekr : k = r := by omega
        subst ekr
        have hb' : ¬ (0 ≤ (g k).toInt ∧ (g k).toInt ≤ 26) := by omega
        rw [if_neg (by rw [eq_nI _ (by decide)]; omega), XisLetter_spec, zb_s, if_pos (by rw [bP_0]; omega), if_neg (by omega), cpr_end _ _ _ (Nat.le_refl _), zset_self]
    · have ekr : k = r := by omega
      have erm : r = m := by omega
      subst ekr
      subst erm
      rw [if_neg (by rw [lt_nI _ (by omega), tnI (by omega)]; omega), if_pos rfl, cpr_end _ _ _ (Nat.le_refl _), zset_self]
theorem Mbricks_loop (K : Int32 → zW → Option (Int32 × zW)) {i wi m r sz ln : Nat} (s g : Nat → Int32) (hi : i < 4) (hwi : wi < 6) (hs24 : sz ≤ 24) (hl24 : ln ≤ 24) (hm : m = min sz ln) (hr : r ≤ m) (hn : nn s) (hl : s (10 + 27 * wi) = nI ln) (hg : ∀ j, j < r → 0 ≤ (g j).toInt ∧ (g j).toInt ≤ 26) (hb : r = m ∨ (r < m ∧ ¬ (0 ≤ (g r).toInt ∧ (g r).toInt ≤ 26))) : ∀ (n k : Nat) (w : zW), k ≤ r → (∀ j, j < sz → w 142 (24 * i + j) = g j) → w 141 i = nI sz → nn (w 129) → w 129 (10 + 27 * wi) = nI ln → m - k < n → l_X12_bricks_38 K n (nI i) (nI wi) (nI k) w = K (nI r) (zset w 129 (cpr (w 129) g (11 + 27 * wi) k r)) := by
  intro n
  induction n with
  | zero => intro k w _ _ _ _ _ h; omega
  | succ n ih =>
    intro k w hk hw hsz hn9 hl9 h
    rw [l_X12_bricks_38.eq_2, zld_k _ _ _ _ _ (by omega) (by decide), hsz]
    have ip := isPlace_k (w := w) rfl hn9 hwi (by rw [hl9, tnI (by omega)]; omega) (nI k)
    rw [hl9, tnI (by omega), tnI (by omega)] at ip
    by_cases e1 : k < sz
    · rw [if_pos (by rw [lt_nI _ (by omega), tnI (by omega)]; omega), ip, zb_s]
      by_cases e2 : k < ln
      · rw [if_neg (by rw [bP_0]; omega), pk_mul, nI_add, zld_k _ _ _ _ _ (by omega) (by decide), hw k e1, in_k _ (by decide) (by decide), zb_s]
        by_cases er : k < r
        · have := hg k er
          rw [if_neg (by rw [bP_0]; omega), at_k, zb_s, zld_k _ _ _ _ _ (by omega) (by decide), hw k e1, zsto_k _ _ _ _ _ _ (by omega) (by decide), zlet_e, nI_add, ih (k + 1) _ (by omega) (fun j hj => by rw [zupd_ne _ _ _ (by decide)]; exact hw j hj) (by rw [zupd_ne _ _ _ (by decide)]; exact hsz) (by rw [zupd_eq]; exact nn_upd hn9 _ _ (by omega)) (by rw [zupd_eq, upd_ne _ _ (by omega)]; exact hl9) (by omega), zset_upd_cpr _ _ _ _ er (by omega)]
        · have ekr : k = r := by omega
          subst ekr
          rw [if_pos (by rw [bP_0]; omega), cpr_end _ _ _ (Nat.le_refl _), zset_self]
      · have ekr : k = r := by omega
        subst ekr
        rw [if_pos (by rw [bP_0]; omega), cpr_end _ _ _ (Nat.le_refl _), zset_self]
    · have ekr : k = r := by omega
      subst ekr
      rw [if_neg (by rw [lt_nI _ (by omega), tnI (by omega)]; omega), cpr_end _ _ _ (Nat.le_refl _), zset_self]
theorem op_bricks {w : zW} (hR : Rel w) (a b : Int32) : OK2 (f_X11_bricks a b) (f_X12_bricks a b) w := by
  have h := hR.1
  have h6 := h.2.1.1.2
  by_cases hx : (0 ≤ a.toInt ∧ a.toInt ≤ 3) ∧ (0 ≤ b.toInt ∧ b.toInt < (w 129 0).toInt)
  · obtain ⟨i, hi, rfl, ei⟩ := of_toInt a hx.1.1
    obtain ⟨wi, hwi, rfl, ewi⟩ := of_toInt b hx.2.1
    have i4 : i < 4 := by omega
    have wi6 : wi < 6 := by omega
    obtain ⟨q1, q2, q3, q4, q5, q6⟩ := hR.2.2.1 i i4
    have q := h.2.2.1 wi (by omega)
    by_cases h0 : (w 140 i).toInt = 0
    · refine OK_err2 hR (k := 2) (by decide) (by decide) ?_ (fun w1 e => ?_)
      · rw [f_X11_bricks]
        simp (disch := omega) only [zb_s, zb2_s, zlet_e, zg_t, bP_0, bP_t0, in_k, isLetter_spec, XisLetter_spec, lt_nI, nI_lt2, eq_nI, tnI, tsub_k, tadd_k, if_pos, if_neg, zld_k, zsto_k, ztld_k, clamp_nI, zin_nI, zb2_eta, ↓reduceIte, nI_add, pk_mul, pk_sub, XisSheet_spec, f_X4_isMissing, q1, hasWall_spec h]
      · rw [f_X12_bricks]
        simp (disch := omega) only [zb_s, zb2_s, zlet_e, zg_t, bP_0, bP_t0, in_k, isLetter_spec, XisLetter_spec, lt_nI, nI_lt2, eq_nI, tnI, tsub_k, tadd_k, if_pos, if_neg, zld_k, zsto_k, ztld_k, clamp_nI, zin_nI, zb2_eta, ↓reduceIte, nI_add, pk_mul, pk_sub, isSheet_spec, e 140 (by omega), isWall_spec (e 129 (by omega)) h.1 h6]
    · obtain ⟨sz, hsz, esz, tsz⟩ := of_toInt (w 141 i) q4
      obtain ⟨ln, hln, eln, tln⟩ := nn_nI h.1 (10 + 27 * wi) (by omega) (by omega)
      have l24 := q.2.2.1.2
      have el := q.2.2.1.1.trans eln
      rw [show 1 + 39 + 2 * wi = 40 + 2 * wi by omega] at el
      obtain ⟨m, hm⟩ : ∃ m, m = min sz ln := ⟨_, rfl⟩
      obtain ⟨g, hg⟩ : ∃ g : Nat → Int32, g = fun j => w 142 (24 * i + j) := ⟨_, rfl⟩
      obtain ⟨r, r1, r2, r3⟩ := first_bad (fun j => 0 ≤ (g j).toInt ∧ (g j).toInt ≤ 26) m
      obtain ⟨W, hW⟩ : ∃ W, W = zset w (41 + 2 * wi) (cpr (w (41 + 2 * wi)) g 0 0 r) := ⟨_, rfl⟩
      have eW : ∀ k, k ≠ 41 + 2 * wi → W k = w k := fun k hk => by rw [hW, zset_ne _ _ hk]
      obtain ⟨s1, hs1⟩ : ∃ s1, s1 = cpr (w 129) g (11 + 27 * wi) 0 r := ⟨_, rfl⟩
      refine ⟨nI r, W, zset W 129 s1, ?_, ?_, ?_⟩
      · rw [f_X11_bricks, XisSheet_spec, zb_s, if_neg (by rw [bP_0]; omega), hasWall_spec h, zb_s, if_neg (by rw [bP_0]; omega), zin_nI (by omega) (by decide), zg_t, f_X4_isMissing, clamp_nI (by omega), q1, if_neg (by rw [eq_nI _ (by decide)]; omega), zb_s, if_pos rfl, zin_nI (by omega) (by decide), zg_t, clamp_nI (by omega), el, q3, esz, zlet_e]
        have em : (if nI ln < nI sz then nI ln else nI sz) = nI m := by
          by_cases hls : ln < sz
          · rw [if_pos (by rw [lt_nI _ (by omega), tnI (by omega)]; omega), hm, Nat.min_def, if_neg (by omega)]
          · rw [if_neg (by rw [lt_nI _ (by omega), tnI (by omega)]; omega), hm, Nat.min_def, if_pos (by omega)]
        rw [em, Xbricks_loop _ _ g (m := m) (r := r) (by omega) r1 (by omega) r2 r3 zfuel 0 w (by omega) (fun j hj => by
          rw [hg, show 104 + 2 * i + 1 = 105 + 2 * i by omega]
          exact q6 j (by omega)) (by unfold zfuel; omega), show 40 + 2 * wi + 1 = 41 + 2 * wi by omega, ← hW]
        split <;> rfl
      · rw [f_X12_bricks, isSheet_spec, zb_s, if_neg (by rw [bP_0]; omega), isWall_spec (eW 129 (by omega)) h.1 h6, zb_s, if_neg (by rw [bP_0]; omega), zld_k _ _ _ _ _ (by omega) (by decide), eW 140 (by omega), if_neg (by rw [eq_nI _ (by decide)]; omega), Mbricks_loop _ (w 129) g i4 wi6 (by omega) (by omega) hm r1 h.1 eln r2 r3 zfuel 0 W (by omega) (fun j hj => by rw [eW 142 (by omega), hg]) (by rw [eW 141 (by omega)]; exact esz) (by rw [eW 129 (by omega)]; exact h.1) (by rw [eW 129 (by omega)]; exact eln) (by unfold zfuel; omega), eW 129 (by omega), ← hs1]
      · refine Rel_now (s := s1) hR (by rw [hW]; exact FX_set (FX_refl w) _ (by omega)) ?_ (FM_set (FM_refl _) _ (by omega)) (zset_eq _ _ _)
        rw [hW, hs1]
        exact RT_cpr h (by omega) (by omega) r2
  · refine OK_err2 hR (k := 1) (by decide) (by decide) ?_ (fun w1 e => ?_)
    · rw [f_X11_bricks, XisSheet_spec, zb_s]
      by_cases ha : 0 ≤ a.toInt ∧ a.toInt ≤ 3
      · rw [if_neg (by rw [bP_0]; omega), hasWall_spec h, zb_s, if_pos (by rw [bP_0]; omega), j_X11_bricks_18, zb2_eta]
      · rw [if_pos (by rw [bP_0]; omega), j_X11_bricks_18, zb2_eta]
    · rw [f_X12_bricks, isSheet_spec, zb_s]
      by_cases ha : 0 ≤ a.toInt ∧ a.toInt ≤ 3
      · rw [if_neg (by rw [bP_0]; omega), isWall_spec (e 129 (by omega)) h.1 h6, zb_s, if_pos (by rw [bP_0]; omega), j_X12_bricks_15, zb2_eta]
      · rw [if_pos (by rw [bP_0]; omega), j_X12_bricks_15, zb2_eta]
