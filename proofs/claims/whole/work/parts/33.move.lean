theorem holds_k {w : zW} {i : Nat} (h : Rshe1 w i) (a n : Int32) : f_X4_holds (104 + 2 * i) a n w = some (bP (0 ≤ n.toInt ∧ 0 ≤ a.toInt ∧ a.toInt + n.toInt ≤ (w 141 i).toInt)) := by
  obtain ⟨q1, q2, q3, q4, q5, q6⟩ := h
  rw [f_X4_holds, q3]
  by_cases h1 : n.toInt < 0
  · rw [if_pos (by rw [lt_nI _ (by decide)]; omega), bP_f (by omega)]
  · rw [if_neg (by rw [lt_nI _ (by decide)]; omega)]
    by_cases h2 : a.toInt < 0
    · rw [if_pos (by rw [lt_nI _ (by decide)]; omega), bP_f (by omega)]
    · rw [if_neg (by rw [lt_nI _ (by decide)]; omega)]
      by_cases h3 : (w 141 i).toInt < n.toInt
      · rw [if_pos (by rw [Int32.lt_iff_toInt_lt]; omega), bP_f (by omega)]
      · rw [if_neg (by rw [Int32.lt_iff_toInt_lt]; omega)]
        have e : (w 141 i - n).toInt = (w 141 i).toInt - n.toInt := tsub (by omega) (by omega)
        by_cases h4 : (w 141 i).toInt - n.toInt < a.toInt
        · rw [if_pos (by rw [Int32.lt_iff_toInt_lt, e]; omega), bP_f (by omega)]
        · rw [if_neg (by rw [Int32.lt_iff_toInt_lt, e]; omega), bP_t (by omega)]
theorem Mmove_take (K : Int32 → Int32 → Int32 → zW → Option (Int32 × zW)) {i a n : Nat} (x y : Int32) (g : Nat → Int32) (hi : i < 4) (ha : a + n ≤ 24) : ∀ (f k : Nat) (w : zW), k ≤ n → (∀ j, j < n → w 142 (24 * i + a + j) = g j) → n - k < f → l_X12_move_115 K f (nI i) (nI a) x y (nI n) (nI k) w = K x y (nI n) (zset w 143 (cpr (w 143) g 0 k n)) := by
  intro f
  induction f with
  | zero => intro k w _ _ h; omega
  | succ f ih =>
    intro k w hk hw h
    rw [l_X12_move_115.eq_2]
    by_cases e : k < n
    · rw [if_pos (by rw [lt_nI _ (by omega), tnI (by omega)]; omega), pk_mul, nI_add, nI_add, zld_k _ _ _ _ _ (by omega) (by decide), hw k e, zsto_k _ _ _ _ _ _ (by omega) (by decide), zlet_e, nI_add, ih (k + 1) _ (by omega) (fun j hj => by rw [zupd_ne _ _ _ (by decide)]; exact hw j hj) (by omega), zset_upd_cpr _ _ _ _ e (by omega)]
    · have : k = n := by omega
      subst this
      rw [if_neg (by rw [lt_nI _ (by omega), tnI (by omega)]; omega), cpr_end _ _ _ (Nat.le_refl _), zset_self]
theorem Mmove_give (K : Int32 → zW → Option (Int32 × zW)) {i a n : Nat} (g : Nat → Int32) (hi : i < 4) (ha : a + n ≤ 24) : ∀ (f k : Nat) (w : zW), k ≤ n → (∀ j, j < n → w 143 j = g j) → n - k < f → l_X12_move_152 K f (nI i) (nI a) (nI n) (nI k) w = K (nI n) (zset w 142 (cpr (w 142) g (24 * i + a) k n)) := by
  intro f
  induction f with
  | zero => intro k w _ _ h; omega
  | succ f ih =>
    intro k w hk hw h
    rw [l_X12_move_152.eq_2]
    by_cases e : k < n
    · rw [if_pos (by rw [lt_nI _ (by omega), tnI (by omega)]; omega), zld_k _ _ _ _ _ (by omega) (by decide), hw k e, pk_mul, nI_add, nI_add, zsto_k _ _ _ _ _ _ (by omega) (by decide), zlet_e, nI_add, ih (k + 1) _ (by omega) (fun j hj => by rw [zupd_ne _ _ _ (by decide)]; exact hw j hj) (by omega), zset_upd_cpr _ _ _ _ e (by omega)]
    · have : k = n := by omega
      subst this
      rw [if_neg (by rw [lt_nI _ (by omega), tnI (by omega)]; omega), cpr_end _ _ _ (Nat.le_refl _), zset_self]
theorem op_move {w : zW} (hR : Rel w) (a b c d n : Int32) : OK2 (f_X11_move a b c d n) (f_X12_move a b c d n) w := by
  by_cases hx : (0 ≤ a.toInt ∧ a.toInt ≤ 3) ∧ (0 ≤ c.toInt ∧ c.toInt ≤ 3)
  · obtain ⟨i, hi, rfl, ei⟩ := of_toInt a hx.1.1
    obtain ⟨k, hk, rfl, ek⟩ := of_toInt c hx.2.1
    have i4 : i < 4 := by omega
    have k4 : k < 4 := by omega
    have s1 := hR.2.2.1 i i4
    have s2 := hR.2.2.1 k k4
    obtain ⟨p1, p2, p3, p4, p5, p6⟩ := id s1
    obtain ⟨q1, q2, q3, q4, q5, q6⟩ := id s2
    have x0 : ∀ w1 : zW, (∀ j, j ≠ 127 → w1 j = w j) → f_X12_move (nI i) b (nI k) d n w1 = (if w 140 i = nI 0 then j_X12_move_38 w1 else if w 140 k = nI 0 then j_X12_move_38 w1 else if w 140 i = w 140 k then (if n < nI 0 then j_X12_move_106 w1 else if b < nI 0 then j_X12_move_106 w1 else if d < nI 0 then j_X12_move_106 w1 else if (w 141 i - n) < b then j_X12_move_106 w1 else if (w 141 k - n) < d then j_X12_move_106 w1 else l_X12_move_115 (fun k149_a3 k149_a4 k149_a5 w11 => l_X12_move_152 (fun k187_a5 w22 => some (k187_a5, w22)) zfuel k149_a3 k149_a4 k149_a5 (nI 0) w11) zfuel (nI i) b (nI k) d n (nI 0) w1) else zb2 (f_X12_error (nI 5) w1) fun x22 w1 => some (x22, w1)) := fun w1 e => by
      rw [f_X12_move, isSheet_spec, zb_s, if_neg (by rw [bP_0]; omega), isSheet_spec, zb_s, if_neg (by rw [bP_0]; omega)]
      simp only [zld_k _ _ _ _ _ i4 (by decide), zld_k _ _ _ _ _ k4 (by decide), e 140 (by decide), e 141 (by decide)]
    have y0 : f_X11_move (nI i) b (nI k) d n w = (if w 140 i = nI 0 then j_X11_move_52 w else if w 140 k = nI 0 then j_X11_move_52 w else if w 140 i = w 140 k then (if 0 ≤ n.toInt ∧ 0 ≤ b.toInt ∧ b.toInt + n.toInt ≤ (w 141 i).toInt then (if 0 ≤ n.toInt ∧ 0 ≤ d.toInt ∧ d.toInt + n.toInt ≤ (w 141 k).toInt then zguard (zcpyok b d n 24 24) (some (n, zcopy w (105 + 2 * i) (105 + 2 * k) b d n)) else j_X11_move_100 w) else j_X11_move_100 w) else f_X11_error (nI 5) w) := by
      rw [f_X11_move, XisSheet_spec, zb_s, if_neg (by rw [bP_0]; omega), XisSheet_spec, zb_s, if_neg (by rw [bP_0]; omega), zin_nI i4 (by decide), zg_t, zin_nI k4 (by decide), zg_t, clamp_nI (by omega), clamp_nI (by omega), f_X4_isMissing, f_X4_isMissing, p1, q1, holds_k s1, holds_k s2, zb2_eta, show 104 + 2 * i + 1 = 105 + 2 * i by omega, show 104 + 2 * k + 1 = 105 + 2 * k by omega]
      by_cases h1 : w 140 i = nI 0
      · rw [if_pos h1, if_pos h1]; rfl
      · rw [if_neg h1, if_neg h1, zb_s, if_pos rfl]
        by_cases h2 : w 140 k = nI 0
        · rw [if_pos h2, if_pos h2]; rfl
        · rw [if_neg h2, if_neg h2, zb_s, if_pos rfl]
          by_cases h3 : w 140 i = w 140 k
          · rw [if_pos h3, if_pos h3, zb_s]
            by_cases h4 : 0 ≤ n.toInt ∧ 0 ≤ b.toInt ∧ b.toInt + n.toInt ≤ (w 141 i).toInt
            · rw [if_neg (by rw [bP_0]; omega), if_pos h4, zb_s]
              by_cases h5 : 0 ≤ n.toInt ∧ 0 ≤ d.toInt ∧ d.toInt + n.toInt ≤ (w 141 k).toInt
              · rw [if_neg (by rw [bP_0]; omega), if_pos h5, zlet_e]
              · rw [if_pos (by rw [bP_0]; omega), if_neg h5]
            · rw [if_pos (by rw [bP_0]; omega), if_neg h4]
          · rw [if_neg h3, if_neg h3]
    by_cases h1 : w 140 i = nI 0
    · refine OK_err2 hR (k := 2) (by decide) (by decide) ?_ (fun w1 e => ?_)
      · rw [y0, if_pos h1, j_X11_move_52, zb2_eta]
      · rw [x0 w1 e, if_pos h1, j_X12_move_38, zb2_eta]
    by_cases h2 : w 140 k = nI 0
    · refine OK_err2 hR (k := 2) (by decide) (by decide) ?_ (fun w1 e => ?_)
      · rw [y0, if_neg h1, if_pos h2, j_X11_move_52, zb2_eta]
      · rw [x0 w1 e, if_neg h1, if_pos h2, j_X12_move_38, zb2_eta]
    by_cases h3 : w 140 i = w 140 k
    · by_cases h4 : 0 ≤ n.toInt ∧ 0 ≤ b.toInt ∧ b.toInt + n.toInt ≤ (w 141 i).toInt
      · have t1 : (w 141 i - n).toInt = (w 141 i).toInt - n.toInt := tsub (by omega) (by omega)
        have t2 : (w 141 k - n).toInt = (w 141 k).toInt - n.toInt := tsub (by omega) (by omega)
        by_cases h5 : 0 ≤ n.toInt ∧ 0 ≤ d.toInt ∧ d.toInt + n.toInt ≤ (w 141 k).toInt
        · obtain ⟨nn', hn', rfl, en⟩ := of_toInt n h4.1
          obtain ⟨b', hb', rfl, eb⟩ := of_toInt b h4.2.1
          obtain ⟨d', hd', rfl, ed⟩ := of_toInt d h5.2.1
          obtain ⟨g, hg⟩ : ∃ g : Nat → Int32, g = fun j => w 142 (24 * i + b' + j) := ⟨_, rfl⟩
          obtain ⟨W, hW⟩ : ∃ W, W = zcopy w (105 + 2 * i) (105 + 2 * k) (nI b') (nI d') (nI nn') := ⟨_, rfl⟩
          have eW : ∀ j, j ≠ 105 + 2 * k → W j = w j := fun j hj => by rw [hW, zcopy, zset_ne _ _ hj]
          have eK : ∀ p, W (105 + 2 * k) p = if d' ≤ p ∧ p < d' + nn' then w (105 + 2 * i) (b' + (p - d')) else w (105 + 2 * k) p := fun p => by
            rw [hW, zcopy, zset_eq, clamp_nI hn', clamp_nI hb', clamp_nI hd']
            rfl
          refine ⟨nI nn', W, zset (zset W 143 (cpr (w 143) g 0 0 nn')) 142 (cpr (w 142) g (24 * k + d') 0 nn'), ?_, ?_, ?_⟩
          · have ok : zcpyok (nI b') (nI d') (nI nn') 24 24 = true := by
              unfold zcpyok
              rw [clamp_nI hn', clamp_nI hb', clamp_nI hd']
              exact decide_eq_true ⟨nI_pos hb', nI_pos hd', nI_pos hn', by omega, by omega⟩
            rw [y0, if_neg h1, if_neg h2, if_pos h3, if_pos h4, if_pos h5, ok, zg_t, ← hW]
          · have x1 : f_X12_move (nI i) (nI b') (nI k) (nI d') (nI nn') W = l_X12_move_115 (fun k149_a3 k149_a4 k149_a5 w11 => l_X12_move_152 (fun k187_a5 w22 => some (k187_a5, w22)) zfuel k149_a3 k149_a4 k149_a5 (nI 0) w11) zfuel (nI i) (nI b') (nI k) (nI d') (nI nn') (nI 0) W := by
              rw [f_X12_move, isSheet_spec, zb_s, if_neg (by rw [bP_0]; omega), isSheet_spec, zb_s, if_neg (by rw [bP_0]; omega)]
              simp only [zld_k _ _ _ _ _ i4 (by decide), zld_k _ _ _ _ _ k4 (by decide), eW 140 (by omega), eW 141 (by omega)]
              rw [if_neg h1, if_neg h2, if_pos h3, if_neg (by rw [lt_nI _ (by decide)]; omega), if_neg (by rw [lt_nI _ (by decide)]; omega), if_neg (by rw [lt_nI _ (by decide)]; omega), if_neg (by rw [Int32.lt_iff_toInt_lt]; omega), if_neg (by rw [Int32.lt_iff_toInt_lt]; omega)]
            rw [x1, Mmove_take _ _ _ g i4 (by omega) zfuel 0 W (by omega) (fun j _ => by rw [eW 142 (by omega), hg]) (by unfold zfuel; omega), Mmove_give _ g k4 (by omega) zfuel 0 _ (by omega) (fun j hj => by
              rw [zset_eq]
              unfold cpr
              rw [if_pos (by omega), Nat.sub_zero]) (by unfold zfuel; omega), zset_ne _ _ (show 142 ≠ 143 by decide), eW 142 (by omega), eW 143 (by omega)]
          · refine Rel_she hR (fun j j1 j2 => by rw [zset_ne _ _ (by omega), zset_ne _ _ (by omega), eW j (by omega)]) (fun j hj => ?_)
            obtain ⟨r1, r2, r3, r4, r5, r6⟩ := hR.2.2.1 j hj
            unfold Rshe1
            rw [zset_eq, zset_ne _ _ (show 104 + 2 * j ≠ 142 by omega), zset_ne _ _ (show 105 + 2 * j ≠ 142 by omega), zset_ne _ _ (show 140 ≠ 142 by omega), zset_ne _ _ (show 141 ≠ 142 by omega), zset_ne _ _ (show 104 + 2 * j ≠ 143 by omega), zset_ne _ _ (show 105 + 2 * j ≠ 143 by omega), zset_ne _ _ (show 140 ≠ 143 by omega), zset_ne _ _ (show 141 ≠ 143 by omega), eW 140 (by omega), eW 141 (by omega), eW (104 + 2 * j) (by omega)]
            refine ⟨r1, r2, r3, r4, r5, fun p hp => ?_⟩
            unfold cpr
            by_cases e : j = k
            · subst e
              rw [eK p]
              by_cases ep : d' ≤ p ∧ p < d' + nn'
              · rw [if_pos ep, if_pos (by omega), hg, p6 (b' + (p - d')) (by omega)]
                exact congrArg _ (by omega)
              · rw [if_neg ep, if_neg (by omega)]
                exact r6 p hp
            · rw [eW _ (by omega), if_neg (by omega)]
              exact r6 p hp
        · refine OK_err2 hR (k := 1) (by decide) (by decide) ?_ (fun w1 e => ?_)
          · rw [y0, if_neg h1, if_neg h2, if_pos h3, if_pos h4, if_neg h5, j_X11_move_100, zb2_eta]
          · rw [x0 w1 e, if_neg h1, if_neg h2, if_pos h3, if_neg (by rw [lt_nI _ (by decide)]; omega), if_neg (by rw [lt_nI _ (by decide)]; omega)]
            by_cases h6 : d.toInt < 0
            · rw [if_pos (by rw [lt_nI _ (by decide)]; omega), j_X12_move_106, zb2_eta]
            · rw [if_neg (by rw [lt_nI _ (by decide)]; omega), if_neg (by rw [Int32.lt_iff_toInt_lt]; omega), if_pos (by rw [Int32.lt_iff_toInt_lt]; omega), j_X12_move_106, zb2_eta]
      · refine OK_err2 hR (k := 1) (by decide) (by decide) ?_ (fun w1 e => ?_)
        · rw [y0, if_neg h1, if_neg h2, if_pos h3, if_neg h4, j_X11_move_100, zb2_eta]
        · rw [x0 w1 e, if_neg h1, if_neg h2, if_pos h3]
          by_cases h5 : n.toInt < 0
          · rw [if_pos (by rw [lt_nI _ (by decide)]; omega), j_X12_move_106, zb2_eta]
          · rw [if_neg (by rw [lt_nI _ (by decide)]; omega)]
            by_cases h6 : b.toInt < 0
            · rw [if_pos (by rw [lt_nI _ (by decide)]; omega), j_X12_move_106, zb2_eta]
            · rw [if_neg (by rw [lt_nI _ (by decide)]; omega)]
              by_cases h7 : d.toInt < 0
              · rw [if_pos (by rw [lt_nI _ (by decide)]; omega), j_X12_move_106, zb2_eta]
              · have t1 : (w 141 i - n).toInt = (w 141 i).toInt - n.toInt := tsub (by have := toInt_rng n; omega) (by omega)
                rw [if_neg (by rw [lt_nI _ (by decide)]; omega), if_pos (by rw [Int32.lt_iff_toInt_lt]; omega), j_X12_move_106, zb2_eta]
    · refine OK_err2 hR (k := 5) (by decide) (by decide) ?_ (fun w1 e => ?_)
      · rw [y0, if_neg h1, if_neg h2, if_neg h3]
      · rw [x0 w1 e, if_neg h1, if_neg h2, if_neg h3, zb2_eta]
  · refine OK_err2 hR (k := 1) (by decide) (by decide) ?_ (fun w1 e => ?_)
    · rw [f_X11_move, XisSheet_spec, zb_s]
      by_cases ha : 0 ≤ a.toInt ∧ a.toInt ≤ 3
      · rw [if_neg (by rw [bP_0]; omega), XisSheet_spec, zb_s, if_pos (by rw [bP_0]; omega), j_X11_move_14, zb2_eta]
      · rw [if_pos (by rw [bP_0]; omega), j_X11_move_14, zb2_eta]
    · rw [f_X12_move, isSheet_spec, zb_s]
      by_cases ha : 0 ≤ a.toInt ∧ a.toInt ≤ 3
      · rw [if_neg (by rw [bP_0]; omega), isSheet_spec, zb_s, if_pos (by rw [bP_0]; omega), j_X12_move_14, zb2_eta]
      · rw [if_pos (by rw [bP_0]; omega), j_X12_move_14, zb2_eta]
