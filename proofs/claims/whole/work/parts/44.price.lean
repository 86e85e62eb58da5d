theorem jb (a : Int32) : a = nI 0 ∨ ¬ a = nI 0 := by
  by_cases h : a = nI 0
  · exact Or.inl h
  · exact Or.inr h
def penv (a b c : Int32) : Nat → Int32 := fun p => if p = 108 then a else if p = 115 then b else c
/-- what a letter costs -/
def pv (s : Nat → Int32) (l : Nat) : Int32 := if 0 < (s 419).toInt then (if (tval s 1 (penv (nI l) (s 2) (s (266 + l)))).toInt < 0 then nI 0 else if 999 < (tval s 1 (penv (nI l) (s 2) (s (266 + l)))).toInt then nI 999 else tval s 1 (penv (nI l) (s 2) (s (266 + l)))) else if l = 5 then nI 1 + s 2 else nI 1
theorem clampX (x : Int32) : (if nI 0 < (if x < nI 999 then x else nI 999) then (if x < nI 999 then x else nI 999) else nI 0) = (if x.toInt < 0 then nI 0 else if 999 < x.toInt then nI 999 else x) := by
  by_cases a : x.toInt < 999
  · have e : (if x < nI 999 then x else nI 999) = x := if_pos (by rw [lt_nI _ (by decide)]; omega)
    rw [e]
    by_cases b : 0 < x.toInt
    · rw [if_pos (by rw [nI_lt2 _ (by decide)]; omega), if_neg (by omega), if_neg (by omega)]
    · rw [if_neg (by rw [nI_lt2 _ (by decide)]; omega)]
      by_cases c : x.toInt < 0
      · rw [if_pos c]
      · rw [if_neg c, if_neg (by omega)]
        exact ((eq_nI _ (by decide)).mpr (by omega)).symm
  · have e : (if x < nI 999 then x else nI 999) = nI 999 := if_neg (by rw [lt_nI _ (by decide)]; omega)
    rw [e, if_pos (by decide), if_neg (by omega)]
    by_cases c : 999 < x.toInt
    · rw [if_pos c]
    · rw [if_neg c]
      exact ((eq_nI _ (by decide)).mpr (by omega)).symm
theorem Xprice {w : zW} {s : Nat → Int32} (h : RT w 1 s) {l : Nat} (h1 : 1 ≤ l) (h26 : l ≤ 26) : ∃ w1, f_X8_priceOf (nI l) w = some (pv s l, w1) ∧ SX w w1 ∧ ∀ k, k ≠ 35 → k ≠ 36 → w1 k = w k := by
  have t3 := (h.2.2.2.2.2.2.2 1 (by decide)).1
  have c2 := h.2.1.2.2.1.1
  rw [f_X8_priceOf, f_X6_isTold, show w 33 3 = s 419 from t3]
  by_cases ht : 0 < (s 419).toInt
  · obtain ⟨w1, x1, x2⟩ := Xworth_ok (e := penv (nI l) (s 2) (s (266 + l))) h (show 1 < 2 by decide) ht (nI l) (s 2) (s (266 + l)) (nI 0) rfl rfl rfl (fun a => by omega)
    refine ⟨w1, ?_, fun k hk => x2 k (by omega) (by omega), fun k a b => x2 k (by omega) (by omega)⟩
    rw [if_pos (by rw [nI_lt2 _ (by decide)]; omega), zb_s, if_neg (by decide), zld_k _ _ _ _ _ (by omega) (by decide), c2, show w 38 l = s (266 + l) from (h.2.2.2.2.1 l h1 h26).1, show (33 : Nat) = 29 + 4 * 1 from rfl, x1, zb2_s]
    unfold pv
    rw [if_pos ht]
    rw [clampX]
  · refine ⟨w, ?_, SX.refl w, fun _ _ _ => rfl⟩
    rw [if_neg (by rw [nI_lt2 _ (by decide)]; omega), zb_s, if_pos rfl, c2]
    unfold pv
    rw [if_neg ht]
    by_cases l5 : l = 5
    · rw [if_pos (by rw [l5]), if_pos l5]
    · rw [if_neg (by rw [eq_nI _ (by decide), tnI (by omega)]; omega), if_neg l5]
theorem Mprice {w wx : zW} {s : Nat → Int32} (h : RT wx 1 s) (hw : w 129 = s) {l : Nat} (h1 : 1 ≤ l) (h26 : l ≤ 26) : ∃ w1, f_X12_priceOf (nI l) w = some (pv s l, w1) ∧ SN w w1 := by
  rw [f_X12_priceOf, f_X12_hasText, pk_mul, nI_add, zld_k _ _ _ _ _ (by decide) (by decide), hw, show s (294 + 125 * 1) = s 419 from rfl]
  by_cases ht : 0 < (s 419).toInt
  · obtain ⟨W, hW⟩ : ∃ W, W = zupd (zupd (zupd w 133 108 (nI l)) 133 115 (s 2)) 133 104 (s (266 + l)) := ⟨_, rfl⟩
    have sW : SN w W := by
      rw [hW]
      exact SN.upd (SN.upd (SN.upd (SN.refl w) _ _ (by omega)) _ _ (by omega)) _ _ (by omega)
    have eW : ∀ j, j ≠ 133 → W j = w j := fun j hj => by rw [hW, zupd_ne _ _ _ hj, zupd_ne _ _ _ hj, zupd_ne _ _ _ hj]
    obtain ⟨wa, x1, x2⟩ := Mworth_ok (e := penv (nI l) (s 2) (s (266 + l))) (w := W) h (by rw [eW 129 (by decide)]; exact hw) (show 1 < 2 by decide) ht (fun i hi => by
      have : i = 0 ∨ i = 1 ∨ i = 2 := by simp only [tnames] at hi; omega
      rw [hW, zupd_eq, zupd_eq, zupd_eq]
      rcases this with rfl | rfl | rfl
      · rw [tname, upd_ne _ _ (by decide), upd_ne _ _ (by decide), upd_eq]; rfl
      · rw [tname, upd_ne _ _ (by decide), upd_eq]; rfl
      · rw [tname, upd_eq]; rfl)
    have sa : SN w wa := SN.trans sW ⟨fun j hj => x2 j (by omega), fun j _ => by rw [x2 128 (by decide)]⟩
    refine ⟨wa, ?_, sa⟩
    rw [if_pos (by rw [nI_lt2 _ (by decide)]; omega), zb_s, if_neg (by decide), zlet_e, zupd_ne _ _ _ (show 129 ≠ 133 by decide), hw, zlet_e, nI_add, zld_k _ _ _ _ _ (by omega) (by decide), zupd_ne _ _ _ (show 129 ≠ 133 by decide), zupd_ne _ _ _ (show 129 ≠ 133 by decide), hw, zlet_e, ← hW, x1, zb2_s]
    unfold f_X12_held pv
    rw [if_pos ht]
    simp only [lt_nI _ (show 0 < 2 ^ 31 by decide), nI_lt2 _ (show 999 < 2 ^ 31 by decide)]
    by_cases a : (tval s 1 (penv (nI l) (s 2) (s (266 + l)))).toInt < 0
    · rw [if_pos (by omega), if_pos a]
      rfl
    · rw [if_neg (by omega), if_neg a]
      by_cases b : 999 < (tval s 1 (penv (nI l) (s 2) (s (266 + l)))).toInt
      · rw [if_pos (by omega), if_pos b]
        rfl
      · rw [if_neg (by omega), if_neg b]
        rfl
  · refine ⟨w, ?_, SN.refl w⟩
    rw [if_neg (by rw [nI_lt2 _ (by decide)]; omega), zb_s, if_pos rfl]
    unfold pv
    rw [if_neg ht]
    by_cases l5 : l = 5
    · rw [if_pos (by rw [l5]), if_pos l5]
    · rw [if_neg (by rw [eq_nI _ (by decide), tnI (by omega)]; omega), if_neg l5]
theorem op_price {w : zW} (hR : Rel w) (a : Int32) : OK2 (f_X11_price a) (f_X12_price a) w := by
  have h := hR.1
  by_cases ha : 1 ≤ a.toInt ∧ a.toInt ≤ 26
  · obtain ⟨l, hl, rfl, el⟩ := of_toInt a (by omega)
    obtain ⟨w1, x1, x2, x3⟩ := Xprice h (show 1 ≤ l by omega) (by omega)
    obtain ⟨w2, y1, y2⟩ := Mprice (w := w1) h (x3 129 (by decide) (by decide)) (show 1 ≤ l by omega) (by omega)
    refine OK_ask hR (r := pv (w 129) l) (wa := w1) (w2 := w2) ?_ x2 ?_ (SN.SM y2)
    · rw [f_X11_price, XisLetter_spec, zb_s, if_neg (by rw [bP_0]; omega), x1, zb2_s]
    · rw [f_X12_price, isLetter_spec, zb_s, if_neg (by rw [bP_0]; omega), y1, zb2_s]
  · refine OK_err hR (k := 1) (by decide) (by decide) ?_ (fun w1 e => ?_)
    · rw [f_X11_price, XisLetter_spec, zb_s, if_pos (by rw [bP_0]; exact ha), zb2_eta]
    · rw [f_X12_price, isLetter_spec, zb_s, if_pos (by rw [bP_0]; exact ha), zb2_eta]
/-- what the first k bricks cost -/
def cv (s g : Nat → Int32) : Nat → Int32
  | 0 => nI 0
  | k + 1 => cv s g k + if g k = nI 0 then nI 0 else pv s (g k).toInt.toNat
theorem Xcost_loop {s : Nat → Int32} {A ln : Nat} {g : Nat → Int32} (hA : A + 1 < 112 ∧ 37 ≤ A ∨ 125 ≤ A ∨ A = 118) (hl : ln ≤ 24) (hg : ∀ j, j < ln → 0 ≤ (g j).toInt ∧ (g j).toInt ≤ 26) : ∀ (m k : Nat) (w : zW), RT w 1 s → w A 3 = nI ln → (∀ j, j < ln → w (A + 1) j = g j) → k ≤ ln → ln - k < m → ∃ w1, l_X8_costOf_4 (fun k44_a2 w11 => some (k44_a2, w11)) m A (cv s g k) (nI k) w = some (cv s g ln, w1) ∧ ∀ j, j ≠ 35 → j ≠ 36 → w1 j = w j := by
  intro m
  induction m with
  | zero => intro k w _ _ _ _ h; omega
  | succ m ih =>
    intro k w h hw hb hk hm
    rw [l_X8_costOf_4.eq_2, hw]
    by_cases e : k < ln
    · rw [if_pos (by rw [lt_nI _ (by omega), tnI (by omega)]; omega), zld_k _ _ _ _ _ (by omega) (by decide), hb k e]
      by_cases e0 : g k = nI 0
      · obtain ⟨w1, x1, x2⟩ := ih (k + 1) w h hw hb (by omega) (by omega)
        refine ⟨w1, ?_, x2⟩
        rw [cv, if_pos e0] at x1
        rw [if_pos e0, j_X8_costOf_36, zlet_e, nI_add, zlet_e]
        exact x1
      · obtain ⟨l, hl', el, tl⟩ := of_toInt (g k) (hg k e).1
        have l26 := (hg k e).2
        have l0 : l ≠ 0 := fun a => e0 (by rw [el, a])
        obtain ⟨wa, p1, p2, p3⟩ := Xprice h (show 1 ≤ l by omega) (by omega)
        obtain ⟨w1, x1, x2⟩ := ih (k + 1) wa (RT_SX h p2) (by rw [p3 A (by omega) (by omega)]; exact hw) (fun j hj => by rw [p3 (A + 1) (by omega) (by omega)]; exact hb j hj) (by omega) (by omega)
        refine ⟨w1, ?_, fun j a b => (x2 j a b).trans (p3 j a b)⟩
        rw [cv, if_neg e0, tl, Int.toNat_natCast] at x1
        rw [if_neg e0, zld_k _ _ _ _ _ (by omega) (by decide), hb k e, el, p1, zb2_s, j_X8_costOf_36, zlet_e, nI_add, zlet_e]
        exact x1
    · have : k = ln := by omega
      subst this
      rw [if_neg (by rw [lt_nI _ (by omega), tnI (by omega)]; omega)]
      exact ⟨w, rfl, fun _ _ _ => rfl⟩
theorem Mcost_loop {wx : zW} {s : Nat → Int32} {i ln : Nat} (h : RT wx 1 s) (hi : i < 6) (hl : ln ≤ 24) (hs : s (10 + 27 * i) = nI ln) (hg : ∀ j, j < ln → 0 ≤ (wbk s i j).toInt ∧ (wbk s i j).toInt ≤ 26) : ∀ (m k : Nat) (w : zW), w 129 = s → k ≤ ln → ln - k < m → ∃ w1, l_X12_costOf_4 (fun k56_a2 w11 => some (k56_a2, w11)) m (nI i) (cv s (wbk s i) k) (nI k) w = some (cv s (wbk s i) ln, w1) ∧ SN w w1 := by
  intro m
  induction m with
  | zero => intro k w _ _ h; omega
  | succ m ih =>
    intro k w hw hk hm
    rw [l_X12_costOf_4.eq_2, its_k hw hi (by decide), show 8 + 27 * i + 2 = 10 + 27 * i by omega, hs, zb_s]
    by_cases e : k < ln
    · have hgk : s (11 + 27 * i + k) = wbk s i k := rfl
      rw [if_pos (by rw [lt_nI _ (by omega), tnI (by omega)]; omega), at_k, zb_s, zld_k _ _ _ _ _ (by omega) (by decide), hw, hgk]
      by_cases e0 : wbk s i k = nI 0
      · obtain ⟨w1, x1, x2⟩ := ih (k + 1) w hw (by omega) (by omega)
        refine ⟨w1, ?_, x2⟩
        rw [cv, if_pos e0] at x1
        rw [if_neg (by rw [e0]; decide), j_X12_costOf_48, zlet_e, nI_add, zlet_e]
        exact x1
      · obtain ⟨l, hl', el, tl⟩ := of_toInt (wbk s i k) (hg k e).1
        have l26 := (hg k e).2
        have l0 : l ≠ 0 := fun a => e0 (by rw [el, a])
        obtain ⟨wa, p1, p2⟩ := Mprice (w := w) h hw (show 1 ≤ l by omega) (by omega)
        obtain ⟨w1, x1, x2⟩ := ih (k + 1) wa (by rw [p2.1 129 (by omega)]; exact hw) (by omega) (by omega)
        refine ⟨w1, ?_, p2.trans x2⟩
        rw [cv, if_neg e0, tl, Int.toNat_natCast] at x1
        rw [if_pos (by rw [nI_lt2 _ (by decide)]; omega), zb_s, zld_k _ _ _ _ _ (by omega) (by decide), hw, hgk, el, p1, zb2_s, j_X12_costOf_48, zlet_e, nI_add, zlet_e]
        exact x1
    · have : k = ln := by omega
      subst this
      rw [if_neg (by rw [lt_nI _ (by omega), tnI (by omega)]; omega)]
      exact ⟨w, rfl, SN.refl w⟩
theorem wbk_rng {w : zW} {T : Nat} {s : Nat → Int32} (h : RT w T s) {i : Nat} (hi : (i : Int) < (s 0).toInt) : ∀ j, j < wln s i → 0 ≤ (wbk s i j).toInt ∧ (wbk s i j).toInt ≤ 26 := fun j hj => by
  have l := wln_le h hi
  have h6 := h.2.1.1.2
  refine ⟨h.1 _ (by omega) (by omega), ((h.2.2.1 i hi).2.2.2 j (by rw [l.2, tnI (by omega)]; omega)).2⟩
theorem RX.aside {w w1 : zW} {n : Nat} {f : Nat → Int32} (h : RX w n f) (h1 : w1 116 = w 116) (h2 : w1 117 = w 117) : RX w1 n f := by
  unfold RX
  rw [h1, h2]
  exact h
theorem Mdoes_ok {wx w : zW} {s : Nat → Int32} {i : Nat} (h : RT wx 1 s) (hw : w 129 = s) (hi : (i : Int) < (s 0).toInt) : ∃ w1, f_X12_doesRead (nI i) w = some (bP (0 < Bw s (rowF s i) (rowN s i) 0 0), w1) ∧ SM w w1 ∧ RM w1 (rowN s i) (rowF s i) ∧ (1 ≤ rowN s i → WM s (rowF s i) (rowN s i) 0 w1) ∧ w1 138 = w 138 := by
  obtain ⟨wa, x1, x2, x3⟩ := Mreads_ok h hw hi
  have n48 := rowN_le h hi
  rw [f_X12_doesRead, x1, zb_s, x3.1]
  by_cases n1 : 1 ≤ rowN s i
  · obtain ⟨A, y1, y2⟩ := Mways_ok (w := wa) h (by rw [x2.1 129 (by omega)]; exact hw) x3 n48 n1
    refine ⟨zset wa 136 A, ?_, SM.set (SN.SM x2) _ (by omega), ⟨by rw [zset_ne _ _ (by decide)]; exact x3.1, fun j hj => by rw [zset_ne _ _ (by decide)]; exact x3.2 j hj⟩, fun _ => y2, by rw [zset_ne _ _ (by decide)]; exact x2.1 138 (by omega)⟩
    have cl := cap_le (Bw s (rowF s i) (rowN s i) 0 0)
    rw [if_pos (by rw [nI_lt2 _ (by decide), tnI (by omega)]; omega), y1, zb2_s]
    by_cases b : 0 < Bw s (rowF s i) (rowN s i) 0 0
    · have : 0 < cap (Bw s (rowF s i) (rowN s i) 0 0) := by unfold cap; omega
      rw [if_pos (by rw [nI_lt2 _ (by decide), tnI (by omega)]; omega), bP_t b]
    · have : cap (Bw s (rowF s i) (rowN s i) 0 0) = 0 := by unfold cap; omega
      rw [this, if_neg (by decide), bP_f b]
  · refine ⟨wa, ?_, SN.SM x2, x3, fun a => absurd a n1, x2.1 138 (by omega)⟩
    have n0 : rowN s i = 0 := by omega
    rw [n0, if_neg (by decide), bP_f]
    have : Bw s (rowF s i) 0 0 0 = 0 := by rw [Bw_end]; rfl
    omega
theorem op_wallIs {w : zW} (hR : Rel w) (a b : Int32) : OK2 (f_X11_wallIs a b) (f_X12_wallIs a b) w := by
  have h := hR.1
  have h6 := h.2.1.1.2
  by_cases hx : (0 ≤ a.toInt ∧ a.toInt < (w 129 0).toInt) ∧ 0 ≤ b.toInt ∧ b.toInt ≤ 7
  · obtain ⟨i, hi, rfl, ei⟩ := of_toInt a hx.1.1
    obtain ⟨v, hv, rfl, ev⟩ := of_toInt b hx.2.1
    have hi' : (i : Int) < (w 129 0).toInt := by omega
    have i6 : i < 6 := by omega
    obtain ⟨wa, x1, x2, x3⟩ := Xspell_own h hi'
    obtain ⟨wm, y1, y2, y3⟩ := Mreads_ok (w := wa) h (x2 129 (by omega)) hi'
    have n48 := rowN_le h hi'
    have ha := RT_SX h (SR.SX x2)
    have e9 : wm 129 = w 129 := by rw [y2.1 129 (by omega), x2 129 (by omega)]
    have q := ha.2.2.1 i hi'
    unfold Rwal1 at q
    rw [show 1 + 39 + 2 * i = 40 + 2 * i by omega, show 1 + 40 + 2 * i = 40 + 2 * i + 1 by omega] at q
    have X0 : f_X11_wallIs (nI i) (nI v) w = (if nI v = nI 0 then some (wa (40 + 2 * i) 1, wa) else if nI v = nI 1 then some (wa (40 + 2 * i) 2, wa) else if nI v = nI 2 then some (wa (40 + 2 * i) 3, wa) else if nI v = nI 3 then some (wa 116 1, wa) else if nI v = nI 4 then (zb2 (f_X1_hold wa) fun x14 w2 => if x14 = nI 0 then some (nI 0, w2) else some (nI 1, w2)) else if nI v = nI 5 then (zb2 (f_X1_countWays wa) fun x18 w3 => some (x18, w3)) else if nI v = nI 6 then (zb2 (f_X1_stuckAt wa) fun x21 w4 => some (x21, w4)) else (zb2 (f_X8_costOf (40 + 2 * i) wa) fun x23 w5 => some (x23, w5))) := by
      rw [f_X11_wallIs, hasWall_spec h, zb_s, if_neg (by rw [bP_0]; omega), if_neg (by rw [lt_nI _ (by decide)]; omega), if_neg (by rw [nI_lt2 _ (by decide)]; omega), zin_nI (by omega) (by decide), zg_t, clamp_nI (by omega), x1, zb_s]
    have M0 : f_X12_wallIs (nI i) (nI v) wa = (if nI v = nI 3 then some (wm 128 12, wm) else if nI v = nI 4 then (zb2 (f_X12_doesRead (nI i) wm) fun x11 w2 => if x11 = nI 0 then some (nI 0, w2) else some (nI 1, w2)) else if nI v = nI 5 then (if (wm 128 12) = nI 0 then some (nI 0, wm) else zb2 (f_X12_findWays wm) fun x16 w3 => some (x16, w3)) else if nI v = nI 6 then (zb2 (f_X12_stuck wm) fun x19 w4 => some (x19, w4)) else if nI v = nI 7 then (zb2 (f_X12_costOf (nI i) wm) fun x22 w5 => some (x22, w5)) else zb (f_X12_its (nI i) (nI v) wm) fun x24 => some (x24, wm)) := by
      rw [f_X12_wallIs, isWall_spec (x2 129 (by omega)) h.1 h6, zb_s, if_neg (by rw [bP_0]; omega), in_k _ (by decide) (by decide), zb_s, if_neg (by rw [bP_0]; omega), y1, zb_s]
    have nv : ∀ k, k < 8 → (nI v = nI k ↔ v = k) := fun k hk => by
      rw [eq_nI _ (by omega), ev]
      omega
    have v8 : v = 0 ∨ v = 1 ∨ v = 2 ∨ v = 3 ∨ v = 4 ∨ v = 5 ∨ v = 6 ∨ v = 7 := by omega
    have I := fun d hd => its_k (w := wm) e9 i6 (j := d) hd
    rcases v8 with rfl | rfl | rfl | rfl | rfl | rfl | rfl | rfl
    · refine OK_ask hR (r := w 129 (8 + 27 * i)) (wa := wa) (w2 := wm) ?_ (SR.SX x2) ?_ (SN.SM y2)
      · rw [X0, if_pos rfl, q.1.1]
      · rw [M0, if_neg (by decide), if_neg (by decide), if_neg (by decide), if_neg (by decide), if_neg (by decide), I 0 (by decide), zb_s, Nat.add_zero]
    · refine OK_ask hR (r := w 129 (9 + 27 * i)) (wa := wa) (w2 := wm) ?_ (SR.SX x2) ?_ (SN.SM y2)
      · rw [X0, if_neg (by decide), if_pos rfl, q.2.1.1]
      · rw [M0, if_neg (by decide), if_neg (by decide), if_neg (by decide), if_neg (by decide), if_neg (by decide), I 1 (by decide), zb_s, show 8 + 27 * i + 1 = 9 + 27 * i by omega]
    · refine OK_ask hR (r := w 129 (10 + 27 * i)) (wa := wa) (w2 := wm) ?_ (SR.SX x2) ?_ (SN.SM y2)
      · rw [X0, if_neg (by decide), if_neg (by decide), if_pos rfl, q.2.2.1.1]
      · rw [M0, if_neg (by decide), if_neg (by decide), if_neg (by decide), if_neg (by decide), if_neg (by decide), I 2 (by decide), zb_s, show 8 + 27 * i + 2 = 10 + 27 * i by omega]
    · refine OK_ask hR (r := nI (rowN (w 129) i)) (wa := wa) (w2 := wm) ?_ (SR.SX x2) ?_ (SN.SM y2)
      · rw [X0, if_neg (by decide), if_neg (by decide), if_neg (by decide), if_pos rfl, x3.1]
      · rw [M0, if_pos rfl, y3.1]
    · obtain ⟨A, k1, k2⟩ := Xhold_ok ha x3 n48
      obtain ⟨wn, l1, l2, l3, l4⟩ := Mdoes_ok (w := zset wa 113 A) h (by rw [zset_ne _ _ (by decide), x2 129 (by omega)]) hi'
      obtain ⟨wm', z1, z2, z3⟩ := Mreads_ok (w := zset wa 113 A) h (by rw [zset_ne _ _ (by decide), x2 129 (by omega)]) hi'
      obtain ⟨wn', l1', l2', _⟩ := Mdoes_ok (w := wm') h (by rw [z2.1 129 (by omega), zset_ne _ _ (by decide), x2 129 (by omega)]) hi'
      refine OK_ask hR (r := bP (0 < Bw (w 129) (rowF (w 129) i) (rowN (w 129) i) 0 0)) (wa := zset wa 113 A) (w2 := wn') ?_ (SX.set (SR.SX x2) _ (by omega)) ?_ (SM.trans (SN.SM z2) l2')
      · rw [X0, if_neg (by decide), if_neg (by decide), if_neg (by decide), if_neg (by decide), if_pos rfl, k1, zb2_s]
        unfold bP
        split <;> rfl
      · rw [f_X12_wallIs, isWall_spec (by rw [zset_ne _ _ (by decide), x2 129 (by omega)]) h.1 h6, zb_s, if_neg (by rw [bP_0]; omega), in_k _ (by decide) (by decide), zb_s, if_neg (by rw [bP_0]; omega), z1, zb_s, if_neg (by decide), if_pos rfl, l1', zb2_s]
        unfold bP
        split <;> rfl
    · obtain ⟨A, k1⟩ := Xways_ok ha x3 n48
      obtain ⟨wm', z1, z2, z3⟩ := Mreads_ok (w := zset wa 114 A) h (by rw [zset_ne _ _ (by decide), x2 129 (by omega)]) hi'
      have X1 : f_X11_wallIs (nI i) (nI 5) w = some (nI (cap (Bw (w 129) (rowF (w 129) i) (rowN (w 129) i) 0 0)), zset wa 114 A) := by
        rw [X0, if_neg (by decide), if_neg (by decide), if_neg (by decide), if_neg (by decide), if_neg (by decide), if_pos rfl, k1, zb2_s]
      have M1 : f_X12_wallIs (nI i) (nI 5) (zset wa 114 A) = (if (wm' 128 12) = nI 0 then some (nI 0, wm') else zb2 (f_X12_findWays wm') fun x16 w3 => some (x16, w3)) := by
        rw [f_X12_wallIs, isWall_spec (by rw [zset_ne _ _ (by decide), x2 129 (by omega)]) h.1 h6, zb_s, if_neg (by rw [bP_0]; omega), in_k _ (by decide) (by decide), zb_s, if_neg (by rw [bP_0]; omega), z1, zb_s, if_neg (by decide), if_neg (by decide), if_pos rfl]
      by_cases n1 : 1 ≤ rowN (w 129) i
      · obtain ⟨A2, l1, l2⟩ := Mways_ok (w := wm') h (by rw [z2.1 129 (by omega), zset_ne _ _ (by decide), x2 129 (by omega)]) z3 n48 n1
        refine OK_ask hR (wa := zset wa 114 A) (w2 := zset wm' 136 A2) X1 (SX.set (SR.SX x2) _ (by omega)) ?_ (SM.set (SN.SM z2) _ (by omega))
        rw [M1, z3.1, if_neg (by rw [eq_nI _ (by decide), tnI (by omega)]; omega), l1, zb2_s]
      · refine OK_ask hR (wa := zset wa 114 A) (w2 := wm') X1 (SX.set (SR.SX x2) _ (by omega)) ?_ (SN.SM z2)
        have n0 : rowN (w 129) i = 0 := by omega
        rw [M1, z3.1, n0, if_pos rfl, Bw_end]
        rfl
    · obtain ⟨A, r, k1, k2⟩ := Xstuck_ok ha x3 n48
      obtain ⟨wm', z1, z2, z3⟩ := Mreads_ok (w := zset wa 114 A) h (by rw [zset_ne _ _ (by decide), x2 129 (by omega)]) hi'
      obtain ⟨A2, r2, l1, l2⟩ := Mstuck_ok (w := wm') h (by rw [z2.1 129 (by omega), zset_ne _ _ (by decide), x2 129 (by omega)]) z3 n48
      refine OK_ask hR (r := nI r) (wa := zset wa 114 A) (w2 := zset wm' 136 A2) ?_ (SX.set (SR.SX x2) _ (by omega)) ?_ (SM.set (SN.SM z2) _ (by omega))
      · rw [X0, if_neg (by decide), if_neg (by decide), if_neg (by decide), if_neg (by decide), if_neg (by decide), if_neg (by decide), if_pos rfl, k1, zb2_s]
      · rw [f_X12_wallIs, isWall_spec (by rw [zset_ne _ _ (by decide), x2 129 (by omega)]) h.1 h6, zb_s, if_neg (by rw [bP_0]; omega), in_k _ (by decide) (by decide), zb_s, if_neg (by rw [bP_0]; omega), z1, zb_s, if_neg (by decide), if_neg (by decide), if_neg (by decide), if_pos rfl, l1, zb2_s, Top_eq k2 l2]
    · have wl := wln_le h hi'
      obtain ⟨wb, k1, k2⟩ := Xcost_loop (s := w 129) (A := 40 + 2 * i) (g := wbk (w 129) i) (Or.inl (by omega)) wl.1 (wbk_rng h hi') zfuel 0 wa ha (by rw [q.2.2.1.1, wl.2]) (fun j hj => (q.2.2.2 j (by rw [wl.2, tnI (by omega)]; omega)).1) (by omega) (by unfold zfuel; omega)
      have sb : SX wa wb := fun k hk => k2 k (by omega) (by omega)
      obtain ⟨wm', z1, z2, z3⟩ := Mreads_ok (w := wb) h (by rw [k2 129 (by decide) (by decide), x2 129 (by omega)]) hi'
      obtain ⟨wn, l1, l2⟩ := Mcost_loop (s := w 129) h i6 wl.1 wl.2 (wbk_rng h hi') zfuel 0 wm' (by rw [z2.1 129 (by omega), k2 129 (by decide) (by decide), x2 129 (by omega)]) (by omega) (by unfold zfuel; omega)
      refine OK_ask hR (r := cv (w 129) (wbk (w 129) i) (wln (w 129) i)) (wa := wb) (w2 := wn) ?_ (SX.trans (SR.SX x2) sb) ?_ (SM.trans (SN.SM z2) (SN.SM l2))
      · rw [X0, if_neg (by decide), if_neg (by decide), if_neg (by decide), if_neg (by decide), if_neg (by decide), if_neg (by decide), if_neg (by decide), f_X8_costOf, show l_X8_costOf_4 (fun k44_a2 w11 => some (k44_a2, w11)) zfuel (40 + 2 * i) (nI 0) (nI 0) wa = _ from k1, zb2_s]
      · rw [f_X12_wallIs, isWall_spec (by rw [k2 129 (by decide) (by decide), x2 129 (by omega)]) h.1 h6, zb_s, if_neg (by rw [bP_0]; omega), in_k _ (by decide) (by decide), zb_s, if_neg (by rw [bP_0]; omega), z1, zb_s, if_neg (by decide), if_neg (by decide), if_neg (by decide), if_neg (by decide), if_pos rfl, f_X12_costOf, show l_X12_costOf_4 (fun k56_a2 w11 => some (k56_a2, w11)) zfuel (nI i) (nI 0) (nI 0) wm' = _ from l1, zb2_s]
  · refine OK_err hR (k := 1) (by decide) (by decide) ?_ (fun w1 e => ?_)
    · rw [f_X11_wallIs, hasWall_spec h, zb_s]
      by_cases ha : 0 ≤ a.toInt ∧ a.toInt < (w 129 0).toInt
      · rw [if_neg (by rw [bP_0]; omega)]
        by_cases b0 : b.toInt < 0
        · rw [if_pos (by rw [lt_nI _ (by decide)]; omega), j_X11_wallIs_21, zb2_eta]
        · rw [if_neg (by rw [lt_nI _ (by decide)]; omega), if_pos (by rw [nI_lt2 _ (by decide)]; omega), j_X11_wallIs_21, zb2_eta]
      · rw [if_pos (by rw [bP_0]; exact ha), j_X11_wallIs_21, zb2_eta]
    · rw [f_X12_wallIs, isWall_spec e h.1 h6, zb_s]
      by_cases ha : 0 ≤ a.toInt ∧ a.toInt < (w 129 0).toInt
      · rw [if_neg (by rw [bP_0]; omega), in_k _ (by decide) (by decide), zb_s, if_pos (by rw [bP_0]; omega), j_X12_wallIs_18, zb2_eta]
      · rw [if_pos (by rw [bP_0]; exact ha), j_X12_wallIs_18, zb2_eta]
