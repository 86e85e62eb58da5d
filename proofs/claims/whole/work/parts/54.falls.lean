/-- the row when the brick at a place has fallen -/
def drp (s : Nat → Int32) (i j : Nat) : Nat → Int32 := if wbk s i j = nI 0 then s else upd (upd s (266 + (wbk s i j).toInt.toNat) (nI (min 99 ((s (266 + (wbk s i j).toInt.toNat)).toInt.toNat + 1)))) (11 + 27 * i + j) (nI 0)
theorem drp_out {w : zW} {T : Nat} {s : Nat → Int32} (h : RT w T s) {i j : Nat} (hi : (i : Int) < (s 0).toInt) (hj : j < wln s i) {p : Nat} (h1 : ¬ (266 < p ∧ p < 293)) (h2 : p ≠ 11 + 27 * i + j) : drp s i j p = s p := by
  unfold drp
  by_cases e : wbk s i j = nI 0
  · rw [if_pos e]
  · have rg := wbk_rng h hi j hj
    rw [eq_nI _ (by decide)] at e
    rw [if_neg (by rw [eq_nI _ (by decide)]; exact e), upd_ne _ _ h2, upd_ne _ _ (by omega)]
theorem drp_st {w : zW} {T : Nat} {s : Nat → Int32} (h : RT w T s) {i j : Nat} (hi : (i : Int) < (s 0).toInt) (hj : j < wln s i) : drp s i j 0 = s 0 ∧ ∀ i', i' < 6 → wln (drp s i j) i' = wln s i' := by
  have h6 := h.2.1.1.2
  have wl := (wln_le h hi).1
  refine ⟨drp_out h hi hj (by omega) (by omega), fun i' hi' => ?_⟩
  unfold wln
  rw [drp_out h hi hj (by omega) (by omega)]
theorem Xdrop {w : zW} {s : Nat → Int32} (h : RT w 1 s) {i j : Nat} (hi : (i : Int) < (s 0).toInt) (hj : j < wln s i) : ∃ w1, f_X8_dropBrick (40 + 2 * i) (nI j) w = some w1 ∧ FX w w1 ∧ RT w1 1 (drp s i j) := by
  have h6 := h.2.1.1.2
  have wl := wln_le h hi
  obtain ⟨q1, q2⟩ := Xwall_at h hi
  have rg := wbk_rng h hi j hj
  rw [f_X8_dropBrick, zld_k _ _ _ _ _ (by omega) (by decide), q2 j hj]
  by_cases e : wbk s i j = nI 0
  · refine ⟨w, by rw [if_pos e], FX_refl w, ?_⟩
    unfold drp
    rw [if_pos e]
    exact h
  · have e' := e
    rw [eq_nI _ (by decide)] at e'
    obtain ⟨l, hl, el, tl⟩ := of_toInt _ rg.1
    have eln : (wbk s i j).toInt.toNat = l := by omega
    obtain ⟨hv, hh, eh, th⟩ := nn_nI h.1 (266 + l) (by omega) (by omega)
    have h99 := (h.2.2.2.2.1 l (by omega) (by omega)).2
    have hx := (h.2.2.2.2.1 l (by omega) (by omega)).1
    rw [show 1 + 37 = 38 from rfl] at hx
    have r := RT_brick (RT_heap h (l := l) (b := min 99 (hv + 1)) (by omega) (by omega) (by omega)) (i := i) (j := j) (b := 0) (by rw [upd_ne _ _ (by omega)]; exact hi) (by rw [upd_ne _ _ (by omega), wl.2, tnI (by omega)]; omega) (by omega)
    rw [show 1 + 40 + 2 * i = 40 + 2 * i + 1 by omega, show 1 + 37 = 38 from rfl] at r
    refine ⟨zupd (zupd w 38 l (nI (min 99 (hv + 1)))) (40 + 2 * i + 1) j (nI 0), ?_, FX_upd (FX_upd (FX_refl w) _ _ (by omega)) _ _ (by omega), ?_⟩
    · rw [if_neg e, el, zld_k _ _ _ _ _ (by omega) (by decide), hx, eh, nI_add, minI (by omega) (by decide), zsto_k _ _ _ _ _ _ (by omega) (by decide), zsto_k _ _ _ _ _ _ (by omega) (by decide)]
    · unfold drp
      rw [if_neg e, eln, th, Int.toNat_natCast]
      exact r
theorem Mheap_ok {wx w : zW} {s : Nat → Int32} (h : RT wx 1 s) (hw : w 129 = s) {i j : Nat} (hi : (i : Int) < (s 0).toInt) (hj : j < wln s i) (e : ¬ wbk s i j = nI 0) : ∃ w1, f_X12_toHeap (nI i) (nI j) w = some w1 ∧ SM9 w w1 ∧ w1 129 = drp s i j := by
  have h6 := h.2.1.1.2
  have wl := wln_le h hi
  have rg := wbk_rng h hi j hj
  have e' := e
  rw [eq_nI _ (by decide)] at e'
  obtain ⟨l, hl, el, tl⟩ := of_toInt _ rg.1
  have eln : (wbk s i j).toInt.toNat = l := by omega
  obtain ⟨hv, hh, eh, th⟩ := nn_nI h.1 (266 + l) (by omega) (by omega)
  have h99 := (h.2.2.2.2.1 l (by omega) (by omega)).2
  have ewb : s (11 + 27 * i + j) = wbk s i j := rfl
  have held : f_X12_held (nI (hv + 1)) (nI 0) (nI 99) = some (nI (min 99 (hv + 1))) := by
    unfold f_X12_held
    rw [if_neg (by rw [lt_nI _ (by decide), tnI (by omega)]; omega)]
    by_cases a : 99 < hv + 1
    · rw [if_pos (by rw [nI_lt2 _ (by decide), tnI (by omega)]; omega), show min 99 (hv + 1) = 99 by omega]
    · rw [if_neg (by rw [nI_lt2 _ (by decide), tnI (by omega)]; omega), show min 99 (hv + 1) = hv + 1 by omega]
  refine ⟨zupd (zupd w 129 (266 + l) (nI (min 99 (hv + 1)))) 129 (11 + 27 * i + j) (nI 0), ?_, SM9.upd (SM9.upd (SM9.refl w) _ _ (by omega)) _ _ (by omega), ?_⟩
  · rw [f_X12_toHeap, at_k, zb_s, zld_k _ _ _ _ _ (by omega) (by decide), hw, ewb, el, nI_add, zlet_e, zld_k _ _ _ _ _ (by omega) (by decide), hw, eh, nI_add, held, zb_s, zsto_k _ _ _ _ _ _ (by omega) (by decide), zb_s, zsto_k _ _ _ _ _ _ (by omega) (by decide)]
  · unfold drp
    rw [zupd_eq, zupd_eq, hw, if_neg e, eln, th, Int.toNat_natCast]
/-- the row when the bricks of the first k places have fallen -/
def fls (s : Nat → Int32) (i : Nat) : Nat → Nat → Int32
  | 0 => s
  | k + 1 => drp (fls s i k) i k
theorem fls_st {w : zW} {s : Nat → Int32} (h : RT w 1 s) {i : Nat} (hi : (i : Int) < (s 0).toInt) : ∀ k, k ≤ wln s i → (∃ wx, RT wx 1 (fls s i k)) ∧ fls s i k 0 = s 0 ∧ wln (fls s i k) i = wln s i
  | 0, _ => ⟨⟨w, h⟩, rfl, rfl⟩
  | k + 1, hk => by
    have h6 := h.2.1.1.2
    obtain ⟨⟨wx, hx⟩, a, b⟩ := fls_st h hi k (by omega)
    obtain ⟨w1, x1, x2, x3⟩ := Xdrop hx (i := i) (j := k) (by rw [a]; exact hi) (by omega)
    obtain ⟨c, d⟩ := drp_st hx (i := i) (j := k) (by rw [a]; exact hi) (by omega)
    exact ⟨⟨w1, x3⟩, c.trans a, (d i (by omega)).trans b⟩
theorem Xfalls_loop {wx : zW} {s : Nat → Int32} {i : Nat} (hx : RT wx 1 s) (hi : (i : Int) < (s 0).toInt) (r : Int32) : ∀ (m k : Nat) (w : zW), RT w 1 (fls s i k) → k ≤ wln s i → wln s i - k < m → ∃ w1, l_X11_falls_35 (fun k60_a3 w11 => some (k60_a3, w11)) m (40 + 2 * i) r (nI k) w = some (r, w1) ∧ FX w w1 ∧ RT w1 1 (fls s i (wln s i)) := by
  have h6 := hx.2.1.1.2
  have wl := wln_le hx hi
  intro m
  induction m with
  | zero => intro k w _ _ h; omega
  | succ m ih =>
    intro k w h hk hm
    obtain ⟨_, z0, zl⟩ := fls_st hx hi k hk
    obtain ⟨q1, q2⟩ := Xwall_at h (i := i) (by rw [z0]; exact hi)
    rw [l_X11_falls_35.eq_2, q1, zl]
    by_cases e : k < wln s i
    · obtain ⟨wa, x1, x2, x3⟩ := Xdrop h (i := i) (j := k) (by rw [z0]; exact hi) (by omega)
      obtain ⟨w1, y1, y2, y3⟩ := ih (k + 1) wa x3 (by omega) (by omega)
      refine ⟨w1, ?_, FX.trans x2 y2, y3⟩
      rw [if_pos (by rw [lt_nI _ (by omega), tnI (by omega)]; omega), x1, zb_s, nI_add, zlet_e]
      exact y1
    · have : k = wln s i := by omega
      subst this
      rw [if_neg (by rw [lt_nI _ (by omega), tnI (by omega)]; omega)]
      exact ⟨w, rfl, FX_refl w, h⟩
theorem Mfalls_loop {wx : zW} {s : Nat → Int32} {i : Nat} (hx : RT wx 1 s) (hi : (i : Int) < (s 0).toInt) (r : Int32) : ∀ (m k : Nat) (w : zW), w 129 = fls s i k → k ≤ wln s i → wln s i - k < m → ∃ w1, l_X12_falls_22 (fun k58_a2 w11 => some (k58_a2, w11)) m (nI i) r (nI k) w = some (r, w1) ∧ SM9 w w1 ∧ w1 129 = fls s i (wln s i) := by
  have h6 := hx.2.1.1.2
  have wl := wln_le hx hi
  intro m
  induction m with
  | zero => intro k w _ _ h; omega
  | succ m ih =>
    intro k w hw hk hm
    obtain ⟨⟨wy, h⟩, z0, zl⟩ := fls_st hx hi k hk
    have hi' : (i : Int) < (fls s i k 0).toInt := by rw [z0]; exact hi
    have wl' := wln_le h hi'
    rw [zl] at wl'
    rw [l_X12_falls_22.eq_2, its_k hw (by omega) (by decide), show 8 + 27 * i + 2 = 10 + 27 * i by omega, wl'.2, zb_s]
    by_cases e : k < wln s i
    · have hgk : fls s i k (11 + 27 * i + k) = wbk (fls s i k) i k := rfl
      have rg := wbk_rng h hi' k (by omega)
      rw [if_pos (by rw [lt_nI _ (by omega), tnI (by omega)]; omega), at_k, zb_s, zld_k _ _ _ _ _ (by omega) (by decide), hw, hgk]
      by_cases e0 : wbk (fls s i k) i k = nI 0
      · obtain ⟨w1, y1, y2, y3⟩ := ih (k + 1) w (by rw [hw]; exact (if_pos e0).symm) (by omega) (by omega)
        refine ⟨w1, ?_, y2, y3⟩
        rw [if_neg (by rw [e0]; decide), nI_add, zlet_e]
        exact y1
      · obtain ⟨wa, x1, x2, x3⟩ := Mheap_ok h hw hi' (j := k) (by omega) e0
        obtain ⟨w1, y1, y2, y3⟩ := ih (k + 1) wa x3 (by omega) (by omega)
        rw [eq_nI _ (by decide)] at e0
        refine ⟨w1, ?_, SM9.trans x2 y2, y3⟩
        rw [if_pos (by rw [nI_lt2 _ (by decide)]; omega), x1, zb_s, nI_add, zlet_e]
        exact y1
    · have : k = wln s i := by omega
      subst this
      rw [if_neg (by rw [lt_nI _ (by omega), tnI (by omega)]; omega)]
      exact ⟨w, rfl, SM9.refl w, hw⟩
theorem op_falls {w : zW} (hR : Rel w) (a : Int32) : OK2 (f_X11_falls a) (f_X12_falls a) w := by
  have h := hR.1
  have h6 := h.2.1.1.2
  by_cases ha : 0 ≤ a.toInt ∧ a.toInt < (w 129 0).toInt
  · obtain ⟨i, hi, rfl, ei⟩ := of_toInt a ha.1
    have hi' : (i : Int) < (w 129 0).toInt := by omega
    obtain ⟨wa, y1, y2, y3⟩ := Xfalls_loop h hi' (nI (lc (wbk (w 129) i) (wln (w 129) i))) zfuel 0 w h (by omega) (by have := wln_le h hi'; unfold zfuel; omega)
    have e9 : wa 129 = w 129 := y2 129 (by omega)
    obtain ⟨w2, z1, z2, z3⟩ := Mfalls_loop h hi' (nI (lc (wbk (w 129) i) (wln (w 129) i))) zfuel 0 wa e9 (by omega) (by have := wln_le h hi'; unfold zfuel; omega)
    refine OK_town hR (r := nI (lc (wbk (w 129) i) (wln (w 129) i))) (wa := wa) (w2 := w2) ?_ y2 y3 ?_ z2 z3
    · rw [f_X11_falls, hasWall_spec h, zb_s, if_neg (by rw [bP_0]; omega), zin_nI (by omega) (by decide), zg_t, clamp_nI (by omega), Xletters h hi', zb_s]
      exact y1
    · rw [f_X12_falls, isWall_spec e9 h.1 h6, zb_s, if_neg (by rw [bP_0]; omega), Mletters h e9 hi', zb_s]
      exact z1
  · refine OK_err hR (k := 1) (by decide) (by decide) ?_ (fun w1 e => ?_)
    · rw [f_X11_falls, hasWall_spec h, zb_s, if_pos (by rw [bP_0]; exact ha), zb2_eta]
    · rw [f_X12_falls, isWall_spec e h.1 h6, zb_s, if_pos (by rw [bP_0]; exact ha), zb2_eta]
