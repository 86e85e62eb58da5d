def apart (a b : Nat) : Prop := a + 51 ≤ b ∨ b + 51 ≤ a
def CpD (w0 w1 : zW) (a b : Nat) (D : Nat → Nat → Prop) : Prop := (∀ k, ¬ (a ≤ k ∧ k ≤ a + 50) → w1 k = w0 k) ∧ ∀ d j, d ≤ 50 → D d j → w1 (a + d) j = w0 (b + d) j
theorem CpD.mono {w0 w1 : zW} {a b : Nat} {D E : Nat → Nat → Prop} (h : CpD w0 w1 a b D) (hE : ∀ d j, E d j → D d j) : CpD w0 w1 a b E := ⟨h.1, fun d j hd he => h.2 d j hd (hE d j he)⟩
theorem CpD.upd {w0 w1 : zW} {a b : Nat} {D : Nat → Nat → Prop} (h : CpD w0 w1 a b D) (hab : apart a b) {x y d0 : Nat} (j0 : Nat) (hd : d0 ≤ 50) (hx : x = a + d0) (hy : y = b + d0) : CpD w0 (zupd w1 x j0 (w1 y j0)) a b (fun d j => D d j ∨ (d = d0 ∧ j = j0)) := by
  subst hx; subst hy
  unfold apart at hab
  refine ⟨fun k hk => ?_, fun d j hd' hD => ?_⟩
  · rw [zupd_ne _ _ _ (by omega)]
    exact h.1 k hk
  · by_cases e : d = d0
    · subst e
      rw [zupd_eq]
      by_cases ej : j = j0
      · subst ej
        rw [upd_eq, h.1 _ (by omega)]
      · rw [upd_ne _ _ ej]
        rcases hD with hD | ⟨_, hD⟩
        · exact h.2 d j hd' hD
        · exact absurd hD ej
    · rw [zupd_ne _ _ _ (by omega)]
      rcases hD with hD | ⟨hD, _⟩
      · exact h.2 d j hd' hD
      · exact absurd hD e
theorem CpD.copy {w0 w1 : zW} {a b : Nat} {D : Nat → Nat → Prop} (h : CpD w0 w1 a b D) (hab : apart a b) {x y d0 : Nat} (n : Nat) (hn : n < 2 ^ 31) (hd : d0 ≤ 50) (hx : x = a + d0) (hy : y = b + d0) : CpD w0 (zcopy w1 y x (nI 0) (nI 0) (nI n)) a b (fun d j => D d j ∨ (d = d0 ∧ j < n)) := by
  subst hx; subst hy
  unfold apart at hab
  rw [zcopy, clamp_nI (by omega), clamp_nI hn]
  refine ⟨fun k hk => ?_, fun d j hd' hD => ?_⟩
  · rw [zset_ne _ _ (by omega)]
    exact h.1 k hk
  · by_cases e : d = d0
    · subst e
      rw [zset_eq]
      unfold va_cpy
      by_cases ej : j < n
      · rw [if_pos (by omega), h.1 _ (by omega)]
        simp
      · rw [if_neg (by omega)]
        rcases hD with hD | ⟨_, hD⟩
        · exact h.2 d j hd' hD
        · exact absurd hD ej
    · rw [zset_ne _ _ (by omega)]
      rcases hD with hD | ⟨hD, _⟩
      · exact h.2 d j hd' hD
      · exact absurd hD e
theorem cpyok (n m : Nat) (hn : n < 2 ^ 31) (h : n ≤ m) : zcpyok (nI 0) (nI 0) (nI n) m m = true := by
  unfold zcpyok
  rw [clamp_nI (by omega), clamp_nI hn]
  refine decide_eq_true ⟨by decide, by decide, nI_pos hn, by omega, by omega⟩
theorem wordcp {w0 w1 : zW} {a b : Nat} {D : Nat → Nat → Prop} (h : CpD w0 w1 a b D) (hab : apart a b) {x y d0 : Nat} (hd : d0 ≤ 49) (hx : x = a + d0) (hy : y = b + d0) : ∃ w2, f_X10_copyFrom x y w1 = some w2 ∧ CpD w0 w2 a b (fun d j => D d j ∨ (d = d0 ∧ (j = 1 ∨ j = 2)) ∨ (d = d0 + 1 ∧ j < 6)) := by
  have h1 := h.upd hab 1 (by omega) hx hy
  have h2 := h1.upd hab 2 (by omega) hx hy
  have h3 := h2.copy hab (x := x + 1) (y := y + 1) (d0 := d0 + 1) 6 (by decide) (by omega) (by omega) (by omega)
  refine ⟨_, ?_, h3.mono ?_⟩
  · rw [f_X10_copyFrom, zlet_e, zlet_e, cpyok 6 6 (by decide) (by decide), zg_t, zlet_e]
  · intro d j q
    rcases q with q | ⟨q, r | r⟩ | ⟨q, r⟩
    · exact Or.inl (Or.inl (Or.inl q))
    · exact Or.inl (Or.inl (Or.inr ⟨q, r⟩))
    · exact Or.inl (Or.inr ⟨q, r⟩)
    · exact Or.inr ⟨q, r⟩
theorem wallcp {w0 w1 : zW} {a b : Nat} {D : Nat → Nat → Prop} (h : CpD w0 w1 a b D) (hab : apart a b) {x y d0 : Nat} (hd : d0 ≤ 49) (hx : x = a + d0) (hy : y = b + d0) : ∃ w2, f_X9_copyFrom x y w1 = some w2 ∧ CpD w0 w2 a b (fun d j => D d j ∨ (d = d0 ∧ (j = 1 ∨ j = 2 ∨ j = 3)) ∨ (d = d0 + 1 ∧ j < 24)) := by
  have h1 := h.upd hab 1 (by omega) hx hy
  have h2 := h1.upd hab 2 (by omega) hx hy
  have h3 := h2.upd hab 3 (by omega) hx hy
  have h4 := h3.copy hab (x := x + 1) (y := y + 1) (d0 := d0 + 1) 24 (by decide) (by omega) (by omega) (by omega)
  refine ⟨_, ?_, h4.mono ?_⟩
  · rw [f_X9_copyFrom, zlet_e, zlet_e, zlet_e, cpyok 24 24 (by decide) (by decide), zg_t, zlet_e]
  · intro d j q
    rcases q with q | ⟨q, r | r | r⟩ | ⟨q, r⟩
    · exact Or.inl (Or.inl (Or.inl (Or.inl q)))
    · exact Or.inl (Or.inl (Or.inl (Or.inr ⟨q, r⟩)))
    · exact Or.inl (Or.inl (Or.inr ⟨q, r⟩))
    · exact Or.inl (Or.inr ⟨q, r⟩)
    · exact Or.inr ⟨q, r⟩
theorem textcp {w0 w1 : zW} {a b : Nat} {D : Nat → Nat → Prop} (h : CpD w0 w1 a b D) (hab : apart a b) {x y d0 : Nat} (hd : d0 ≤ 49) (hx : x = a + d0) (hy : y = b + d0) : ∃ w2, f_X6_copyFrom x y w1 = some w2 ∧ CpD w0 w2 a b (fun d j => D d j ∨ (d = d0 ∧ j = 3) ∨ (d = d0 + 1 ∧ j < 60)) := by
  have h1 := h.upd hab 3 (by omega) hx hy
  have h2 := h1.copy hab (x := x + 1) (y := y + 1) (d0 := d0 + 1) 60 (by decide) (by omega) (by omega) (by omega)
  refine ⟨_, ?_, h2.mono ?_⟩
  · rw [f_X6_copyFrom, zlet_e, cpyok 60 60 (by decide) (by decide), zg_t, zlet_e]
  · intro d j q
    rcases q with q | q | q
    · exact Or.inl (Or.inl q)
    · exact Or.inl (Or.inr q)
    · exact Or.inr q
theorem words_loop (K : zW → Option zW) {w0 : zW} {a b x y : Nat} (hab : apart a b) (hx : x = a + 2) (hy : y = b + 2) {D : Nat → Nat → Prop} :
    ∀ (n k : Nat) (w1 : zW), k ≤ 12 → 12 - k < n → CpD w0 w1 a b (fun d j => D d j ∨ ∃ i < k, (d = 4 + 2 * i ∧ (j = 1 ∨ j = 2)) ∨ (d = 5 + 2 * i ∧ j < 6)) → ∃ w2, l_X7_copyFrom_10 K n x y (nI k) w1 = K w2 ∧ CpD w0 w2 a b (fun d j => D d j ∨ ∃ i < 12, (d = 4 + 2 * i ∧ (j = 1 ∨ j = 2)) ∨ (d = 5 + 2 * i ∧ j < 6)) := by
  intro n
  induction n with
  | zero => intro k w1 _ h _; omega
  | succ n ih =>
    intro k w1 hk h hc
    rw [l_X7_copyFrom_10.eq_2]
    by_cases e : k < 12
    · obtain ⟨w2, e2, h2⟩ := wordcp hc hab (x := x + 1 + 1 + 2 * k) (y := y + 1 + 1 + 2 * k) (d0 := 4 + 2 * k) (by omega) (by omega) (by omega)
      rw [if_pos (by rw [lt_nI _ (by decide), tnI (by omega)]; omega), zin_nI (by omega) (by decide), zg_t, zg_t, clamp_nI (by omega), e2, zb_s, zlet_e, nI_add]
      refine ih (k + 1) w2 (by omega) (by omega) (h2.mono ?_)
      rintro d j (q | ⟨i, hi, q⟩)
      · exact Or.inl (Or.inl q)
      · by_cases ei : i = k
        · subst ei
          rcases q with q | ⟨q1, q2⟩
          · exact Or.inr (Or.inl q)
          · exact Or.inr (Or.inr ⟨by omega, q2⟩)
        · exact Or.inl (Or.inr ⟨i, by omega, q⟩)
    · have : k = 12 := by omega
      subst this
      rw [if_neg (by rw [lt_nI _ (by decide), tnI (by omega)]; omega)]
      exact ⟨w1, rfl, hc⟩
theorem tonguecp {w0 w1 : zW} {a b : Nat} {D : Nat → Nat → Prop} (h : CpD w0 w1 a b D) (hab : apart a b) : ∃ w2, f_X7_copyFrom (a + 2) (b + 2) w1 = some w2 ∧ CpD w0 w2 a b (fun d j => D d j ∨ (d = 2 ∧ j = 1) ∨ ∃ i < 12, (d = 4 + 2 * i ∧ (j = 1 ∨ j = 2)) ∨ (d = 5 + 2 * i ∧ j < 6)) := by
  have h1 := h.upd hab 1 (show 2 ≤ 50 by decide) rfl rfl
  obtain ⟨w2, e2, h2⟩ := words_loop (fun w12 => some w12) hab rfl rfl (D := fun d j => D d j ∨ (d = 2 ∧ j = 1)) zfuel 0 _ (by omega) (by unfold zfuel; omega) (h1.mono (by
    rintro d j (q | ⟨i, hi, q⟩)
    · exact q
    · omega))
  refine ⟨w2, ?_, h2.mono ?_⟩
  · rw [f_X7_copyFrom, zlet_e]
    exact e2
  · rintro d j (q | q | q)
    · exact Or.inl (Or.inl q)
    · exact Or.inl (Or.inr q)
    · exact Or.inr q
theorem walls_loop (K : Nat → Nat → zW → Option zW) {w0 : zW} {a b : Nat} (hab : apart a b) :
    ∀ (n k : Nat) (w1 : zW), k ≤ 6 → 6 - k < n → CpD w0 w1 a b (fun d j => ∃ i < k, (d = 39 + 2 * i ∧ (j = 1 ∨ j = 2 ∨ j = 3)) ∨ (d = 40 + 2 * i ∧ j < 24)) → ∃ w2, l_X8_copyFrom_2 K n a b (nI k) w1 = K a b w2 ∧ CpD w0 w2 a b (fun d j => ∃ i < 6, (d = 39 + 2 * i ∧ (j = 1 ∨ j = 2 ∨ j = 3)) ∨ (d = 40 + 2 * i ∧ j < 24)) := by
  intro n
  induction n with
  | zero => intro k w1 _ h _; omega
  | succ n ih =>
    intro k w1 hk h hc
    rw [l_X8_copyFrom_2.eq_2]
    by_cases e : k < 6
    · obtain ⟨w2, e2, h2⟩ := wallcp hc hab (x := a + 1 + 38 + 2 * k) (y := b + 1 + 38 + 2 * k) (d0 := 39 + 2 * k) (by omega) (by omega) (by omega)
      rw [if_pos (by rw [lt_nI _ (by decide), tnI (by omega)]; omega), zin_nI (by omega) (by decide), zg_t, zg_t, clamp_nI (by omega), e2, zb_s, zlet_e, nI_add]
      refine ih (k + 1) w2 (by omega) (by omega) (h2.mono ?_)
      rintro d j ⟨i, hi, q⟩
      by_cases ei : i = k
      · subst ei
        rcases q with q | ⟨q1, q2⟩
        · exact Or.inr (Or.inl q)
        · exact Or.inr (Or.inr ⟨by omega, q2⟩)
      · exact Or.inl ⟨i, by omega, q⟩
    · have : k = 6 := by omega
      subst this
      rw [if_neg (by rw [lt_nI _ (by decide), tnI (by omega)]; omega)]
      exact ⟨w1, rfl, hc⟩
def crel (d j : Nat) : Prop := (d = 0 ∧ 7 ≤ j ∧ j ≤ 12) ∨ (d = 2 ∧ j = 1) ∨ (∃ i < 12, (d = 4 + 2 * i ∧ (j = 1 ∨ j = 2)) ∨ (d = 5 + 2 * i ∧ j < 6)) ∨ (d = 28 ∧ j = 3) ∨ (d = 29 ∧ j < 60) ∨ (d = 32 ∧ j = 3) ∨ (d = 33 ∧ j < 60) ∨ (d = 36 ∧ j < 60) ∨ (d = 37 ∧ j < 27) ∨ (d = 38 ∧ j < 24) ∨ (∃ i < 6, (d = 39 + 2 * i ∧ (j = 1 ∨ j = 2 ∨ j = 3)) ∨ (d = 40 + 2 * i ∧ j < 24))
theorem towncp (w : zW) {a b : Nat} (hab : apart a b) : ∃ w2, f_X8_copyFrom a b w = some w2 ∧ CpD w w2 a b crel := by
  obtain ⟨w1, e1, h1⟩ := walls_loop (fun k29_a0 k29_a1 w11 =>
    zb (f_X7_copyFrom (k29_a0 + 2) (k29_a1 + 2) w11) fun w12 =>
    zb (f_X6_copyFrom (k29_a0 + 28) (k29_a1 + 28) w12) fun w13 =>
    zb (f_X6_copyFrom (k29_a0 + 32) (k29_a1 + 32) w13) fun w14 =>
    zguard (zcpyok (nI 0) (nI 0) (nI 60) 60 60) (zlet (zcopy w14 (k29_a1 + 36) (k29_a0 + 36) (nI 0) (nI 0) (nI 60)) fun w15 =>
    zguard (zcpyok (nI 0) (nI 0) (nI 27) 27 27) (zlet (zcopy w15 (k29_a1 + 37) (k29_a0 + 37) (nI 0) (nI 0) (nI 27)) fun w16 =>
    zguard (zcpyok (nI 0) (nI 0) (nI 24) 24 24) (zlet (zcopy w16 (k29_a1 + 38) (k29_a0 + 38) (nI 0) (nI 0) (nI 24)) fun w17 =>
    zlet (zupd w17 k29_a0 7 (w17 k29_a1 7)) fun w18 =>
    zlet (zupd w18 k29_a0 8 (w18 k29_a1 8)) fun w19 =>
    zlet (zupd w19 k29_a0 9 (w19 k29_a1 9)) fun w20 =>
    zlet (zupd w20 k29_a0 10 (w20 k29_a1 10)) fun w21 =>
    zlet (zupd w21 k29_a0 11 (w21 k29_a1 11)) fun w22 =>
    zlet (zupd w22 k29_a0 12 (w22 k29_a1 12)) fun w23 =>
    some w23)))) hab zfuel 0 w (by omega) (by unfold zfuel; omega) ⟨fun _ _ => rfl, fun d j hd ⟨i, hi, _⟩ => by omega⟩
  obtain ⟨w2, e2, h2⟩ := tonguecp h1 hab
  obtain ⟨w3, e3, h3⟩ := textcp h2 hab (x := a + 28) (y := b + 28) (d0 := 28) (by omega) rfl rfl
  obtain ⟨w4, e4, h4⟩ := textcp h3 hab (x := a + 32) (y := b + 32) (d0 := 32) (by omega) rfl rfl
  have h5 := h4.copy hab (x := a + 36) (y := b + 36) (d0 := 36) 60 (by decide) (by omega) rfl rfl
  have h6 := h5.copy hab (x := a + 37) (y := b + 37) (d0 := 37) 27 (by decide) (by omega) rfl rfl
  have h7 := h6.copy hab (x := a + 38) (y := b + 38) (d0 := 38) 24 (by decide) (by omega) rfl rfl
  have h8 := h7.upd hab (x := a) (y := b) (d0 := 0) 7 (by omega) rfl rfl
  have h9 := h8.upd hab (x := a) (y := b) (d0 := 0) 8 (by omega) rfl rfl
  have h10 := h9.upd hab (x := a) (y := b) (d0 := 0) 9 (by omega) rfl rfl
  have h11 := h10.upd hab (x := a) (y := b) (d0 := 0) 10 (by omega) rfl rfl
  have h12 := h11.upd hab (x := a) (y := b) (d0 := 0) 11 (by omega) rfl rfl
  have h13 := h12.upd hab (x := a) (y := b) (d0 := 0) 12 (by omega) rfl rfl
  refine ⟨_, ?_, h13.mono ?_⟩
  · rw [f_X8_copyFrom, e1]
    rw [e2, zb_s, e3, zb_s, e4, zb_s, cpyok 60 60 (by decide) (by decide), cpyok 27 27 (by decide) (by decide), cpyok 24 24 (by decide) (by decide)]
    simp only [zg_t, zlet_e]
  · intro d j q
    rcases q with q | q | q | q | q | q | q | q | q | q | q
    · have q' : (d = 0 ∧ j = 7) ∨ (d = 0 ∧ j = 8) ∨ (d = 0 ∧ j = 9) ∨ (d = 0 ∧ j = 10) ∨ (d = 0 ∧ j = 11) ∨ (d = 0 ∧ j = 12) := by omega
      rcases q' with q | q | q | q | q | q
      all_goals repeat (first | exact q | exact Or.inr q | apply Or.inl)
    all_goals repeat (first | exact q | exact Or.inr q | exact Or.inr (Or.inl q) | exact Or.inr (Or.inr q) | apply Or.inl)
theorem RT_s {w : zW} {T : Nat} {s s1 : Nat → Int32} (h : RT w T s) (hs : ∀ p, p < 628 → s1 p = s p) : RT w T s1 := by
  obtain ⟨h1, h2, h3, h4, h5, h6, h7, h8⟩ := h
  refine ⟨fun p hp h6 => ?_, ?_, ?_, ?_, ?_, ?_, ?_, ?_⟩
  · rw [hs p (by omega)]
    exact h1 p hp h6
  · unfold Rcnt
    rw [hs 0 (by omega), hs 1 (by omega), hs 2 (by omega), hs 3 (by omega), hs 4 (by omega), hs 5 (by omega), hs 6 (by omega)]
    exact h2
  · exact Rwall_c h3 h2.1.2 (fun _ _ _ => rfl) (hs 0 (by omega)) (fun p _ _ => hs p (by omega))
  · exact Rword_c h4 h2.2.1.2 (fun _ _ _ => rfl) (hs 1 (by omega)) (fun p _ _ => hs p (by omega))
  · exact Rheap_c h5 rfl (fun p _ _ => hs p (by omega))
  · exact Rtape_c h6 h2.2.2.2.2.1.2 rfl (hs 4 (by omega)) (fun p _ _ => hs p (by omega))
  · exact Rwait_c h7 h2.2.2.2.2.2.1.2 rfl (hs 5 (by omega)) (fun p _ _ => hs p (by omega))
  · exact Rtext_c h8 (fun _ _ _ => rfl) (fun p _ _ => hs p (by omega))
theorem crel_w {d i j : Nat} (hi : i < 12) (h : (d = 4 + 2 * i ∧ (j = 1 ∨ j = 2)) ∨ (d = 5 + 2 * i ∧ j < 6)) : crel d j := Or.inr (Or.inr (Or.inl ⟨i, hi, h⟩))
theorem crel_l {d i j : Nat} (hi : i < 6) (h : (d = 39 + 2 * i ∧ (j = 1 ∨ j = 2 ∨ j = 3)) ∨ (d = 40 + 2 * i ∧ j < 24)) : crel d j := Or.inr (Or.inr (Or.inr (Or.inr (Or.inr (Or.inr (Or.inr (Or.inr (Or.inr (Or.inr ⟨i, hi, h⟩)))))))))
theorem crel_o {d j : Nat} (h : (d = 0 ∧ 7 ≤ j ∧ j ≤ 12) ∨ (d = 2 ∧ j = 1) ∨ (d = 28 ∧ j = 3) ∨ (d = 29 ∧ j < 60) ∨ (d = 32 ∧ j = 3) ∨ (d = 33 ∧ j < 60) ∨ (d = 36 ∧ j < 60) ∨ (d = 37 ∧ j < 27) ∨ (d = 38 ∧ j < 24)) : crel d j := by
  unfold crel
  rcases h with h | h | h | h | h | h | h | h | h
  · exact Or.inl h
  · exact Or.inr (Or.inl h)
  all_goals refine Or.inr (Or.inr (Or.inr ?_))
  · exact Or.inl h
  all_goals refine Or.inr ?_
  · exact Or.inl h
  all_goals refine Or.inr ?_
  · exact Or.inl h
  all_goals refine Or.inr ?_
  · exact Or.inl h
  all_goals refine Or.inr ?_
  · exact Or.inl h
  all_goals refine Or.inr ?_
  · exact Or.inl h
  · exact Or.inr (Or.inl h)
theorem RT_copy {w w1 : zW} {a b : Nat} {s : Nat → Int32} (hc : CpD w w1 a b crel) (hR : RT w b s) : RT w1 a s := by
  obtain ⟨h1, ⟨⟨c0, c0'⟩, ⟨c1, c1'⟩, ⟨c2, c2'⟩, ⟨c3, c3'⟩, ⟨c4, c4'⟩, ⟨c5, c5'⟩, c6⟩, h3, h4, h5, h6, h7, h8⟩ := hR
  have g := fun d j hd h => (hc.2 d j hd (crel_o h) : w1 (a + d) j = w (b + d) j)
  refine ⟨h1, ?_, ?_, ?_, ?_, ?_, ?_, ?_⟩
  · unfold Rcnt
    have q := fun j hj => g 0 j (by omega) (Or.inl ⟨rfl, hj⟩)
    simp only [Nat.add_zero] at q
    rw [q 7 (by omega), q 8 (by omega), q 9 (by omega), q 10 (by omega), q 11 (by omega), q 12 (by omega), g 2 1 (by omega) (by omega)]
    exact ⟨⟨c0, c0'⟩, ⟨c1, c1'⟩, ⟨c2, c2'⟩, ⟨c3, c3'⟩, ⟨c4, c4'⟩, ⟨c5, c5'⟩, c6⟩
  · intro i hi
    obtain ⟨p1, p2, ⟨p3, p3'⟩, p4⟩ := h3 i hi
    have hi6 : i < 6 := by omega
    have q := fun j hj => hc.2 (39 + 2 * i) j (by omega) (crel_l hi6 (Or.inl ⟨rfl, hj⟩))
    have r := fun j hj => hc.2 (40 + 2 * i) j (by omega) (crel_l hi6 (Or.inr ⟨rfl, hj⟩))
    simp only [← Nat.add_assoc] at q r
    unfold Rwal1
    rw [q 1 (by omega), q 2 (by omega), q 3 (by omega)]
    refine ⟨p1, p2, ⟨p3, p3'⟩, fun j hj => ?_⟩
    rw [r j (by omega)]
    exact p4 j hj
  · intro i hi
    obtain ⟨p1, ⟨p2, p3, p3'⟩, p4⟩ := h4 i hi
    have hi6 : i < 12 := by omega
    have q := fun j hj => hc.2 (4 + 2 * i) j (by omega) (crel_w hi6 (Or.inl ⟨rfl, hj⟩))
    have r := fun j hj => hc.2 (5 + 2 * i) j (by omega) (crel_w hi6 (Or.inr ⟨rfl, hj⟩))
    simp only [← Nat.add_assoc] at q r
    unfold Rwor1
    rw [q 1 (by omega), q 2 (by omega)]
    refine ⟨p1, ⟨p2, p3, p3'⟩, fun j hj => ?_⟩
    rw [r j (by omega)]
    exact p4 j hj
  · intro l hl hl'
    rw [g 37 l (by omega) (by omega)]
    exact h5 l hl hl'
  · intro k hk
    rw [g 36 k (by omega) (by omega)]
    exact h6 k hk
  · intro k hk
    rw [g 38 k (by omega) (by omega)]
    exact h7 k hk
  · intro u hu
    obtain ⟨p1, p2⟩ := h8 u hu
    have q := g (28 + 4 * u) 3 (by omega) (by omega)
    simp only [← Nat.add_assoc] at q
    refine ⟨q.trans p1, textOk_congr p2 (fun _ _ => rfl) (fun k hk => ?_)⟩
    have c60 := p2.1
    have r := g (29 + 4 * u) k (by omega) (by omega)
    simp only [← Nat.add_assoc] at r
    exact r
def fcp (f g : Nat → Int32) (n : Nat) : Nat → Int32 := fun p => if p < n then g p else f p
theorem fcp_step (f g : Nat → Int32) (n : Nat) : upd (fcp f g n) n (g n) = fcp f g (n + 1) := funext fun p => by
  unfold fcp
  by_cases e : p = n
  · subst e
    rw [upd_eq, if_pos (by omega)]
  · rw [upd_ne _ _ e]
    by_cases q : p < n
    · rw [if_pos q, if_pos (by omega)]
    · rw [if_neg q, if_neg (by omega)]
theorem carry_loop (K : zW → Option zW) (a b : Nat) (hab : a ≠ b) (f : Nat → Int32) : ∀ (n k : Nat) (w : zW), k ≤ 628 → 628 - k < n → l_X12_carry_2 K n a 628 b 628 (nI k) (zset w b (fcp f (w a) k)) = K (zset w b (fcp f (w a) 628)) := by
  intro n
  induction n with
  | zero => intro k w h1 h2; omega
  | succ n ih =>
    intro k w hk hn
    rw [l_X12_carry_2.eq_2]
    by_cases e : k < 628
    · rw [if_pos (by rw [lt_nI _ (by decide), tnI (by omega)]; omega), zld_k _ _ _ _ _ e (by decide), zsto_k _ _ _ _ _ _ e (by decide), zset_ne _ _ hab, zlet_e, nI_add]
      have e1 : zupd (zset w b (fcp f (w a) k)) b k (w a k) = zset w b (fcp f (w a) (k + 1)) := by
        rw [← fcp_step, zupd, zset_zset, zset_eq]
      rw [e1]
      exact ih (k + 1) w (by omega) (by omega)
    · have : k = 628 := by omega
      subst this
      rw [if_neg (by rw [lt_nI _ (by decide), tnI (by omega)]; omega)]
theorem carry_ok (a b : Nat) (hab : a ≠ b) (w : zW) : f_X12_carry a 628 b 628 w = some (zset w b (fcp (w b) (w a) 628)) := by
  have e0 : zset w b (fcp (w b) (w a) 0) = w := by
    have : fcp (w b) (w a) 0 = w b := funext fun p => if_neg (by omega)
    rw [this, zset_self]
  have := carry_loop (fun w11 => some w11) a b hab (w b) zfuel 0 w (by omega) (by unfold zfuel; omega)
  rw [e0] at this
  rw [f_X12_carry]
  exact this
theorem Rel_parts {w2 : zW} {w : zW} (hR : Rel w) (h1 : RT w2 1 (w2 129)) (h2 : ¬ w2 128 2 = nI 0 → RT w2 52 (w2 130)) (hk : ∀ k, 104 ≤ k ∧ k < 112 ∨ 125 ≤ k ∧ k < 128 ∨ k = 131 ∨ 139 ≤ k ∧ k < 143 → w2 k = w k) (h21 : w2 128 21 = w 128 21) (h0 : w2 0 10 = w2 128 2) : Rel w2 := by
  obtain ⟨r1, r2, r3, r4, r5, r6⟩ := hR
  refine ⟨h1, h2, fun i hi => ?_, fun k h3 h4 => ?_, ?_, h0⟩
  · have := r3 i hi
    unfold Rshe1 at this ⊢
    rw [hk (104 + 2 * i) (by omega), hk (105 + 2 * i) (by omega), hk 140 (by omega), hk 141 (by omega), hk 142 (by omega)]
    exact this
  · rw [hk 127 (by omega), hk 131 (by omega)]
    exact r4 k h3 h4
  · unfold Rtra at r5 ⊢
    rw [hk 125 (by omega), hk 126 (by omega), hk 139 (by omega), h21]
    exact r5
theorem op_image {w : zW} (hR : Rel w) : OK2 (f_X11_image ) (f_X12_image ) w := by
  obtain ⟨w1, e1, c1⟩ := towncp w (a := 52) (b := 1) (Or.inr (by omega))
  obtain ⟨v, hv⟩ : ∃ v, v = w 128 2 + nI 1 := ⟨_, rfl⟩
  obtain ⟨W, hW⟩ : ∃ W, W = zupd w1 0 10 v := ⟨_, rfl⟩
  obtain ⟨s1, hs1⟩ : ∃ s1, s1 = fcp (w 130) (w 129) 628 := ⟨_, rfl⟩
  have eW : ∀ k, k ≠ 0 → ¬ (52 ≤ k ∧ k ≤ 102) → W k = w k := fun k h1 h2 => by rw [hW, zupd_ne _ _ _ h1]; exact c1.1 k h2
  have r2 : RT w1 52 (w 129) := RT_copy c1 hR.1
  have g0 : w1 0 = w 0 := c1.1 0 (by omega)
  refine ⟨v, W, zupd (zset W 130 s1) 128 2 v, ?_, ?_, Rel_parts hR ?_ ?_ ?_ ?_ ?_⟩
  · rw [f_X11_image, e1, zb_s, g0, hR.2.2.2.2.2, ← hv, zlet_e, ← hW]
    have : W 0 10 = v := by rw [hW, zupd_eq, upd_eq]
    rw [this]
  · rw [f_X12_image, carry_ok 129 130 (by omega), zb_s, eW 130 (by omega) (by omega), eW 129 (by omega) (by omega), ← hs1, zset_ne _ _ (by omega), eW 128 (by omega) (by omega), ← hv, zlet_e, zupd_eq, upd_eq]
  · rw [zupd_ne _ _ _ (by omega), zset_ne _ _ (by omega), eW 129 (by omega) (by omega)]
    refine RT_congr (fun k _ _ => ?_) hR.1
    rw [zupd_ne _ _ _ (by omega), zset_ne _ _ (by omega)]
    exact eW k (by omega) (by omega)
  · intro _
    rw [zupd_ne _ _ _ (by omega), zset_eq]
    refine RT_s (s := w 129) (RT_congr (fun k _ _ => ?_) r2) (fun p hp => by rw [hs1]; exact if_pos hp)
    rw [zupd_ne _ _ _ (by omega), zset_ne _ _ (by omega), hW, zupd_ne _ _ _ (by omega)]
  · intro k hk
    rw [zupd_ne _ _ _ (by omega), zset_ne _ _ (by omega)]
    exact eW k (by omega) (by omega)
  · rw [zupd_eq, upd_ne _ _ (by omega), zset_ne _ _ (by omega), eW 128 (by omega) (by omega)]
  · rw [zupd_eq, upd_eq, zupd_ne _ _ _ (by omega), zset_ne _ _ (by omega), hW, zupd_eq, upd_eq]
theorem op_restore {w : zW} (hR : Rel w) : OK2 (f_X11_restore ) (f_X12_restore ) w := by
  have e10 := hR.2.2.2.2.2
  by_cases h : w 128 2 = nI 0
  · refine OK_err2 hR (k := 2) (by decide) (by decide) ?_ (fun w1 e => ?_)
    · rw [f_X11_restore, if_pos (e10.trans h), zb2_eta]
    · rw [f_X12_restore, e 128 (by omega), if_pos h, zb2_eta]
  · obtain ⟨w1, e1, c1⟩ := towncp w (a := 1) (b := 52) (Or.inl (by omega))
    have r2 : RT w1 1 (w 130) := RT_copy c1 (hR.2.1 h)
    obtain ⟨s1, hs1⟩ : ∃ s1, s1 = fcp (w 129) (w 130) 628 := ⟨_, rfl⟩
    have e0 : w1 1 7 = s1 0 := r2.2.1.1.1.trans (by rw [hs1]; exact (if_pos (by omega)).symm)
    have g := c1.1
    refine ⟨s1 0, w1, zset w1 129 s1, ?_, ?_, Rel_parts hR ?_ ?_ ?_ ?_ ?_⟩
    · rw [f_X11_restore, if_neg (by rw [e10]; exact h), e1, zb_s, e0]
    · rw [f_X12_restore, g 128 (by omega), if_neg h, carry_ok 130 129 (by omega), zb_s, g 129 (by omega), g 130 (by omega), ← hs1, zset_eq]
    · rw [zset_eq]
      refine RT_s (s := w 130) (RT_congr (fun k _ _ => ?_) r2) (fun p hp => by rw [hs1]; exact if_pos hp)
      rw [zset_ne _ _ (by omega)]
    · intro _
      rw [zset_ne _ _ (by omega), g 130 (by omega)]
      refine RT_congr (fun k _ _ => ?_) (hR.2.1 h)
      rw [zset_ne _ _ (by omega)]
      exact g k (by omega)
    · intro k hk
      rw [zset_ne _ _ (by omega)]
      exact g k (by omega)
    · rw [zset_ne _ _ (by omega), g 128 (by omega)]
    · rw [zset_ne _ _ (by omega), zset_ne _ _ (by omega), g 128 (by omega), g 0 (by omega)]
      exact e10
