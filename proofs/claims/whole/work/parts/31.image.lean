def apart (a b : Nat) : Prop := a + 51 ≤ b ∨ b + 51 ≤ a
def CpD (w0 w1 : zW) (a b : Nat) (D : Nat → Nat → Prop) : Prop := (∀ k, ¬ (a ≤ k ∧ k ≤ a + 50) → w1 k = w0 k) ∧ ∀ d j, d ≤ 50 → D d j → w1 (a + d) j = w0 (b + d) j
theorem CpD.mono {w0 w1 : zW} {a b : Nat} {D E : Nat → Nat → Prop} (h : CpD w0 w1 a b D) (hE : ∀ d j, E d j → D d j) : CpD w0 w1 a b E := ⟨h.1, fun d j hd he => h.2 d j hd (hE d j he)⟩
theorem CpD.upd {w0 w1 : zW} {a b : Nat} {D : Nat → Nat → Prop} (h : CpD w0 w1 a b D) (hab : apart a b) {x y d0 : Nat} (j0 : Nat) (hd : d0 ≤ 50) (hx : x = a + d0) (hy : y = b + d0) : CpD w0 (zupd w1 x j0 (w1 y j0)) a b (fun d j => D d j ∨ (d = d0 ∧ j = j0)) := by
  subst hx; subst hy
  unfold apart at hab
  refine ⟨fun k hk => ?_, fun d j hd' hD => ?_⟩
  · rw [zupd_ne _ _ _ (by omega)]
    exact h.1 k hk
  · by_cases e : d = d0
    · subst e
      rw [zupd_eq]
      by_cases ej : j = j0
      · subst ej
        rw [upd_eq, h.1 _ (by omega)]
      · rw [upd_ne _ _ ej]
        rcases hD with hD | ⟨_, hD⟩
        · exact h.2 d j hd' hD
        · exact absurd hD ej
    · rw [zupd_ne _ _ _ (by omega)]
      rcases hD with hD | ⟨hD, _⟩
      · exact h.2 d j hd' hD
      · exact absurd hD e
theorem CpD.copy {w0 w1 : zW} {a b : Nat} {D : Nat → Nat → Prop} (h : CpD w0 w1 a b D) (hab : apart a b) {x y d0 : Nat} (n : Nat) (hn : n < 2 ^ 31) (hd : d0 ≤ 50) (hx : x = a + d0) (hy : y = b + d0) : CpD w0 (zcopy w1 y x (nI 0) (nI 0) (nI n)) a b (fun d j => D d j ∨ (d = d0 ∧ j < n)) := by
  subst hx; subst hy
  unfold apart at hab
  rw [zcopy, clamp_nI (by omega), clamp_nI hn]
  refine ⟨fun k hk => ?_, fun d j hd' hD => ?_⟩
  · rw [zset_ne _ _ (by omega)]
    exact h.1 k hk
  · by_cases e : d = d0
    · subst e
      rw [zset_eq]
      unfold va_cpy
      by_cases ej : j < n
      · rw [if_pos (by omega), h.1 _ (by omega)]
        simp
      · rw [if_neg (by omega)]
        rcases hD with hD | ⟨_, hD⟩
        · exact h.2 d j hd' hD
        · exact absurd hD ej
    · rw [zset_ne _ _ (by omega)]
      rcases hD with hD | ⟨hD, _⟩
      · exact h.2 d j hd' hD
      · exact absurd hD e
theorem cpyok (n m : Nat) (hn : n < 2 ^ 31) (h : n ≤ m) : zcpyok (nI 0) (nI 0) (nI n) m m = true := by
  unfold zcpyok
  rw [clamp_nI (by omega), clamp_nI hn]
  refine decide_eq_true ⟨by decide, by decide, nI_pos hn, by omega, by omega⟩
theorem wordcp {w0 w1 : zW} {a b : Nat} {D : Nat → Nat → Prop} (h : CpD w0 w1 a b D) (hab : apart a b) {x y d0 : Nat} (hd : d0 ≤ 49) (hx : x = a + d0) (hy : y = b + d0) : ∃ w2, f_X10_copyFrom x y w1 = some w2 ∧ CpD w0 w2 a b (fun d j => D d j ∨ (d = d0 ∧ (j = 1 ∨ j = 2)) ∨ (d = d0 + 1 ∧ j < 6)) := by
  have h1 := h.upd hab 1 (by omega) hx hy
  have h2 := h1.upd hab 2 (by omega) hx hy
  have h3 := h2.copy hab (x := x + 1) (y := y + 1) (d0 := d0 + 1) 6 (by decide) (by omega) (by omega) (by omega)
  refine ⟨_, ?_, h3.mono ?_⟩
  · rw [f_X10_copyFrom, zlet_e, zlet_e, cpyok 6 6 (by decide) (by decide), zg_t, zlet_e]
  · intro d j q
    rcases q with q | ⟨q, r | r⟩ | ⟨q, r⟩
    · exact Or.inl (Or.inl (Or.inl q))
    · exact Or.inl (Or.inl (Or.inr ⟨q, r⟩))
    · exact Or.inl (Or.inr ⟨q, r⟩)
    · exact Or.inr ⟨q, r⟩
theorem wallcp {w0 w1 : zW} {a b : Nat} {D : Nat → Nat → Prop} (h : CpD w0 w1 a b D) (hab : apart a b) {x y d0 : Nat} (hd : d0 ≤ 49) (hx : x = a + d0) (hy : y = b + d0) : ∃ w2, f_X9_copyFrom x y w1 = some w2 ∧ CpD w0 w2 a b (fun d j => D d j ∨ (d = d0 ∧ (j = 1 ∨ j = 2 ∨ j = 3)) ∨ (d = d0 + 1 ∧ j < 24)) := by
  have h1 := h.upd hab 1 (by omega) hx hy
  have h2 := h1.upd hab 2 (by omega) hx hy
  have h3 := h2.upd hab 3 (by omega) hx hy
  have h4 := h3.copy hab (x := x + 1) (y := y + 1) (d0 := d0 + 1) 24 (by decide) (by omega) (by omega) (by omega)
  refine ⟨_, ?_, h4.mono ?_⟩
  · rw [f_X9_copyFrom, zlet_e, zlet_e, zlet_e, cpyok 24 24 (by decide) (by decide), zg_t, zlet_e]
  · intro d j q
    rcases q with q | ⟨q, r | r | r⟩ | ⟨q, r⟩
    · exact Or.inl (Or.inl (Or.inl (Or.inl q)))
    · exact Or.inl (Or.inl (Or.inl (Or.inr ⟨q, r⟩)))
    · exact Or.inl (Or.inl (Or.inr ⟨q, r⟩))
    · exact Or.inl (Or.inr ⟨q, r⟩)
    · exact Or.inr ⟨q, r⟩
theorem textcp {w0 w1 : zW} {a b : Nat} {D : Nat → Nat → Prop} (h : CpD w0 w1 a b D) (hab : apart a b) {x y d0 : Nat} (hd : d0 ≤ 49) (hx : x = a + d0) (hy : y = b + d0) : ∃ w2, f_X6_copyFrom x y w1 = some w2 ∧ CpD w0 w2 a b (fun d j => D d j ∨ (d = d0 ∧ j = 3) ∨ (d = d0 + 1 ∧ j < 60)) := by
  have h1 := h.upd hab 3 (by omega) hx hy
  have h2 := h1.copy hab (x := x + 1) (y := y + 1) (d0 := d0 + 1) 60 (by decide) (by omega) (by omega) (by omega)
  refine ⟨_, ?_, h2.mono ?_⟩
  · rw [f_X6_copyFrom, zlet_e, cpyok 60 60 (by decide) (by decide), zg_t, zlet_e]
  · intro d j q
    rcases q with q | q | q
    · exact Or.inl (Or.inl q)
    · exact Or.inl (Or.inr q)
    · exact Or.inr q
theorem words_loop (K : zW → Option zW) {w0 : zW} {a b x y : Nat} (hab : apart a b) (hx : x = a + 2) (hy : y = b + 2) {D : Nat → Nat → Prop} :
    ∀ (n k : Nat) (w1 : zW), k ≤ 12 → 12 - k < n → CpD w0 w1 a b (fun d j => D d j ∨ ∃ i < k, (d = 4 + 2 * i ∧ (j = 1 ∨ j = 2)) ∨ (d = 5 + 2 * i ∧ j < 6)) → ∃ w2, l_X7_copyFrom_10 K n x y (nI k) w1 = K w2 ∧ CpD w0 w2 a b (fun d j => D d j ∨ ∃ i < 12, (d = 4 + 2 * i ∧ (j = 1 ∨ j = 2)) ∨ (d = 5 + 2 * i ∧ j < 6)) := by
  intro n
  induction n with
  | zero => intro k w1 _ h _; omega
  | succ n ih =>
    intro k w1 hk h hc
    rw [l_X7_copyFrom_10.eq_2]
    by_cases e : k < 12
    · obtain ⟨w2, e2, h2⟩ := wordcp hc hab (x := x + 1 + 1 + 2 * k) (y := y + 1 + 1 + 2 * k) (d0 := 4 + 2 * k) (by omega) (by omega) (by omega)
      rw [if_pos (by rw [lt_nI _ (by decide), tnI (by omega)]; omega), zin_nI (by omega) (by decide), zg_t, zg_t, clamp_nI (by omega), e2, zb_s, zlet_e, nI_add]
      refine ih (k + 1) w2 (by omega) (by omega) (h2.mono ?_)
      rintro d j (q | ⟨i, hi, q⟩)
      · exact Or.inl (Or.inl q)
      · by_cases ei : i = k
        · subst ei
          rcases q with q | ⟨q1, q2⟩
          · exact Or.inr (Or.inl q)
          · exact Or.inr (Or.inr ⟨by omega, q2⟩)
        · exact Or.inl (Or.inr ⟨i, by omega, q⟩)
    · have : k = 12 := by omega
      subst this
      rw [if_neg (by rw [lt_nI _ (by decide), tnI (by omega)]; omega)]
      exact ⟨w1, rfl, hc⟩
theorem tonguecp {w0 w1 : zW} {a b : Nat} {D : Nat → Nat → Prop} (h : CpD w0 w1 a b D) (hab : apart a b) : ∃ w2, f_X7_copyFrom (a + 2) (b + 2) w1 = some w2 ∧ CpD w0 w2 a b (fun d j => D d j ∨ (d = 2 ∧ j = 1) ∨ ∃ i < 12, (d = 4 + 2 * i ∧ (j = 1 ∨ j = 2)) ∨ (d = 5 + 2 * i ∧ j < 6)) := by
  have h1 := h.upd hab 1 (show 2 ≤ 50 by decide) rfl rfl
  obtain ⟨w2, e2, h2⟩ := words_loop (fun w12 => some w12) hab rfl rfl (D := fun d j => D d j ∨ (d = 2 ∧ j = 1)) zfuel 0 _ (by omega) (by unfold zfuel; omega) (h1.mono (by
    rintro d j (q | ⟨i, hi, q⟩)
    · exact q
    · omega))
  refine ⟨w2, ?_, h2.mono ?_⟩
  · rw [f_X7_copyFrom, zlet_e]
    exact e2
  · rintro d j (q | q | q)
    · exact Or.inl (Or.inl q)
    · exact Or.inl (Or.inr q)
    · exact Or.inr q
theorem walls_loop (K : Nat → Nat → zW → Option zW) {w0 : zW} {a b : Nat} (hab : apart a b) :
    ∀ (n k : Nat) (w1 : zW), k ≤ 6 → 6 - k < n → CpD w0 w1 a b (fun d j => ∃ i < k, (d = 39 + 2 * i ∧ (j = 1 ∨ j = 2 ∨ j = 3)) ∨ (d = 40 + 2 * i ∧ j < 24)) → ∃ w2, l_X8_copyFrom_2 K n a b (nI k) w1 = K a b w2 ∧ CpD w0 w2 a b (fun d j => ∃ i < 6, (d = 39 + 2 * i ∧ (j = 1 ∨ j = 2 ∨ j = 3)) ∨ (d = 40 + 2 * i ∧ j < 24)) := by
  intro n
  induction n with
  | zero => intro k w1 _ h _; omega
  | succ n ih =>
    intro k w1 hk h hc
    rw [l_X8_copyFrom_2.eq_2]
    by_cases e : k < 6
    · obtain ⟨w2, e2, h2⟩ := wallcp hc hab (x := a + 1 + 38 + 2 * k) (y := b + 1 + 38 + 2 * k) (d0 := 39 + 2 * k) (by omega) (by omega) (by omega)
      rw [if_pos (by rw [lt_nI _ (by decide), tnI (by omega)]; omega), zin_nI (by omega) (by decide), zg_t, zg_t, clamp_nI (by omega), e2, zb_s, zlet_e, nI_add]
      refine ih (k + 1) w2 (by omega) (by omega) (h2.mono ?_)
      rintro d j ⟨i, hi, q⟩
      by_cases ei : i = k
      · subst ei
        rcases q with q | ⟨q1, q2⟩
        · exact Or.inr (Or.inl q)
        · exact Or.inr (Or.inr ⟨by omega, q2⟩)
      · exact Or.inl ⟨i, by omega, q⟩
    · have : k = 6 := by omega
      subst this
      rw [if_neg (by rw [lt_nI _ (by decide), tnI (by omega)]; omega)]
      exact ⟨w1, rfl, hc⟩
def crel (d j : Nat) : Prop := (d = 0 ∧ 7 ≤ j ∧ j ≤ 12) ∨ (d = 2 ∧ j = 1) ∨ (∃ i < 12, (d = 4 + 2 * i ∧ (j = 1 ∨ j = 2)) ∨ (d = 5 + 2 * i ∧ j < 6)) ∨ (d = 28 ∧ j = 3) ∨ (d = 29 ∧ j < 60) ∨ (d = 32 ∧ j = 3) ∨ (d = 33 ∧ j < 60) ∨ (d = 36 ∧ j < 60) ∨ (d = 37 ∧ j < 27) ∨ (d = 38 ∧ j < 24) ∨ (∃ i < 6, (d = 39 + 2 * i ∧ (j = 1 ∨ j = 2 ∨ j = 3)) ∨ (d = 40 + 2 * i ∧ j < 24))
theorem towncp (w : zW) {a b : Nat} (hab : apart a b) : ∃ w2, f_X8_copyFrom a b w = some w2 ∧ CpD w w2 a b crel := by
  obtain ⟨w1, e1, h1⟩ := walls_loop (fun k29_a0 k29_a1 w11 =>
    zb (f_X7_copyFrom (k29_a0 + 2) (k29_a1 + 2) w11) fun w12 =>
    zb (f_X6_copyFrom (k29_a0 + 28) (k29_a1 + 28) w12) fun w13 =>
    zb (f_X6_copyFrom (k29_a0 + 32) (k29_a1 + 32) w13) fun w14 =>
    zguard (zcpyok (nI 0) (nI 0) (nI 60) 60 60) (zlet (zcopy w14 (k29_a1 + 36) (k29_a0 + 36) (nI 0) (nI 0) (nI 60)) fun w15 =>
    zguard (zcpyok (nI 0) (nI 0) (nI 27) 27 27) (zlet (zcopy w15 (k29_a1 + 37) (k29_a0 + 37) (nI 0) (nI 0) (nI 27)) fun w16 =>
    zguard (zcpyok (nI 0) (nI 0) (nI 24) 24 24) (zlet (zcopy w16 (k29_a1 + 38) (k29_a0 + 38) (nI 0) (nI 0) (nI 24)) fun w17 =>
    zlet (zupd w17 k29_a0 7 (w17 k29_a1 7)) fun w18 =>
    zlet (zupd w18 k29_a0 8 (w18 k29_a1 8)) fun w19 =>
    zlet (zupd w19 k29_a0 9 (w19 k29_a1 9)) fun w20 =>
    zlet (zupd w20 k29_a0 10 (w20 k29_a1 10)) fun w21 =>
    zlet (zupd w21 k29_a0 11 (w21 k29_a1 11)) fun w22 =>
    zlet (zupd w22 k29_a0 12 (w22 k29_a1 12)) fun w23 =>
    some w23)))) hab zfuel 0 w (by omega) (by unfold zfuel; omega) ⟨fun _ _ => rfl, fun d j hd ⟨i, hi, _⟩ => by omega⟩
  obtain ⟨w2, e2, h2⟩ := tonguecp h1 hab
  obtain ⟨w3, e3, h3⟩ := textcp h2 hab (x := a + 28) (y := b + 28) (d0 := 28) (by omega) rfl rfl
  obtain ⟨w4, e4, h4⟩ := textcp h3 hab (x := a + 32) (y := b + 32) (d0 := 32) (by omega) rfl rfl
  have h5 := h4.copy hab (x := a + 36) (y := b + 36) (d0 := 36) 60 (by decide) (by omega) rfl rfl
  have h6 := h5.copy hab (x := a + 37) (y := b + 37) (d0 := 37) 27 (by decide) (by omega) rfl rfl
  have h7 := h6.copy hab (x := a + 38) (y := b + 38) (d0 := 38) 24 (by decide) (by omega) rfl rfl
  have h8 := h7.upd hab (x := a) (y := b) (d0 := 0) 7 (by omega) rfl rfl
  have h9 := h8.upd hab (x := a) (y := b) (d0 := 0) 8 (by omega) rfl rfl
  have h10 := h9.upd hab (x := a) (y := b) (d0 := 0) 9 (by omega) rfl rfl
  have h11 := h10.upd hab (x := a) (y := b) (d0 := 0) 10 (by omega) rfl rfl
  have h12 := h11.upd hab (x := a) (y := b) (d0 := 0) 11 (by omega) rfl rfl
  have h13 := h12.upd hab (x := a) (y := b) (d0 := 0) 12 (by omega) rfl rfl
  refine ⟨_, ?_, h13.mono ?_⟩
  · rw [f_X8_copyFrom, e1]
    rw [e2, zb_s, e3, zb_s, e4, zb_s, cpyok 60 60 (by decide) (by decide), cpyok 27 27 (by decide) (by decide), cpyok 24 24 (by decide) (by decide)]
    simp only [zg_t, zlet_e]
  · intro d j q
    rcases q with q | q | q | q | q | q | q | q | q | q | q
    · have q' : (d = 0 ∧ j = 7) ∨ (d = 0 ∧ j = 8) ∨ (d = 0 ∧ j = 9) ∨ (d = 0 ∧ j = 10) ∨ (d = 0 ∧ j = 11) ∨ (d = 0 ∧ j = 12) := by omega
      rcases q' with q | q | q | q | q | q
      all_goals repeat (first | exact q | exact Or.inr q | apply Or.inl)
    all_goals repeat (first | exact q | exact Or.inr q | exact Or.inr (Or.inl q) | exact Or.inr (Or.inr q) | apply Or.inl)
