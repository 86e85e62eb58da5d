def FX (w w1 : zW) : Prop := ∀ k, (52 ≤ k ∧ k < 112) ∨ 125 ≤ k ∨ k = 0 → w1 k = w k
def FM (w w2 : zW) : Prop := (∀ k, k < 128 → w2 k = w k) ∧ (w2 130 = w 130 ∧ w2 131 = w 131 ∧ w2 139 = w 139 ∧ w2 140 = w 140 ∧ w2 141 = w 141 ∧ w2 142 = w 142) ∧ w2 128 2 = w 128 2 ∧ w2 128 21 = w 128 21
theorem RT_congr {w w1 : zW} {T : Nat} {s : Nat → Int32} (h : ∀ k, T ≤ k → k ≤ T + 50 → w1 k = w k) (hR : RT w T s) : RT w1 T s := by
  obtain ⟨h1, h2, h3, h4, h5, h6, h7, h8⟩ := hR
  have e0 := h T (by omega) (by omega)
  have e2 := h (T + 2) (by omega) (by omega)
  obtain ⟨⟨c1, c1'⟩, ⟨c2, c2'⟩, c3⟩ := id h2
  refine ⟨h1, ?_, ?_, ?_, ?_, ?_, ?_, ?_⟩
  · unfold Rcnt
    rw [e0, e2]
    exact h2
  · intro i hi
    have := h3 i hi
    unfold Rwal1 at this ⊢
    rw [h (T + 39 + 2 * i) (by omega) (by omega), h (T + 40 + 2 * i) (by omega) (by omega)]
    exact this
  · intro i hi
    have := h4 i hi
    unfold Rwor1 at this ⊢
    rw [h (T + 4 + 2 * i) (by omega) (by omega), h (T + 5 + 2 * i) (by omega) (by omega)]
    exact this
  · unfold Rheap
    rw [h (T + 37) (by omega) (by omega)]
    exact h5
  · unfold Rtape
    rw [h (T + 36) (by omega) (by omega)]
    exact h6
  · unfold Rwait
    rw [h (T + 38) (by omega) (by omega)]
    exact h7
  · intro u hu
    have := h8 u hu
    unfold Rtex1 at this ⊢
    rw [h (T + 28 + 4 * u) (by omega) (by omega), h (T + 29 + 4 * u) (by omega) (by omega)]
    exact this
theorem Rel_now {w w1 w2 : zW} {s : Nat → Int32} (hR : Rel w) (hX : FX w w1) (h1 : RT w1 1 s) (hM : FM w1 w2) (hs : w2 129 = s) : Rel w2 := by
  obtain ⟨r1, r2, r3, r4, r5, r6⟩ := hR
  obtain ⟨m1, ⟨m2, m3, m4, m5, m6, m7⟩, m8, m9⟩ := hM
  have g : ∀ k, (52 ≤ k ∧ k < 112) ∨ (125 ≤ k ∧ k < 128) ∨ k = 0 → w2 k = w k := fun k hk => (m1 k (by omega)).trans (hX k (by omega))
  have e28 : w1 128 = w 128 := hX 128 (by omega)
  refine ⟨?_, ?_, ?_, ?_, ?_, ?_⟩
  · rw [hs]
    exact RT_congr (fun k _ _ => m1 k (by omega)) h1
  · intro hi
    rw [m8, e28] at hi
    rw [m2, hX 130 (by omega)]
    exact RT_congr (fun k _ _ => g k (by omega)) (r2 hi)
  · intro i hi
    have := r3 i hi
    unfold Rshe1 at this ⊢
    rw [g (104 + 2 * i) (by omega), g (105 + 2 * i) (by omega), m5, m6, m7, hX 140 (by omega), hX 141 (by omega), hX 142 (by omega)]
    exact this
  · intro k h3 h4
    rw [g 127 (by omega), m3, hX 131 (by omega)]
    exact r4 k h3 h4
  · unfold Rtra at r5 ⊢
    rw [g 125 (by omega), g 126 (by omega), m9, m4, hX 139 (by omega), e28]
    exact r5
  · rw [g 0 (by omega), m8, e28]
    exact r6
theorem FX_refl (w : zW) : FX w w := fun _ _ => rfl
theorem FM_refl (w : zW) : FM w w := ⟨fun _ _ => rfl, ⟨rfl, rfl, rfl, rfl, rfl, rfl⟩, rfl, rfl⟩
/-- both sides run, answer the same, and go on alike -/
def OK2 (x m : zW → Option (Int32 × zW)) (w : zW) : Prop := ∃ r w1 w2, x w = some (r, w1) ∧ m w1 = some (r, w2) ∧ Rel w2
theorem zb2_eta (x : Option (Int32 × zW)) : zb2 x (fun a b => some (a, b)) = x := by
  cases x <;> rfl
theorem err_ok {w : zW} {k : Nat} (hR : Rel w) (h1 : 1 ≤ k) (h6 : k ≤ 6) : ∃ r w1 w2, f_X11_error (nI k) w = some (r, w1) ∧ w1 129 = w 129 ∧ f_X12_error (nI k) w1 = some (r, w2) ∧ Rel w2 := by
  have hk := hR.2.2.2.1 k h1 h6
  refine ⟨mI 1000000 - nI k, zupd w 127 k (w 127 k + nI 1), zupd (zupd w 127 k (w 127 k + nI 1)) 131 k (w 131 k + nI 1), ?_, ?_, ?_, ?_⟩
  · rw [f_X11_error, zld_k _ _ _ _ _ (by omega) (by decide), zsto_k _ _ _ _ _ _ (by omega) (by decide)]
  · rw [zupd_ne _ _ _ (by decide)]
  · rw [f_X12_error, zld_k _ _ _ _ _ (by omega) (by decide), zsto_k _ _ _ _ _ _ (by omega) (by decide), zupd_ne _ _ _ (by decide)]
  · obtain ⟨r1, r2, r3, r4, r5, r6⟩ := hR
    have g : ∀ j, j ≠ 127 → j ≠ 131 → (zupd (zupd w 127 k (w 127 k + nI 1)) 131 k (w 131 k + nI 1)) j = w j := fun j a b => by rw [zupd_ne _ _ _ b, zupd_ne _ _ _ a]
    refine ⟨?_, ?_, ?_, ?_, ?_, ?_⟩
    · rw [g 129 (by decide) (by decide)]
      exact RT_congr (fun j _ _ => g j (by omega) (by omega)) r1
    · rw [g 128 (by decide) (by decide), g 130 (by decide) (by decide)]
      exact fun hi => RT_congr (fun j _ _ => g j (by omega) (by omega)) (r2 hi)
    · intro i hi
      have := r3 i hi
      unfold Rshe1 at this ⊢
      rw [g (104 + 2 * i) (by omega) (by omega), g (105 + 2 * i) (by omega) (by omega), g 140 (by decide) (by decide), g 141 (by decide) (by decide), g 142 (by decide) (by decide)]
      exact this
    · intro j h3 h4
      rw [zupd_eq, zupd_ne _ _ _ (by decide : (127 : Nat) ≠ 131), zupd_eq, zupd_ne _ _ _ (by decide : (131 : Nat) ≠ 127)]
      by_cases e : j = k
      · subst e
        rw [upd_eq, upd_eq, hk]
      · rw [upd_ne _ _ e, upd_ne _ _ e]
        exact r4 j h3 h4
    · unfold Rtra at r5 ⊢
      rw [g 125 (by decide) (by decide), g 126 (by decide) (by decide), g 128 (by decide) (by decide), g 139 (by decide) (by decide)]
      exact r5
    · rw [g 0 (by decide) (by decide), g 128 (by decide) (by decide)]
      exact r6
theorem OK_err {w : zW} {k : Nat} {x m : zW → Option (Int32 × zW)} (hR : Rel w) (h1 : 1 ≤ k) (h6 : k ≤ 6) (hx : x w = f_X11_error (nI k) w) (hm : ∀ w1 : zW, w1 129 = w 129 → m w1 = f_X12_error (nI k) w1) : OK2 x m w := by
  obtain ⟨r, w1, w2, a, b, c, d⟩ := err_ok hR h1 h6
  exact ⟨r, w1, w2, hx.trans a, (hm w1 b).trans c, d⟩
/-- a call that changes nothing on either side -/
theorem OK_same {w : zW} {x m : zW → Option (Int32 × zW)} (hR : Rel w) (r : Int32) (hx : x w = some (r, w)) (hm : m w = some (r, w)) : OK2 x m w := ⟨r, w, w, hx, hm, hR⟩
theorem hasWall_spec {w : zW} {s : Nat → Int32} (h : RT w 1 s) (a : Int32) : f_X8_hasWall a w = some (bP (0 ≤ a.toInt ∧ a.toInt < (s 0).toInt)) := by
  have e := h.2.1.1.1
  simp only [f_X8_hasWall, lt_nI a (show 0 < 2 ^ 31 by decide), e, Int32.lt_iff_toInt_lt]
  split
  · rw [bP_f (by omega)]
  · split
    · rw [bP_t (by omega)]
    · rw [bP_f (by omega)]
theorem isWall_spec {w : zW} {s : Nat → Int32} (hs : w 129 = s) (h : nn s) (h6 : (s 0).toInt ≤ 6) (a : Int32) : f_X12_isWall a w = some (bP (0 ≤ a.toInt ∧ a.toInt < (s 0).toInt)) := by
  have h0 := h 0 (by decide) (by decide)
  rw [f_X12_isWall, in_spec, hs]
  have e : (s 0 - nI 1).toInt = (s 0).toInt - 1 := tsub (by rw [tnI (by decide)]; omega) (by rw [tnI (by decide)]; omega)
  rw [e, zb_s, zbool_bP, zg_t, tnI (by decide)]
  congr 2
  exact propext ⟨fun q => ⟨by omega, by omega⟩, fun q => ⟨by omega, by omega⟩⟩
theorem in_k (a : Int32) {lo hi : Nat} (h1 : lo < 2 ^ 31) (h2 : hi < 2 ^ 31) : f_X12_in a (nI lo) (nI hi) = some (bP ((lo : Int) ≤ a.toInt ∧ a.toInt ≤ (hi : Int))) := by
  rw [in_spec, tnI h1, tnI h2]
theorem tsub_k {a : Int32} {k : Nat} (hk : k < 2 ^ 31) (h : -2147483648 ≤ a.toInt - (k : Int)) : (a - nI k).toInt = a.toInt - (k : Int) := by
  have := toInt_rng a
  rw [tsub (by rw [tnI hk]; exact h) (by rw [tnI hk]; omega), tnI hk]
theorem tadd_k {a : Int32} {k : Nat} (hk : k < 2 ^ 31) (h : a.toInt + (k : Int) < 2147483648) : (a + nI k).toInt = a.toInt + (k : Int) := by
  have := toInt_rng a
  rw [tadd (by rw [tnI hk]; omega) (by rw [tnI hk]; exact h), tnI hk]
theorem nn_nI {s : Nat → Int32} (h : nn s) (p : Nat) (hp : p < 604) (h6 : p ≠ 6) : ∃ k : Nat, k < 2 ^ 31 ∧ s p = nI k ∧ (s p).toInt = k := of_toInt (s p) (h p hp h6)
theorem FX_upd {w w1 : zW} (h : FX w w1) {k : Nat} (i : Nat) (v : Int32) (hk : (0 < k ∧ k < 52) ∨ (112 ≤ k ∧ k < 125)) : FX w (zupd w1 k i v) := fun j hj => by rw [zupd_ne _ _ _ (by omega)]; exact h j hj
theorem FM_upd {w w1 : zW} (h : FM w w1) {k : Nat} (i : Nat) (v : Int32) (hk : k = 129 ∨ (132 ≤ k ∧ k < 139) ∨ 143 ≤ k) : FM w (zupd w1 k i v) := by
  obtain ⟨m1, ⟨m2, m3, m4, m5, m6, m7⟩, m8, m9⟩ := h
  have g : ∀ j, j ≠ k → zupd w1 k i v j = w1 j := fun j hj => zupd_ne _ _ _ hj
  exact ⟨fun j hj => (g j (by omega)).trans (m1 j hj), ⟨(g _ (by omega)).trans m2, (g _ (by omega)).trans m3, (g _ (by omega)).trans m4, (g _ (by omega)).trans m5, (g _ (by omega)).trans m6, (g _ (by omega)).trans m7⟩, by rw [g _ (by omega)]; exact m8, by rw [g _ (by omega)]; exact m9⟩
theorem FM_upd8 {w w1 : zW} (h : FM w w1) {i : Nat} (v : Int32) (hi : i ≠ 2 ∧ i ≠ 21) : FM w (zupd w1 128 i v) := by
  obtain ⟨m1, ⟨m2, m3, m4, m5, m6, m7⟩, m8, m9⟩ := h
  have g : ∀ j, j ≠ 128 → zupd w1 128 i v j = w1 j := fun j hj => zupd_ne _ _ _ hj
  exact ⟨fun j hj => (g j (by omega)).trans (m1 j hj), ⟨(g _ (by omega)).trans m2, (g _ (by omega)).trans m3, (g _ (by omega)).trans m4, (g _ (by omega)).trans m5, (g _ (by omega)).trans m6, (g _ (by omega)).trans m7⟩, by rw [zupd_eq, upd_ne _ _ (by omega)]; exact m8, by rw [zupd_eq, upd_ne _ _ (by omega)]; exact m9⟩
theorem bP_t0 (p : Prop) [Decidable p] : ((bP p).toInt = ((0 : Nat) : Int)) ↔ ¬ p := by
  rw [← eq_nI _ (by decide)]
  exact bP_0 p
theorem tdep_congr {f f1 : Nat → Int32} : ∀ c : Nat, (∀ k, k < 2 * c → f1 k = f k) → tdep f1 c = tdep f c
  | 0, _ => rfl
  | c + 1, h => by
    rw [tdep, tdep, h (2 * c) (by omega), tdep_congr c (fun k hk => h k (by omega))]
theorem textOk_congr {u c : Nat} {f f1 g g1 : Nat → Int32} (h : textOk u c f g) (hf : ∀ k, k < 2 * c → f1 k = f k) (hg : ∀ k, k < c → g1 k = g k) : textOk u c f1 g1 := by
  obtain ⟨h1, h2, h3⟩ := h
  refine ⟨h1, fun k hk => ?_, fun hc => ?_⟩
  · rw [hf _ (by omega), hf _ (by omega), hg k hk, tdep_congr k (fun j hj => hf j (by omega))]
    exact h2 k hk
  · rw [tdep_congr c hf]
    exact h3 hc
section RC
variable {w w1 : zW} {T : Nat} {s s1 : Nat → Int32}
theorem Rwall_c (h : Rwall w T s) (h6 : (s 0).toInt ≤ 6) (hw : ∀ k, T + 39 ≤ k → k ≤ T + 50 → w1 k = w k) (h0 : s1 0 = s 0) (hs : ∀ p, 8 ≤ p → p < 170 → s1 p = s p) : Rwall w1 T s1 := by
  intro i hi
  rw [h0] at hi
  have q := h i hi
  unfold Rwal1 at q ⊢
  rw [hw _ (by omega) (by omega), hw _ (by omega) (by omega), hs (8 + 27 * i) (by omega) (by omega), hs (9 + 27 * i) (by omega) (by omega), hs (10 + 27 * i) (by omega) (by omega)]
  refine ⟨q.1, q.2.1, q.2.2.1, fun j hj => ?_⟩
  have := q.2.2.1.2
  rw [hs _ (by omega) (by omega)]
  exact q.2.2.2 j hj
theorem Rword_c (h : Rword w T s) (h12 : (s 1).toInt ≤ 12) (hw : ∀ k, T + 4 ≤ k → k ≤ T + 27 → w1 k = w k) (h1 : s1 1 = s 1) (hs : ∀ p, 170 ≤ p → p < 266 → s1 p = s p) : Rword w1 T s1 := by
  intro i hi
  rw [h1] at hi
  have q := h i hi
  unfold Rwor1 at q ⊢
  rw [hw _ (by omega) (by omega), hw _ (by omega) (by omega), hs (170 + 8 * i) (by omega) (by omega), hs (171 + 8 * i) (by omega) (by omega)]
  refine ⟨q.1, q.2.1, fun j hj => ?_⟩
  have := q.2.1.2.2
  rw [hs _ (by omega) (by omega)]
  exact q.2.2 j hj
theorem Rheap_c (h : Rheap w T s) (hw : w1 (T + 37) = w (T + 37)) (hs : ∀ p, 266 < p → p < 293 → s1 p = s p) : Rheap w1 T s1 := by
  intro l h1 h2
  rw [hw, hs _ (by omega) (by omega)]
  exact h l h1 h2
theorem Rtape_c (h : Rtape w T s) (h60 : (s 4).toInt ≤ 60) (hw : w1 (T + 36) = w (T + 36)) (h4 : s1 4 = s 4) (hs : ∀ p, 544 ≤ p → p < 604 → s1 p = s p) : Rtape w1 T s1 := by
  intro k hk
  rw [h4] at hk
  rw [hw, hs _ (by omega) (by omega)]
  exact h k hk
theorem Rwait_c (h : Rwait w T s) (h24 : (s 5).toInt ≤ 24) (hw : w1 (T + 38) = w (T + 38)) (h5 : s1 5 = s 5) (hs : ∀ p, 604 ≤ p → p < 628 → s1 p = s p) : Rwait w1 T s1 := by
  intro k hk
  rw [h5] at hk
  rw [hw, hs _ (by omega) (by omega)]
  exact h k hk
theorem Rtex1_c {u : Nat} (hu : u < 2) (h : Rtex1 w T s u) (hw3 : w1 (T + 28 + 4 * u) 3 = w (T + 28 + 4 * u) 3) (hw : w1 (T + 29 + 4 * u) = w (T + 29 + 4 * u)) (hs : ∀ p, 294 ≤ p → p < 544 → s1 p = s p) : Rtex1 w1 T s1 u := by
  unfold Rtex1 at h ⊢
  have l60 := h.2.1
  rw [hw, hw3, hs (294 + 125 * u) (by omega) (by omega)]
  exact ⟨h.1, textOk_congr h.2 (fun k hk => hs _ (by omega) (by omega)) (fun _ _ => rfl)⟩
theorem Rtext_c (h : Rtext w T s) (hw : ∀ k, T + 28 ≤ k → k ≤ T + 33 → w1 k = w k) (hs : ∀ p, 294 ≤ p → p < 544 → s1 p = s p) : Rtext w1 T s1 := fun u hu =>
  Rtex1_c hu (h u hu) (by rw [hw _ (by omega) (by omega)]) (hw _ (by omega) (by omega)) hs
end RC
/-- only counted numbers change: season, purse, z -/
theorem RT_cnt {w w1 : zW} {T : Nat} {s s1 : Nat → Int32} (h : RT w T s) (hw : ∀ k, k ≠ T → w1 k = w k) (hs : ∀ p, p ≠ 2 → p ≠ 3 → p ≠ 6 → s1 p = s p) (hn : nn s1) (hc : Rcnt w1 T s1) : RT w1 T s1 := by
  obtain ⟨h1, h2, h3, h4, h5, h6, h7, h8⟩ := h
  have g : ∀ p, 7 ≤ p → s1 p = s p := fun p hp => hs p (by omega) (by omega) (by omega)
  exact ⟨hn, hc, Rwall_c h3 h2.1.2 (fun k _ _ => hw k (by omega)) (hs 0 (by omega) (by omega) (by omega)) (fun p _ _ => g p (by omega)), Rword_c h4 h2.2.1.2 (fun k _ _ => hw k (by omega)) (hs 1 (by omega) (by omega) (by omega)) (fun p _ _ => g p (by omega)), Rheap_c h5 (hw _ (by omega)) (fun p _ _ => g p (by omega)), Rtape_c h6 h2.2.2.2.2.1.2 (hw _ (by omega)) (hs 4 (by omega) (by omega) (by omega)) (fun p _ _ => g p (by omega)), Rwait_c h7 h2.2.2.2.2.2.1.2 (hw _ (by omega)) (hs 5 (by omega) (by omega) (by omega)) (fun p _ _ => g p (by omega)), Rtext_c h8 (fun k _ _ => hw k (by omega)) (fun p _ _ => g p (by omega))⟩
theorem nn_upd {s : Nat → Int32} (h : nn s) (q : Nat) (v : Int32) (hv : q = 6 ∨ 604 ≤ q ∨ 0 ≤ v.toInt) : nn (upd s q v) := by
  intro p hp h6
  by_cases e : p = q
  · subst e
    rw [upd_eq]
    omega
  · rw [upd_ne _ _ e]
    exact h p hp h6
