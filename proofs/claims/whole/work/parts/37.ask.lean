theorem SN.SM {w w1 : zW} (h : SN w w1) : SM w w1 := ⟨fun k hk h1 h2 => h.1 k (by omega), h.2 2 (by decide), h.2 21 (by decide)⟩
theorem SX.trans {a b c : zW} (h : SX a b) (h' : SX b c) : SX a c := fun k hk => (h' k hk).trans (h k hk)
theorem SX.refl (a : zW) : SX a a := fun _ _ => rfl
theorem SM.trans {a b c : zW} (h : SM a b) (h' : SM b c) : SM a c := ⟨fun k hk h1 h2 => (h'.1 k hk h1 h2).trans (h.1 k hk h1 h2), h'.2.1.trans h.2.1, h'.2.2.trans h.2.2⟩
theorem SM.refl (a : zW) : SM a a := ⟨fun _ _ _ _ => rfl, rfl, rfl⟩
theorem SX.upd {a b : zW} (h : SX a b) {k : Nat} (i : Nat) (v : Int32) (hk : k = 31 ∨ k = 32 ∨ k = 35 ∨ k = 36 ∨ (112 ≤ k ∧ k < 125)) : SX a (zupd b k i v) := fun j hj => by rw [zupd_ne _ _ _ (by omega)]; exact h j hj
theorem SX.set {a b : zW} (h : SX a b) {k : Nat} (f : Nat → Int32) (hk : k = 31 ∨ k = 32 ∨ k = 35 ∨ k = 36 ∨ (112 ≤ k ∧ k < 125)) : SX a (zset b k f) := fun j hj => by rw [zset_ne _ _ (by omega)]; exact h j hj
theorem SM.upd {a b : zW} (h : SM a b) {k : Nat} (i : Nat) (v : Int32) (hk : (132 ≤ k ∧ k < 139) ∨ 143 ≤ k) : SM a (zupd b k i v) := ⟨fun j hj h1 h2 => by rw [zupd_ne _ _ _ (by omega)]; exact h.1 j hj h1 h2, by rw [zupd_ne _ _ _ (by omega)]; exact h.2.1, by rw [zupd_ne _ _ _ (by omega)]; exact h.2.2⟩
theorem SM.set {a b : zW} (h : SM a b) {k : Nat} (f : Nat → Int32) (hk : (132 ≤ k ∧ k < 139) ∨ 143 ≤ k) : SM a (zset b k f) := ⟨fun j hj h1 h2 => by rw [zset_ne _ _ (by omega)]; exact h.1 j hj h1 h2, by rw [zset_ne _ _ (by omega)]; exact h.2.1, by rw [zset_ne _ _ (by omega)]; exact h.2.2⟩
theorem SM.upd8 {a b : zW} (h : SM a b) {i : Nat} (v : Int32) (hi : i ≠ 2 ∧ i ≠ 21) : SM a (zupd b 128 i v) := ⟨fun j hj h1 h2 => by rw [zupd_ne _ _ _ hj]; exact h.1 j hj h1 h2, by rw [zupd_eq, upd_ne _ _ (Ne.symm hi.1)]; exact h.2.1, by rw [zupd_eq, upd_ne _ _ (Ne.symm hi.2)]; exact h.2.2⟩
theorem Rel_aside {w w1 w2 : zW} (hR : Rel w) (hx : SX w w1) (hm : SM w1 w2) : Rel w2 := by
  obtain ⟨m1, m2, m3⟩ := hm
  have e28 : w1 128 = w 128 := hx 128 (by omega)
  have g : ∀ k, k < 128 → ¬ (k = 31 ∨ k = 32 ∨ k = 35 ∨ k = 36 ∨ (112 ≤ k ∧ k < 125)) → w2 k = w k := fun k h1 h2 => (m1 k (by omega) (by omega) (by omega)).trans (hx k h2)
  have g2 : ∀ k, (129 ≤ k ∧ k < 132) ∨ (139 ≤ k ∧ k < 143) → w2 k = w k := fun k h1 => (m1 k (by omega) (by omega) (by omega)).trans (hx k (by omega))
  refine Rel_parts hR ?_ ?_ ?_ ?_ ?_
  · rw [g2 129 (by omega)]
    exact RT_aside (fun k _ _ _ => g k (by omega) (by omega)) hR.1
  · rw [g2 130 (by omega), m2, e28]
    exact fun hi => RT_congr (fun k _ _ => g k (by omega) (by omega)) (hR.2.1 hi)
  · intro k hk
    by_cases h128 : k < 128
    · exact g k h128 (by omega)
    · exact g2 k (by omega)
  · rw [m3, e28]
  · rw [g 0 (by omega) (by omega), m2, e28]
    exact hR.2.2.2.2.2
theorem OK_ask {w wa w2 : zW} {x m : zW → Option (Int32 × zW)} {r : Int32} (hR : Rel w) (hx : x w = some (r, wa)) (hs : SX w wa) (hm : m wa = some (r, w2)) (hs2 : SM wa w2) : OK2 x m w := ⟨r, wa, w2, hx, hm, Rel_aside hR hs hs2⟩
theorem OK_askE {w wa : zW} {x m : zW → Option (Int32 × zW)} {k : Nat} (hR : Rel w) (h1 : 1 ≤ k) (h6 : k ≤ 6) (hx : x w = f_X11_error (nI k) wa) (hs : SX w wa) (hm : ∀ w1 : zW, (∀ j, j ≠ 127 → w1 j = wa j) → ∃ w2, m w1 = f_X12_error (nI k) w2 ∧ SM w1 w2) : OK2 x m w := by
  have hRa : Rel wa := Rel_aside hR hs (SM.refl wa)
  obtain ⟨r, wb, wc, e1, e2, e3, e4⟩ := err_ok hRa h1 h6
  rw [f_X11_error, zld_k _ _ _ _ _ (by omega) (by decide), zsto_k _ _ _ _ _ _ (by omega) (by decide)] at e1
  have eb := (Prod.mk.inj (Option.some.inj e1)).2
  have er := (Prod.mk.inj (Option.some.inj e1)).1
  rw [f_X12_error, zld_k _ _ _ _ _ (by omega) (by decide), zsto_k _ _ _ _ _ _ (by omega) (by decide)] at e3
  have ec := (Prod.mk.inj (Option.some.inj e3)).2
  obtain ⟨w2, m1, m2⟩ := hm wb (fun j hj => by rw [← eb]; exact zupd_ne _ _ _ hj)
  refine ⟨r, wb, zupd w2 131 k (w2 131 k + nI 1), ?_, ?_, ?_⟩
  · rw [hx, f_X11_error, zld_k _ _ _ _ _ (by omega) (by decide), zsto_k _ _ _ _ _ _ (by omega) (by decide)]
    exact e1
  · rw [m1, f_X12_error, zld_k _ _ _ _ _ (by omega) (by decide), zsto_k _ _ _ _ _ _ (by omega) (by decide), er]
  · refine Rel_aside e4 (SX.refl wc) ?_
    have e31 : w2 131 = wb 131 := m2.1 131 (by decide) (by decide) (by decide)
    rw [← ec]
    refine ⟨fun j hj a b => ?_, ?_, ?_⟩
    · by_cases e : j = 131
      · subst e
        rw [zupd_eq, zupd_eq, e31]
      · rw [zupd_ne _ _ _ e, zupd_ne _ _ _ e]
        exact m2.1 j hj a b
    · rw [zupd_ne _ _ _ (by decide), zupd_ne _ _ _ (by decide)]
      exact m2.2.1
    · rw [zupd_ne _ _ _ (by decide), zupd_ne _ _ _ (by decide)]
      exact m2.2.2
theorem Xspell_own {w : zW} {s : Nat → Int32} (hR : RT w 1 s) {i : Nat} (hi : (i : Int) < (s 0).toInt) : ∃ w1, f_X8_spell (40 + 2 * i) (nI i) w = some w1 ∧ SR w w1 ∧ RX w1 (rowN s i) (rowF s i) := by
  have q := hR.2.2.1 i hi
  unfold Rwal1 at q
  rw [show 1 + 39 + 2 * i = 40 + 2 * i by omega, show 1 + 40 + 2 * i = 40 + 2 * i + 1 by omega] at q
  have l := wln_le hR hi
  exact Xspell_ok hR hR hi (fun _ _ => rfl) (Or.inl rfl) q.1.1 q.2.1.1 q.2.2.1.1 (fun j hj => (q.2.2.2 j (by rw [l.2, tnI (by omega)]; omega)).1)
theorem op_readAs {w : zW} (hR : Rel w) (a b : Int32) : OK2 (f_X11_readAs a b) (f_X12_readAs a b) w := by
  have h := hR.1
  have h6 := h.2.1.1.2
  by_cases ha : 0 ≤ a.toInt ∧ a.toInt < (w 129 0).toInt
  · obtain ⟨i, hi, rfl, ei⟩ := of_toInt a ha.1
    have hi' : (i : Int) < (w 129 0).toInt := by omega
    obtain ⟨wa, x1, x2, x3⟩ := Xspell_own h hi'
    have n48 := rowN_le h hi'
    have e9 : wa 129 = w 129 := x2 129 (by omega)
    have eX : f_X11_readAs (nI i) b w = (if 0 ≤ b.toInt ∧ b.toInt < (rowN (w 129) i : Int) then zld wa 117 48 b fun x8 => some (x8, wa) else f_X11_error (nI 1) wa) := by
      rw [f_X11_readAs, hasWall_spec h, zb_s, if_neg (by rw [bP_0]; omega), zin_nI (by omega) (by decide), zg_t, clamp_nI (by omega), x1, zb_s, x3.1]
      by_cases b0 : b.toInt < 0
      · rw [if_pos (by rw [lt_nI _ (by decide)]; omega), j_X11_readAs_65, zb2_eta, if_neg (by omega)]
      · rw [if_neg (by rw [lt_nI _ (by decide)]; omega)]
        by_cases bn : b.toInt < (rowN (w 129) i : Int)
        · rw [if_pos (by rw [lt_nI _ (by omega)]; omega), if_pos (by omega)]
        · rw [if_neg (by rw [lt_nI _ (by omega)]; omega), if_neg (by omega), j_X11_readAs_65, zb2_eta]
    have eM : ∀ w1 : zW, w1 129 = w 129 → ∃ w2, SM w1 w2 ∧ RM w2 (rowN (w 129) i) (rowF (w 129) i) ∧ f_X12_readAs (nI i) b w1 = (if 0 ≤ b.toInt ∧ b.toInt < (rowN (w 129) i : Int) then zld w2 135 48 b fun x8 => some (x8, w2) else f_X12_error (nI 1) w2) := fun w1 e => by
      obtain ⟨w2, y1, y2, y3⟩ := Mreads_ok (w := w1) h e hi'
      refine ⟨w2, SN.SM y2, y3, ?_⟩
      have em : (nI (rowN (w 129) i) - nI 1).toInt = (rowN (w 129) i : Int) - 1 := by
        rw [tsub_k (by decide) (by rw [tnI (by omega)]; omega), tnI (by omega)]
        omega
      rw [f_X12_readAs, isWall_spec e h.1 h6, zb_s, if_neg (by rw [bP_0]; omega), y1, zb_s, y3.1, in_spec, zb_s, em, tnI (by decide)]
      by_cases q : 0 ≤ b.toInt ∧ b.toInt < (rowN (w 129) i : Int)
      · rw [if_neg (by rw [bP_0]; omega), if_pos q]
      · rw [if_pos (by rw [bP_0]; omega), if_neg q, zb2_eta]
    by_cases q : 0 ≤ b.toInt ∧ b.toInt < (rowN (w 129) i : Int)
    · obtain ⟨j, hj, rfl, ej⟩ := of_toInt b q.1
      obtain ⟨w2, y1, y2, y3⟩ := eM wa e9
      rw [if_pos q] at eX y3
      rw [zld_k _ _ _ _ _ (by omega) (by decide), x3.2 j (by omega)] at eX
      rw [zld_k _ _ _ _ _ (by omega) (by decide), y2.2 j (by omega)] at y3
      exact OK_ask hR eX (SR.SX x2) y3 y1
    · rw [if_neg q] at eX
      refine OK_askE hR (k := 1) (by decide) (by decide) eX (SR.SX x2) (fun w1 e => ?_)
      obtain ⟨w2, y1, y2, y3⟩ := eM w1 ((e 129 (by decide)).trans e9)
      rw [if_neg q] at y3
      exact ⟨w2, y3, y1⟩
  · refine OK_err hR (k := 1) (by decide) (by decide) ?_ (fun w1 e => ?_)
    · rw [f_X11_readAs, hasWall_spec h, zb_s, if_pos (by rw [bP_0]; exact ha), zb2_eta]
    · rw [f_X12_readAs, isWall_spec e h.1 h6, zb_s, if_pos (by rw [bP_0]; exact ha), zb2_eta]
