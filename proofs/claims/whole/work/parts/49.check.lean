theorem RT_wait0 {w : zW} {s : Nat → Int32} (h : RT w 1 s) : RT (zupd w 1 9 (nI 0)) 1 (upd s 5 (nI 0)) := by
  obtain ⟨h1, h2, h3, h4, h5, h6, h7, h8⟩ := h
  have e : ∀ p, p ≠ 5 → upd s 5 (nI 0) p = s p := fun p hp => upd_ne _ _ hp
  have ew : ∀ k, k ≠ 1 → zupd w 1 9 (nI 0) k = w k := fun k hk => zupd_ne _ _ _ hk
  refine ⟨nn_upd h1 _ _ (Or.inr (Or.inr (by decide))), ?_, Rwall_c h3 h2.1.2 (fun k _ _ => ew k (by omega)) (e 0 (by decide)) (fun p _ _ => e p (by omega)), Rword_c h4 h2.2.1.2 (fun k _ _ => ew k (by omega)) (e 1 (by decide)) (fun p _ _ => e p (by omega)), Rheap_c h5 (ew _ (by decide)) (fun p _ _ => e p (by omega)), Rtape_c h6 h2.2.2.2.2.1.2 (ew _ (by decide)) (e 4 (by decide)) (fun p _ _ => e p (by omega)), fun k hk => ?_, Rtext_c h8 (fun k _ _ => ew k (by omega)) (fun p _ _ => e p (by omega))⟩
  · unfold Rcnt
    rw [e 0 (by decide), e 1 (by decide), e 2 (by decide), e 3 (by decide), e 4 (by decide), e 6 (by decide), upd_eq, ew 3 (by decide), zupd_eq, upd_ne _ _ (show 7 ≠ 9 by decide), upd_ne _ _ (show 10 ≠ 9 by decide), upd_ne _ _ (show 11 ≠ 9 by decide), upd_ne _ _ (show 8 ≠ 9 by decide), upd_eq, upd_ne _ _ (show 12 ≠ 9 by decide)]
    exact ⟨h2.1, h2.2.1, h2.2.2.1, h2.2.2.2.1, h2.2.2.2.2.1, ⟨rfl, by decide⟩, h2.2.2.2.2.2.2⟩
  · rw [upd_eq, tnI (by decide)] at hk
    omega
theorem Xnot_loop {w : zW} {g v : Nat → Int32} {c mn r : Nat} (K1 : Int32 → Option Int32) (K2 : Int32 → Int32 → Option Int32) (hm : mn ≤ 24) (hr : r ≤ mn) (hg : ∀ t, t < mn → w 39 t = g t) (hv : ∀ t, t < mn → w 115 t = v t) (h1 : ∀ t, t < r → g t = v t) (h2 : r = mn ∨ (r < mn ∧ ¬ g r = v r)) : ∀ (m k : Nat), k ≤ r → r - k < m → l_X1_firstNotSaid_12 w K1 K2 m 39 24 (nI c) (nI mn) (nI k) = if r = mn then K2 (nI c) (nI mn) else K1 (nI r) := by
  intro m
  induction m with
  | zero => intro k _ h; omega
  | succ m ih =>
    intro k hk hm'
    rw [l_X1_firstNotSaid_12.eq_2]
    by_cases e : k < mn
    · rw [if_pos (by rw [lt_nI _ (by omega), tnI (by omega)]; omega), zld_k _ _ _ _ _ (by omega) (by decide), zld_k _ _ _ _ _ (by omega) (by decide), hg k e, hv k e]
      by_cases er : k < r
      · rw [if_pos (h1 k er), zlet_e, nI_add]
        exact ih (k + 1) (by omega) (by omega)
      · have : k = r := by omega
        subst this
        have h3 : ¬ g k = v k := by
          rcases h2 with h2 | h2
          · omega
          · exact h2.2
        rw [if_neg h3, if_neg (by omega)]
    · have e1 : k = r := by omega
      have e2 : r = mn := by omega
      rw [if_neg (by rw [lt_nI _ (by omega), tnI (by omega)]; omega), if_pos e2]
theorem Mnot_loop {w : zW} {g v : Nat → Int32} {c sd mn r : Nat} (K : Int32 → Int32 → zW → Option (Int32 × zW)) (hc : c ≤ 24) (hs : sd ≤ 48) (hmn : mn = min c sd) (hr : r ≤ mn) (h15 : w 128 15 = nI sd) (hg : ∀ t, t < mn → w 129 (604 + t) = g t) (hv : ∀ t, t < mn → w 137 t = v t) (h1 : ∀ t, t < r → g t = v t) (h2 : r = mn ∨ (r < mn ∧ ¬ g r = v r)) : ∀ (m k : Nat), k ≤ r → r - k < m → l_X12_check_48 K m (nI c) (nI k) w = K (nI c) (nI r) w := by
  intro m
  induction m with
  | zero => intro k _ h; omega
  | succ m ih =>
    intro k hk hm'
    rw [l_X12_check_48.eq_2, h15]
    by_cases e : k < mn
    · rw [if_pos (by rw [lt_nI _ (by omega), tnI (by omega)]; omega), if_pos (by rw [lt_nI _ (by omega), tnI (by omega)]; omega), nI_add, zld_k _ _ _ _ _ (by omega) (by decide), zld_k _ _ _ _ _ (by omega) (by decide), hg k e, hv k e]
      by_cases er : k < r
      · rw [if_pos (h1 k er), nI_add, zlet_e]
        exact ih (k + 1) (by omega) (by omega)
      · have : k = r := by omega
        subst this
        have h3 : ¬ g k = v k := by
          rcases h2 with h2 | h2
          · omega
          · exact h2.2
        rw [if_neg h3]
    · have e1 : k = r := by omega
      have e2 : r = mn := by omega
      subst e1
      by_cases e3 : k < c
      · rw [if_pos (by rw [lt_nI _ (by omega), tnI (by omega)]; omega), if_neg (by rw [lt_nI _ (by omega), tnI (by omega)]; omega)]
      · rw [if_neg (by rw [lt_nI _ (by omega), tnI (by omega)]; omega)]
def ckG (a1 x1 : Int32) (w1 : zW) : Option (Int32 × zW) :=
  zb (f_X12_isWall a1 w1) fun x3 =>
  if x3 = nI 0 then
    zb2 (f_X12_error (nI 1) w1) fun x12 w5 =>
    some (x12, w5)
  else
    zb2 (f_X12_doesRead a1 w1) fun x6 w2 =>
    if x6 = nI 0 then
      zb2 (f_X12_error (nI 2) w2) fun x10 w4 =>
      some (x10, w4)
    else
      zb (f_X12_findSaid w2) fun w3 =>
      l_X12_check_48 (fun k86_a2 k86_a3 w14 =>
        j_X12_check_86 k86_a2 k86_a3 w14) zfuel x1 (nI 0) w3
theorem ckG_ok (a1 : Int32) (u : zW) : f_X12_check a1 u = ckG a1 (u 129 5) (zupd u 129 5 (nI 0)) := by
  rw [f_X12_check, zlet_e, zlet_e]
  rfl
theorem zupd_comm (w : zW) {k j : Nat} (p q : Nat) (v u : Int32) (h : k ≠ j) : zupd (zupd w k p v) j q u = zupd (zupd w j q u) k p v := funext fun x => by
  by_cases e1 : x = j
  · subst e1
    rw [zupd_eq, zupd_ne _ _ _ (Ne.symm h), zupd_ne _ _ _ (Ne.symm h), zupd_eq]
  · rw [zupd_ne _ _ _ e1]
    by_cases e2 : x = k
    · subst e2
      rw [zupd_eq, zupd_eq, zupd_ne _ _ _ e1]
    · rw [zupd_ne _ _ _ e2, zupd_ne _ _ _ e2, zupd_ne _ _ _ e1]
theorem op_check {w : zW} (hR : Rel w) (a : Int32) : OK2 (f_X11_check a) (f_X12_check a) w := by
  obtain ⟨W1, hW1⟩ : ∃ W1, W1 = zupd w 1 9 (nI 0) := ⟨_, rfl⟩
  obtain ⟨s1, hs1⟩ : ∃ s1, s1 = upd (w 129) 5 (nI 0) := ⟨_, rfl⟩
  have h : RT W1 1 s1 := by rw [hW1, hs1]; exact RT_wait0 hR.1
  have h6 := h.2.1.1.2
  have e19 : W1 129 = w 129 := by rw [hW1, zupd_ne _ _ _ (by decide)]
  have cw := hR.1.2.1.2.2.2.2.2.1
  obtain ⟨c, hc, ec, tc⟩ := nn_nI hR.1.1 5 (by decide) (by decide)
  have c24 : c ≤ 24 := by omega
  have e9 : w 1 9 = nI c := cw.1.trans ec
  have RW : Rel (zupd W1 129 5 (nI 0)) := Rel_now (s := s1) hR (by rw [hW1]; exact FX_upd (FX_refl w) _ _ (by omega)) h (FM_upd (FM_refl _) _ _ (by omega)) (by rw [zupd_eq, e19, hs1])
  have RC : ∀ wc, SX W1 wc → Rel (zupd wc 129 5 (nI 0)) ∧ zupd wc 129 5 (nI 0) 129 = s1 ∧ wc 129 = w 129 := fun wc hx => by
    have e : wc 129 = w 129 := (hx 129 (by omega)).trans e19
    refine ⟨Rel_aside RW (fun k hk => ?_) (SM.refl _), by rw [zupd_eq, e, hs1], e⟩
    by_cases e2 : k = 129
    · rw [e2, zupd_eq, zupd_eq, hx 129 (by omega)]
    · rw [zupd_ne _ _ _ e2, zupd_ne _ _ _ e2]
      exact hx k hk
  have E : ∀ k wc, 1 ≤ k → k ≤ 6 → SX W1 wc → f_X11_check a w = f_X11_error (nI k) wc → (∀ u : zW, u 129 = s1 → ∃ w2, ckG a (nI c) u = f_X12_error (nI k) w2 ∧ SM u w2) → OK2 (f_X11_check a) (f_X12_check a) w := fun k wc h1 h6 hx hX hM => by
    obtain ⟨rc, r2, r3⟩ := RC wc hx
    obtain ⟨r, wb, w2, a1, a2, a3⟩ := OK_askE (w := zupd wc 129 5 (nI 0)) (wa := zupd wc 129 5 (nI 0)) (x := f_X11_error (nI k)) (m := ckG a (nI c)) rc h1 h6 rfl (SX.refl _) (fun u hu => hM u ((hu 129 (by decide)).trans r2))
    rw [f_X11_error, zld_k _ _ _ _ _ (by omega) (by decide), zsto_k _ _ _ _ _ _ (by omega) (by decide)] at a1
    have eb := (Prod.mk.inj (Option.some.inj a1)).2
    have er := (Prod.mk.inj (Option.some.inj a1)).1
    refine ⟨r, zupd wc 127 k (wc 127 k + nI 1), w2, ?_, ?_, a3⟩
    · rw [hX, f_X11_error, zld_k _ _ _ _ _ (by omega) (by decide), zsto_k _ _ _ _ _ _ (by omega) (by decide), er]
    · rw [ckG_ok, zupd_ne _ _ _ (show 129 ≠ 127 by decide), r3, ec, zupd_comm _ _ _ _ _ (show 127 ≠ 129 by decide)]
      rw [zupd_ne _ _ _ (show 127 ≠ 129 by decide)] at eb
      rw [eb]
      exact a2
  by_cases ha : 0 ≤ a.toInt ∧ a.toInt < (s1 0).toInt
  · obtain ⟨i, hi, rfl, ei⟩ := of_toInt a ha.1
    have hi' : (i : Int) < (s1 0).toInt := by omega
    have n48 := rowN_le h hi'
    obtain ⟨wa, x1, x2, x3⟩ := Xspell_own h hi'
    obtain ⟨wb, y1, y2, y3⟩ := Xfind_ok (RT_SX h (SR.SX x2)) x3 n48
    have sx := SX.trans (SR.SX x2) y2
    have X0 : f_X11_check (nI i) w = (if bP (0 < Bw s1 (rowF s1 i) (rowN s1 i) 0 0) = nI 0 then f_X11_error (nI 2) wb else zb (f_X1_firstNotSaid 39 24 (nI c) wb) fun x11 => some (x11 + (nI 1), wb)) := by
      rw [f_X11_check, zlet_e, zlet_e, ← hW1, hasWall_spec h, zb_s, if_neg (by rw [bP_0]; omega), zin_nI (by omega) (by decide), zg_t, clamp_nI (by omega), x1, zb_s, y1, zb2_s, zb2_eta, e9]
    have M0 : ∀ u : zW, u 129 = s1 → ∃ u1, SM u u1 ∧ RM u1 (rowN s1 i) (rowF s1 i) ∧ (1 ≤ rowN s1 i → WM s1 (rowF s1 i) (rowN s1 i) 0 u1) ∧ ckG (nI i) (nI c) u = (if bP (0 < Bw s1 (rowF s1 i) (rowN s1 i) 0 0) = nI 0 then f_X12_error (nI 2) u1 else zb (f_X12_findSaid u1) fun w3 => l_X12_check_48 (fun k86_a2 k86_a3 w14 => j_X12_check_86 k86_a2 k86_a3 w14) zfuel (nI c) (nI 0) w3) := fun u hu => by
      obtain ⟨u1, z1, z2, z3, z4, _⟩ := Mdoes_ok (w := u) h hu hi'
      refine ⟨u1, z2, z3, z4, ?_⟩
      rw [ckG, isWall_spec hu h.1 h6, zb_s, if_neg (by rw [bP_0]; omega), z1, zb2_s, zb2_eta]
    by_cases B : 0 < Bw s1 (rowF s1 i) (rowN s1 i) 0 0
    · obtain ⟨m, m1, m2, m3, m4⟩ := y3 B
      have n1 : 1 ≤ rowN s1 i := by
        by_cases z : 1 ≤ rowN s1 i
        · exact z
        · have n0 : rowN s1 i = 0 := by omega
          rw [n0, Bw_end] at B
          exact absurd B (by decide)
      obtain ⟨rc, r2, r3⟩ := RC wb sx
      obtain ⟨u1, z1, z2, z3, z4⟩ := M0 (zupd wb 129 5 (nI 0)) r2
      have u9 : u1 129 = s1 := by rw [z1.1 129 (by decide) (by decide) (by decide)]; exact r2
      obtain ⟨u2, m', q1, q2, q3, q4, q5, q6⟩ := Msaid_ok (w := u1) h u9 z2 n48 (z3 n1) B
      have em : m' = m := sEnd_eq q3 m1
      subst em
      obtain ⟨mn, hmn⟩ : ∃ mn, mn = min c m' := ⟨_, rfl⟩
      obtain ⟨r, k1, k2, k3⟩ := first_bad (fun t => w 129 (604 + t) = nI (swd s1 (rowF s1 i) (rowN s1 i) t)) mn
      have wt : ∀ t, t < mn → wb 39 t = w 129 (604 + t) := fun t ht => by
        rw [sx 39 (by omega), hW1, zupd_ne _ _ _ (by decide)]
        exact hR.1.2.2.2.2.2.2.1 t (by rw [tc]; omega)
      have xl := fun K1 K2 => Xnot_loop (w := wb) (g := fun t => w 129 (604 + t)) (v := fun t => nI (swd s1 (rowF s1 i) (rowN s1 i) t)) (c := c) (mn := mn) (r := r) K1 K2 (by omega) k1 wt (fun t ht => m4 t (by omega)) k2 k3 zfuel 0 (by omega) (by unfold zfuel; omega)
      have ml := fun K => Mnot_loop (w := u2) (g := fun t => w 129 (604 + t)) (v := fun t => nI (swd s1 (rowF s1 i) (rowN s1 i) t)) (c := c) (sd := m') (mn := mn) (r := r) K c24 q4 hmn k1 q5 (fun t ht => by
        rw [q2.1 129 (by decide) (by decide) (by decide), u9, hs1, upd_ne _ _ (by omega)]) (fun t ht => q6 t (by omega)) k2 k3 zfuel 0 (by omega) (by unfold zfuel; omega)
      have emin : (if nI m' < nI c then nI m' else nI c) = nI mn := by
        by_cases z : m' < c
        · rw [if_pos (by rw [lt_nI _ (by omega), tnI (by omega)]; omega), hmn, show min c m' = m' by omega]
        · rw [if_neg (by rw [lt_nI _ (by omega), tnI (by omega)]; omega), hmn, show min c m' = c by omega]
      refine ⟨if r = mn ∧ c = m' then nI 0 else nI (r + 1), wb, u2, ?_, ?_, Rel_aside rc (SX.refl _) (SM.trans z1 q2)⟩
      · rw [X0, if_neg (by rw [bP_0]; exact fun z => z B), f_X1_firstNotSaid, m3, emin, zlet_e, xl]
        by_cases e1 : r = mn
        · rw [if_pos e1]
          by_cases e2 : c = m'
          · rw [if_pos (by rw [e2]), zb_s, if_pos ⟨e1, e2⟩]
            rfl
          · rw [if_neg (by rw [eq_nI _ (by omega), tnI (by omega)]; omega), zb_s, if_neg (fun z => e2 z.2), nI_add, e1]
        · rw [if_neg e1, zb_s, if_neg (fun z => e1 z.1), nI_add]
      · rw [ckG_ok, r3, ec, z4, if_neg (by rw [bP_0]; exact fun z => z B), q1, zb_s, ml, j_X12_check_86, q5]
        by_cases e1 : r = c
        · rw [if_pos (by rw [e1])]
          by_cases e2 : r = m'
          · rw [if_pos (by rw [e2]), if_pos (by omega)]
          · rw [if_neg (by rw [eq_nI _ (by omega), tnI (by omega)]; omega), j_X12_check_103, nI_add, if_neg (by omega), Nat.add_comm]
        · rw [if_neg (by rw [eq_nI _ (by omega), tnI (by omega)]; omega), j_X12_check_103, nI_add, if_neg (by omega), Nat.add_comm]
    · rw [if_pos (by rw [bP_0]; exact B)] at X0
      refine E 2 wb (by decide) (by decide) sx X0 (fun u hu => ?_)
      obtain ⟨u1, z1, z2, z3, z4⟩ := M0 u hu
      rw [if_pos (by rw [bP_0]; exact B)] at z4
      exact ⟨u1, z4, z1⟩
  · refine E 1 W1 (by decide) (by decide) (SX.refl _) ?_ (fun u hu => ⟨u, ?_, SM.refl u⟩)
    · rw [f_X11_check, zlet_e, zlet_e, ← hW1, hasWall_spec h, zb_s, if_pos (by rw [bP_0]; exact ha), zb2_eta]
    · rw [ckG, isWall_spec hu h.1 h6, zb_s, if_pos (by rw [bP_0]; exact ha), zb2_eta]
