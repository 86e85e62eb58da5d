/-- a wall reads: some way leads from its row's begin to its end -/
def rds (s : Nat → Int32) (i : Nat) : Prop := 0 < Bw s (rowF s i) (rowN s i) 0 0
abbrev rdsB (s : Nat → Int32) (i : Nat) : Int32 := bP (0 < Bw s (rowF s i) (rowN s i) 0 0)
theorem Xtrial {w wx : zW} {s s' : Nat → Int32} (hR : RT w 1 s) (hR' : RT wx 1 s') {i : Nat} (hi : (i : Int) < (s 0).toInt) (hs : ∀ p, ¬ (8 + 27 * i ≤ p ∧ p < 35 + 27 * i) → s' p = s p) (a1 : w 118 1 = s' (8 + 27 * i)) (a2 : w 118 2 = s' (9 + 27 * i)) (a3 : w 118 3 = s' (10 + 27 * i)) (ab : ∀ j, j < wln s' i → w 119 j = wbk s' i j) : ∃ w3 w4, f_X8_spell 118 (nI i) w = some w3 ∧ f_X1_hold w3 = some (rdsB s' i, w4) ∧ SX w w4 := by
  obtain ⟨w3, x1, x2, x3⟩ := Xspell_ok hR hR' hi hs (Or.inr rfl) a1 a2 a3 ab
  have e0 : s' 0 = s 0 := hs 0 (by have := hR.2.1.1.2; omega)
  have h3 := RT_SX hR (SR.SX x2)
  have n48 := rowN_le hR' (show (i : Int) < (s' 0).toInt by rw [e0]; exact hi)
  -- the words are the same in both
  have ew : ∀ p, (p = 1 ∨ (170 ≤ p ∧ p < 266)) → s' p = s p := fun p hp => hs p (by have := hR.2.1.1.2; omega)
  have hRw : RT w3 1 s → RT w3 1 s := id
  obtain ⟨A, y1, y2⟩ := Xhold_ok h3 x3 n48
  refine ⟨w3, zset w3 113 A, x1, ?_, SX.set (SR.SX x2) _ (by omega)⟩
  rw [y1]
  have eb : ∀ d p q, bw s (rowF s' i) (rowN s' i) d p q = bw s' (rowF s' i) (rowN s' i) d p q := fun d => by
    have c1 : wcn s' = wcn s := by unfold wcn; rw [ew 1 (by omega)]
    have c12 := (wcn_ok hR).1
    have e1 : ∀ j, j < 12 → wso s' j = wso s j ∧ wle s' j = wle s j := fun j hj => by
      unfold wso wle
      rw [ew (170 + 8 * j) (by omega), ew (171 + 8 * j) (by omega)]
      exact ⟨rfl, rfl⟩
    have e2 : ∀ j, j < wcn s → ∀ f p, unl s' f j p = unl s f j p := fun j hj f p => by
      have l6 := (wle_ok hR hj).2.1
      have := (e1 j (by omega)).2
      have g : ∀ k, k ≤ 6 → unlN (fun t => f (p + t)) (wlt s' j) k = unlN (fun t => f (p + t)) (wlt s j) k := fun k => by
        induction k with
        | zero => intro _; rfl
        | succ k ih =>
          intro hk
          rw [unlN, unlN, ih (by omega)]
          unfold wlt
          rw [ew (172 + 8 * j + k) (by omega)]
      unfold unl
      rw [this, g _ l6]
    induction d with
    | zero => intro p q; rfl
    | succ d ih =>
      intro p q
      rw [bw, bw, c1]
      split
      · rfl
      · refine sm_congr _ (fun j hj => ?_)
        obtain ⟨g1, g2⟩ := e1 j (by omega)
        rw [ih, g1, g2]
        have : ed s' (rowF s' i) (rowN s' i) p q j = ed s (rowF s' i) (rowN s' i) p q j := by
          unfold ed
          rw [g1, g2, e2 j hj]
        rw [this]
  exact congrArg some (Prod.ext (bP_iff (by unfold Bw; rw [eb])) rfl)
theorem Xcopy_ok {w : zW} {s : Nat → Int32} (hR : RT w 1 s) {i : Nat} (hi : (i : Int) < (s 0).toInt) : ∃ w1, f_X9_copyFrom 118 (40 + 2 * i) w = some w1 ∧ SX w w1 ∧ w1 118 1 = s (8 + 27 * i) ∧ w1 118 2 = s (9 + 27 * i) ∧ w1 118 3 = s (10 + 27 * i) ∧ ∀ j, j < wln s i → w1 119 j = wbk s i j := by
  have q := hR.2.2.1 i hi
  unfold Rwal1 at q
  rw [show 1 + 39 + 2 * i = 40 + 2 * i by omega, show 1 + 40 + 2 * i = 40 + 2 * i + 1 by omega] at q
  have wl := wln_le hR hi
  have h6 := hR.2.1.1.2
  refine ⟨_, by rw [f_X9_copyFrom, zlet_e, zlet_e, zlet_e, cpyok 24 24 (by decide) (by decide), zg_t, zlet_e], ?_, ?_, ?_, ?_, ?_⟩
  · rw [zcopy]
    exact SX.set (SX.upd (SX.upd (SX.upd (SX.refl w) _ _ (by omega)) _ _ (by omega)) _ _ (by omega)) _ (by omega)
  · rw [zcopy, zset_ne _ _ (by omega), zupd_eq, upd_ne _ _ (by decide), zupd_eq, upd_ne _ _ (by decide), zupd_eq, upd_eq, q.1.1]
  · rw [zcopy, zset_ne _ _ (by omega), zupd_eq, upd_ne _ _ (by decide), zupd_eq, upd_eq, zupd_ne _ _ _ (by omega), q.2.1.1]
  · rw [zcopy, zset_ne _ _ (by omega), zupd_eq, upd_eq, zupd_ne _ _ _ (by omega), zupd_ne _ _ _ (by omega), q.2.2.1.1]
  · intro j hj
    rw [zcopy, zset_eq]
    unfold va_cpy
    rw [clamp_nI (by decide), clamp_nI (by decide), if_pos (by omega), zupd_ne _ _ _ (by omega), zupd_ne _ _ _ (by omega), zupd_ne _ _ _ (by omega)]
    have := (q.2.2.2 j (by rw [wl.2, tnI (by omega)]; omega)).1
    simpa [wbk] using this
/-- with other bricks in one wall the town is still one -/
theorem RT_brickE {w : zW} {s : Nat → Int32} (h : RT w 1 s) {i j b : Nat} (hi : (i : Int) < (s 0).toInt) (hj : j < wln s i) (hb : b ≤ 26) : ∃ wx, RT wx 1 (upd s (11 + 27 * i + j) (nI b)) := by
  have wl := wln_le h hi
  exact ⟨_, RT_brick h hi (by rw [wl.2, tnI (by omega)]; omega) hb⟩
theorem RT_frowE {w : zW} {s : Nat → Int32} (h : RT w 1 s) {i lo : Nat} (hi : (i : Int) < (s 0).toInt) : ∀ c, lo + c ≤ wln s i → ∃ wx, RT wx 1 (frow s (11 + 27 * i + lo) (11 + 27 * i + lo + c) (nI 0))
  | 0, _ => ⟨w, by rw [frow_end _ _ (by omega)]; exact h⟩
  | c + 1, hc => by
    obtain ⟨wx, hx⟩ := RT_frowE (lo := lo) h hi c (by omega)
    have h6 := h.2.1.1.2
    have e0 : frow s (11 + 27 * i + lo) (11 + 27 * i + lo + c) (nI 0) 0 = s 0 := frow_out (by omega)
    have el : wln (frow s (11 + 27 * i + lo) (11 + 27 * i + lo + c) (nI 0)) i = wln s i := by
      unfold wln
      rw [frow_out (by omega)]
    obtain ⟨wy, hy⟩ := RT_brickE hx (i := i) (j := lo + c) (b := 0) (by rw [e0]; exact hi) (by rw [el]; omega) (by omega)
    refine ⟨wy, ?_⟩
    have : upd (frow s (11 + 27 * i + lo) (11 + 27 * i + lo + c) (nI 0)) (11 + 27 * i + (lo + c)) (nI 0) = frow s (11 + 27 * i + lo) (11 + 27 * i + lo + (c + 1)) (nI 0) := funext fun p => by
      by_cases e : p = 11 + 27 * i + (lo + c)
      · rw [e, upd_eq, frow_in (by omega)]
      · rw [upd_ne _ _ e]
        unfold frow
        by_cases e2 : 11 + 27 * i + lo ≤ p ∧ p < 11 + 27 * i + lo + c
        · rw [if_pos e2, if_pos (by omega)]
        · rw [if_neg e2, if_neg (by omega)]
    rw [← this]
    exact hy
theorem XreadsWith {w : zW} {s : Nat → Int32} (hR : RT w 1 s) {i j b : Nat} (hi : (i : Int) < (s 0).toInt) (hj : j < wln s i) (hb : b ≤ 26) : ∃ w1, f_X11_readsWith (nI i) (nI j) (nI b) w = some (rdsB (upd s (11 + 27 * i + j) (nI b)) i, w1) ∧ SX w w1 := by
  have h6 := hR.2.1.1.2
  have wl := wln_le hR hi
  obtain ⟨wa, x1, x2, x3, x4, x5, x6⟩ := Xcopy_ok hR hi
  obtain ⟨wx, hx⟩ := RT_brickE hR hi hj hb
  have el : wln (upd s (11 + 27 * i + j) (nI b)) i = wln s i := by
    unfold wln
    rw [upd_ne _ _ (by omega)]
  obtain ⟨w3, w4, y1, y2, y3⟩ := Xtrial (w := zupd wa 119 j (nI b)) (s := s) (RT_SX hR (SX.upd x2 _ _ (by omega))) hx hi (fun p hp => upd_ne _ _ (by omega)) (by rw [zupd_ne _ _ _ (by decide), upd_ne _ _ (by omega)]; exact x3) (by rw [zupd_ne _ _ _ (by decide), upd_ne _ _ (by omega)]; exact x4) (by rw [zupd_ne _ _ _ (by decide), upd_ne _ _ (by omega)]; exact x5) (fun k hk => by
    rw [el] at hk
    rw [zupd_eq]
    unfold wbk
    by_cases e : k = j
    · rw [e, upd_eq, upd_eq]
    · rw [upd_ne _ _ e, upd_ne _ _ (by omega)]
      exact x6 k hk)
  refine ⟨w4, ?_, SX.trans (SX.upd x2 _ _ (by omega)) y3⟩
  rw [f_X11_readsWith, zin_nI (by omega) (by decide), zg_t, clamp_nI (by omega), x1, zb_s, zsto_k _ _ _ _ _ _ (by omega) (by decide), y1, zb_s, y2, zb2_s, zbool_bP, zg_t]
theorem frow_last (f : Nat → Int32) {lo hi : Nat} (v : Int32) (h : lo ≤ hi) : upd (frow f lo hi v) hi v = frow f lo (hi + 1) v := funext fun p => by
  unfold frow
  by_cases e : p = hi
  · rw [e, upd_eq, if_pos (by omega)]
  · rw [upd_ne _ _ e]
    by_cases e2 : lo ≤ p ∧ p < hi
    · rw [if_pos e2, if_pos (by omega)]
    · rw [if_neg e2, if_neg (by omega)]
theorem frow_less (f : Nat → Int32) {lo hi : Nat} (v : Int32) : upd (frow f lo hi v) lo (f lo) = frow f (lo + 1) hi v := funext fun p => by
  unfold frow
  by_cases e : p = lo
  · rw [e, upd_eq, if_neg (by omega)]
  · rw [upd_ne _ _ e]
    by_cases e2 : lo ≤ p ∧ p < hi
    · rw [if_pos e2, if_pos (by omega)]
    · rw [if_neg e2, if_neg (by omega)]
/-- only the town's row and cells aside have changed -/
def SM9 (w w2 : zW) : Prop := (∀ k, k ≠ 128 → k ≠ 129 → ¬ (132 ≤ k ∧ k < 139) → k < 143 → w2 k = w k) ∧ w2 128 2 = w 128 2 ∧ w2 128 21 = w 128 21
theorem SM9.upd {a b : zW} (h : SM9 a b) {k : Nat} (i : Nat) (v : Int32) (hk : k = 129 ∨ (132 ≤ k ∧ k < 139) ∨ 143 ≤ k) : SM9 a (zupd b k i v) := ⟨fun j hj h0 h1 h2 => by rw [zupd_ne _ _ _ (by omega)]; exact h.1 j hj h0 h1 h2, by rw [zupd_ne _ _ _ (by omega)]; exact h.2.1, by rw [zupd_ne _ _ _ (by omega)]; exact h.2.2⟩
theorem SM9.refl (a : zW) : SM9 a a := ⟨fun _ _ _ _ _ => rfl, rfl, rfl⟩
theorem SM9.trans {a b c : zW} (h : SM9 a b) (h' : SM9 b c) : SM9 a c := ⟨fun k hk h0 h1 h2 => (h'.1 k hk h0 h1 h2).trans (h.1 k hk h0 h1 h2), h'.2.1.trans h.2.1, h'.2.2.trans h.2.2⟩
theorem SM.SM9 {a b : zW} (h : SM a b) : SM9 a b := ⟨fun k hk _ h1 h2 => h.1 k hk h1 h2, h.2.1, h.2.2⟩
theorem SM9.SM {a b : zW} (h : SM9 a b) (h9 : b 129 = a 129) : SM a b := ⟨fun k hk h1 h2 => by
  by_cases e : k = 129
  · rw [e]; exact h9
  · exact h.1 k hk e h1 h2, h.2.1, h.2.2⟩
theorem Mdoor_take (K : Int32 → Int32 → Int32 → zW → Option (Int32 × zW)) {s : Nat → Int32} {i j c : Nat} (hi : i < 6) (hc : j + c ≤ 24) : ∀ (m k : Nat) (w : zW), k ≤ c → w 129 = frow s (11 + 27 * i + j) (11 + 27 * i + j + k) (nI 0) → (∀ t, t < k → w 138 t = s (11 + 27 * i + j + t)) → c - k < m → ∃ w1, l_X12_readsWithDoor_3 K m (nI i) (nI j) (nI c) (nI k) w = K (nI i) (nI j) (nI c) w1 ∧ SM9 w w1 ∧ w1 129 = frow s (11 + 27 * i + j) (11 + 27 * i + j + c) (nI 0) ∧ ∀ t, t < c → w1 138 t = s (11 + 27 * i + j + t) := by
  intro m
  induction m with
  | zero => intro k w _ _ _ h; omega
  | succ m ih =>
    intro k w hk hw ht hm
    rw [l_X12_readsWithDoor_3.eq_2]
    by_cases e : k < c
    · have e9 : w 129 (11 + 27 * i + (j + k)) = s (11 + 27 * i + j + k) := by
        rw [hw, frow_out (by omega), show 11 + 27 * i + (j + k) = 11 + 27 * i + j + k by omega]
      obtain ⟨w1, x1, x2, x3, x4⟩ := ih (k + 1) (zupd (zupd w 138 k (s (11 + 27 * i + j + k))) 129 (11 + 27 * i + (j + k)) (nI 0)) (by omega) (by
        rw [zupd_eq, zupd_ne _ _ _ (by decide), hw, show 11 + 27 * i + (j + k) = 11 + 27 * i + j + k by omega, frow_last _ _ (by omega), show 11 + 27 * i + j + (k + 1) = 11 + 27 * i + j + k + 1 by omega]) (fun t ht' => by
        rw [zupd_ne _ _ _ (by decide), zupd_eq]
        by_cases et : t = k
        · rw [et, upd_eq]
        · rw [upd_ne _ _ et]
          exact ht t (by omega)) (by omega)
      refine ⟨w1, ?_, SM9.trans (SM9.upd (SM9.upd (SM9.refl w) _ _ (by omega)) _ _ (by omega)) x2, x3, x4⟩
      rw [if_pos (by rw [lt_nI _ (by omega), tnI (by omega)]; omega), nI_add, at_k, zb_s, zld_k _ _ _ _ _ (by omega) (by decide), e9, zsto_k _ _ _ _ _ _ (by omega) (by decide), zb_s, zsto_k _ _ _ _ _ _ (by omega) (by decide), nI_add, zlet_e]
      exact x1
    · have : k = c := by omega
      subst this
      rw [if_neg (by rw [lt_nI _ (by omega), tnI (by omega)]; omega)]
      exact ⟨w, rfl, SM9.refl w, hw, ht⟩
theorem Mdoor_give (K : Int32 → zW → Option (Int32 × zW)) {s : Nat → Int32} {i j c : Nat} (a4 : Int32) (hi : i < 6) (hc : j + c ≤ 24) : ∀ (m k : Nat) (w : zW), k ≤ c → w 129 = frow s (11 + 27 * i + j + k) (11 + 27 * i + j + c) (nI 0) → (∀ t, t < c → w 138 t = s (11 + 27 * i + j + t)) → c - k < m → ∃ w1, l_X12_readsWithDoor_61 K m (nI i) (nI j) (nI c) a4 (nI k) w = K a4 w1 ∧ SM9 w w1 ∧ w1 129 = s := by
  intro m
  induction m with
  | zero => intro k w _ _ _ h; omega
  | succ m ih =>
    intro k w hk hw ht hm
    rw [l_X12_readsWithDoor_61.eq_2]
    by_cases e : k < c
    · obtain ⟨w1, x1, x2, x3⟩ := ih (k + 1) (zupd w 129 (11 + 27 * i + (j + k)) (s (11 + 27 * i + j + k))) (by omega) (by
        rw [zupd_eq, hw, show 11 + 27 * i + (j + k) = 11 + 27 * i + j + k by omega, frow_less, show 11 + 27 * i + j + (k + 1) = 11 + 27 * i + j + k + 1 by omega]) (fun t ht' => by rw [zupd_ne _ _ _ (by decide)]; exact ht t ht') (by omega)
      refine ⟨w1, ?_, SM9.trans (SM9.upd (SM9.refl w) _ _ (by omega)) x2, x3⟩
      rw [if_pos (by rw [lt_nI _ (by omega), tnI (by omega)]; omega), nI_add, at_k, zb_s, zld_k _ _ _ _ _ (by omega) (by decide), ht k e, zsto_k _ _ _ _ _ _ (by omega) (by decide), nI_add, zlet_e]
      exact x1
    · have : k = c := by omega
      subst this
      rw [if_neg (by rw [lt_nI _ (by omega), tnI (by omega)]; omega)]
      exact ⟨w, rfl, SM9.refl w, by rw [hw, frow_end _ _ (by omega)]⟩
theorem Mdoor_ok {wx w : zW} {s : Nat → Int32} (h : RT wx 1 s) (hw : w 129 = s) {i j c : Nat} (hi : (i : Int) < (s 0).toInt) (hc : j + c ≤ wln s i) : ∃ w1, f_X12_readsWithDoor (nI i) (nI j) (nI c) w = some (rdsB (frow s (11 + 27 * i + j) (11 + 27 * i + j + c) (nI 0)) i, w1) ∧ SM w w1 := by
  have h6 := h.2.1.1.2
  have wl := (wln_le h hi).1
  obtain ⟨wy, hy⟩ := RT_frowE (lo := j) h hi c hc
  obtain ⟨wa, x1, x2, x3, x4⟩ := Mdoor_take (fun k51_a1 k51_a2 k51_a3 w11 =>
    zb2 (f_X12_doesRead k51_a1 w11) fun x102 w12 =>
    l_X12_readsWithDoor_61 (fun k94_a4 w23 =>
      zguard (zbool k94_a4) (
      some (k94_a4, w23))) zfuel k51_a1 k51_a2 k51_a3 x102 (nI 0) w12) (s := s) (show i < 6 by omega) (show j + c ≤ 24 by omega) zfuel 0 w (by omega) (by rw [hw, frow_end _ _ (by omega)]) (fun t ht => by omega) (by unfold zfuel; omega)
  obtain ⟨wb, y1, y2, y3, y4⟩ := Mdoes_ok (w := wa) hy x3 (show (i : Int) < _ by rw [frow_out (by omega)]; exact hi)
  obtain ⟨wc, z1, z2, z3⟩ := Mdoor_give (fun k94_a4 w23 =>
      zguard (zbool k94_a4) (
      some (k94_a4, w23))) (s := s) (i := i) (j := j) (c := c) (rdsB (frow s (11 + 27 * i + j) (11 + 27 * i + j + c) (nI 0)) i) (by omega) (by omega) zfuel 0 wb (by omega) (by rw [y2.1 129 (by decide) (by decide) (by decide), x3, Nat.add_zero]) (fun t ht => by
      rw [y4.2]
      exact x4 t ht) (by unfold zfuel; omega)
  refine ⟨wc, ?_, SM9.SM (SM9.trans x2 (SM9.trans (SM.SM9 y2) z2)) (z3.trans hw.symm)⟩
  rw [f_X12_readsWithDoor, x1, y1, zb2_s, z1, zbool_bP, zg_t]
/-- the reference with another brick at one place -/
theorem Mother_loop {wx : zW} {s : Nat → Int32} {i j b0 : Nat} (K : Int32 → Int32 → Int32 → Int32 → zW → Option (Int32 × zW)) (h : RT wx 1 s) (hi : (i : Int) < (s 0).toInt) (hj : j < wln s i) (hb0 : b0 ≤ 26) : ∀ (m k : Nat) (a : Int32) (w : zW), k ≤ 27 → (∃ v, w 129 = upd s (11 + 27 * i + j) v) → 27 - k < m → ∃ w1 r, l_X12_othersAt_18 K m (nI i) (nI j) (nI b0) a (nI k) w = K (nI i) (nI j) (nI b0) r w1 ∧ SM9 w w1 ∧ (∃ v, w1 129 = upd s (11 + 27 * i + j) v) ∧ ∀ (Kx : Int32 → zW → Option (Int32 × zW)) (mx : Nat) (u : zW), 27 - k < mx → RT u 1 s → ∃ u1, l_X11_othersAt_21 Kx mx (nI i) (nI j) (nI b0) a (nI k) u = Kx r u1 ∧ SX u u1 := by
  have h6 := h.2.1.1.2
  have wl := (wln_le h hi).1
  intro m
  induction m with
  | zero => intro k a w _ _ h; omega
  | succ m ih =>
    intro k a w hk hw hm
    rw [l_X12_othersAt_18.eq_2]
    by_cases e : 26 < k
    · rw [if_pos (by rw [nI_lt2 _ (by decide), tnI (by omega)]; omega)]
      refine ⟨w, a, rfl, SM9.refl w, hw, fun Kx mx u hmx hu => ?_⟩
      cases mx with
      | zero => omega
      | succ mx =>
        refine ⟨u, ?_, SX.refl u⟩
        rw [l_X11_othersAt_21.eq_2, if_pos (by rw [nI_lt2 _ (by decide), tnI (by omega)]; omega)]
    · obtain ⟨v, hv⟩ := hw
      have ew : zupd w 129 (11 + 27 * i + j) (nI k) 129 = upd s (11 + 27 * i + j) (nI k) := by
        rw [zupd_eq, hv]
        exact funext fun p => by
          by_cases ep : p = 11 + 27 * i + j
          · rw [ep, upd_eq, upd_eq]
          · rw [upd_ne _ _ ep, upd_ne _ _ ep, upd_ne _ _ ep]
      rw [if_neg (by rw [nI_lt2 _ (by decide), tnI (by omega)]; omega), at_k, zb_s, zsto_k _ _ _ _ _ _ (by omega) (by decide)]
      by_cases eb : k = b0
      · obtain ⟨w1, r, x1, x2, x3, x4⟩ := ih (k + 1) (a ||| nI 0) (zupd w 129 (11 + 27 * i + j) (nI k)) (by omega) ⟨_, ew⟩ (by omega)
        refine ⟨w1, r, ?_, SM9.trans (SM9.upd (SM9.refl w) _ _ (by omega)) x2, x3, fun Kx mx u hmx hu => ?_⟩
        · rw [if_pos (by rw [eb]), j_X12_othersAt_61, j_X12_othersAt_62, zlet_e, nI_add, zlet_e]
          exact x1
        · cases mx with
          | zero => omega
          | succ mx =>
            obtain ⟨u1, y1, y2⟩ := x4 Kx mx u (by omega) hu
            refine ⟨u1, ?_, y2⟩
            rw [show a ||| nI 0 = a from Int32.or_zero] at y1
            rw [l_X11_othersAt_21.eq_2, if_neg (by rw [nI_lt2 _ (by decide), tnI (by omega)]; omega), if_pos (by rw [eb]), nI_add, zlet_e]
            exact y1
      · obtain ⟨wy, hy⟩ := RT_brickE h hi hj (show k ≤ 26 by omega)
        obtain ⟨wb, y1, y2, y3, y4⟩ := Mdoes_ok (w := zupd w 129 (11 + 27 * i + j) (nI k)) (i := i) hy ew (show (i : Int) < _ by rw [upd_ne _ _ (by omega)]; exact hi)
        have s1 : SM9 w wb := SM9.trans (SM9.upd (SM9.refl w) _ _ (by omega)) (SM.SM9 y2)
        have e9 : wb 129 = upd s (11 + 27 * i + j) (nI k) := by rw [y2.1 129 (by decide) (by decide) (by decide), ew]
        obtain ⟨bit, hbit⟩ : ∃ bit, bit = if 0 < Bw (upd s (11 + 27 * i + j) (nI k)) (rowF (upd s (11 + 27 * i + j) (nI k)) i) (rowN (upd s (11 + 27 * i + j) (nI k)) i) 0 0 then (nI 1 <<< (nI k &&& 31)) else nI 0 := ⟨_, rfl⟩
        obtain ⟨w1, r, x1, x2, x3, x4⟩ := ih (k + 1) (a ||| bit) wb (by omega) ⟨_, e9⟩ (by omega)
        refine ⟨w1, r, ?_, SM9.trans s1 x2, x3, fun Kx mx u hmx hu => ?_⟩
        · rw [if_neg (by rw [eq_nI _ (by omega), tnI (by omega)]; omega), y1, zb2_s]
          by_cases q : 0 < Bw (upd s (11 + 27 * i + j) (nI k)) (rowF (upd s (11 + 27 * i + j) (nI k)) i) (rowN (upd s (11 + 27 * i + j) (nI k)) i) 0 0
          · rw [if_pos q] at hbit
            rw [if_neg (by rw [bP_0]; exact fun z => z q), j_X12_othersAt_62, zlet_e, nI_add, zlet_e, ← hbit]
            exact x1
          · rw [if_neg q] at hbit
            rw [if_pos (by rw [bP_0]; exact q), j_X12_othersAt_61, j_X12_othersAt_62, zlet_e, nI_add, zlet_e, ← hbit]
            exact x1
        · cases mx with
          | zero => omega
          | succ mx =>
            obtain ⟨ua, z1, z2⟩ := XreadsWith hu hi hj (show k ≤ 26 by omega)
            obtain ⟨u1, g1, g2⟩ := x4 Kx mx ua (by omega) (RT_SX hu z2)
            refine ⟨u1, ?_, SX.trans z2 g2⟩
            rw [l_X11_othersAt_21.eq_2, if_neg (by rw [nI_lt2 _ (by decide), tnI (by omega)]; omega), if_neg (by rw [eq_nI _ (by omega), tnI (by omega)]; omega), z1, zb2_s]
            by_cases q : 0 < Bw (upd s (11 + 27 * i + j) (nI k)) (rowF (upd s (11 + 27 * i + j) (nI k)) i) (rowN (upd s (11 + 27 * i + j) (nI k)) i) 0 0
            · rw [if_pos q] at hbit
              rw [if_neg (by rw [bP_0]; exact fun z => z q), zlet_e, nI_add, zlet_e, ← hbit]
              exact g1
            · rw [if_neg q] at hbit
              rw [hbit, show a ||| nI 0 = a from Int32.or_zero] at g1
              rw [if_pos (by rw [bP_0]; exact q), nI_add, zlet_e]
              exact g1
