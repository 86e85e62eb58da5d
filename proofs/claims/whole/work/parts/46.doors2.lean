theorem others_ok {wx : zW} {s : Nat → Int32} (h : RT wx 1 s) {i j : Nat} (hi : (i : Int) < (s 0).toInt) (hj : j < wln s i) : ∃ r, (∀ u, RT u 1 s → ∃ u1, f_X11_othersAt (nI i) (nI j) u = some (r, u1) ∧ SX u u1) ∧ ∀ w : zW, w 129 = s → ∃ w1, f_X12_othersAt (nI i) (nI j) w = some (r, w1) ∧ SM w w1 := by
  have h6 := h.2.1.1.2
  have wl := wln_le h hi
  have hb := wbk_rng h hi j hj
  obtain ⟨b0, hb0, eb0, tb0⟩ := of_toInt _ hb.1
  have key : ∀ w : zW, w 129 = s → ∃ r w1, f_X12_othersAt (nI i) (nI j) w = some (r, w1) ∧ SM w w1 ∧ ∀ u, RT u 1 s → ∃ u1, f_X11_othersAt (nI i) (nI j) u = some (r, u1) ∧ SX u u1 := fun w hw => by
    obtain ⟨w1, r, x1, x2, ⟨v, x3⟩, x4⟩ := Mother_loop (i := i) (j := j) (b0 := b0) (fun k71_a1 k71_a2 k71_a3 k71_a4 w11 =>
      zb (f_X12_at k71_a1 k71_a2) fun x105 =>
      zsto w11 129 628 x105 k71_a3 fun w12 =>
      some (k71_a4, w12)) h hi hj (by omega) zfuel 1 (nI 0) w (by omega) ⟨s (11 + 27 * i + j), by rw [hw, upd_self]⟩ (by unfold zfuel; omega)
    refine ⟨r, zupd w1 129 (11 + 27 * i + j) (nI b0), ?_, ?_, fun u hu => ?_⟩
    · rw [f_X12_othersAt, at_k, zb_s, zld_k _ _ _ _ _ (by omega) (by decide), hw, show s (11 + 27 * i + j) = nI b0 from eb0, x1, at_k, zb_s, zsto_k _ _ _ _ _ _ (by omega) (by decide)]
    · refine SM9.SM (SM9.upd x2 _ _ (by omega)) ?_
      rw [zupd_eq, x3, hw]
      exact funext fun p => by
        by_cases ep : p = 11 + 27 * i + j
        · rw [ep, upd_eq]
          exact eb0.symm
        · rw [upd_ne _ _ ep, upd_ne _ _ ep]
    · obtain ⟨u1, y1, y2⟩ := x4 (fun k60_a4 w11 => some (k60_a4, w11)) zfuel u (by unfold zfuel; omega) hu
      have q := hu.2.2.1 i hi
      unfold Rwal1 at q
      have qb := (q.2.2.2 j (by rw [wl.2, tnI (by omega)]; omega)).1
      rw [show 1 + 40 + 2 * i = 40 + 2 * i + 1 by omega, show s (11 + 27 * i + j) = nI b0 from eb0] at qb
      refine ⟨u1, ?_, y2⟩
      rw [f_X11_othersAt, zin_nI (by omega) (by decide), zg_t, clamp_nI (by omega), zld_k _ _ _ _ _ (by omega) (by decide), qb, y1]
  obtain ⟨r, w1, x1, x2, x3⟩ := key (fun _ => s) rfl
  refine ⟨r, x3, fun w hw => ?_⟩
  obtain ⟨r', w1', y1, y2, y3⟩ := key w hw
  obtain ⟨u1, z1, _⟩ := x3 wx h
  obtain ⟨u2, z2, _⟩ := y3 wx h
  have : r = r' := (Prod.mk.inj (Option.some.inj (z1.symm.trans z2))).1
  exact ⟨w1', by rw [this]; exact y1, y2⟩
theorem op_others {w : zW} (hR : Rel w) (a b : Int32) : OK2 (f_X11_others a b) (f_X12_others a b) w := by
  have h := hR.1
  have h6 := h.2.1.1.2
  by_cases ha : 0 ≤ a.toInt ∧ a.toInt < (w 129 0).toInt
  · obtain ⟨i, hi, rfl, ei⟩ := of_toInt a ha.1
    have hi' : (i : Int) < (w 129 0).toInt := by omega
    have wl := wln_le h hi'
    have h24 := (h.2.2.1 i hi').2.2.1.2
    by_cases hb : 0 ≤ b.toInt ∧ b.toInt < (w 129 (10 + 27 * i)).toInt
    · obtain ⟨j, hj, rfl, ej⟩ := of_toInt b hb.1
      have hjl : j < wln (w 129) i := by
        have t := tnI (show wln (w 129) i < 2 ^ 31 by omega)
        rw [wl.2, t] at hb
        omega
      obtain ⟨r, x1, x2⟩ := others_ok h hi' hjl
      obtain ⟨u1, y1, y2⟩ := x1 w h
      obtain ⟨w1, z1, z2⟩ := x2 u1 (y2 129 (by omega))
      refine OK_ask hR (r := r) (wa := u1) (w2 := w1) ?_ y2 ?_ z2
      · rw [f_X11_others, hasPlace_k h hi', zb_s, if_neg (by rw [bP_0]; omega), y1, zb2_s]
      · rw [f_X12_others, isWall_spec (y2 129 (by omega)) h.1 h6, zb_s, if_neg (by rw [bP_0]; omega), isPlace_k (y2 129 (by omega)) h.1 (by omega) h24, zb_s, if_neg (by rw [bP_0]; omega), z1, zb2_s]
    · refine OK_err hR (k := 1) (by decide) (by decide) ?_ (fun w1 e => ?_)
      · rw [f_X11_others, hasPlace_k h hi', zb_s, if_pos (by rw [bP_0]; exact hb), zb2_eta]
      · rw [f_X12_others, isWall_spec e h.1 h6, zb_s, if_neg (by rw [bP_0]; omega), isPlace_k e h.1 (by omega) h24, zb_s, if_pos (by rw [bP_0]; exact hb), j_X12_others_26, zb2_eta]
  · refine OK_err hR (k := 1) (by decide) (by decide) ?_ (fun w1 e => ?_)
    · rw [f_X11_others, hasPlace_n h ha, zb_s, if_pos rfl, zb2_eta]
    · rw [f_X12_others, isWall_spec e h.1 h6, zb_s, if_pos (by rw [bP_0]; exact ha), j_X12_others_26, zb2_eta]
/-- the places that a wall can spare, class -/
def spv (s : Nat → Int32) (i : Nat) : Nat → Int32
  | 0 => nI 0
  | k + 1 => if wbk s i k = nI 0 then spv s i k else if 0 < Bw (upd s (11 + 27 * i + k) (nI 0)) (rowF (upd s (11 + 27 * i + k) (nI 0)) i) (rowN (upd s (11 + 27 * i + k) (nI 0)) i) 0 0 then spv s i k ||| (nI 1 <<< (nI k &&& 31)) else spv s i k
theorem Xspare_loop {s : Nat → Int32} {i : Nat} (hi : (i : Int) < (s 0).toInt) : ∀ (m k : Nat) (w : zW), RT w 1 s → k ≤ wln s i → wln s i - k < m → ∃ w1, l_X11_spare_32 (fun k75_a3 w11 => some (k75_a3, w11)) m (nI i) (40 + 2 * i) (spv s i k) (nI k) w = some (spv s i (wln s i), w1) ∧ SX w w1 := by
  intro m
  induction m with
  | zero => intro k w _ _ h; omega
  | succ m ih =>
    intro k w h hk hm
    have wl := wln_le h hi
    have q := h.2.2.1 i hi
    unfold Rwal1 at q
    rw [show 1 + 39 + 2 * i = 40 + 2 * i by omega, show 1 + 40 + 2 * i = 40 + 2 * i + 1 by omega] at q
    rw [l_X11_spare_32.eq_2, q.2.2.1.1, wl.2]
    by_cases e : k < wln s i
    · have qb : w (40 + 2 * i + 1) k = wbk s i k := (q.2.2.2 k (by rw [wl.2, tnI (by omega)]; omega)).1
      rw [if_pos (by rw [lt_nI _ (by omega), tnI (by omega)]; omega), zld_k _ _ _ _ _ (by omega) (by decide), qb]
      by_cases e0 : wbk s i k = nI 0
      · obtain ⟨w1, x1, x2⟩ := ih (k + 1) w h (by omega) (by omega)
        rw [spv, if_pos e0] at x1
        refine ⟨w1, ?_, x2⟩
        rw [if_pos e0, zlet_e, nI_add]
        exact x1
      · obtain ⟨wa, y1, y2⟩ := XreadsWith h hi e (show 0 ≤ 26 by decide)
        obtain ⟨w1, x1, x2⟩ := ih (k + 1) wa (RT_SX h y2) (by omega) (by omega)
        rw [spv, if_neg e0] at x1
        refine ⟨w1, ?_, SX.trans y2 x2⟩
        rw [if_neg e0, y1, zb2_s]
        by_cases r : 0 < Bw (upd s (11 + 27 * i + k) (nI 0)) (rowF (upd s (11 + 27 * i + k) (nI 0)) i) (rowN (upd s (11 + 27 * i + k) (nI 0)) i) 0 0
        · rw [if_pos r] at x1
          rw [if_neg (by rw [bP_0]; exact fun z => z r), zlet_e, nI_add, zlet_e]
          exact x1
        · rw [if_neg r] at x1
          rw [if_pos (by rw [bP_0]; exact r), zlet_e, nI_add]
          exact x1
    · have : k = wln s i := by omega
      subst this
      rw [if_neg (by rw [lt_nI _ (by omega), tnI (by omega)]; omega)]
      exact ⟨w, rfl, SX.refl w⟩
theorem frow1 (s : Nat → Int32) (p : Nat) (v : Int32) : frow s p (p + 1) v = upd s p v := funext fun q => by
  unfold frow
  by_cases e : q = p
  · rw [e, upd_eq, if_pos (by omega)]
  · rw [upd_ne _ _ e, if_neg (by omega)]
theorem Mspare_loop {wx : zW} {s : Nat → Int32} {i : Nat} (h : RT wx 1 s) (hi : (i : Int) < (s 0).toInt) : ∀ (m k : Nat) (w : zW), w 129 = s → k ≤ wln s i → wln s i - k < m → ∃ w1, l_X12_spare_18 (fun k68_a2 w11 => some (k68_a2, w11)) m (nI i) (spv s i k) (nI k) w = some (spv s i (wln s i), w1) ∧ SM w w1 := by
  have h6 := h.2.1.1.2
  have wl := wln_le h hi
  intro m
  induction m with
  | zero => intro k w _ _ h; omega
  | succ m ih =>
    intro k w hw hk hm
    rw [l_X12_spare_18.eq_2, its_k hw (by omega) (by decide), show 8 + 27 * i + 2 = 10 + 27 * i by omega, wl.2, zb_s]
    by_cases e : k < wln s i
    · have hgk : s (11 + 27 * i + k) = wbk s i k := rfl
      have rg := wbk_rng h hi k e
      rw [if_pos (by rw [lt_nI _ (by omega), tnI (by omega)]; omega), at_k, zb_s, zld_k _ _ _ _ _ (by omega) (by decide), hw, hgk]
      by_cases e0 : wbk s i k = nI 0
      · obtain ⟨w1, x1, x2⟩ := ih (k + 1) w hw (by omega) (by omega)
        rw [spv, if_pos e0] at x1
        refine ⟨w1, ?_, x2⟩
        rw [if_neg (by rw [e0]; decide), j_X12_spare_59, j_X12_spare_60, show spv s i k ||| nI 0 = spv s i k from Int32.or_zero, zlet_e, nI_add, zlet_e]
        exact x1
      · have e0' := e0
        rw [eq_nI _ (by decide)] at e0'
        obtain ⟨wa, y1, y2⟩ := Mdoor_ok (w := w) h hw hi (j := k) (c := 1) (by omega)
        rw [frow1] at y1
        obtain ⟨w1, x1, x2⟩ := ih (k + 1) wa (by rw [y2.1 129 (by decide) (by decide) (by decide)]; exact hw) (by omega) (by omega)
        rw [spv, if_neg e0] at x1
        refine ⟨w1, ?_, SM.trans y2 x2⟩
        rw [if_pos (by rw [nI_lt2 _ (by decide)]; omega), y1, zb2_s]
        by_cases r : 0 < Bw (upd s (11 + 27 * i + k) (nI 0)) (rowF (upd s (11 + 27 * i + k) (nI 0)) i) (rowN (upd s (11 + 27 * i + k) (nI 0)) i) 0 0
        · rw [if_pos r] at x1
          rw [if_neg (by rw [bP_0]; exact fun z => z r), j_X12_spare_60, zlet_e, nI_add, zlet_e]
          exact x1
        · rw [if_neg r] at x1
          rw [if_pos (by rw [bP_0]; exact r), j_X12_spare_59, j_X12_spare_60, show spv s i k ||| nI 0 = spv s i k from Int32.or_zero, zlet_e, nI_add, zlet_e]
          exact x1
    · have : k = wln s i := by omega
      subst this
      rw [if_neg (by rw [lt_nI _ (by omega), tnI (by omega)]; omega)]
      exact ⟨w, rfl, SM.refl w⟩
theorem op_spare {w : zW} (hR : Rel w) (a : Int32) : OK2 (f_X11_spare a) (f_X12_spare a) w := by
  have h := hR.1
  have h6 := h.2.1.1.2
  by_cases ha : 0 ≤ a.toInt ∧ a.toInt < (w 129 0).toInt
  · obtain ⟨i, hi, rfl, ei⟩ := of_toInt a ha.1
    have hi' : (i : Int) < (w 129 0).toInt := by omega
    have wl := wln_le h hi'
    obtain ⟨u1, y1, y2⟩ := Xspare_loop hi' zfuel 0 w h (by omega) (by unfold zfuel; omega)
    obtain ⟨w1, z1, z2⟩ := Mspare_loop h hi' zfuel 0 u1 (y2 129 (by omega)) (by omega) (by unfold zfuel; omega)
    refine OK_ask hR (wa := u1) (w2 := w1) (r := spv (w 129) i (wln (w 129) i)) ?_ y2 ?_ z2
    · rw [f_X11_spare, hasWall_spec h, zb_s, if_neg (by rw [bP_0]; omega), zin_nI (by omega) (by decide), zg_t, clamp_nI (by omega)]
      exact y1
    · rw [f_X12_spare, isWall_spec (y2 129 (by omega)) h.1 h6, zb_s, if_neg (by rw [bP_0]; omega)]
      exact z1
  · refine OK_err hR (k := 1) (by decide) (by decide) ?_ (fun w1 e => ?_)
    · rw [f_X11_spare, hasWall_spec h, zb_s, if_pos (by rw [bP_0]; exact ha), zb2_eta]
    · rw [f_X12_spare, isWall_spec e h.1 h6, zb_s, if_pos (by rw [bP_0]; exact ha), zb2_eta]
theorem Xopen_loop (K : zW → Option zW) {A hi : Nat} (hA : hi ≤ 24) : ∀ (m k : Nat) (w : zW), k ≤ hi → hi - k < m → l_X9_openFrom_18 K m A (nI hi) (nI k) w = K (zset w (A + 1) (frow (w (A + 1)) k hi (nI 0))) := by
  intro m
  induction m with
  | zero => intro k w _ h; omega
  | succ m ih =>
    intro k w hk hm
    rw [l_X9_openFrom_18.eq_2]
    by_cases e : k < hi
    · rw [if_pos (by rw [lt_nI _ (by omega), tnI (by omega)]; omega), zsto_k _ _ _ _ _ _ (by omega) (by decide), zlet_e, nI_add, ih (k + 1) _ (by omega) (by omega), zset_zupd, zupd_eq, frow_step _ _ e]
    · have : k = hi := by omega
      subst this
      rw [if_neg (by rw [lt_nI _ (by omega), tnI (by omega)]; omega), frow_end _ _ (by omega), zset_self]
/-- the doors of c stones that make a wall read -/
def dov (s : Nat → Int32) (i c : Nat) : Nat → Int32
  | 0 => nI 0
  | k + 1 => if 0 < Bw (frow s (11 + 27 * i + k) (11 + 27 * i + k + c) (nI 0)) (rowF (frow s (11 + 27 * i + k) (11 + 27 * i + k + c) (nI 0)) i) (rowN (frow s (11 + 27 * i + k) (11 + 27 * i + k + c) (nI 0)) i) 0 0 then dov s i c k ||| (nI 1 <<< (nI k &&& 31)) else dov s i c k
theorem Xdoors_loop {s : Nat → Int32} {i c : Nat} (hi : (i : Int) < (s 0).toInt) (h1 : 1 ≤ c) (h12 : c ≤ 12) : ∀ (m k : Nat) (w : zW), RT w 1 s → k ≤ wln s i + 1 - c → wln s i + 1 - k < m → ∃ w1, l_X11_doors_44 (fun k125_a4 w11 => some (k125_a4, w11)) m (nI i) (nI c) (40 + 2 * i) (dov s i c k) (nI k) w = some (dov s i c (wln s i + 1 - c), w1) ∧ SX w w1 := by
  intro m
  induction m with
  | zero => intro k w _ _ h; omega
  | succ m ih =>
    intro k w h hk hm
    have h6 := h.2.1.1.2
    have wl := wln_le h hi
    have q := h.2.2.1 i hi
    unfold Rwal1 at q
    rw [show 1 + 39 + 2 * i = 40 + 2 * i by omega, show 1 + 40 + 2 * i = 40 + 2 * i + 1 by omega] at q
    rw [l_X11_doors_44.eq_2, q.2.2.1.1, wl.2, nI_add]
    by_cases e : wln s i < k + c
    · have : k = wln s i + 1 - c := by omega
      rw [if_pos (by rw [lt_nI _ (by omega), tnI (by omega)]; omega), ← this]
      exact ⟨w, rfl, SX.refl w⟩
    · obtain ⟨wa, x1, x2, x3, x4, x5, x6⟩ := Xcopy_ok h hi
      obtain ⟨wy, hy⟩ := RT_frowE (lo := k) h hi c (by omega)
      have el : wln (frow s (11 + 27 * i + k) (11 + 27 * i + k + c) (nI 0)) i = wln s i := by
        unfold wln
        rw [frow_out (by omega)]
      have op : f_X9_openFrom 118 (nI k) (nI c) wa = some (zset wa 119 (frow (wa 119) k (k + c) (nI 0))) := by
        have em : (if nI (k + c) < nI (wln s i) then nI (k + c) else nI (wln s i)) = nI (k + c) := by
          by_cases z : k + c < wln s i
          · rw [if_pos (by rw [lt_nI _ (by omega), tnI (by omega)]; omega)]
          · rw [if_neg (by rw [lt_nI _ (by omega), tnI (by omega)]; omega), show wln s i = k + c by omega]
        rw [f_X9_openFrom, x5, wl.2, nI_add, em, zlet_e, if_neg (by rw [lt_nI _ (by decide), tnI (by omega)]; omega), zlet_e, Xopen_loop _ (by omega) zfuel k wa (by omega) (by unfold zfuel; omega)]
      obtain ⟨w3, w4, y1, y2, y3⟩ := Xtrial (w := zset wa 119 (frow (wa 119) k (k + c) (nI 0))) (s := s) (RT_SX h (SX.set x2 _ (by omega))) hy hi (fun p hp => frow_out (by omega)) (by rw [zset_ne _ _ (by decide), frow_out (by omega)]; exact x3) (by rw [zset_ne _ _ (by decide), frow_out (by omega)]; exact x4) (by rw [zset_ne _ _ (by decide), frow_out (by omega)]; exact x5) (fun t ht => by
        rw [el] at ht
        rw [zset_eq]
        unfold wbk
        by_cases et : k ≤ t ∧ t < k + c
        · rw [frow_in et, frow_in (by omega)]
        · rw [frow_out et, frow_out (by omega)]
          exact x6 t ht)
      have sx := SX.trans (SX.set x2 (frow (wa 119) k (k + c) (nI 0)) (show 119 = 31 ∨ 119 = 32 ∨ 119 = 35 ∨ 119 = 36 ∨ (112 ≤ 119 ∧ 119 < 125) by omega)) y3
      obtain ⟨w1, z1, z2⟩ := ih (k + 1) w4 (RT_SX h sx) (by omega) (by omega)
      rw [dov] at z1
      refine ⟨w1, ?_, SX.trans sx z2⟩
      rw [if_neg (by rw [lt_nI _ (by omega), tnI (by omega)]; omega), x1, zb_s, op, zb_s, y1, zb_s, y2, zb2_s]
      by_cases r : 0 < Bw (frow s (11 + 27 * i + k) (11 + 27 * i + k + c) (nI 0)) (rowF (frow s (11 + 27 * i + k) (11 + 27 * i + k + c) (nI 0)) i) (rowN (frow s (11 + 27 * i + k) (11 + 27 * i + k + c) (nI 0)) i) 0 0
      · rw [if_pos r] at z1
        rw [if_neg (by rw [bP_0]; exact fun z => z r), zlet_e, nI_add, zlet_e]
        exact z1
      · rw [if_neg r] at z1
        rw [if_pos (by rw [bP_0]; exact r), nI_add, zlet_e]
        exact z1
theorem Mdoors_loop {wx : zW} {s : Nat → Int32} {i c : Nat} (h : RT wx 1 s) (hi : (i : Int) < (s 0).toInt) (h1 : 1 ≤ c) (h12 : c ≤ 12) : ∀ (m k : Nat) (w : zW), w 129 = s → k ≤ wln s i + 1 - c → wln s i + 1 - k < m → ∃ w1, l_X12_doors_29 (fun k70_a3 w11 => some (k70_a3, w11)) m (nI i) (nI c) (dov s i c k) (nI k) w = some (dov s i c (wln s i + 1 - c), w1) ∧ SM w w1 := by
  have h6 := h.2.1.1.2
  have wl := wln_le h hi
  intro m
  induction m with
  | zero => intro k w _ _ h; omega
  | succ m ih =>
    intro k w hw hk hm
    rw [l_X12_doors_29.eq_2, its_k hw (by omega) (by decide), show 8 + 27 * i + 2 = 10 + 27 * i by omega, wl.2, zb_s, nI_add]
    by_cases e : wln s i < k + c
    · have : k = wln s i + 1 - c := by omega
      rw [if_pos (by rw [lt_nI _ (by omega), tnI (by omega)]; omega), ← this]
      exact ⟨w, rfl, SM.refl w⟩
    · obtain ⟨wa, y1, y2⟩ := Mdoor_ok (w := w) h hw hi (j := k) (c := c) (by omega)
      obtain ⟨w1, z1, z2⟩ := ih (k + 1) wa (by rw [y2.1 129 (by decide) (by decide) (by decide)]; exact hw) (by omega) (by omega)
      rw [dov] at z1
      refine ⟨w1, ?_, SM.trans y2 z2⟩
      rw [if_neg (by rw [lt_nI _ (by omega), tnI (by omega)]; omega), y1, zb2_s]
      by_cases r : 0 < Bw (frow s (11 + 27 * i + k) (11 + 27 * i + k + c) (nI 0)) (rowF (frow s (11 + 27 * i + k) (11 + 27 * i + k + c) (nI 0)) i) (rowN (frow s (11 + 27 * i + k) (11 + 27 * i + k + c) (nI 0)) i) 0 0
      · rw [if_pos r] at z1
        rw [if_neg (by rw [bP_0]; exact fun z => z r), j_X12_doors_62, zlet_e, nI_add, zlet_e]
        exact z1
      · rw [if_neg r] at z1
        rw [if_pos (by rw [bP_0]; exact r), j_X12_doors_62, show dov s i c k ||| nI 0 = dov s i c k from Int32.or_zero, zlet_e, nI_add, zlet_e]
        exact z1
theorem op_doors {w : zW} (hR : Rel w) (a b : Int32) : OK2 (f_X11_doors a b) (f_X12_doors a b) w := by
  have h := hR.1
  have h6 := h.2.1.1.2
  by_cases hx : (0 ≤ a.toInt ∧ a.toInt < (w 129 0).toInt) ∧ 1 ≤ b.toInt ∧ b.toInt ≤ 12
  · obtain ⟨i, hi, rfl, ei⟩ := of_toInt a hx.1.1
    obtain ⟨c, hc, rfl, ec⟩ := of_toInt b (by omega)
    have hi' : (i : Int) < (w 129 0).toInt := by omega
    obtain ⟨u1, y1, y2⟩ := Xdoors_loop (c := c) hi' (by omega) (by omega) zfuel 0 w h (by omega) (by have := (wln_le h hi').1; unfold zfuel; omega)
    obtain ⟨w1, z1, z2⟩ := Mdoors_loop (c := c) h hi' (by omega) (by omega) zfuel 0 u1 (y2 129 (by omega)) (by omega) (by have := (wln_le h hi').1; unfold zfuel; omega)
    refine OK_ask hR (wa := u1) (w2 := w1) (r := dov (w 129) i c (wln (w 129) i + 1 - c)) ?_ y2 ?_ z2
    · rw [f_X11_doors, hasWall_spec h, zb_s, if_neg (by rw [bP_0]; omega), if_neg (by rw [lt_nI _ (by decide)]; omega), if_neg (by rw [nI_lt2 _ (by decide)]; omega), zin_nI (by omega) (by decide), zg_t, clamp_nI (by omega)]
      exact y1
    · rw [f_X12_doors, isWall_spec (y2 129 (by omega)) h.1 h6, zb_s, if_neg (by rw [bP_0]; omega), in_k _ (by decide) (by decide), zb_s, if_neg (by rw [bP_0]; omega)]
      exact z1
  · refine OK_err hR (k := 1) (by decide) (by decide) ?_ (fun w1 e => ?_)
    · rw [f_X11_doors, hasWall_spec h, zb_s]
      by_cases ha : 0 ≤ a.toInt ∧ a.toInt < (w 129 0).toInt
      · rw [if_neg (by rw [bP_0]; omega)]
        by_cases b0 : b.toInt < 1
        · rw [if_pos (by rw [lt_nI _ (by decide)]; omega), j_X11_doors_22, zb2_eta]
        · rw [if_neg (by rw [lt_nI _ (by decide)]; omega), if_pos (by rw [nI_lt2 _ (by decide)]; omega), j_X11_doors_22, zb2_eta]
      · rw [if_pos (by rw [bP_0]; exact ha), j_X11_doors_22, zb2_eta]
    · rw [f_X12_doors, isWall_spec e h.1 h6, zb_s]
      by_cases ha : 0 ≤ a.toInt ∧ a.toInt < (w 129 0).toInt
      · rw [if_neg (by rw [bP_0]; omega), in_k _ (by decide) (by decide), zb_s, if_pos (by rw [bP_0]; omega), j_X12_doors_18, zb2_eta]
      · rw [if_pos (by rw [bP_0]; exact ha), j_X12_doors_18, zb2_eta]
