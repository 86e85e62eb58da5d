/-- what is drawn from a row, and the row behind it -/
def dnx (s : Nat → Int32) : Int32 := s 6 * nI 1103515245 + nI 12345
def dvl (s : Nat → Int32) : Int32 := ((dnx s).toUInt32 >>> ((nI 8).toUInt32 &&& Int32.toUInt32 31)).toInt32
def drw (s : Nat → Int32) : Nat → Int32 := upd s 6 (dnx s)
def dvn (s : Nat → Int32) : Nat := (dvl s).toInt.toNat
theorem ofBits (x : Int32) : ∃ v, v < 2 ^ 32 ∧ x = nI v := by
  refine ⟨x.toBitVec.toNat, x.toBitVec.isLt, Int32.toBitVec_inj.mp ?_⟩
  show x.toBitVec = BitVec.ofNat 32 x.toBitVec.toNat
  rw [BitVec.ofNat_toNat, BitVec.setWidth_eq]
theorem dvl_ok (s : Nat → Int32) : dvl s = nI (dvn s) ∧ dvn s < 2 ^ 24 := by
  obtain ⟨v, hv, ev⟩ := ofBits (dnx s)
  have e : dvl s = nI (v / 256) := by
    unfold dvl
    rw [ev, nI_ushr (k := 8) (d := 256) (by decide) (by decide) (by decide) hv]
  have d : dvn s = v / 256 := by
    unfold dvn
    rw [e, tnI (by omega), Int.toNat_natCast]
  rw [e, d]
  exact ⟨rfl, by omega⟩
/-- only the season, the purse and z change -/
theorem RT_spz {w w1 : zW} {s s1 : Nat → Int32} (h : RT w 1 s) (hw : ∀ k, k ≠ 1 → w1 k = w k) (hs : ∀ p, p ≠ 2 → p ≠ 3 → p ≠ 6 → s1 p = s p) (h7 : w1 1 7 = w 1 7) (h8 : w1 1 8 = w 1 8) (h9 : w1 1 9 = w 1 9) {a b : Nat} (ha : a ≤ 3) (hb : b ≤ 99999) (e2 : s1 2 = nI a) (e3 : s1 3 = nI b) (x2 : w1 1 10 = nI a) (x3 : w1 1 11 = nI b) (x6 : w1 1 12 = s1 6) : RT w1 1 s1 := by
  refine RT_cnt h hw hs ?_ ?_
  · intro p hp hp6
    by_cases c2 : p = 2
    · rw [c2, e2, tnI (by omega)]
      omega
    · by_cases c3 : p = 3
      · rw [c3, e3, tnI (by omega)]
        omega
      · rw [hs p c2 c3 hp6]
        exact h.1 p hp hp6
  · have q := h.2.1
    unfold Rcnt at q ⊢
    rw [hw (1 + 2) (by decide), h7, h8, h9, x2, x3, x6, e2, e3, hs 0 (by decide) (by decide) (by decide), hs 1 (by decide) (by decide) (by decide), hs 4 (by decide) (by decide) (by decide), hs 5 (by decide) (by decide) (by decide), tnI (by omega), tnI (by omega)]
    exact ⟨q.1, q.2.1, ⟨rfl, by omega⟩, ⟨rfl, by omega⟩, q.2.2.2.2.1, q.2.2.2.2.2.1, rfl⟩
theorem RT_z {w : zW} {s : Nat → Int32} (h : RT w 1 s) : RT (zupd w 1 12 (dnx s)) 1 (drw s) := by
  obtain ⟨a, ha, ea, ta⟩ := nn_nI h.1 2 (by decide) (by decide)
  obtain ⟨b, hb, eb, tb⟩ := nn_nI h.1 3 (by decide) (by decide)
  have c2 := h.2.1.2.2.1
  have c3 := h.2.1.2.2.2.1
  have n : ∀ t, t ≠ 12 → zupd w 1 12 (dnx s) 1 t = w 1 t := fun t ht => by rw [zupd_eq, upd_ne _ _ ht]
  exact RT_spz h (fun k hk => zupd_ne _ _ _ hk) (fun p _ _ h6 => upd_ne _ _ h6) (n 7 (by decide)) (n 8 (by decide)) (n 9 (by decide)) (a := a) (b := b) (by omega) (by omega) (by unfold drw; rw [upd_ne _ _ (by decide), ea]) (by unfold drw; rw [upd_ne _ _ (by decide), eb]) (by rw [n 10 (by decide), c2.1, ea]) (by rw [n 11 (by decide), c3.1, eb]) (by unfold drw; rw [zupd_eq, upd_eq, upd_eq])
theorem Xdraw_ok {w : zW} {s : Nat → Int32} (h : RT w 1 s) : f_X8_draw w = some (dvl s, zupd w 1 12 (dnx s)) := by
  rw [f_X8_draw, show w 1 12 = s 6 from h.2.1.2.2.2.2.2.2, zlet_e, zupd_eq, upd_eq]
  rfl
theorem Mdraw_ok {w : zW} {s : Nat → Int32} (hw : w 129 = s) : f_X12_draw w = some (dvl s, zupd w 129 6 (dnx s)) ∧ zupd w 129 6 (dnx s) 129 = drw s := by
  refine ⟨?_, by rw [zupd_eq, hw]; rfl⟩
  rw [f_X12_draw, hw, zlet_e, zupd_eq, upd_eq]
  rfl
/-- a wall's year: the row behind it, and whether a brick has fallen -/
def yp (s : Nat → Int32) (i : Nat) : Nat := dvn s % wln s i
def yrd (s : Nat → Int32) (i : Nat) : Nat := Bw (upd (drw s) (11 + 27 * i + yp s i) (nI 0)) (rowF (upd (drw s) (11 + 27 * i + yp s i) (nI 0)) i) (rowN (upd (drw s) (11 + 27 * i + yp s i) (nI 0)) i) 0 0
def yw (s : Nat → Int32) (i : Nat) : Nat → Int32 := if lc (wbk s i) (wln s i) = 0 then s else if wbk (drw s) i (yp s i) = nI 0 then drw s else if 0 < yrd s i then drp (drw s) i (yp s i) else drw s
def yn (s : Nat → Int32) (i : Nat) : Nat := if lc (wbk s i) (wln s i) = 0 then 0 else if wbk (drw s) i (yp s i) = nI 0 then 0 else if 0 < yrd s i then 1 else 0
theorem lc_0 (g : Nat → Int32) : lc g 0 = 0 := rfl
theorem drw_st (s : Nat → Int32) : drw s 0 = s 0 ∧ ∀ i, wln (drw s) i = wln s i := by
  refine ⟨upd_ne _ _ (by decide), fun i => ?_⟩
  unfold wln drw
  rw [upd_ne _ _ (by omega)]
/-- the class's one wall -/
theorem Xyear1 (K : Int32 → zW → Option (Int32 × zW)) {s : Nat → Int32} {i a m : Nat} {w : zW} (h : RT w 1 s) (hi : (i : Int) < (s 0).toInt) : ∃ w1, l_X11_passYear_42 K (m + 1) (nI a) (nI i) w = l_X11_passYear_42 K m (nI (a + yn s i)) (nI (i + 1)) w1 ∧ FX w w1 ∧ RT w1 1 (yw s i) := by
  have h6 := h.2.1.1.2
  have wl := wln_le h hi
  obtain ⟨q1, q2⟩ := Xwall_at h hi
  obtain ⟨n6, hn6, en6, tn6⟩ := nn_nI h.1 0 (by decide) (by decide)
  have d6 := h.2.1.1.1
  rw [l_X11_passYear_42.eq_2, d6, if_pos (by rw [Int32.lt_iff_toInt_lt, tnI (by omega)]; exact hi), zin_nI (by omega) (by decide), zg_t, clamp_nI (by omega), q1]
  unfold yw yn
  have skip : lc (wbk s i) (wln s i) = 0 → ∃ w1, (zlet (nI i + nI 1) fun x4 => (l_X11_passYear_42 K m) (nI a) x4 w) = l_X11_passYear_42 K m (nI (a + 0)) (nI (i + 1)) w1 ∧ FX w w1 ∧ RT w1 1 s := fun _ => ⟨w, by rw [nI_add, zlet_e]; rfl, FX_refl w, h⟩
  by_cases z : wln s i = 0
  · have c0 : lc (wbk s i) (wln s i) = 0 := by rw [z]; rfl
    rw [if_pos c0, if_pos c0, if_pos (by rw [z])]
    exact skip c0
  · rw [if_neg (by rw [eq_nI _ (by decide), tnI (by omega)]; omega), Xletters h hi, zb_s]
    have lle := lc_le (wbk s i) (wln s i)
    by_cases c0 : lc (wbk s i) (wln s i) = 0
    · rw [if_pos c0, if_pos c0, c0, if_pos rfl]
      exact skip c0
    · obtain ⟨d1, d2⟩ := dvl_ok s
      have hz := RT_z h
      obtain ⟨s0, s1⟩ := drw_st s
      have hi2 : (i : Int) < (drw s 0).toInt := by rw [s0]; exact hi
      obtain ⟨r1, r2⟩ := Xwall_at hz hi2
      rw [s1] at r1 r2
      have pl : yp s i < wln s i := Nat.mod_lt _ (by omega)
      rw [if_neg c0, if_neg c0, if_neg (by rw [eq_nI _ (by decide), tnI (by omega)]; omega), Xdraw_ok h, zb2_s, r1, decide_eq_true (show ¬ nI (wln s i) = 0 by rw [show (0 : Int32) = nI 0 from rfl, eq_nI _ (by decide), tnI (by omega)]; omega), zg_t, d1, pk_rem (by omega) (by omega) (by omega), zlet_e, show nI (dvn s % wln s i) = nI (yp s i) from rfl, zld_k _ _ _ _ _ (by omega) (by decide), r2 _ pl]
      by_cases e0 : wbk (drw s) i (yp s i) = nI 0
      · rw [if_pos e0, if_pos e0, if_pos e0]
        exact ⟨zupd w 1 12 (dnx s), by rw [nI_add, zlet_e]; rfl, FX_upd (FX_refl w) _ _ (by omega), hz⟩
      · rw [if_neg e0, if_neg e0, if_neg e0]
        obtain ⟨wa, x1, x2⟩ := XreadsWith hz hi2 (j := yp s i) (b := 0) (by rw [s1]; exact pl) (by decide)
        have ha := RT_SX hz x2
        rw [x1, zb2_s]
        unfold rdsB
        have f1 : FX w wa := FX.trans (FX_upd (FX_refl w) _ _ (by omega)) (SX.FX x2)
        by_cases r : 0 < yrd s i
        · obtain ⟨w1, y1, y2, y3⟩ := Xdrop ha hi2 (j := yp s i) (by rw [s1]; exact pl)
          rw [if_pos r, if_pos r, if_neg (by rw [bP_0]; exact fun b => b r), y1, zb_s, nI_add, zlet_e, nI_add, zlet_e]
          exact ⟨w1, rfl, FX.trans f1 y2, y3⟩
        · rw [if_neg r, if_neg r, if_pos (by rw [bP_0]; exact r), nI_add, zlet_e]
          exact ⟨wa, rfl, f1, ha⟩
theorem Myear1 (K : Int32 → Int32 → Int32 → zW → Option (Int32 × zW)) {wx : zW} {s : Nat → Int32} {i a m : Nat} (b c : Int32) {w : zW} (h : RT wx 1 s) (hw : w 129 = s) (hi : (i : Int) < (s 0).toInt) : ∃ w1, l_X12_years_61 K (m + 1) b (nI a) c (nI i) w = l_X12_years_61 K m b (nI (a + yn s i)) c (nI (i + 1)) w1 ∧ SM9 w w1 ∧ w1 129 = yw s i := by
  have h6 := h.2.1.1.2
  have wl := wln_le h hi
  rw [l_X12_years_61.eq_2, hw, if_pos (by rw [Int32.lt_iff_toInt_lt, tnI (by omega)]; exact hi), Mletters h hw hi, zb_s]
  unfold yw yn
  have lle := lc_le (wbk s i) (wln s i)
  by_cases c0 : lc (wbk s i) (wln s i) = 0
  · rw [if_pos c0, if_pos c0, c0, if_neg (by decide)]
    exact ⟨w, by rw [nI_add, zlet_e]; rfl, SM9.refl w, hw⟩
  · obtain ⟨d1, d2⟩ := dvl_ok s
    have hz := RT_z h
    obtain ⟨s0, s1⟩ := drw_st s
    have hi2 : (i : Int) < (drw s 0).toInt := by rw [s0]; exact hi
    obtain ⟨u1, u2⟩ := Mdraw_ok hw
    have pl : yp s i < wln s i := Nat.mod_lt _ (by omega)
    have wl2 := (wln_le hz hi2).2
    rw [s1] at wl2
    have rg := wbk_rng hz hi2 (yp s i) (by rw [s1]; exact pl)
    rw [if_neg c0, if_neg c0, if_pos (by rw [nI_lt2 _ (by decide), tnI (by omega)]; omega), u1, zb2_s, its_k u2 (by omega) (by decide), zb_s, show 8 + 27 * i + 2 = 10 + 27 * i by omega, wl2, decide_eq_true (show ¬ nI (wln s i) = 0 by rw [show (0 : Int32) = nI 0 from rfl, eq_nI _ (by decide), tnI (by omega)]; omega), zg_t, d1, pk_rem (by omega) (by omega) (by omega), zlet_e, show nI (dvn s % wln s i) = nI (yp s i) from rfl, at_k, zb_s, zld_k _ _ _ _ _ (by omega) (by decide), u2, show drw s (11 + 27 * i + yp s i) = wbk (drw s) i (yp s i) from rfl]
    have f0 : SM9 w (zupd w 129 6 (dnx s)) := SM9.upd (SM9.refl w) _ _ (by omega)
    by_cases e0 : wbk (drw s) i (yp s i) = nI 0
    · rw [if_pos e0, if_pos e0, e0, if_neg (by decide)]
      exact ⟨_, by rw [nI_add, zlet_e]; rfl, f0, u2⟩
    · obtain ⟨wa, x1, x2⟩ := Mdoor_ok hz u2 hi2 (j := yp s i) (c := 1) (by rw [s1]; omega)
      rw [frow1] at x1
      have ea : wa 129 = drw s := by rw [x2.1 129 (by decide) (by decide) (by decide)]; exact u2
      have e0' := e0
      rw [eq_nI _ (by decide)] at e0'
      rw [if_neg e0, if_neg e0, if_pos (by rw [nI_lt2 _ (by decide)]; omega), x1, zb2_s]
      unfold rdsB
      have f1 : SM9 w wa := SM9.trans f0 (SM.SM9 x2)
      by_cases r : 0 < yrd s i
      · obtain ⟨w1, y1, y2, y3⟩ := Mheap_ok hz ea hi2 (j := yp s i) (by rw [s1]; exact pl) e0
        rw [if_pos r, if_pos r, if_neg (by rw [bP_0]; exact fun b => b r), y1, zb_s, nI_add, zlet_e, nI_add, zlet_e]
        exact ⟨w1, rfl, SM9.trans f1 y2, y3⟩
      · rw [if_neg r, if_neg r, if_pos (by rw [bP_0]; exact r), nI_add, zlet_e]
        exact ⟨wa, rfl, f1, ea⟩
/-- the walls of a year, one after another -/
def yws (s : Nat → Int32) : Nat → Nat → Int32
  | 0 => s
  | k + 1 => yw (yws s k) k
def yns (s : Nat → Int32) : Nat → Nat
  | 0 => 0
  | k + 1 => yns s k + yn (yws s k) k
theorem yw_0 {w : zW} {s : Nat → Int32} (h : RT w 1 s) {i : Nat} (hi : (i : Int) < (s 0).toInt) : yw s i 0 = s 0 := by
  have hz := RT_z h
  obtain ⟨s0, s1⟩ := drw_st s
  unfold yw
  split
  · rfl
  · rename_i c
    have pl : yp s i < wln s i := Nat.mod_lt _ (by
      by_cases z : wln s i = 0
      · rw [z] at c
        exact absurd rfl c
      · omega)
    split
    · exact s0
    · split
      · exact ((drp_st hz (i := i) (by rw [s0]; exact hi) (by rw [s1]; exact pl)).1).trans s0
      · exact s0
theorem yws_st {w : zW} {s : Nat → Int32} (h : RT w 1 s) : ∀ k : Nat, (k : Int) ≤ (s 0).toInt → (∃ wx, RT wx 1 (yws s k)) ∧ yws s k 0 = s 0
  | 0, _ => ⟨⟨w, h⟩, rfl⟩
  | k + 1, hk => by
    obtain ⟨⟨wx, hx⟩, a⟩ := yws_st h k (by omega)
    have hi : (k : Int) < (yws s k 0).toInt := by rw [a]; omega
    obtain ⟨w1, _, _, y3⟩ := Xyear1 (m := 0) (a := 0) (fun a w => some (a, w)) hx hi
    exact ⟨⟨w1, y3⟩, (yw_0 hx hi).trans a⟩
theorem Xyear_loop {wx : zW} {s : Nat → Int32} {n : Nat} (hx : RT wx 1 s) (hn : s 0 = nI n) (h6 : n ≤ 6) : ∀ (m k : Nat) (w : zW), RT w 1 (yws s k) → k ≤ n → n - k < m → ∃ w1, l_X11_passYear_42 (fun k134_a1 w14 => some (k134_a1, w14)) m (nI (yns s k)) (nI k) w = some (nI (yns s n), w1) ∧ FX w w1 ∧ RT w1 1 (yws s n) := by
  have tn := tnI (show n < 2 ^ 31 by omega)
  intro m
  induction m with
  | zero => intro k w _ _ h; omega
  | succ m ih =>
    intro k w h hk hm
    obtain ⟨_, z0⟩ := yws_st hx k (by rw [hn, tn]; omega)
    by_cases e : k < n
    · obtain ⟨wa, x1, x2, x3⟩ := Xyear1 (m := m) (a := yns s k) (fun k134_a1 w14 => some (k134_a1, w14)) h (i := k) (by rw [z0, hn, tn]; omega)
      obtain ⟨w1, y1, y2, y3⟩ := ih (k + 1) wa x3 (by omega) (by omega)
      exact ⟨w1, x1.trans y1, FX.trans x2 y2, y3⟩
    · have : k = n := by omega
      subst this
      rw [l_X11_passYear_42.eq_2, h.2.1.1.1, z0, hn, if_neg (by rw [lt_nI _ (by omega), tn]; omega)]
      exact ⟨w, rfl, FX_refl w, h⟩
theorem Myear_loop (K : Int32 → Int32 → Int32 → zW → Option (Int32 × zW)) {wx : zW} {s : Nat → Int32} {n t : Nat} (b c : Int32) (hx : RT wx 1 s) (hn : s 0 = nI n) (h6 : n ≤ 6) : ∀ (m k : Nat) (w : zW), w 129 = yws s k → k ≤ n → n - k < m → ∃ w1, l_X12_years_61 K m b (nI (t + yns s k)) c (nI k) w = K b (nI (t + yns s n)) c w1 ∧ SM9 w w1 ∧ w1 129 = yws s n := by
  have tn := tnI (show n < 2 ^ 31 by omega)
  intro m
  induction m with
  | zero => intro k w _ _ h; omega
  | succ m ih =>
    intro k w hw hk hm
    obtain ⟨⟨wy, hy⟩, z0⟩ := yws_st hx k (by rw [hn, tn]; omega)
    by_cases e : k < n
    · obtain ⟨wa, x1, x2, x3⟩ := Myear1 (m := m) (a := t + yns s k) K b c hy hw (i := k) (by rw [z0, hn, tn]; omega)
      obtain ⟨w1, y1, y2, y3⟩ := ih (k + 1) wa x3 (by omega) (by omega)
      refine ⟨w1, x1.trans ?_, SM9.trans x2 y2, y3⟩
      rw [Nat.add_assoc]
      exact y1
    · have : k = n := by omega
      subst this
      rw [l_X12_years_61.eq_2, hw, z0, hn, if_neg (by rw [lt_nI _ (by omega), tn]; omega)]
      exact ⟨w, rfl, SM9.refl w, hw⟩
/-- the row as a year begins -/
def ybg (s : Nat → Int32) : Nat → Int32 := upd (upd (drw s) 2 (nI (dvn s % 4))) 3 (nI (min 99999 ((s 3).toInt.toNat + 50)))
theorem ybg_RT {w : zW} {s : Nat → Int32} (h : RT w 1 s) : RT (zupd (zupd (zupd w 1 12 (dnx s)) 1 10 (nI (dvn s % 4))) 1 11 (nI (min 99999 ((s 3).toInt.toNat + 50)))) 1 (ybg s) := by
  have n : ∀ t, t ≠ 12 → t ≠ 10 → t ≠ 11 → zupd (zupd (zupd w 1 12 (dnx s)) 1 10 (nI (dvn s % 4))) 1 11 (nI (min 99999 ((s 3).toInt.toNat + 50))) 1 t = w 1 t := fun t h1 h2 h3 => by rw [zupd_eq, upd_ne _ _ h3, zupd_eq, upd_ne _ _ h2, zupd_eq, upd_ne _ _ h1]
  refine RT_spz h (fun k hk => by rw [zupd_ne _ _ _ hk, zupd_ne _ _ _ hk, zupd_ne _ _ _ hk]) (fun p h2 h3 h6 => ?_) (n 7 (by decide) (by decide) (by decide)) (n 8 (by decide) (by decide) (by decide)) (n 9 (by decide) (by decide) (by decide)) (a := dvn s % 4) (b := min 99999 ((s 3).toInt.toNat + 50)) (by omega) (by omega) ?_ ?_ ?_ ?_ ?_
  · unfold ybg drw
    rw [upd_ne _ _ h3, upd_ne _ _ h2, upd_ne _ _ h6]
  · unfold ybg
    rw [upd_ne _ _ (by decide), upd_eq]
  · unfold ybg
    rw [upd_eq]
  · rw [zupd_eq, upd_ne _ _ (by decide), zupd_eq, upd_eq]
  · rw [zupd_eq, upd_eq]
  · unfold ybg drw
    rw [zupd_eq, upd_ne _ _ (by decide), zupd_eq, upd_ne _ _ (by decide), zupd_eq, upd_eq, upd_ne _ _ (by decide), upd_ne _ _ (by decide), upd_eq]
theorem ybg_0 (s : Nat → Int32) : ybg s 0 = s 0 := by
  unfold ybg drw
  rw [upd_ne _ _ (by decide), upd_ne _ _ (by decide), upd_ne _ _ (by decide)]
def nwl (s : Nat → Int32) : Nat := (s 0).toInt.toNat
theorem nwl_ok {w : zW} {T : Nat} {s : Nat → Int32} (h : RT w T s) : s 0 = nI (nwl s) ∧ nwl s ≤ 6 := by
  obtain ⟨k, hk, ek, tk⟩ := nn_nI h.1 0 (by decide) (by decide)
  have := h.2.1.1.2
  unfold nwl
  rw [tk, Int.toNat_natCast]
  exact ⟨ek, by omega⟩
/-- a whole year -/
def yY (s : Nat → Int32) : Nat → Int32 := yws (ybg s) (nwl s)
def yN (s : Nat → Int32) : Nat := yns (ybg s) (nwl s)
theorem Xyear_ok {w : zW} {s : Nat → Int32} (h : RT w 1 s) : ∃ w1, f_X11_passYear w = some (nI (yN s), w1) ∧ FX w w1 ∧ RT w1 1 (yY s) := by
  obtain ⟨n1, n6⟩ := nwl_ok h
  obtain ⟨d1, d2⟩ := dvl_ok s
  obtain ⟨pu, hpu, epu, tpu⟩ := nn_nI h.1 3 (by decide) (by decide)
  have p9 := h.2.1.2.2.2.1
  have hb := ybg_RT h
  obtain ⟨w1, x1, x2, x3⟩ := Xyear_loop hb (n := nwl s) (by rw [ybg_0]; exact n1) n6 zfuel 0 _ hb (by omega) (by unfold zfuel; omega)
  refine ⟨w1, ?_, FX.trans (FX_upd (FX_upd (FX_upd (FX_refl w) _ _ (by omega)) _ _ (by omega)) _ _ (by omega)) x2, x3⟩
  have ep : (zupd (zupd w 1 12 (dnx s)) 1 10 (nI (dvn s % 4))) 1 11 = nI pu := by
    rw [zupd_eq, upd_ne _ _ (by decide), zupd_eq, upd_ne _ _ (by decide), p9.1, epu]
  rw [tpu, Int.toNat_natCast] at x1
  rw [f_X11_passYear, Xdraw_ok h, zb2_s, d1, pk_rem (by omega) (by omega) (by omega), zlet_e, ep, nI_add, minI (by omega) (by decide), zlet_e]
  exact x1
theorem Xyears_loop {s : Nat → Int32} {n : Nat} (hn : n ≤ 20) (S : Nat → Nat → Int32) (N : Nat → Nat) (hS : S 0 = s ∧ N 0 = 0 ∧ ∀ k, S (k + 1) = yY (S k) ∧ N (k + 1) = N k + yN (S k)) : ∀ (m k : Nat) (w : zW), RT w 1 (S k) → k ≤ n → n - k < m → ∃ w1, l_X11_years_21 (fun k39_a2 w11 => some (k39_a2, w11)) m (nI n) (nI (N k)) (nI k) w = some (nI (N n), w1) ∧ FX w w1 ∧ RT w1 1 (S n) := by
  intro m
  induction m with
  | zero => intro k w _ _ h; omega
  | succ m ih =>
    intro k w h hk hm
    rw [l_X11_years_21.eq_2]
    by_cases e : k < n
    · obtain ⟨wa, x1, x2, x3⟩ := Xyear_ok h
      rw [← (hS.2.2 k).1] at x3
      obtain ⟨w1, y1, y2, y3⟩ := ih (k + 1) wa x3 (by omega) (by omega)
      refine ⟨w1, ?_, FX.trans x2 y2, y3⟩
      rw [(hS.2.2 k).2] at y1
      rw [if_pos (by rw [lt_nI _ (by omega), tnI (by omega)]; omega), x1, zb2_s, nI_add, zlet_e, nI_add, zlet_e]
      exact y1
    · have : k = n := by omega
      subst this
      rw [if_neg (by rw [lt_nI _ (by omega), tnI (by omega)]; omega)]
      exact ⟨w, rfl, FX_refl w, h⟩
theorem Myears_loop {s : Nat → Int32} {n : Nat} (hn : n ≤ 20) (S : Nat → Nat → Int32) (N : Nat → Nat) (hS : S 0 = s ∧ N 0 = 0 ∧ ∀ k, S (k + 1) = yY (S k) ∧ N (k + 1) = N k + yN (S k)) (hx : ∀ k, ∃ wx, RT wx 1 (S k)) : ∀ (m k : Nat) (w : zW), w 129 = S k → k ≤ n → n - k < m → ∃ w1, l_X12_years_20 (fun k146_a2 w11 => some (k146_a2, w11)) m (nI n) (nI (N k)) (nI k) w = some (nI (N n), w1) ∧ SM9 w w1 ∧ w1 129 = S n := by
  intro m
  induction m with
  | zero => intro k w _ _ h; omega
  | succ m ih =>
    intro k w hw hk hm
    rw [l_X12_years_20.eq_2]
    by_cases e : k < n
    · obtain ⟨wx, h⟩ := hx k
      obtain ⟨n1, n6⟩ := nwl_ok h
      obtain ⟨d1, d2⟩ := dvl_ok (S k)
      obtain ⟨pu, hpu, epu, tpu⟩ := nn_nI h.1 3 (by decide) (by decide)
      have p9 := h.2.1.2.2.2.1.2
      have hb := ybg_RT h
      obtain ⟨u1, u2⟩ := Mdraw_ok hw
      have e9 : zupd (zupd (zupd w 129 6 (dnx (S k))) 129 2 (nI (dvn (S k) % 4))) 129 3 (nI (min 99999 (pu + 50))) 129 = yws (ybg (S k)) 0 := by
        rw [zupd_eq, zupd_eq, u2]
        unfold yws ybg
        rw [tpu, Int.toNat_natCast]
      obtain ⟨wa, x1, x2, x3⟩ := Myear_loop (fun k140_a1 k140_a2 k140_a3 w14 =>
        zlet (k140_a3 + nI 1) fun x106 =>
        (l_X12_years_20 (fun k146_a2 w11 => some (k146_a2, w11)) m) k140_a1 k140_a2 x106 w14) (t := N k) (nI n) (nI k) hb (n := nwl (S k)) (by rw [ybg_0]; exact n1) n6 zfuel 0 _ e9 (by omega) (by unfold zfuel; omega)
      obtain ⟨w1, y1, y2, y3⟩ := ih (k + 1) wa (by rw [(hS.2.2 k).1]; exact x3) (by omega) (by omega)
      refine ⟨w1, ?_, SM9.trans (SM9.upd (SM9.upd (SM9.upd (SM9.refl w) _ _ (by omega)) _ _ (by omega)) _ _ (by omega)) (SM9.trans x2 y2), y3⟩
      have held : f_X12_held (nI (pu + 50)) (nI 0) (nI 99999) = some (nI (min 99999 (pu + 50))) := by
        unfold f_X12_held
        rw [if_neg (by rw [lt_nI _ (by decide), tnI (by omega)]; omega)]
        by_cases a : 99999 < pu + 50
        · rw [if_pos (by rw [nI_lt2 _ (by decide), tnI (by omega)]; omega), show min 99999 (pu + 50) = 99999 by omega]
        · rw [if_neg (by rw [nI_lt2 _ (by decide), tnI (by omega)]; omega), show min 99999 (pu + 50) = pu + 50 by omega]
      have ep : (zupd (zupd w 129 6 (dnx (S k))) 129 2 (nI (dvn (S k) % 4))) 129 3 = nI pu := by
        rw [zupd_eq, upd_ne _ _ (by decide), u2]
        unfold drw
        rw [upd_ne _ _ (by decide), epu]
      rw [(hS.2.2 k).2] at y1
      rw [if_pos (by rw [lt_nI _ (by omega), tnI (by omega)]; omega), u1, zb2_s, d1, pk_rem (by omega) (by omega) (by omega), zlet_e, ep, nI_add, held, zb_s, zlet_e]
      refine x1.trans ?_
      rw [nI_add, zlet_e]
      exact y1
    · have : k = n := by omega
      subst this
      rw [if_neg (by rw [lt_nI _ (by omega), tnI (by omega)]; omega)]
      exact ⟨w, rfl, SM9.refl w, hw⟩
def ySS (s : Nat → Int32) : Nat → Nat → Int32
  | 0 => s
  | k + 1 => yY (ySS s k)
def yNN (s : Nat → Int32) : Nat → Nat
  | 0 => 0
  | k + 1 => yNN s k + yN (ySS s k)
theorem op_years {w : zW} (hR : Rel w) (a : Int32) : OK2 (f_X11_years a) (f_X12_years a) w := by
  have h := hR.1
  by_cases ha : 1 ≤ a.toInt ∧ a.toInt ≤ 20
  · obtain ⟨n, hn, rfl, en⟩ := of_toInt a (by omega)
    have hS : ySS (w 129) 0 = w 129 ∧ yNN (w 129) 0 = 0 ∧ ∀ k, ySS (w 129) (k + 1) = yY (ySS (w 129) k) ∧ yNN (w 129) (k + 1) = yNN (w 129) k + yN (ySS (w 129) k) := ⟨rfl, rfl, fun k => ⟨rfl, rfl⟩⟩
    have hx : ∀ k, ∃ wx, RT wx 1 (ySS (w 129) k) := fun k => by
      induction k with
      | zero => exact ⟨w, h⟩
      | succ k ih =>
        obtain ⟨wx, hx⟩ := ih
        obtain ⟨w1, _, _, x3⟩ := Xyear_ok hx
        exact ⟨w1, x3⟩
    obtain ⟨wa, y1, y2, y3⟩ := Xyears_loop (n := n) (by omega) _ _ hS zfuel 0 w h (by omega) (by unfold zfuel; omega)
    obtain ⟨w2, z1, z2, z3⟩ := Myears_loop (n := n) (by omega) _ _ hS hx zfuel 0 wa (y2 129 (by omega)) (by omega) (by unfold zfuel; omega)
    refine OK_town hR (r := nI (yNN (w 129) n)) (wa := wa) (w2 := w2) ?_ y2 y3 ?_ z2 z3
    · rw [f_X11_years, if_neg (by rw [lt_nI _ (by decide)]; omega), if_neg (by rw [nI_lt2 _ (by decide)]; omega)]
      exact y1
    · rw [f_X12_years, in_k _ (by decide) (by decide), zb_s, if_neg (by rw [bP_0]; omega)]
      exact z1
  · refine OK_err hR (k := 1) (by decide) (by decide) ?_ (fun w1 e => ?_)
    · rw [f_X11_years]
      by_cases b : a.toInt < 1
      · rw [if_pos (by rw [lt_nI _ (by decide)]; omega), j_X11_years_11, zb2_eta]
      · rw [if_neg (by rw [lt_nI _ (by decide)]; omega), if_pos (by rw [nI_lt2 _ (by decide)]; omega), j_X11_years_11, zb2_eta]
    · rw [f_X12_years, in_k _ (by decide) (by decide), zb_s, if_pos (by rw [bP_0]; exact ha), zb2_eta]
