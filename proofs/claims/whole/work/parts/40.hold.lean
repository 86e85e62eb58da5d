theorem f_J7_ok (a na : Nat) (v : Int32) (w : zW) (hna : na < 100000) : f_J7_fill_53178 a na v w = some (zset w a (frow (w a) 0 na v)) := fill_spec a na v w hna
section HD
/-- the class's table of ends from place p on -/
def HX (s f : Nat → Int32) (n lo : Nat) (w : zW) : Prop := ∀ p, lo ≤ p → p ≤ n → ∃ v, v < 32 ∧ w 113 p = nI v ∧ ∀ q, q < 5 → tb v q = decide (0 < Bw s f n p q)
theorem Xleads {w : zW} {s f : Nat → Int32} {n j p : Nat} (h : RT w 1 s) (hr : RX w n f) (hn : n ≤ 48) (hj : j < wcn s) (hp : p < n) (ht : HX s f n (p + 1) w) : f_X1_leadsToEnd (5 + 2 * j) (nI p) w = some (bP ((p + wle s j ≤ n ∧ unl s f j p = 0) ∧ 0 < Bw s f n (p + wle s j) (aft (wso s j)))) := by
  obtain ⟨e1, e2, e3⟩ := Xword_at h hj
  obtain ⟨l1, l6, el⟩ := wle_ok h hj
  obtain ⟨s5, es⟩ := wso_ok h hj
  have a5 := aft_k _ s5
  rw [f_X1_leadsToEnd, Xstands h hj hr hn (by omega), zb_s]
  by_cases q : p + wle s j ≤ n ∧ unl s f j p = 0
  · rw [if_neg (by rw [bP_0]; exact fun a => a q), e2, e1, nI_add, zld_k _ _ _ _ _ (by omega) (by decide), ztld_k _ _ _ _ s5 (by decide), a5.1]
    obtain ⟨v, v1, v2, v3⟩ := ht (p + wle s j) (by omega) q.1
    rw [v2]
    have := tb_k v v1 _ a5.2
    have t3 := v3 _ a5.2
    by_cases b : 0 < Bw s f n (p + wle s j) (aft (wso s j))
    · rw [if_neg (by rw [this, t3]; simp [b]), bP_t ⟨q, b⟩]
    · rw [if_pos (by rw [this, t3]; simp [b]), bP_f (fun a => b a.2)]
  · rw [if_pos (by rw [bP_0]; exact q), bP_f (fun a => q a.1)]
theorem Xhold_in (K : Int32 → zW → Option (Int32 × zW)) {s f : Nat → Int32} {n p : Nat} (hn : n ≤ 48) (hp : p < n) : ∀ (m k v : Nat) (w : zW), RT w 1 s → RX w n f → HX s f n (p + 1) w → w 113 p = nI v → v < 32 → (∀ q, q < 5 → tb v q = decide (0 < sm (bs s f n p q) k)) → k ≤ wcn s → wcn s - k < m → ∃ v', l_X1_hold_33 K m (nI p) (nI k) w = K (nI p) (zupd w 113 p (nI v')) ∧ v' < 32 ∧ ∀ q, q < 5 → tb v' q = decide (0 < sm (bs s f n p q) (wcn s)) := by
  intro m
  induction m with
  | zero => intro k v w _ _ _ _ _ _ _ h; omega
  | succ m ih =>
    intro k v w h hr ht hv v32 hb hk hm
    have c12 := wcn_ok h
    rw [l_X1_hold_33.eq_2, show w 3 1 = nI (wcn s) from h.2.1.2.1.1.trans c12.2]
    by_cases e : k < wcn s
    · obtain ⟨e1, e2, e3⟩ := Xword_at h e
      obtain ⟨s5, es⟩ := wso_ok h e
      rw [if_pos (by rw [lt_nI _ (by omega), tnI (by omega)]; omega), zin_nI (by omega) (by decide), zg_t, clamp_nI (by omega), Xleads h hr hn e hp ht, zb_s]
      by_cases q : (p + wle s k ≤ n ∧ unl s f k p = 0) ∧ 0 < Bw s f n (p + wle s k) (aft (wso s k))
      · obtain ⟨o1, o2⟩ := bef_k _ s5
        obtain ⟨t1, t2, t3⟩ := tb_or v v32 (befN (wso s k)) o2
        obtain ⟨v', b1, b2, b3⟩ := ih (k + 1) (v ||| befN (wso s k)) (zupd w 113 p (nI (v ||| befN (wso s k)))) (RT_SX h (SX.upd (SX.refl w) _ _ (by omega))) ⟨by rw [zupd_ne _ _ _ (by decide)]; exact hr.1, fun j hj => by rw [zupd_ne _ _ _ (by decide)]; exact hr.2 j hj⟩ (fun p' h1 h2 => by rw [zupd_eq, upd_ne _ _ (by omega)]; exact ht p' h1 h2) (by rw [zupd_eq, upd_eq]) t2 (fun q' hq' => by
          rw [t3 q' hq', hb q' hq', tb_bef _ s5 q' hq', sm]
          unfold bs
          by_cases eb : bhd q' (wso s k) = true
          · rw [eb, if_pos ((ed_iff ..).mpr ⟨eb, q.1.1, q.1.2⟩)]
            simp
            omega
          · rw [if_neg (fun a => eb ((ed_iff ..).mp a).1)]
            simp [eb]) (by omega) (by omega)
        refine ⟨v', ?_, b2, b3⟩
        rw [if_neg (by rw [bP_0]; exact fun a => a q), zld_k _ _ _ _ _ (by omega) (by decide), zg_t, e1, ztld_k _ _ _ _ s5 (by decide), hv, o1, t1, zsto_k _ _ _ _ _ _ (by omega) (by decide), zlet_e, nI_add, b1, zupd, zset_zupd, zupd_eq, zupd]
        refine congrArg _ (congrArg _ (funext fun j => ?_))
        by_cases ej : j = p
        · rw [ej, upd_eq, upd_eq]
        · rw [upd_ne _ _ ej, upd_ne _ _ ej, upd_ne _ _ ej]
      · rw [if_pos (by rw [bP_0]; exact q), zlet_e, nI_add]
        refine ih (k + 1) v w h hr ht hv v32 (fun q' hq' => ?_) (by omega) (by omega)
        rw [hb q' hq', sm]
        have : ¬ 0 < bs s f n p q' k := fun a => q (by
          unfold bs at a
          by_cases ee : ed s f n p q' k = true
          · rw [if_pos ee] at a
            have := (ed_iff ..).mp ee
            exact ⟨this.2, a⟩
          · rw [if_neg ee] at a
            omega)
        rw [show sm (bs s f n p q') k + bs s f n p q' k = sm (bs s f n p q') k by omega]
    · have : k = wcn s := by omega
      subst this
      rw [if_neg (by rw [lt_nI _ (by omega), tnI (by omega)]; omega)]
      exact ⟨v, by rw [← hv, zupd_self], v32, hb⟩
theorem Xhold_out (K : zW → Option (Int32 × zW)) {s f : Nat → Int32} {n : Nat} (hn : n ≤ 48) : ∀ (m k : Nat) (w : zW), RT w 1 s → RX w n f → k ≤ n → HX s f n k w → (∀ p, p < k → w 113 p = nI 0) → k < m → ∃ A, l_X1_hold_26 K m (nI k + mI 1) w = K (zset w 113 A) ∧ HX s f n 0 (zset w 113 A) := by
  intro m
  induction m with
  | zero => intro k w _ _ _ _ _ h; omega
  | succ m ih =>
    intro k w h hr hk ht hz hm
    have hL : ∀ j, j < wcn s → 1 ≤ wle s j := fun j hj => (wle_ok h hj).1
    have c12 := wcn_ok h
    rw [l_X1_hold_26.eq_2]
    by_cases e : k = 0
    · subst e
      rw [if_pos (by decide)]
      exact ⟨w 113, by rw [zset_self], by rw [zset_self]; exact ht⟩
    · obtain ⟨v', a1, a2, a3⟩ := Xhold_in (fun k87_a3 w11 =>
        zlet (k87_a3 + mI 1) fun x102 =>
        (l_X1_hold_26 K m) x102 w11) (p := k - 1) hn (by omega) zfuel 0 0 w h hr (by rw [show k - 1 + 1 = k by omega]; exact ht) (hz _ (by omega)) (by decide) (fun q hq => by
          have : q = 0 ∨ q = 1 ∨ q = 2 ∨ q = 3 ∨ q = 4 := by omega
          rcases this with rfl | rfl | rfl | rfl | rfl <;> rfl) (by omega) (by unfold zfuel; omega)
      obtain ⟨A2, b1, b2⟩ := ih (k - 1) (zupd w 113 (k - 1) (nI v')) (RT_SX h (SX.upd (SX.refl w) _ _ (by omega))) ⟨by rw [zupd_ne _ _ _ (by decide)]; exact hr.1, fun j hj => by rw [zupd_ne _ _ _ (by decide)]; exact hr.2 j hj⟩ (by omega) (fun p h1 h2 => by
        rw [zupd_eq]
        by_cases ep : p = k - 1
        · rw [ep, upd_eq]
          refine ⟨v', a2, rfl, fun q hq => ?_⟩
          rw [a3 q hq, Bw_step hL hn q (by omega)]
        · rw [upd_ne _ _ ep]
          exact ht p (by omega) h2) (fun p hp => by rw [zupd_eq, upd_ne _ _ (by omega)]; exact hz p (by omega)) (by omega)
      rw [zset_zupd] at b1 b2
      refine ⟨A2, ?_, b2⟩
      rw [nI_dec (by omega) (by omega), if_neg (by rw [lt_nI _ (by decide), tnI (by omega)]; omega), a1, zlet_e]
      exact b1
theorem Xhold_ok {w : zW} {s f : Nat → Int32} {n : Nat} (h : RT w 1 s) (hr : RX w n f) (hn : n ≤ 48) : ∃ A, f_X1_hold w = some (bP (0 < Bw s f n 0 0), zset w 113 A) ∧ HX s f n 0 (zset w 113 A) := by
  obtain ⟨W, hW⟩ : ∃ W, W = zupd (zset w 113 (frow (w 113) 0 49 (nI 0))) 113 n (nI 16) := ⟨_, rfl⟩
  have eW : ∀ k, k ≠ 113 → W k = w k := fun k hk => by rw [hW, zupd_ne _ _ _ hk, zset_ne _ _ hk]
  have hR : RT W 1 s := RT_SX h (by rw [hW]; exact SX.upd (SX.set (SX.refl w) _ (by omega)) _ _ (by omega))
  have hr' : RX W n f := ⟨by rw [eW 116 (by decide)]; exact hr.1, fun j hj => by rw [eW 117 (by decide)]; exact hr.2 j hj⟩
  obtain ⟨A, a1, a2⟩ := Xhold_out (fun w13 =>
    if ((w13 113 0) &&& (nI 1)) = nI 0 then
      some (nI 0, w13)
    else
      some (nI 1, w13)) hn zfuel n W hR hr' (Nat.le_refl _) (fun p h1 h2 => by
      have : p = n := by omega
      subst this
      refine ⟨16, by decide, by rw [hW, zupd_eq, upd_eq], fun q hq => ?_⟩
      rw [Bw_end]
      have : q = 0 ∨ q = 1 ∨ q = 2 ∨ q = 3 ∨ q = 4 := by omega
      rcases this with rfl | rfl | rfl | rfl | rfl <;> rfl) (fun p hp => by
      rw [hW, zupd_eq, upd_ne _ _ (by omega), zset_eq, frow_in (by omega)]) (by unfold zfuel; omega)
  have eZ : zset W 113 A = zset w 113 A := by rw [hW, zset_zupd, zset_zset]
  rw [eZ] at a1 a2
  refine ⟨A, ?_, a2⟩
  have sub : nI n - nI 1 = nI n + mI 1 := by
    show _ = nI n + -(nI 1)
    rw [Int32.sub_eq_add_neg]
  rw [f_X1_hold, f_J7_ok _ _ _ _ (by decide), zb_s, zset_ne _ _ (by decide), hr.1, zsto_k _ _ _ _ _ _ (by omega) (by decide), ← hW, eW 116 (by decide), hr.1, zlet_e, sub, a1]
  obtain ⟨v, v1, v2, v3⟩ := a2 0 (by omega) (by omega)
  have t := tb_k v v1 0 (by decide)
  rw [show (nI 1 <<< (nI 0 &&& 31) : Int32) = nI 1 by decide] at t
  rw [v2]
  by_cases b : 0 < Bw s f n 0 0
  · rw [if_neg (by rw [t, v3 0 (by decide)]; simp [b]), bP_t b]
  · rw [if_pos (by rw [t, v3 0 (by decide)]; simp [b]), bP_f b]
end HD
