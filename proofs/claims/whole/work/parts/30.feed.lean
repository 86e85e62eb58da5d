theorem feed_g (a : Int64) (u : UInt64) (t : Int64) (n : Nat) (hu : (u.toBitVec % 64#64).toNat = n) (ht : (t.toBitVec.smod 64#64).toNat = n) (hn : n ≤ 56) : ((a.toUInt64 >>> u).toInt64.toInt32 &&& nI 255) = ((a >>> t) &&& (255 : Int64)).toInt32 := by
  apply Int32.toBitVec_inj.mp
  have e1 : ((a.toUInt64 >>> u).toInt64.toInt32 &&& nI 255).toBitVec = (a.toBitVec >>> (u.toBitVec % 64#64)).signExtend 32 &&& 255#32 := rfl
  have e2 : (((a >>> t) &&& (255 : Int64)).toInt32).toBitVec = ((a.toBitVec.sshiftRight' (t.toBitVec.smod 64#64)) &&& 255#64).signExtend 32 := rfl
  rw [e1, e2]
  have h32 : ∀ i, i < 32 → (255#32).getLsbD i = decide (i < 8) := by decide
  have h64 : ∀ i, i < 32 → (255#64).getLsbD i = decide (i < 8) := by decide
  apply BitVec.eq_of_getLsbD_eq
  intro i hi
  rw [BitVec.getLsbD_and, h32 i hi, BitVec.getLsbD_signExtend, BitVec.getLsbD_signExtend, BitVec.getLsbD_and, h64 i hi, BitVec.ushiftRight_eq', BitVec.getLsbD_ushiftRight, BitVec.sshiftRight', BitVec.getLsbD_sshiftRight, hu, ht]
  by_cases h8 : i < 8
  · simp [h8, hi, show n + i < 64 by omega, show i < 64 by omega]
  · simp [h8]
    intro q1 q2
    omega
theorem feed_k (a : Int64) {k : Nat} (hk : k < 8) : ((((a.toUInt64 >>> (((nI 8) * (nI k)).toInt64.toUInt64 &&& Int64.toUInt64 63)).toInt64).toInt32) &&& (nI 255)) = (((a >>> (((nI 8) * (nI k)).toInt64 &&& 63)) &&& (255 : Int64)).toInt32) := by
  have h : k = 0 ∨ k = 1 ∨ k = 2 ∨ k = 3 ∨ k = 4 ∨ k = 5 ∨ k = 6 ∨ k = 7 := by omega
  rcases h with rfl | rfl | rfl | rfl | rfl | rfl | rfl | rfl
  · exact feed_g a _ _ 0 (by decide) (by decide) (by decide)
  · exact feed_g a _ _ 8 (by decide) (by decide) (by decide)
  · exact feed_g a _ _ 16 (by decide) (by decide) (by decide)
  · exact feed_g a _ _ 24 (by decide) (by decide) (by decide)
  · exact feed_g a _ _ 32 (by decide) (by decide) (by decide)
  · exact feed_g a _ _ 40 (by decide) (by decide) (by decide)
  · exact feed_g a _ _ 48 (by decide) (by decide) (by decide)
  · exact feed_g a _ _ 56 (by decide) (by decide) (by decide)
def fbyte (a : Int64) (k : Nat) : Int32 := ((((a.toUInt64 >>> (((nI 8) * (nI k)).toInt64.toUInt64 &&& Int64.toUInt64 63)).toInt64).toInt32) &&& (nI 255))
theorem fbyte_rng (a : Int64) (k : Nat) : ∃ b : Nat, b < 256 ∧ fbyte a k = nI b := by
  obtain ⟨j, hj, e⟩ := pk_andE (((a.toUInt64 >>> (((nI 8) * (nI k)).toInt64.toUInt64 &&& Int64.toUInt64 63)).toInt64).toInt32) (m := nI 255) 8 (by decide)
  exact ⟨j, hj, e⟩
/-- bytes come behind those that are there: the rows that both sides lay -/
def fput (f : Nat → Int32) (a : Int64) (b k n : Nat) : Nat → Int32 := fun p => if b + k ≤ p ∧ p < b + n then fbyte a (p - b) else f p
theorem fput_end (f : Nat → Int32) (a : Int64) {b k n : Nat} (h : n ≤ k) : fput f a b k n = f := funext fun p => if_neg (by omega)
theorem fput_step (f : Nat → Int32) (a : Int64) {b k n : Nat} (h : k < n) : fput (upd f (b + k) (fbyte a k)) a b (k + 1) n = fput f a b k n := funext fun p => by
  unfold fput
  by_cases e : p = b + k
  · subst e
    rw [if_neg (by omega), if_pos (by omega), upd_eq, Nat.add_sub_cancel_left]
  · by_cases q : b + (k + 1) ≤ p ∧ p < b + n
    · rw [if_pos q, if_pos (by omega)]
    · rw [if_neg q, if_neg (by omega), upd_ne _ _ e]
theorem Xfeed_loop (K : Int32 → zW → Option (Int32 × zW)) (a : Int64) (c n : Nat) (hn : n ≤ 8) (hc : c + n ≤ 60) : ∀ (m k : Nat) (w : zW), w 1 8 = nI c → k ≤ n → n - k < m → l_X11_feed_40 K m a (nI n) (nI k) w = K (nI n) (zset w 37 (fput (w 37) a c k n)) := by
  intro m
  induction m with
  | zero => intro k w _ _ h; omega
  | succ m ih =>
    intro k w hw hk h
    rw [l_X11_feed_40.eq_2]
    by_cases e : k < n
    · have ef : ((((a.toUInt64 >>> (((nI 8) * (nI k)).toInt64.toUInt64 &&& Int64.toUInt64 63)).toInt64).toInt32) &&& (nI 255)) = fbyte a k := rfl
      rw [if_pos (by rw [lt_nI _ (by omega), tnI (by omega)]; omega), hw, ef, nI_add, zsto_k _ _ _ _ _ _ (by omega) (by decide), zlet_e, nI_add, ih (k + 1) _ (by rw [zupd_ne _ _ _ (by decide), hw]) (by omega) (by omega), zset_zupd, zupd_eq, fput_step _ _ e]
    · rw [if_neg (by rw [lt_nI _ (by omega), tnI (by omega)]; omega), fput_end _ _ (by omega), zset_self]
theorem Mfeed_loop (K : zW → Option (Int32 × zW)) (a : Int64) (c n : Nat) (hn : n ≤ 8) (hc : c + n ≤ 60) (s : Nat → Int32) : ∀ (m k : Nat) (w : zW), w 129 = upd (fput s a (544 + c) 0 k) 4 (nI (c + k)) → k ≤ n → n - k < m → l_X12_feed_38 K m a (nI n) (nI k) w = K (zset w 129 (upd (fput s a (544 + c) 0 n) 4 (nI (c + n)))) := by
  intro m
  induction m with
  | zero => intro k w _ _ h; omega
  | succ m ih =>
    intro k w hw hk h
    rw [l_X12_feed_38.eq_2]
    by_cases e : k < n
    · rw [if_pos (by rw [lt_nI _ (by omega), tnI (by omega)]; omega), ← feed_k a (by omega), hw, upd_eq, nI_add, zsto_k _ _ _ _ _ _ (by omega) (by decide), zlet_e, zlet_e, nI_add]
      have e4 : zupd w 129 (544 + (c + k)) (fbyte a k) 129 4 = nI (c + k) := by rw [zupd_eq, upd_ne _ _ (by omega), hw, upd_eq]
      have ef : ((((a.toUInt64 >>> (((nI 8) * (nI k)).toInt64.toUInt64 &&& Int64.toUInt64 63)).toInt64).toInt32) &&& (nI 255)) = fbyte a k := rfl
      rw [ef, e4, nI_add, ih (k + 1) _ ?_ (by omega) (by omega), zset_zupd, zset_zupd]
      rw [zupd_eq, zupd_eq, hw]
      funext p
      unfold upd fput
      by_cases p4 : p = 4
      · rw [if_pos p4, if_pos p4, show c + k + 1 = c + (k + 1) by omega]
      · rw [if_neg p4, if_neg p4, if_neg p4]
        by_cases pk : p = 544 + (c + k)
        · rw [if_pos pk, if_pos (by omega), show p - (544 + c) = k by omega]
        · rw [if_neg pk]
          by_cases q : 544 + c + 0 ≤ p ∧ p < 544 + c + k
          · rw [if_pos q, if_pos (by omega)]
          · rw [if_neg q, if_neg (by omega)]
    · have : k = n := by omega
      subst this
      rw [if_neg (by rw [lt_nI _ (by omega), tnI (by omega)]; omega), ← hw, zset_self]

/-- the tape changes (and how long it is): what else holds goes on -/
theorem RT_tape {w w1 : zW} {T : Nat} {s s1 : Nat → Int32} (h : RT w T s) (hw : ∀ k, k ≠ T → k ≠ T + 36 → w1 k = w k) (hwT : ∀ j, j ≠ 8 → w1 T j = w T j) (hs : ∀ p, p ≠ 4 → ¬ (544 ≤ p ∧ p < 604) → s1 p = s p) (hn : nn s1) (hc : w1 T 8 = s1 4 ∧ (s1 4).toInt ≤ 60) (hW : Rtape w1 T s1) : RT w1 T s1 := by
  obtain ⟨g1, g2, g3, g4, g5, g6, g7, g8⟩ := h
  have u := hs
  refine ⟨hn, ?_, Rwall_c g3 g2.1.2 (fun k _ _ => hw k (by omega) (by omega)) (u 0 (by omega) (by omega)) (fun p _ _ => u p (by omega) (by omega)), Rword_c g4 g2.2.1.2 (fun k _ _ => hw k (by omega) (by omega)) (u 1 (by omega) (by omega)) (fun p _ _ => u p (by omega) (by omega)), Rheap_c g5 (hw _ (by omega) (by omega)) (fun p _ _ => u p (by omega) (by omega)), hW, Rwait_c g7 g2.2.2.2.2.2.1.2 (hw _ (by omega) (by omega)) (u 5 (by omega) (by omega)) (fun p _ _ => u p (by omega) (by omega)), Rtext_c g8 (fun k _ _ => hw k (by omega) (by omega)) (fun p _ _ => u p (by omega) (by omega))⟩
  unfold Rcnt at g2 ⊢
  rw [hw (T + 2) (by omega) (by omega), hwT 7 (by decide), hwT 9 (by decide), hwT 10 (by decide), hwT 11 (by decide), hwT 12 (by decide), u 0 (by omega) (by omega), u 1 (by omega) (by omega), u 2 (by omega) (by omega), u 3 (by omega) (by omega), u 5 (by omega) (by omega), u 6 (by omega) (by omega)]
  exact ⟨g2.1, g2.2.1, g2.2.2.1, g2.2.2.2.1, hc, g2.2.2.2.2.2⟩
theorem op_feed {w : zW} (hR : Rel w) (a : Int64) (b : Int32) : OK2 (f_X11_feed a b) (f_X12_feed a b) w := by
  have h := hR.1
  obtain ⟨c, hc, ec, etc⟩ := nn_nI h.1 4 (by decide) (by decide)
  have c60 := h.2.1.2.2.2.2.1.2
  have e9 := h.2.1.2.2.2.2.1.1.trans ec
  by_cases hb : 1 ≤ b.toInt ∧ b.toInt ≤ 8
  · obtain ⟨n, hn, rfl, en⟩ := of_toInt b (by omega)
    by_cases hf : 60 < c + n
    · refine OK_err hR (k := 4) (by decide) (by decide) ?_ (fun w1 e => ?_)
      · rw [f_X11_feed, if_neg (by rw [lt_nI _ (by decide)]; omega), if_neg (by rw [nI_lt2 _ (by decide)]; omega), e9, nI_add, if_pos (by rw [nI_lt2 _ (by decide), tnI (by omega)]; omega), zb2_eta]
      · rw [f_X12_feed, in_k _ (by decide) (by decide), zb_s, if_neg (by rw [bP_0]; omega), e, ec, nI_add, if_pos (by rw [nI_lt2 _ (by decide), tnI (by omega)]; omega), zb2_eta]
    · obtain ⟨W, hW⟩ : ∃ W, W = zupd (zset w 37 (fput (w 37) a c 0 n)) 1 8 (nI (c + n)) := ⟨_, rfl⟩
      have eW : ∀ k, k ≠ 1 → k ≠ 37 → W k = w k := fun k h1 h2 => by rw [hW, zupd_ne _ _ _ h1, zset_ne _ _ h2]
      obtain ⟨s1, hs1⟩ : ∃ s1, s1 = upd (fput (w 129) a (544 + c) 0 n) 4 (nI (c + n)) := ⟨_, rfl⟩
      have e0 : w 129 = upd (fput (w 129) a (544 + c) 0 0) 4 (nI (c + 0)) := by
        rw [fput_end _ _ (Nat.le_refl _), Nat.add_zero, ← ec, upd_self]
      refine ⟨nI (c + n), W, zset W 129 s1, ?_, ?_, ?_⟩
      · rw [f_X11_feed, if_neg (by rw [lt_nI _ (by decide)]; omega), if_neg (by rw [nI_lt2 _ (by decide)]; omega), e9, nI_add, if_neg (by rw [nI_lt2 _ (by decide), tnI (by omega)]; omega), Xfeed_loop _ a c n (by omega) (by omega) zfuel 0 w e9 (by omega) (by unfold zfuel; omega), zset_ne _ _ (by omega), e9, nI_add, zlet_e, ← hW]
        have x2 : W 1 8 = nI (c + n) := by rw [hW, zupd_eq, upd_eq]
        rw [x2]
      · rw [f_X12_feed, in_k _ (by decide) (by decide), zb_s, if_neg (by rw [bP_0]; omega), eW 129 (by omega) (by omega), ec, nI_add, if_neg (by rw [nI_lt2 _ (by decide), tnI (by omega)]; omega), Mfeed_loop _ a c n (by omega) (by omega) (w 129) zfuel 0 W (by rw [eW 129 (by omega) (by omega)]; exact e0) (by omega) (by unfold zfuel; omega), ← hs1, zset_eq]
        have x2 : s1 4 = nI (c + n) := by rw [hs1, upd_eq]
        rw [x2]
      · have g : FX w W := by
          rw [hW]
          exact FX_upd (FX_set (FX_refl w) _ (by omega)) _ _ (by omega)
        refine Rel_now (s := s1) hR g ?_ (FM_set (FM_refl _) _ (by omega)) (zset_eq _ _ _)
        have es : ∀ p, p ≠ 4 → ¬ (544 + c ≤ p ∧ p < 544 + c + n) → s1 p = w 129 p := fun p h1 h2 => by
          rw [hs1, upd_ne _ _ h1]
          exact if_neg (by omega)
        refine RT_tape h (fun k h1 h2 => eW k h1 h2) (fun j hj => ?_) (fun p h1 h2 => es p h1 (by omega)) ?_ ?_ ?_
        · rw [hW, zupd_eq, upd_ne _ _ hj, zset_ne _ _ (by omega)]
        · rw [hs1]
          refine nn_upd (fun p hp hp6 => ?_) _ _ (by rw [tnI (by omega)]; omega)
          unfold fput
          split
          · obtain ⟨b, hb, eb⟩ := fbyte_rng a (p - (544 + c))
            rw [eb, tnI (by omega)]
            omega
          · exact h.1 p hp hp6
        · rw [hW, zupd_eq, upd_eq, hs1, upd_eq, tnI (by omega)]
          exact ⟨rfl, by omega⟩
        · intro k hk
          rw [hs1, upd_eq, tnI (by omega)] at hk
          rw [hW, zupd_ne _ _ _ (by omega), zset_eq]
          by_cases q : c ≤ k
          · obtain ⟨b, hb, eb⟩ := fbyte_rng a (k - c)
            have x1 : fput (w 37) a c 0 n k = fbyte a (k - c) := if_pos (by omega)
            have x2 : s1 (544 + k) = fbyte a (k - c) := by
              rw [hs1, upd_ne _ _ (by omega)]
              unfold fput
              rw [if_pos (by omega), show 544 + k - (544 + c) = k - c by omega]
            rw [x1, x2, eb, tnI (by omega)]
            exact ⟨rfl, by omega⟩
          · have x1 : fput (w 37) a c 0 n k = w 37 k := if_neg (by omega)
            rw [x1, es _ (by omega) (by omega)]
            exact h.2.2.2.2.2.1 k (by omega)
  · refine OK_err hR (k := 1) (by decide) (by decide) ?_ (fun w1 e => ?_)
    · rw [f_X11_feed]
      by_cases hn : b.toInt < 1
      · rw [if_pos (by rw [lt_nI _ (by decide)]; omega), j_X11_feed_11, zb2_eta]
      · rw [if_neg (by rw [lt_nI _ (by decide)]; omega), if_pos (by rw [nI_lt2 _ (by decide)]; omega), j_X11_feed_11, zb2_eta]
    · rw [f_X12_feed, in_k _ (by decide) (by decide), zb_s, if_pos (by rw [bP_0]; omega), zb2_eta]
