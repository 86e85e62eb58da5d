def wln (s : Nat → Int32) (i : Nat) : Nat := (s (10 + 27 * i)).toInt.toNat
def wkd (s : Nat → Int32) (i : Nat) : Nat := (s (8 + 27 * i)).toInt.toNat
def wmm (s : Nat → Int32) (i : Nat) : Nat := (s (9 + 27 * i)).toInt.toNat
def wbk (s : Nat → Int32) (i : Nat) : Nat → Int32 := fun j => s (11 + 27 * i + j)
abbrev wjn (s : Nat → Int32) (i : Nat) : Prop := (wkd s i = 3 ∨ wkd s i = 5) ∧ (wmm s i : Int) < (s 0).toInt ∧ wmm s i ≠ i
def r0N (s : Nat → Int32) (i : Nat) : Nat := tkN (wbk s i) 0 (wln s i)
def r0F (s : Nat → Int32) (i : Nat) : Nat → Int32 := tkF (wbk s i) (fun _ => 0) 0 (wln s i)
def rAN (s : Nat → Int32) (i : Nat) : Nat := if wjn s i then tkN (wbk s (wmm s i)) (r0N s i) (wln s (wmm s i)) else r0N s i
def rAF (s : Nat → Int32) (i : Nat) : Nat → Int32 := if wjn s i then tkF (wbk s (wmm s i)) (r0F s i) (r0N s i) (wln s (wmm s i)) else r0F s i
abbrev wrv (s : Nat → Int32) (i : Nat) : Prop := wkd s i = 1 ∨ wkd s i = 4 ∨ wkd s i = 5
def rBF (s : Nat → Int32) (i : Nat) : Nat → Int32 := if wrv s i then fun j => rAF s i (rAN s i - 1 - j) else rAF s i
/-- how many letters the row of wall i has, and which -/
def rowN (s : Nat → Int32) (i : Nat) : Nat := if wkd s i = 2 then (rAN s i + 1) / 2 else rAN s i
def rCF (s : Nat → Int32) (i : Nat) : Nat → Int32 := if wkd s i = 2 then fun j => rBF s i (2 * j) else rBF s i
def rowF (s : Nat → Int32) (i : Nat) : Nat → Int32 := fun j => lpv s (wkd s i) (rowN s i) (nI (wmm s i)) j (rCF s i j)
theorem wln_le {w : zW} {T : Nat} {s : Nat → Int32} (h : RT w T s) {i : Nat} (hi : (i : Int) < (s 0).toInt) : wln s i ≤ 24 ∧ s (10 + 27 * i) = nI (wln s i) := by
  have q := (h.2.2.1 i hi).2.2.1.2
  have q0 := h.1 (10 + 27 * i) (by have := h.2.1.1.2; omega) (by omega)
  obtain ⟨k, hk, ek, tk⟩ := of_toInt _ q0
  refine ⟨by unfold wln; omega, ?_⟩
  unfold wln
  rw [tk, Int.toNat_natCast, ek]
theorem wkd_le {w : zW} {T : Nat} {s : Nat → Int32} (h : RT w T s) {i : Nat} (hi : (i : Int) < (s 0).toInt) : wkd s i < 7 ∧ s (8 + 27 * i) = nI (wkd s i) := by
  have q := (h.2.2.1 i hi).1.2
  have q0 := h.1 (8 + 27 * i) (by have := h.2.1.1.2; omega) (by omega)
  obtain ⟨k, hk, ek, tk⟩ := of_toInt _ q0
  refine ⟨by unfold wkd; omega, ?_⟩
  unfold wkd
  rw [tk, Int.toNat_natCast, ek]
theorem wmm_le {w : zW} {T : Nat} {s : Nat → Int32} (h : RT w T s) {i : Nat} (hi : (i : Int) < (s 0).toInt) : wmm s i < 10 ∧ s (9 + 27 * i) = nI (wmm s i) := by
  have q := (h.2.2.1 i hi).2.1.2
  have q0 := h.1 (9 + 27 * i) (by have := h.2.1.1.2; omega) (by omega)
  obtain ⟨k, hk, ek, tk⟩ := of_toInt _ q0
  refine ⟨by unfold wmm; omega, ?_⟩
  unfold wmm
  rw [tk, Int.toNat_natCast, ek]
theorem r0N_le {w : zW} {T : Nat} {s : Nat → Int32} (h : RT w T s) {i : Nat} (hi : (i : Int) < (s 0).toInt) : r0N s i ≤ 24 := by
  have := tkN_le (wbk s i) 0 (wln s i)
  have := (wln_le h hi).1
  unfold r0N
  omega
theorem rAN_le {w : zW} {T : Nat} {s : Nat → Int32} (h : RT w T s) {i : Nat} (hi : (i : Int) < (s 0).toInt) : rAN s i ≤ 48 := by
  have h0 := r0N_le h hi
  unfold rAN
  split
  · rename_i hj
    have := tkN_le (wbk s (wmm s i)) (r0N s i) (wln s (wmm s i))
    have := (wln_le h hj.2.1).1
    omega
  · omega
theorem rowN_le {w : zW} {T : Nat} {s : Nat → Int32} (h : RT w T s) {i : Nat} (hi : (i : Int) < (s 0).toInt) : rowN s i ≤ 48 := by
  have := rAN_le h hi
  unfold rowN
  split <;> omega
theorem RX.congr {w : zW} {n : Nat} {f g : Nat → Int32} (h : RX w n f) (hg : ∀ j, j < n → g j = f j) : RX w n g := ⟨h.1, fun j hj => (h.2 j hj).trans (hg j hj).symm⟩
theorem RX.set {w : zW} {n n1 : Nat} {f : Nat → Int32} (h : ∀ j, j < n1 → w 117 j = f j) : RX (zupd w 116 1 (nI n1)) n1 f := ⟨by rw [zupd_eq, upd_eq], fun j hj => by rw [zupd_ne _ _ _ (by decide)]; exact h j hj⟩
/-- the class's last step -/
theorem Xspell76 {w : zW} {s s' : Nat → Int32} (hR : RT w 1 s) {A kd n m : Nat} {f : Nat → Int32} (hk : kd < 7) (hm : m < 10) (h48 : n ≤ 48) (h1 : w A 1 = nI kd) (h2 : w A 2 = nI m) (hA : A < 116 ∨ 117 < A) (hr : RX w n f) (hs : ∀ p, 294 ≤ p → p < 419 → s' p = s p) : ∃ w1, j_X8_spell_76 A w = some w1 ∧ SR w w1 ∧ RX w1 (if kd = 2 then (n + 1) / 2 else n) (fun j => lpv s' kd (if kd = 2 then (n + 1) / 2 else n) (nI m) j ((if kd = 2 then fun j => f (2 * j) else f) j)) := by
  have e94 := hs 294 (by decide) (by decide)
  rw [j_X8_spell_76, h1]
  by_cases k2 : kd = 2
  · obtain ⟨w1, x1, x2, x3⟩ := Xhalve_loop (fun k36_a1 w11 => zlet (zupd w11 116 1 k36_a1) fun w12 => some w12) (f := f) h48 zfuel 0 w (by omega) ⟨hr.1, fun j hj => by rw [hvF, if_neg (by omega)]; exact hr.2 j hj⟩ (by unfold zfuel; omega)
    refine ⟨zupd w1 116 1 (nI ((n + 1) / 2)), ?_, SR.upd x2 _ _ (by omega), ?_⟩
    · rw [if_pos (by rw [k2]), f_X3_leaveOutSeconds, hr.1, nI_add, pk_div (by omega) (by decide) (by decide), zlet_e, x1, zlet_e, zb_s]
    · rw [if_pos k2]
      refine (RX.set (n := n) x3).congr (fun j hj => ?_)
      rw [if_pos k2]
      unfold lpv
      rw [if_neg (by omega), if_neg (by omega)]
  · rw [if_neg (by rw [eq_nI _ (by decide), tnI (by omega)]; omega), if_neg k2, if_neg k2]
    by_cases k4 : kd = 4
    · obtain ⟨w1, x1, x2, x3⟩ := Xmirror_loop (fun w11 => some w11) (n := n) (f := f) h48 zfuel 0 w (by omega) ⟨hr.1, fun j hj => by rw [chF, if_neg (by omega)]; exact hr.2 j hj⟩ (by unfold zfuel; omega)
      refine ⟨w1, ?_, x2, x3.congr (fun j hj => if_pos k4)⟩
      rw [if_pos (by rw [k4]), f_X3_mirrorLetters, x1, zb_s]
    · rw [if_neg (by rw [eq_nI _ (by decide), tnI (by omega)]; omega)]
      by_cases k6 : kd = 6
      · have t3 := (hR.2.2.2.2.2.2.2 0 (by decide)).1
        rw [if_pos (by rw [k6]), f_X6_isTold, show w 29 3 = s 294 from t3]
        by_cases ht : 0 < (s 294).toInt
        · have ht' : 0 < (s' 294).toInt := by rw [e94]; exact ht
          obtain ⟨w1, x1, x2, x3⟩ := Xturn_loop (fun w11 => some w11) (n := n) (f := f) h48 (nI m) ht zfuel 0 w (by omega) hR ⟨hr.1, fun j hj => by rw [chF, if_neg (by omega)]; exact hr.2 j hj⟩ (by unfold zfuel; omega)
          refine ⟨w1, ?_, x2, x3.congr (fun j hj => ?_)⟩
          · rw [if_pos (by rw [nI_lt2 _ (by decide)]; omega), zb_s, if_neg (by decide), h2, f_X3_turnBy, x1, zb_s]
          · have c60 := (hR.2.2.2.2.2.2.2 0 (by decide)).2.1
            unfold lpv tnv
            rw [if_neg k4, if_pos ⟨k6, ht'⟩]
            simp only [tval_congr (s := s) (s1 := s') (u := 0) (by omega) (fun p h1 h2 => hs p (by omega) (by omega))]
        · refine ⟨w, ?_, SR.refl w, hr.congr (fun j hj => ?_)⟩
          · rw [if_neg (by rw [nI_lt2 _ (by decide)]; omega), zb_s, if_pos rfl]
          · unfold lpv
            rw [if_neg k4, if_neg (by rw [e94]; omega)]
      · refine ⟨w, ?_, SR.refl w, hr.congr (fun j hj => ?_)⟩
        · rw [if_neg (by rw [eq_nI _ (by decide), tnI (by omega)]; omega)]
        · unfold lpv
          rw [if_neg k4, if_neg (by omega)]
theorem Xspell53 {w : zW} {s s' : Nat → Int32} (hR : RT w 1 s) {A kd n m : Nat} {f : Nat → Int32} (hk : kd < 7) (hm : m < 10) (h48 : n ≤ 48) (h1 : w A 1 = nI kd) (h2 : w A 2 = nI m) (hA : A < 116 ∨ 117 < A) (hA2 : A < 31 ∨ 32 < A) (hr : RX w n f) (hs : ∀ p, 294 ≤ p → p < 419 → s' p = s p) : ∃ w1 g, j_X8_spell_53 A w = some w1 ∧ SR w w1 ∧ g = (if kd = 1 ∨ kd = 4 ∨ kd = 5 then fun j => f (n - 1 - j) else f) ∧ RX w1 (if kd = 2 then (n + 1) / 2 else n) (fun j => lpv s' kd (if kd = 2 then (n + 1) / 2 else n) (nI m) j ((if kd = 2 then fun j => g (2 * j) else g) j)) := by
  have rev : ∀ g : Nat → Int32, g = (fun j => f (n - 1 - j)) → ∃ w1, j_X8_spell_72 A w = some w1 ∧ SR w w1 ∧ RX w1 (if kd = 2 then (n + 1) / 2 else n) (fun j => lpv s' kd (if kd = 2 then (n + 1) / 2 else n) (nI m) j ((if kd = 2 then fun j => g (2 * j) else g) j)) := fun g hg => by
    obtain ⟨w1, x1, x2, x3⟩ := Xreverse_loop (fun w11 => some w11) (n := n) (f := f) h48 zfuel 0 w (by omega) ⟨hr.1, fun j hj => by rw [rvF, if_neg (by omega)]; exact hr.2 j hj⟩ (by unfold zfuel; omega)
    rw [← hg] at x3
    obtain ⟨w2, y1, y2, y3⟩ := Xspell76 (RT_SX hR (SR.SX x2)) hk hm h48 (by rw [x2 A (by omega)]; exact h1) (by rw [x2 A (by omega)]; exact h2) hA x3 hs
    refine ⟨w2, ?_, x2.trans y2, y3⟩
    rw [j_X8_spell_72, f_X3_reverse, x1, zb_s, y1]
  rw [j_X8_spell_53, h1, und1 kd hk, zb_s]
  by_cases k1 : kd = 1 ∨ kd = 4
  · obtain ⟨w1, x1, x2, x3⟩ := rev _ rfl
    refine ⟨w1, _, ?_, x2, (if_pos (by omega)).symm, x3⟩
    rw [if_neg (by rw [bP_0]; omega)]
    exact x1
  · rw [if_pos (by rw [bP_0]; exact k1)]
    by_cases k5 : kd = 5
    · obtain ⟨w1, x1, x2, x3⟩ := rev _ rfl
      refine ⟨w1, _, ?_, x2, (if_pos (by omega)).symm, x3⟩
      rw [if_pos (by rw [k5])]
      exact x1
    · obtain ⟨w1, x1, x2, x3⟩ := Xspell76 hR hk hm h48 h1 h2 hA hr hs
      refine ⟨w1, f, ?_, x2, (if_neg (by omega)).symm, x3⟩
      rw [if_neg (by rw [eq_nI _ (by decide), tnI (by omega)]; omega)]
      exact x1
theorem Xappend_ok {w : zW} {A ln n0 : Nat} {g f0 : Nat → Int32} (h1 : A + 1 < 116 ∨ 117 < A) (h2 : n0 + ln ≤ 48) (hl : ln ≤ 24) (hw : w A 3 = nI ln) (hg : ∀ j, j < ln → w (A + 1) j = g j) (hr : RX w n0 f0) : ∃ w1, f_X3_append A w = some w1 ∧ SR w w1 ∧ RX w1 (tkN g n0 ln) (tkF g f0 n0 ln) := by
  rw [f_X3_append]
  exact Xappend_loop (fun w11 => some w11) h1 h2 hl zfuel 0 w (by omega) hw hg hr (by unfold zfuel; omega)
theorem Xspell_ok {w wx : zW} {s s' : Nat → Int32} (hR : RT w 1 s) (hR' : RT wx 1 s') {A i : Nat} (hi : (i : Int) < (s 0).toInt) (hs : ∀ p, ¬ (8 + 27 * i ≤ p ∧ p < 35 + 27 * i) → s' p = s p) (hA : A = 40 + 2 * i ∨ A = 118) (a1 : w A 1 = s' (8 + 27 * i)) (a2 : w A 2 = s' (9 + 27 * i)) (a3 : w A 3 = s' (10 + 27 * i)) (ab : ∀ j, j < wln s' i → w (A + 1) j = wbk s' i j) : ∃ w1, f_X8_spell A (nI i) w = some w1 ∧ SR w w1 ∧ RX w1 (rowN s' i) (rowF s' i) := by
  have h6 := hR.2.1.1.2
  have e0 : s' 0 = s 0 := hs 0 (by omega)
  have hi' : (i : Int) < (s' 0).toInt := by rw [e0]; exact hi
  obtain ⟨l24, el⟩ := wln_le hR' hi'
  obtain ⟨k7, ek⟩ := wkd_le hR' hi'
  obtain ⟨m10, em⟩ := wmm_le hR' hi'
  rw [el] at a3
  rw [ek] at a1
  rw [em] at a2
  obtain ⟨w2, x1, x2, x3⟩ := Xappend_ok (w := zupd w 116 1 (nI 0)) (A := A) (n0 := 0) (g := wbk s' i) (f0 := fun _ => 0) (by omega) (by omega) l24 (by rw [zupd_ne _ _ _ (by omega)]; exact a3) (fun j hj => by rw [zupd_ne _ _ _ (by omega)]; exact ab j hj) ⟨by rw [zupd_eq, upd_eq], fun j hj => by omega⟩
  have s2 : SR w w2 := SR.trans (SR.upd (SR.refl w) _ _ (by omega)) x2
  have hR2 := RT_SX hR (SR.SX s2)
  have b1 : w2 A 1 = nI (wkd s' i) := by rw [s2 A (by omega)]; exact a1
  have b2 : w2 A 2 = nI (wmm s' i) := by rw [s2 A (by omega)]; exact a2
  have hs4 : ∀ p, 294 ≤ p → p < 419 → s' p = s p := fun p h1 h2 => hs p (by omega)
  have fin : ∀ w3, SR w w3 → RX w3 (rAN s' i) (rAF s' i) → ∃ w1, j_X8_spell_53 A w3 = some w1 ∧ SR w w1 ∧ RX w1 (rowN s' i) (rowF s' i) := fun w3 s3 r3 => by
    obtain ⟨w1, g, y1, y2, y3, y4⟩ := Xspell53 (RT_SX hR (SR.SX s3)) k7 m10 (rAN_le hR' hi') (by rw [s3 A (by omega)]; exact a1) (by rw [s3 A (by omega)]; exact a2) (by omega) (by omega) r3 hs4
    subst y3
    exact ⟨w1, y1, s3.trans y2, y4⟩
  rw [f_X8_spell, zlet_e, x1, zb_s, b1, und3 _ k7, zb_s]
  by_cases hk : wkd s' i = 3 ∨ wkd s' i = 5
  · rw [if_neg (by rw [bP_0]; exact fun q => q hk), b2]
    by_cases hm : wmm s' i = i
    · rw [if_pos (by rw [hm])]
      exact fin w2 s2 (by
        rw [rAN, if_neg (fun q => q.2.2 hm), rAF, if_neg (fun q => q.2.2 hm)]
        exact x3)
    · rw [if_neg (by rw [eq_nI _ (by omega), tnI (by omega)]; omega), hasWall_spec hR2, zb_s, tnI (by omega)]
      by_cases hc : (wmm s' i : Int) < (s 0).toInt
      · have hj : wjn s' i := ⟨hk, by rw [e0]; exact hc, hm⟩
        rw [if_neg (by rw [bP_0]; omega), zin_nI (by omega) (by decide), zg_t, clamp_nI (by omega)]
        obtain ⟨ml, eml⟩ := wln_le hR' hj.2.1
        have qm := hR2.2.2.1 (wmm s' i) hc
        unfold Rwal1 at qm
        have e10 : s (10 + 27 * wmm s' i) = nI (wln s' (wmm s' i)) := by rw [← eml, hs _ (by omega)]
        have n24 := r0N_le hR' hi'
        obtain ⟨w3, y1, y2, y3⟩ := Xappend_ok (w := w2) (A := 40 + 2 * wmm s' i) (n0 := r0N s' i) (g := wbk s' (wmm s' i)) (f0 := r0F s' i) (by omega) (by omega) ml (by rw [show 40 + 2 * wmm s' i = 1 + 39 + 2 * wmm s' i by omega, qm.2.2.1.1, e10]) (fun j hj => by
          rw [show 40 + 2 * wmm s' i + 1 = 1 + 40 + 2 * wmm s' i by omega, (qm.2.2.2 j (by rw [e10, tnI (by omega)]; omega)).1, wbk, hs _ (by omega)]) x3
        rw [y1, zb_s]
        exact fin w3 (s2.trans y2) (by
          rw [rAN, if_pos hj, rAF, if_pos hj]
          exact y3)
      · rw [if_pos (by rw [bP_0]; omega)]
        have hnj : ¬ wjn s' i := fun q => hc (by rw [← e0]; exact q.2.1)
        exact fin w2 s2 (by
          rw [rAN, if_neg hnj, rAF, if_neg hnj]
          exact x3)
  · rw [if_pos (by rw [bP_0]; exact hk)]
    exact fin w2 s2 (by
      rw [rAN, if_neg (fun q => hk q.1), rAF, if_neg (fun q => hk q.1)]
      exact x3)
theorem Mtakes_ok {w : zW} {s : Nat → Int32} {i ln n0 : Nat} {f0 : Nat → Int32} (hi : i < 6) (h2 : n0 + ln ≤ 48) (hl : ln ≤ 24) (hn9 : nn s) (hs10 : s (10 + 27 * i) = nI ln) (hw : w 129 = s) (hr : RM w n0 f0) : ∃ w1, f_X12_takes (nI i) w = some w1 ∧ SN w w1 ∧ RM w1 (tkN (wbk s i) n0 ln) (tkF (wbk s i) f0 n0 ln) := by
  rw [f_X12_takes]
  exact Mtakes_loop (fun w11 => some w11) hi h2 hl hn9 hs10 zfuel 0 w (by omega) hw hr (by unfold zfuel; omega)
theorem Mpass_ok {w wx : zW} {s f : Nat → Int32} (hR : RT wx 1 s) (hw : w 129 = s) {n kd m : Nat} (h48 : n ≤ 48) (hk : kd < 7) (hr : RM w n f) : ∃ w1, j_X12_reads_126 (nI kd) (nI m) w = some w1 ∧ SN w w1 ∧ RM w1 n (fun j => lpv s kd n (nI m) j (f j)) := by
  rw [j_X12_reads_126]
  exact Mpass_loop (fun w11 => some w11) (f := f) hR h48 hk (nI m) zfuel 0 w (by omega) hw ⟨hr.1, fun j hj => by rw [chF, if_neg (by omega)]; exact hr.2 j hj⟩ (by unfold zfuel; omega)
theorem Mreads71 {w wx : zW} {s f : Nat → Int32} (hR : RT wx 1 s) (hw : w 129 = s) {n kd m : Nat} (h48 : n ≤ 48) (hk : kd < 7) (hr : RM w n f) : ∃ w1, j_X12_reads_71 (nI kd) (nI m) w = some w1 ∧ SN w w1 ∧ RM w1 (if kd = 2 then (n + 1) / 2 else n) (fun j => lpv s kd (if kd = 2 then (n + 1) / 2 else n) (nI m) j ((if kd = 2 then fun j => f (2 * j) else f) j)) := by
  rw [j_X12_reads_71]
  by_cases k2 : kd = 2
  · obtain ⟨w1, x1, x2, x3, x4⟩ := Mhalve_loop (fun k114_a2 k114_a3 w11 =>
      zlet (zupd w11 128 12 (((w11 128 12) + (nI 1)) / (nI 2))) fun w12 =>
      j_X12_reads_126 k114_a2 k114_a3 w12) (f := f) h48 (nI kd) (nI m) zfuel 0 w (by omega) ⟨hr.1, fun j hj => by rw [hvF, if_neg (by omega)]; exact hr.2 j hj⟩ (by unfold zfuel; omega)
    obtain ⟨w2, y1, y2, y3⟩ := Mpass_ok (w := zupd w1 128 12 (nI ((n + 1) / 2))) (n := (n + 1) / 2) (kd := kd) (m := m) (f := fun j => f (2 * j)) hR (by rw [zupd_ne _ _ _ (by decide), x2.1 129 (by omega)]; exact hw) (by omega) hk ⟨by rw [zupd_eq, upd_eq], fun j hj => by rw [zupd_ne _ _ _ (by decide)]; exact x4 j hj⟩
    refine ⟨w2, ?_, SN.trans (SN.upd8 x2 _) y2, ?_⟩
    · rw [if_pos (by rw [k2]), x1, x3, nI_add, pk_div (by omega) (by decide) (by decide), zlet_e, y1]
    · rw [if_pos k2, if_pos k2]
      exact y3
  · rw [if_neg (by rw [eq_nI _ (by decide), tnI (by omega)]; omega), if_neg k2, if_neg k2]
    exact Mpass_ok hR hw h48 hk hr
theorem Mreads52 {w wx : zW} {s f : Nat → Int32} (hR : RT wx 1 s) (hw : w 129 = s) {n kd m : Nat} (h48 : n ≤ 48) (hk : kd < 7) (hr : RM w n f) : ∃ w1 g, j_X12_reads_52 (nI kd) (nI m) w = some w1 ∧ SN w w1 ∧ g = (if kd = 1 ∨ kd = 4 ∨ kd = 5 then fun j => f (n - 1 - j) else f) ∧ RM w1 (if kd = 2 then (n + 1) / 2 else n) (fun j => lpv s kd (if kd = 2 then (n + 1) / 2 else n) (nI m) j ((if kd = 2 then fun j => g (2 * j) else g) j)) := by
  have rev : ∀ g : Nat → Int32, g = (fun j => f (n - 1 - j)) → ∃ w1, j_X12_reads_67 (nI kd) (nI m) w = some w1 ∧ SN w w1 ∧ RM w1 (if kd = 2 then (n + 1) / 2 else n) (fun j => lpv s kd (if kd = 2 then (n + 1) / 2 else n) (nI m) j ((if kd = 2 then fun j => g (2 * j) else g) j)) := fun g hg => by
    have tr : ∃ w1, f_X12_turns w = some w1 ∧ SN w w1 ∧ RM w1 n g := by
      rw [f_X12_turns, hr.1, zlet_e]
      by_cases e0 : n = 0
      · subst e0
        refine ⟨w, ?_, SN.refl w, hr.1, fun j hj => by omega⟩
        rw [show zfuel = 999999 + 1 from rfl, l_X12_turns_9.eq_2, if_neg (by decide)]
      · rw [nI_sub (by omega) (by omega), hg]
        exact Mturns_loop (fun w11 => some w11) (f := f) h48 (by omega) zfuel 0 w (by omega) ⟨hr.1, fun j hj => by rw [rvF, if_neg (by omega)]; exact hr.2 j hj⟩ (by unfold zfuel; omega)
    obtain ⟨w1, x1, x2, x3⟩ := tr
    obtain ⟨w2, y1, y2, y3⟩ := Mreads71 (m := m) hR (by rw [x2.1 129 (by omega)]; exact hw) h48 hk x3
    refine ⟨w2, ?_, x2.trans y2, y3⟩
    rw [j_X12_reads_67, x1, zb_s, y1]
  rw [j_X12_reads_52]
  by_cases k1 : kd = 1
  · obtain ⟨w1, x1, x2, x3⟩ := rev _ rfl
    exact ⟨w1, _, by rw [if_pos (by rw [k1])]; exact x1, x2, (if_pos (by omega)).symm, x3⟩
  · rw [if_neg (by rw [eq_nI _ (by decide), tnI (by omega)]; omega)]
    by_cases k4 : kd = 4
    · obtain ⟨w1, x1, x2, x3⟩ := rev _ rfl
      exact ⟨w1, _, by rw [if_pos (by rw [k4])]; exact x1, x2, (if_pos (by omega)).symm, x3⟩
    · rw [if_neg (by rw [eq_nI _ (by decide), tnI (by omega)]; omega)]
      by_cases k5 : kd = 5
      · obtain ⟨w1, x1, x2, x3⟩ := rev _ rfl
        exact ⟨w1, _, by rw [if_pos (by rw [k5])]; exact x1, x2, (if_pos (by omega)).symm, x3⟩
      · rw [if_neg (by rw [eq_nI _ (by decide), tnI (by omega)]; omega)]
        obtain ⟨w1, x1, x2, x3⟩ := Mreads71 (m := m) hR hw h48 hk hr
        exact ⟨w1, f, x1, x2, (if_neg (by omega)).symm, x3⟩
theorem Mreads_ok {w wx : zW} {s : Nat → Int32} (hR : RT wx 1 s) (hw : w 129 = s) {i : Nat} (hi : (i : Int) < (s 0).toInt) : ∃ w1, f_X12_reads (nI i) w = some w1 ∧ SN w w1 ∧ RM w1 (rowN s i) (rowF s i) := by
  have h6 := hR.2.1.1.2
  obtain ⟨l24, el⟩ := wln_le hR hi
  obtain ⟨k7, ek⟩ := wkd_le hR hi
  obtain ⟨m10, em⟩ := wmm_le hR hi
  have i6 : i < 6 := by omega
  obtain ⟨w2, x1, x2, x3⟩ := Mtakes_ok (w := zupd w 128 12 (nI 0)) (n0 := 0) (f0 := fun _ => 0) i6 (by omega) l24 hR.1 el (by rw [zupd_ne _ _ _ (by decide)]; exact hw) ⟨by rw [zupd_eq, upd_eq], fun j hj => by omega⟩
  have s2 : SN w w2 := SN.trans (SN.upd8 (SN.refl w) _) x2
  have hw2 : w2 129 = s := by rw [s2.1 129 (by omega)]; exact hw
  have fin : ∀ w3, SN w w3 → RM w3 (rAN s i) (rAF s i) → ∃ w1, j_X12_reads_52 (nI (wkd s i)) (nI (wmm s i)) w3 = some w1 ∧ SN w w1 ∧ RM w1 (rowN s i) (rowF s i) := fun w3 s3 r3 => by
    obtain ⟨w1, g, y1, y2, y3, y4⟩ := Mreads52 (m := wmm s i) hR (by rw [s3.1 129 (by omega)]; exact hw) (rAN_le hR hi) k7 r3
    subst y3
    exact ⟨w1, y1, s3.trans y2, y4⟩
  have join : (wkd s i = 3 ∨ wkd s i = 5) → ∃ w1, j_X12_reads_34 (nI i) (nI (wkd s i)) (nI (wmm s i)) w2 = some w1 ∧ SN w w1 ∧ RM w1 (rowN s i) (rowF s i) := fun hk => by
    rw [j_X12_reads_34, isWall_spec hw2 hR.1 h6, zb_s, tnI (by omega)]
    by_cases hc : (wmm s i : Int) < (s 0).toInt
    · rw [if_neg (by rw [bP_0]; omega)]
      by_cases hm : wmm s i = i
      · rw [if_pos (by rw [hm])]
        exact fin w2 s2 (by
          rw [rAN, if_neg (fun q => q.2.2 hm), rAF, if_neg (fun q => q.2.2 hm)]
          exact x3)
      · have hj : wjn s i := ⟨hk, hc, hm⟩
        rw [if_neg (by rw [eq_nI _ (by omega), tnI (by omega)]; omega)]
        obtain ⟨ml, eml⟩ := wln_le hR hj.2.1
        have n24 := r0N_le hR hi
        obtain ⟨w3, y1, y2, y3⟩ := Mtakes_ok (w := w2) (i := wmm s i) (n0 := r0N s i) (f0 := r0F s i) (by omega) (by omega) ml hR.1 eml hw2 x3
        rw [y1, zb_s]
        exact fin w3 (s2.trans y2) (by
          rw [rAN, if_pos hj, rAF, if_pos hj]
          exact y3)
    · rw [if_pos (by rw [bP_0]; omega)]
      have hnj : ¬ wjn s i := fun q => hc q.2.1
      exact fin w2 s2 (by
        rw [rAN, if_neg hnj, rAF, if_neg hnj]
        exact x3)
  have i0 := its_k hw2 i6 (show 0 < 27 by decide)
  have i1 := its_k hw2 i6 (show 1 < 27 by decide)
  rw [Nat.add_zero, ek] at i0
  rw [show 8 + 27 * i + 1 = 9 + 27 * i by omega, em] at i1
  rw [f_X12_reads, zlet_e, x1, zb_s, i0, zb_s, i1, zb_s]
  by_cases k3 : wkd s i = 3
  · rw [if_pos (by rw [k3])]
    exact join (Or.inl k3)
  · rw [if_neg (by rw [eq_nI _ (by decide), tnI (by omega)]; omega)]
    by_cases k5 : wkd s i = 5
    · rw [if_pos (by rw [k5])]
      exact join (Or.inr k5)
    · rw [if_neg (by rw [eq_nI _ (by decide), tnI (by omega)]; omega)]
      exact fin w2 s2 (by
        rw [rAN, if_neg (fun q => by have := q.1; omega), rAF, if_neg (fun q => by have := q.1; omega)]
        exact x3)
