theorem SX.FX {w w1 : zW} (h : SX w w1) : FX w w1 := fun k hk => h k (by omega)
theorem FX.trans {a b c : zW} (h : FX a b) (h' : FX b c) : FX a c := fun k hk => (h' k hk).trans (h k hk)
theorem SM9.FM {w w1 : zW} (h : SM9 w w1) : FM w w1 := ⟨fun k hk => h.1 k (by omega) (by omega) (by omega) (by omega), ⟨h.1 130 (by decide) (by decide) (by decide) (by decide), h.1 131 (by decide) (by decide) (by decide) (by decide), h.1 139 (by decide) (by decide) (by decide) (by decide), h.1 140 (by decide) (by decide) (by decide) (by decide), h.1 141 (by decide) (by decide) (by decide) (by decide), h.1 142 (by decide) (by decide) (by decide) (by decide)⟩, h.2.1, h.2.2⟩
/-- a call that changes the town and cells aside -/
theorem OK_town {w wa w2 : zW} {x m : zW → Option (Int32 × zW)} {r : Int32} {s : Nat → Int32} (hR : Rel w) (hx : x w = some (r, wa)) (hF : FX w wa) (h1 : RT wa 1 s) (hm : m wa = some (r, w2)) (hM : SM9 wa w2) (hs : w2 129 = s) : OK2 x m w := ⟨r, wa, w2, hx, hm, Rel_now hR hF h1 (SM9.FM hM) hs⟩
theorem sub0 (a : Int32) : a - nI 0 = a := by rw [show nI 0 = (0 : Int32) from rfl, Int32.sub_zero]
/-- how many letters stand among the first k -/
def lc (g : Nat → Int32) : Nat → Nat
  | 0 => 0
  | k + 1 => lc g k + if g k = nI 0 then 0 else 1
theorem lc_le (g : Nat → Int32) : ∀ k, lc g k ≤ k
  | 0 => Nat.le_refl _
  | k + 1 => by
    have := lc_le g k
    rw [lc]
    split <;> omega
theorem Xlet_loop {w : zW} {A ln : Nat} {g : Nat → Int32} (hl : ln ≤ 24) (hw : w A 3 = nI ln) (hb : ∀ j, j < ln → w (A + 1) j = g j) : ∀ (m k : Nat), k ≤ ln → ln - k < m → l_X9_countLetters_4 w (fun k35_a1 => some k35_a1) m A (nI (lc g k)) (nI k) = some (nI (lc g ln)) := by
  intro m
  induction m with
  | zero => intro k _ h; omega
  | succ m ih =>
    intro k hk hm
    rw [l_X9_countLetters_4.eq_2, hw]
    by_cases e : k < ln
    · have x1 := ih (k + 1) (by omega) (by omega)
      rw [lc] at x1
      rw [if_pos (by rw [lt_nI _ (by omega), tnI (by omega)]; omega), zld_k _ _ _ _ _ (by omega) (by decide), hb k e]
      by_cases e0 : g k = nI 0
      · rw [if_pos e0] at x1
        rw [if_pos e0, j_X9_countLetters_27, nI_add, zlet_e, nI_add, zlet_e]
        exact x1
      · rw [if_neg e0] at x1
        rw [if_neg e0, j_X9_countLetters_27, nI_add, zlet_e, nI_add, zlet_e]
        exact x1
    · have : k = ln := by omega
      subst this
      rw [if_neg (by rw [lt_nI _ (by omega), tnI (by omega)]; omega)]
theorem Xwall_at {w : zW} {s : Nat → Int32} (h : RT w 1 s) {i : Nat} (hi : (i : Int) < (s 0).toInt) : w (40 + 2 * i) 3 = nI (wln s i) ∧ ∀ j, j < wln s i → w (40 + 2 * i + 1) j = wbk s i j := by
  have wl := wln_le h hi
  have q := h.2.2.1 i hi
  unfold Rwal1 at q
  rw [show 1 + 39 + 2 * i = 40 + 2 * i by omega, show 1 + 40 + 2 * i = 40 + 2 * i + 1 by omega] at q
  exact ⟨q.2.2.1.1.trans wl.2, fun j hj => (q.2.2.2 j (by rw [wl.2, tnI (by omega)]; omega)).1⟩
theorem Xletters {w : zW} {s : Nat → Int32} (h : RT w 1 s) {i : Nat} (hi : (i : Int) < (s 0).toInt) : f_X9_countLetters (40 + 2 * i) w = some (nI (lc (wbk s i) (wln s i))) := by
  have wl := wln_le h hi
  obtain ⟨a, b⟩ := Xwall_at h hi
  rw [f_X9_countLetters]
  exact Xlet_loop wl.1 a b zfuel 0 (by omega) (by unfold zfuel; omega)
theorem Mlet_loop {wx w : zW} {s : Nat → Int32} {i : Nat} (h : RT wx 1 s) (hw : w 129 = s) (hi : (i : Int) < (s 0).toInt) : ∀ (m k : Nat), k ≤ wln s i → wln s i - k < m → l_X12_letters_4 w (fun k42_a2 => some k42_a2) m (nI i) (nI (lc (wbk s i) k)) (nI k) = some (nI (lc (wbk s i) (wln s i))) := by
  have h6 := h.2.1.1.2
  have wl := wln_le h hi
  intro m
  induction m with
  | zero => intro k _ h; omega
  | succ m ih =>
    intro k hk hm
    rw [l_X12_letters_4.eq_2, its_k hw (by omega) (by decide), show 8 + 27 * i + 2 = 10 + 27 * i by omega, wl.2, zb_s]
    by_cases e : k < wln s i
    · have x1 := ih (k + 1) (by omega) (by omega)
      rw [lc] at x1
      have hgk : s (11 + 27 * i + k) = wbk s i k := rfl
      have rg := wbk_rng h hi k e
      rw [if_pos (by rw [lt_nI _ (by omega), tnI (by omega)]; omega), at_k, zb_s, zld_k _ _ _ _ _ (by omega) (by decide), hw, hgk]
      by_cases e0 : wbk s i k = nI 0
      · rw [if_pos e0] at x1
        rw [if_neg (by rw [e0]; decide), j_X12_letters_34, nI_add, zlet_e, nI_add, zlet_e]
        exact x1
      · have e0' := e0
        rw [eq_nI _ (by decide)] at e0'
        rw [if_neg e0] at x1
        rw [if_pos (by rw [nI_lt2 _ (by decide)]; omega), j_X12_letters_34, nI_add, zlet_e, nI_add, zlet_e]
        exact x1
    · have : k = wln s i := by omega
      subst this
      rw [if_neg (by rw [lt_nI _ (by omega), tnI (by omega)]; omega)]
theorem Mletters {wx w : zW} {s : Nat → Int32} (h : RT wx 1 s) (hw : w 129 = s) {i : Nat} (hi : (i : Int) < (s 0).toInt) : f_X12_letters (nI i) w = some (nI (lc (wbk s i) (wln s i))) := by
  have wl := wln_le h hi
  rw [f_X12_letters]
  exact Mlet_loop h hw hi zfuel 0 (by omega) (by unfold zfuel; omega)
theorem pv_rng {w : zW} {T : Nat} {s : Nat → Int32} (h : RT w T s) (l : Nat) : ∃ c, c ≤ 999 ∧ pv s l = nI c := by
  have c2 := h.2.1.2.2.1.2
  obtain ⟨k, hk, ek, tk⟩ := nn_nI h.1 2 (by decide) (by decide)
  unfold pv
  by_cases a : 0 < (s 419).toInt
  · rw [if_pos a]
    by_cases b : (tval s 1 (penv (nI l) (s 2) (s (266 + l)))).toInt < 0
    · rw [if_pos b]
      exact ⟨0, by decide, rfl⟩
    · rw [if_neg b]
      by_cases c : 999 < (tval s 1 (penv (nI l) (s 2) (s (266 + l)))).toInt
      · rw [if_pos c]
        exact ⟨999, by decide, rfl⟩
      · rw [if_neg c]
        obtain ⟨v, hv, ev, tv⟩ := of_toInt (tval s 1 (penv (nI l) (s 2) (s (266 + l)))) (by omega)
        exact ⟨v, by omega, ev⟩
  · rw [if_neg a]
    by_cases b : l = 5
    · rw [if_pos b, ek, nI_add]
      exact ⟨1 + k, by omega, rfl⟩
    · rw [if_neg b]
      exact ⟨1, by decide, rfl⟩
/-- only the purse changes -/
theorem RT_purse {w : zW} {s : Nat → Int32} (h : RT w 1 s) {v : Nat} (hv : v ≤ 99999) : RT (zupd w 1 11 (nI v)) 1 (upd s 3 (nI v)) := by
  refine RT_cnt h (fun k hk => zupd_ne _ _ _ hk) (fun p _ h3 _ => upd_ne _ _ h3) (nn_upd h.1 _ _ (by rw [tnI (by omega)]; omega)) ?_
  have q := h.2.1
  unfold Rcnt at q ⊢
  rw [zupd_eq, zupd_ne _ _ _ (show 1 + 2 ≠ 1 by decide), upd_ne s _ (show 0 ≠ 3 by decide), upd_ne s _ (show 1 ≠ 3 by decide), upd_ne s _ (show 2 ≠ 3 by decide), upd_ne s _ (show 4 ≠ 3 by decide), upd_ne s _ (show 5 ≠ 3 by decide), upd_ne s _ (show 6 ≠ 3 by decide), upd_eq, upd_eq, upd_ne (w 1) _ (show 7 ≠ 11 by decide), upd_ne (w 1) _ (show 10 ≠ 11 by decide), upd_ne (w 1) _ (show 8 ≠ 11 by decide), upd_ne (w 1) _ (show 9 ≠ 11 by decide), upd_ne (w 1) _ (show 12 ≠ 11 by decide), tnI (by omega)]
  exact ⟨q.1, q.2.1, q.2.2.1, ⟨rfl, by omega⟩, q.2.2.2.2⟩
/-- the row behind a lay -/
def lay1 (s : Nat → Int32) (i j l b : Nat) : Nat → Int32 := upd (upd (upd s (266 + l) (s (266 + l) - (if b = 0 then nI 1 else nI 0))) 3 (s 3 - (if b = 0 then nI 0 else pv s l))) (11 + 27 * i + j) (nI l)
def canlay (s : Nat → Int32) (i j l b : Nat) : Prop := wbk s i j = nI 0 ∧ if b = 0 then 0 < (s (266 + l)).toInt else (pv s l).toInt ≤ (s 3).toInt
theorem Xlay_ok {w : zW} {s : Nat → Int32} (h : RT w 1 s) {i j l b : Nat} (hi : (i : Int) < (s 0).toInt) (hj : j < wln s i) (h1 : 1 ≤ l) (h26 : l ≤ 26) (hb : b ≤ 1) : ∃ wa, (canlay s i j l b → f_X11_lay (nI i) (nI j) (nI l) (nI b) w = some (nI (lc (wbk (lay1 s i j l b) i) (wln s i)), wa) ∧ FX w wa ∧ RT wa 1 (lay1 s i j l b)) ∧ (¬ canlay s i j l b → f_X11_lay (nI i) (nI j) (nI l) (nI b) w = f_X11_error (nI 3) wa ∧ SX w wa) := by
  have h6 := h.2.1.1.2
  have wl := wln_le h hi
  obtain ⟨q1, q2⟩ := Xwall_at h hi
  have hp := hasPlace_k h hi (nI j)
  rw [wl.2, tnI (by omega), tnI (by omega)] at hp
  have X0 : f_X11_lay (nI i) (nI j) (nI l) (nI b) w = if wbk s i j = nI 0 then (if nI b = nI 1 then zb2 (f_X8_priceOf (nI l) w) fun x14 w1 => j_X11_lay_81 (nI j) (nI l) (nI b) (40 + 2 * i) x14 w1 else j_X11_lay_81 (nI j) (nI l) (nI b) (40 + 2 * i) (nI 1) w) else f_X11_error (nI 3) w := by
    rw [f_X11_lay, hp, zb_s, if_neg (by rw [bP_0]; omega), XisLetter_spec, zb_s, if_neg (by rw [bP_0, tnI (by omega)]; omega), if_neg (by rw [lt_nI _ (by decide), tnI (by omega)]; omega), if_neg (by rw [nI_lt2 _ (by decide), tnI (by omega)]; omega), zin_nI (by omega) (by decide), zg_t, clamp_nI (by omega), zld_k _ _ _ _ _ (by omega) (by decide), q2 j hj, zb2_eta]
  by_cases e0 : wbk s i j = nI 0
  · rw [if_pos e0] at X0
    have fin : ∀ (w2 : zW) (s2 : Nat → Int32), RT w2 1 s2 → s2 0 = s 0 → s2 (10 + 27 * i) = s (10 + 27 * i) → j_X11_lay_156 (nI j) (nI l) (40 + 2 * i) w2 = some (nI (lc (wbk (upd s2 (11 + 27 * i + j) (nI l)) i) (wln s i)), zupd w2 (40 + 2 * i + 1) j (nI l)) ∧ RT (zupd w2 (40 + 2 * i + 1) j (nI l)) 1 (upd s2 (11 + 27 * i + j) (nI l)) := fun w2 s2 h2 z0 z10 => by
      have r := RT_brick h2 (i := i) (j := j) (b := l) (by rw [z0]; exact hi) (by rw [z10, wl.2, tnI (by omega)]; omega) h26
      rw [show 1 + 40 + 2 * i = 40 + 2 * i + 1 by omega] at r
      have c := Xletters r (i := i) (by rw [upd_ne _ _ (by omega), z0]; exact hi)
      have ew : wln (upd s2 (11 + 27 * i + j) (nI l)) i = wln s i := by
        unfold wln
        rw [upd_ne _ _ (by omega), z10]
      rw [ew] at c
      refine ⟨?_, r⟩
      rw [j_X11_lay_156, zsto_k _ _ _ _ _ _ (by omega) (by decide), c, zb_s]
    by_cases b0 : b = 0
    · subst b0
      obtain ⟨hv, hh, eh, th⟩ := nn_nI h.1 (266 + l) (by omega) (by omega)
      have h99 := (h.2.2.2.2.1 l h1 h26).2
      have hx := (h.2.2.2.2.1 l h1 h26).1
      rw [show 1 + 37 = 38 from rfl] at hx
      rw [if_neg (by decide), j_X11_lay_81, if_neg (by decide), zld_k _ _ _ _ _ (by omega) (by decide), hx, j_X11_lay_110] at X0
      by_cases c : canlay s i j l 0
      · refine ⟨zupd (zupd w 38 l (nI (hv - 1))) (40 + 2 * i + 1) j (nI l), fun _ => ?_, fun nc => absurd c nc⟩
        obtain ⟨_, c2⟩ := c
        rw [if_pos rfl] at c2
        have r := RT_heap h (l := l) (b := hv - 1) h1 h26 (by omega)
        obtain ⟨f1, f2⟩ := fin _ _ r (upd_ne _ _ (by omega)) (upd_ne _ _ (by omega))
        have el : lay1 s i j l 0 = upd (upd s (266 + l) (nI (hv - 1))) (11 + 27 * i + j) (nI l) := by
          unfold lay1
          rw [if_pos rfl, if_pos rfl, sub0, eh, nI_sub (by omega) (by omega), ← upd_ne s (nI (hv - 1)) (show 3 ≠ 266 + l by omega), upd_self]
        rw [el]
        refine ⟨?_, FX_upd (FX_upd (FX_refl w) _ _ (by omega)) _ _ (by omega), f2⟩
        rw [X0, if_neg (by rw [lt_nI _ (by decide)]; omega), if_neg (by decide), zld_k _ _ _ _ _ (by omega) (by decide), hx, eh, nI_sub (by omega) (by omega), zsto_k _ _ _ _ _ _ (by omega) (by decide)]
        exact f1
      · refine ⟨w, fun nc => absurd nc c, fun _ => ⟨?_, SX.refl w⟩⟩
        have : ¬ 0 < (s (266 + l)).toInt := fun a => c ⟨e0, by rw [if_pos rfl]; exact a⟩
        rw [X0, if_pos (by rw [lt_nI _ (by decide)]; omega), zb2_eta]
    · have b1 : b = 1 := by omega
      subst b1
      obtain ⟨pu, hpu, epu, tpu⟩ := nn_nI h.1 3 (by decide) (by decide)
      have p9 := h.2.1.2.2.2.1.2
      obtain ⟨c, hc, ec⟩ := pv_rng h l
      obtain ⟨w1, x1, x2, x3⟩ := Xprice h h1 h26
      have hT := RT_SX h x2
      have hx : w1 1 11 = s 3 := hT.2.1.2.2.2.1.1
      rw [if_pos rfl, x1, zb2_s, j_X11_lay_81, if_pos rfl, hx, j_X11_lay_110] at X0
      by_cases cl : canlay s i j l 1
      · refine ⟨zupd (zupd w1 1 11 (nI (pu - c))) (40 + 2 * i + 1) j (nI l), fun _ => ?_, fun nc => absurd cl nc⟩
        obtain ⟨_, c2⟩ := cl
        rw [if_neg (by decide), ec, tnI (by omega)] at c2
        have r := RT_purse hT (v := pu - c) (by omega)
        obtain ⟨f1, f2⟩ := fin _ _ r (upd_ne _ _ (by omega)) (upd_ne _ _ (by omega))
        have el : lay1 s i j l 1 = upd (upd s 3 (nI (pu - c))) (11 + 27 * i + j) (nI l) := by
          unfold lay1
          rw [if_neg (by decide), if_neg (by decide), sub0, upd_self, ec, epu, nI_sub (by omega) (by omega)]
        rw [el]
        refine ⟨?_, FX.trans (SX.FX x2) (FX_upd (FX_upd (FX_refl w1) _ _ (by omega)) _ _ (by omega)), f2⟩
        rw [X0, if_neg (by rw [ec, lt_nI _ (by omega)]; omega), if_pos rfl, hx, ec, epu, nI_sub (by omega) (by omega), zlet_e]
        exact f1
      · refine ⟨w1, fun nc => absurd nc cl, fun _ => ⟨?_, x2⟩⟩
        have : ¬ (pv s l).toInt ≤ (s 3).toInt := fun a => cl ⟨e0, by rw [if_neg (by decide)]; exact a⟩
        rw [X0, if_pos (by rw [Int32.lt_iff_toInt_lt]; omega), zb2_eta]
  · rw [if_neg e0] at X0
    exact ⟨w, fun c => absurd c.1 e0, fun _ => ⟨X0, SX.refl w⟩⟩
theorem Mlay_ok {wx w : zW} {s : Nat → Int32} (h : RT wx 1 s) (hw : w 129 = s) {i j l b : Nat} (hi : (i : Int) < (s 0).toInt) (hj : j < wln s i) (h1 : 1 ≤ l) (h26 : l ≤ 26) (hb : b ≤ 1) : ∃ w2, (canlay s i j l b → (∃ wy, RT wy 1 (lay1 s i j l b)) → f_X12_lay (nI i) (nI j) (nI l) (nI b) w = some (nI (lc (wbk (lay1 s i j l b) i) (wln s i)), w2) ∧ SM9 w w2 ∧ w2 129 = lay1 s i j l b) ∧ (¬ canlay s i j l b → ∃ w3, f_X12_lay (nI i) (nI j) (nI l) (nI b) w = f_X12_error (nI 3) w3 ∧ SM w w3) := by
  have h6 := h.2.1.1.2
  have wl := wln_le h hi
  obtain ⟨w1, x1, x2⟩ := Mprice (w := w) h hw h1 h26
  have e9 : w1 129 = s := by rw [x2.1 129 (by omega)]; exact hw
  obtain ⟨c, hc, ec⟩ := pv_rng h l
  obtain ⟨has, ehas⟩ : ∃ has : Prop, has = (if b = 0 then 0 < (s (266 + l)).toInt else (pv s l).toInt ≤ (s 3).toInt) := ⟨_, rfl⟩
  have M0 : ∃ v, (v = nI 1 ∨ v = nI 0) ∧ (v = nI 1 ↔ has) ∧ f_X12_lay (nI i) (nI j) (nI l) (nI b) w = j_X12_lay_89 (nI i) (nI j) (nI l) (nI b) (pv s l) v w1 := by
    have M1 : f_X12_lay (nI i) (nI j) (nI l) (nI b) w = (if nI b = nI 0 then (if nI 0 < s (266 + l) then j_X12_lay_89 (nI i) (nI j) (nI l) (nI b) (pv s l) (nI 1) w1 else j_X12_lay_89 (nI i) (nI j) (nI l) (nI b) (pv s l) (nI 0) w1) else if s 3 < pv s l then j_X12_lay_89 (nI i) (nI j) (nI l) (nI b) (pv s l) (nI 0) w1 else j_X12_lay_89 (nI i) (nI j) (nI l) (nI b) (pv s l) (nI 1) w1) := by
      rw [f_X12_lay, isWall_spec hw h.1 h6, zb_s, if_neg (by rw [bP_0, tnI (by omega)]; omega), isPlace_k hw h.1 (by omega) (by rw [wl.2, tnI (by omega)]; omega), zb_s, if_neg (by rw [bP_0, tnI (by omega), wl.2, tnI (by omega)]; omega), isLetter_spec, zb_s, if_neg (by rw [bP_0, tnI (by omega)]; omega), in_k _ (by decide) (by decide), zb_s, if_neg (by rw [bP_0, tnI (by omega)]; omega), x1, zb2_s, nI_add, zld_k _ _ _ _ _ (by omega) (by decide), e9]
    by_cases b0 : b = 0
    · rw [if_pos b0] at ehas
      rw [if_pos (by rw [b0])] at M1
      by_cases c : 0 < (s (266 + l)).toInt
      · rw [if_pos (by rw [nI_lt2 _ (by decide)]; omega)] at M1
        exact ⟨nI 1, Or.inl rfl, ⟨fun _ => by rw [ehas]; exact c, fun _ => rfl⟩, M1⟩
      · rw [if_neg (by rw [nI_lt2 _ (by decide)]; omega)] at M1
        exact ⟨nI 0, Or.inr rfl, ⟨fun a => absurd a (by decide), fun a => absurd (by rw [ehas] at a; exact a) c⟩, M1⟩
    · rw [if_neg b0] at ehas
      rw [if_neg (by rw [eq_nI _ (by decide), tnI (by omega)]; omega)] at M1
      by_cases c : (pv s l).toInt ≤ (s 3).toInt
      · rw [if_neg (by rw [Int32.lt_iff_toInt_lt]; omega)] at M1
        exact ⟨nI 1, Or.inl rfl, ⟨fun _ => by rw [ehas]; exact c, fun _ => rfl⟩, M1⟩
      · rw [if_pos (by rw [Int32.lt_iff_toInt_lt]; omega)] at M1
        exact ⟨nI 0, Or.inr rfl, ⟨fun a => absurd a (by decide), fun a => absurd (by rw [ehas] at a; exact a) c⟩, M1⟩
  obtain ⟨v, v1, v2, M⟩ := M0
  have ewb : s (11 + 27 * i + j) = wbk s i j := rfl
  rw [j_X12_lay_89, at_k, zb_s, zld_k _ _ _ _ _ (by omega) (by decide), e9, ewb] at M
  have er : ¬ canlay s i j l b → f_X12_lay (nI i) (nI j) (nI l) (nI b) w = f_X12_error (nI 3) w1 := fun nc => by
    rw [M]
    by_cases e0 : wbk s i j = nI 0
    · rw [if_pos e0]
      have : ¬ has := fun a => nc ⟨e0, by rw [← ehas]; exact a⟩
      rcases v1 with rfl | rfl
      · exact absurd (v2.mp rfl) this
      · rw [if_pos rfl, j_X12_lay_110, zb2_eta]
    · rw [if_neg e0, j_X12_lay_110, zb2_eta]
  refine ⟨zupd (zupd (zupd w1 129 (266 + l) (s (266 + l) - (if b = 0 then nI 1 else nI 0))) 129 3 (s 3 - (if b = 0 then nI 0 else pv s l))) 129 (11 + 27 * i + j) (nI l), fun c ⟨wy, hy⟩ => ?_, fun nc => ⟨w1, er nc, SN.SM x2⟩⟩
  have e1 : (zupd (zupd (zupd w1 129 (266 + l) (s (266 + l) - (if b = 0 then nI 1 else nI 0))) 129 3 (s 3 - (if b = 0 then nI 0 else pv s l))) 129 (11 + 27 * i + j) (nI l)) 129 = lay1 s i j l b := by
    rw [zupd_eq, zupd_eq, zupd_eq, e9]
    rfl
  refine ⟨?_, SM9.trans (SM.SM9 (SN.SM x2)) (SM9.upd (SM9.upd (SM9.upd (SM9.refl w1) _ _ (by omega)) _ _ (by omega)) _ _ (by omega)), e1⟩
  have hv : v = nI 1 := v2.mpr (by rw [ehas]; exact c.2)
  have ew : wln (lay1 s i j l b) i = wln s i := by
    unfold wln lay1
    rw [upd_ne _ _ (by omega), upd_ne _ _ (by omega), upd_ne _ _ (by omega)]
  have cl := Mletters hy e1 (i := i) (by unfold lay1; rw [upd_ne _ _ (by omega), upd_ne _ _ (by omega), upd_ne _ _ (by omega)]; exact hi)
  rw [ew] at cl
  rw [M, if_pos c.1, hv, if_neg (by decide), nI_add, zld_k _ _ _ _ _ (by omega) (by decide), e9]
  by_cases b0 : b = 0
  · subst b0
    rw [if_pos rfl, if_pos rfl] at cl
    rw [if_pos rfl, j_X12_lay_137, zsto_k _ _ _ _ _ _ (by omega) (by decide), if_pos rfl, j_X12_lay_157, zsto_k _ _ _ _ _ _ (by omega) (by decide), zupd_eq, upd_ne _ _ (by omega), e9, at_k, zb_s, zsto_k _ _ _ _ _ _ (by omega) (by decide), cl, zb_s, if_pos rfl, if_pos rfl]
  · rw [if_neg b0, if_neg b0] at cl
    have nb : ¬ nI b = nI 0 := by rw [eq_nI _ (by decide), tnI (by omega)]; omega
    rw [if_neg nb, j_X12_lay_137, zsto_k _ _ _ _ _ _ (by omega) (by decide), if_neg nb, j_X12_lay_157, zsto_k _ _ _ _ _ _ (by omega) (by decide), zupd_eq, upd_ne _ _ (by omega), e9, at_k, zb_s, zsto_k _ _ _ _ _ _ (by omega) (by decide), cl, zb_s, if_neg b0, if_neg b0]
theorem op_lay {w : zW} (hR : Rel w) (a b c d : Int32) : OK2 (f_X11_lay a b c d) (f_X12_lay a b c d) w := by
  have h := hR.1
  have h6 := h.2.1.1.2
  by_cases ha : 0 ≤ a.toInt ∧ a.toInt < (w 129 0).toInt
  · obtain ⟨i, hi, rfl, ei⟩ := of_toInt a ha.1
    have hi' : (i : Int) < (w 129 0).toInt := by omega
    have wl := wln_le h hi'
    by_cases hb : 0 ≤ b.toInt ∧ b.toInt < (w 129 (10 + 27 * i)).toInt
    · obtain ⟨j, hj, rfl, ej⟩ := of_toInt b hb.1
      have hjl : j < wln (w 129) i := by
        rw [wl.2, tnI (show wln (w 129) i < 2 ^ 31 by omega)] at hb
        omega
      by_cases hc : (1 ≤ c.toInt ∧ c.toInt ≤ 26) ∧ 0 ≤ d.toInt ∧ d.toInt ≤ 1
      · obtain ⟨l, hl, rfl, el⟩ := of_toInt c (by omega)
        obtain ⟨e, he, rfl, ee⟩ := of_toInt d hc.2.1
        obtain ⟨wa, x1, x2⟩ := Xlay_ok h hi' hjl (show 1 ≤ l by omega) (show l ≤ 26 by omega) (show e ≤ 1 by omega)
        by_cases can : canlay (w 129) i j l e
        · obtain ⟨y1, y2, y3⟩ := x1 can
          obtain ⟨w2, z1, _⟩ := Mlay_ok (w := wa) h (y2 129 (by omega)) hi' hjl (show 1 ≤ l by omega) (show l ≤ 26 by omega) (show e ≤ 1 by omega)
          obtain ⟨z2, z3, z4⟩ := z1 can ⟨wa, y3⟩
          exact OK_town hR y1 y2 y3 z2 z3 z4
        · obtain ⟨y1, y2⟩ := x2 can
          refine OK_askE hR (k := 3) (by decide) (by decide) y1 y2 (fun w1 e1 => ?_)
          obtain ⟨w2, _, z1⟩ := Mlay_ok (w := w1) h ((e1 129 (by decide)).trans (y2 129 (by omega))) hi' hjl (show 1 ≤ l by omega) (show l ≤ 26 by omega) (show e ≤ 1 by omega)
          exact z1 can
      · refine OK_err hR (k := 1) (by decide) (by decide) ?_ (fun w1 e => ?_)
        · rw [f_X11_lay, hasPlace_k h hi', zb_s, if_neg (by rw [bP_0]; omega), XisLetter_spec, zb_s]
          by_cases hl : 1 ≤ c.toInt ∧ c.toInt ≤ 26
          · rw [if_neg (by rw [bP_0]; omega)]
            by_cases d0 : d.toInt < 0
            · rw [if_pos (by rw [lt_nI _ (by decide)]; omega), j_X11_lay_30, zb2_eta]
            · rw [if_neg (by rw [lt_nI _ (by decide)]; omega), if_pos (by rw [nI_lt2 _ (by decide)]; omega), j_X11_lay_30, zb2_eta]
          · rw [if_pos (by rw [bP_0]; exact hl), j_X11_lay_30, zb2_eta]
        · rw [f_X12_lay, isWall_spec e h.1 h6, zb_s, if_neg (by rw [bP_0]; omega), isPlace_k e h.1 (by omega) (by rw [wl.2, tnI (by omega)]; omega), zb_s, if_neg (by rw [bP_0]; omega), isLetter_spec, zb_s]
          by_cases hl : 1 ≤ c.toInt ∧ c.toInt ≤ 26
          · rw [if_neg (by rw [bP_0]; omega), in_k _ (by decide) (by decide), zb_s, if_pos (by rw [bP_0]; omega), j_X12_lay_34, zb2_eta]
          · rw [if_pos (by rw [bP_0]; exact hl), j_X12_lay_34, zb2_eta]
    · refine OK_err hR (k := 1) (by decide) (by decide) ?_ (fun w1 e => ?_)
      · rw [f_X11_lay, hasPlace_k h hi', zb_s, if_pos (by rw [bP_0]; exact hb), j_X11_lay_30, zb2_eta]
      · rw [f_X12_lay, isWall_spec e h.1 h6, zb_s, if_neg (by rw [bP_0]; omega), isPlace_k e h.1 (by omega) (by rw [wl.2, tnI (by omega)]; omega), zb_s, if_pos (by rw [bP_0]; exact hb), j_X12_lay_34, zb2_eta]
  · refine OK_err hR (k := 1) (by decide) (by decide) ?_ (fun w1 e => ?_)
    · rw [f_X11_lay, hasPlace_n h ha, zb_s, if_pos rfl, j_X11_lay_30, zb2_eta]
    · rw [f_X12_lay, isWall_spec e h.1 h6, zb_s, if_pos (by rw [bP_0]; exact ha), j_X12_lay_34, zb2_eta]
