theorem und3 : ∀ k, k < 7 → f_X11_isUnder (nI k) (nI 3) = some (bP (k = 3 ∨ k = 5)) := by decide +kernel
theorem und1 : ∀ k, k < 7 → f_X11_isUnder (nI k) (nI 1) = some (bP (k = 1 ∨ k = 4)) := by decide +kernel
/-- the row in the class's cells, in the reference's cells -/
def RX (w : zW) (n : Nat) (f : Nat → Int32) : Prop := w 116 1 = nI n ∧ ∀ j, j < n → w 117 j = f j
def RM (w : zW) (n : Nat) (f : Nat → Int32) : Prop := w 128 12 = nI n ∧ ∀ j, j < n → w 135 j = f j
/-- only cells aside have changed -/
def SX (w w1 : zW) : Prop := ∀ k, ¬ (k = 31 ∨ k = 32 ∨ k = 35 ∨ k = 36 ∨ (112 ≤ k ∧ k < 125)) → w1 k = w k
def SM (w w2 : zW) : Prop := (∀ k, k ≠ 128 → ¬ (132 ≤ k ∧ k < 139) → k < 143 → w2 k = w k) ∧ w2 128 2 = w 128 2 ∧ w2 128 21 = w 128 21
/-- only the row, the text's stack and names have changed -/
def SR (w w1 : zW) : Prop := ∀ k, ¬ (k = 31 ∨ k = 32 ∨ k = 116 ∨ k = 117) → w1 k = w k
theorem SR.trans {a b c : zW} (h : SR a b) (h' : SR b c) : SR a c := fun k hk => (h' k hk).trans (h k hk)
theorem SR.refl (a : zW) : SR a a := fun _ _ => rfl
theorem SR.upd {a b : zW} (h : SR a b) {k : Nat} (i : Nat) (v : Int32) (hk : k = 31 ∨ k = 32 ∨ k = 116 ∨ k = 117) : SR a (zupd b k i v) := fun j hj => by rw [zupd_ne _ _ _ (by omega)]; exact h j hj
/-- the same of the reference -/
def SN (w w1 : zW) : Prop := (∀ k, ¬ (k = 128 ∨ k = 133 ∨ k = 134 ∨ k = 135) → w1 k = w k) ∧ ∀ j, j ≠ 12 → w1 128 j = w 128 j
theorem SN.trans {a b c : zW} (h : SN a b) (h' : SN b c) : SN a c := ⟨fun k hk => (h'.1 k hk).trans (h.1 k hk), fun k hk => (h'.2 k hk).trans (h.2 k hk)⟩
theorem SN.refl (a : zW) : SN a a := ⟨fun _ _ => rfl, fun _ _ => rfl⟩
theorem SN.upd {a b : zW} (h : SN a b) {k : Nat} (i : Nat) (v : Int32) (hk : k = 133 ∨ k = 134 ∨ k = 135) : SN a (zupd b k i v) := ⟨fun j hj => by rw [zupd_ne _ _ _ (by omega)]; exact h.1 j hj, fun j hj => by rw [zupd_ne _ _ _ (by omega)]; exact h.2 j hj⟩
theorem SN.upd8 {a b : zW} (h : SN a b) (v : Int32) : SN a (zupd b 128 12 v) := ⟨fun j hj => by rw [zupd_ne _ _ _ (by omega)]; exact h.1 j hj, fun j hj => by rw [zupd_eq, upd_ne _ _ hj]; exact h.2 j hj⟩
def tkN (g : Nat → Int32) (n0 : Nat) : Nat → Nat
  | 0 => n0
  | k + 1 => if g k = nI 0 then tkN g n0 k else tkN g n0 k + 1
def tkF (g f0 : Nat → Int32) (n0 : Nat) : Nat → Nat → Int32
  | 0 => f0
  | k + 1 => if g k = nI 0 then tkF g f0 n0 k else upd (tkF g f0 n0 k) (tkN g n0 k) (g k)
theorem tkN_le (g : Nat → Int32) (n0 : Nat) : ∀ k, tkN g n0 k ≤ n0 + k
  | 0 => Nat.le_refl _
  | k + 1 => by
    have := tkN_le g n0 k
    rw [tkN]
    split <;> omega
theorem Xappend_loop (K : zW → Option zW) {A ln n0 : Nat} {g f0 : Nat → Int32} (h1 : A + 1 < 116 ∨ 117 < A) (h2 : n0 + ln ≤ 48) (hl : ln ≤ 24) : ∀ (n k : Nat) (w : zW), k ≤ ln → w A 3 = nI ln → (∀ j, j < ln → w (A + 1) j = g j) → RX w (tkN g n0 k) (tkF g f0 n0 k) → ln - k < n → ∃ w1, l_X3_append_2 K n A (nI k) w = K w1 ∧ SR w w1 ∧ RX w1 (tkN g n0 ln) (tkF g f0 n0 ln) := by
  intro n
  induction n with
  | zero => intro k w _ _ _ _ h; omega
  | succ n ih =>
    intro k w hk hw hg hr hn
    have tl := tkN_le g n0 k
    rw [l_X3_append_2.eq_2, hw]
    by_cases e : k < ln
    · rw [if_pos (by rw [lt_nI _ (by omega), tnI (by omega)]; omega), zld_k _ _ _ _ _ (by omega) (by decide), hg k e]
      by_cases e0 : g k = nI 0
      · rw [if_pos e0, zlet_e, nI_add]
        exact ih (k + 1) w (by omega) hw hg (by rw [tkN, if_pos e0, tkF, if_pos e0]; exact hr) (by omega)
      · obtain ⟨w1, x1, x2, x3⟩ := ih (k + 1) (zupd (zupd w 117 (tkN g n0 k) (g k)) 116 1 (nI (tkN g n0 k + 1))) (by omega) (by rw [zupd_ne _ _ _ (by omega), zupd_ne _ _ _ (by omega)]; exact hw) (fun j hj => by rw [zupd_ne _ _ _ (by omega), zupd_ne _ _ _ (by omega)]; exact hg j hj) (by
          rw [tkN, if_neg e0, tkF, if_neg e0]
          refine ⟨by rw [zupd_eq, upd_eq], fun j hj => ?_⟩
          rw [zupd_ne _ _ _ (by decide), zupd_eq]
          by_cases ej : j = tkN g n0 k
          · rw [ej, upd_eq, upd_eq]
          · rw [upd_ne _ _ ej, upd_ne _ _ ej]
            exact hr.2 j (by omega)) (by omega)
        refine ⟨w1, ?_, fun c hc => (x2 c hc).trans (by rw [zupd_ne _ _ _ (by omega), zupd_ne _ _ _ (by omega)]), x3⟩
        rw [if_neg e0, hr.1, if_pos (by rw [lt_nI _ (by decide), tnI (by omega)]; omega), zld_k _ _ _ _ _ (by omega) (by decide), hg k e, zsto_k _ _ _ _ _ _ (by omega) (by decide), zupd_ne _ _ _ (show 116 ≠ 117 by decide), hr.1, nI_add, zlet_e, nI_add, zlet_e]
        exact x1
    · have : k = ln := by omega
      subst this
      rw [if_neg (by rw [lt_nI _ (by omega), tnI (by omega)]; omega)]
      exact ⟨w, rfl, SR.refl w, hr⟩
theorem Mtakes_loop (K : zW → Option zW) {s : Nat → Int32} {i ln n0 : Nat} {f0 : Nat → Int32} (hi : i < 6) (h2 : n0 + ln ≤ 48) (hl : ln ≤ 24) (hn9 : nn s) (hs10 : s (10 + 27 * i) = nI ln) : ∀ (n k : Nat) (w : zW), k ≤ ln → w 129 = s → RM w (tkN (fun j => s (11 + 27 * i + j)) n0 k) (tkF (fun j => s (11 + 27 * i + j)) f0 n0 k) → ln - k < n → ∃ w1, l_X12_takes_2 K n (nI i) (nI k) w = K w1 ∧ SN w w1 ∧ RM w1 (tkN (fun j => s (11 + 27 * i + j)) n0 ln) (tkF (fun j => s (11 + 27 * i + j)) f0 n0 ln) := by
  obtain ⟨g, hg⟩ : ∃ g : Nat → Int32, g = fun j => s (11 + 27 * i + j) := ⟨_, rfl⟩
  have hgk : ∀ k, s (11 + 27 * i + k) = g k := fun k => by rw [hg]
  rw [← hg]
  intro n
  induction n with
  | zero => intro k w _ _ _ h; omega
  | succ n ih =>
    intro k w hk hw hr hn
    have tl := tkN_le g n0 k
    rw [l_X12_takes_2.eq_2, its_k hw hi (by decide), show 8 + 27 * i + 2 = 10 + 27 * i by omega, hs10, zb_s]
    by_cases e : k < ln
    · have gk0 : 0 ≤ (g k).toInt := by rw [← hgk]; exact hn9 _ (by omega) (by omega)
      rw [if_pos (by rw [lt_nI _ (by omega), tnI (by omega)]; omega), at_k, zb_s, zld_k _ _ _ _ _ (by omega) (by decide), hw, hgk]
      by_cases e0 : g k = nI 0
      · rw [if_neg (by rw [e0]; decide), zlet_e, nI_add]
        exact ih (k + 1) w (by omega) hw (by rw [tkN, if_pos e0, tkF, if_pos e0]; exact hr) (by omega)
      · have e0' := e0
        rw [eq_nI _ (by decide)] at e0'
        obtain ⟨w1, x1, x2, x3⟩ := ih (k + 1) (zupd (zupd w 135 (tkN g n0 k) (g k)) 128 12 (nI (tkN g n0 k + 1))) (by omega) (by rw [zupd_ne _ _ _ (by decide), zupd_ne _ _ _ (by decide)]; exact hw) (by
          rw [tkN, if_neg e0, tkF, if_neg e0]
          refine ⟨by rw [zupd_eq, upd_eq], fun j hj => ?_⟩
          rw [zupd_ne _ _ _ (by decide), zupd_eq]
          by_cases ej : j = tkN g n0 k
          · rw [ej, upd_eq, upd_eq]
          · rw [upd_ne _ _ ej, upd_ne _ _ ej]
            exact hr.2 j (by omega)) (by omega)
        refine ⟨w1, ?_, SN.trans (SN.upd8 (SN.upd (SN.refl w) _ _ (by omega)) _) x2, x3⟩
        rw [if_pos (by rw [nI_lt2 _ (by decide)]; omega), zb_s, zld_k _ _ _ _ _ (by omega) (by decide), hr.1, zsto_k _ _ _ _ _ _ (by omega) (by decide), zupd_ne _ _ _ (show 128 ≠ 135 by decide), hr.1, nI_add, zlet_e, nI_add, zlet_e, hw, hgk]
        exact x1
    · have : k = ln := by omega
      subst this
      rw [if_neg (by rw [lt_nI _ (by omega), tnI (by omega)]; omega)]
      exact ⟨w, rfl, SN.refl w, hr⟩
/-- the row turned round, its outermost k pairs done -/
def rvF (f : Nat → Int32) (n k j : Nat) : Int32 := if j < k ∨ n ≤ j + k then f (n - 1 - j) else f j
theorem rv_step {f B : Nat → Int32} {n k : Nat} (hk : 2 * k + 1 < n) (h : ∀ j, j < n → B j = rvF f n k j) : ∀ j, j < n → upd (upd B k (B (n - 1 - k))) (n - 1 - k) (B k) j = rvF f n (k + 1) j := fun j hj => by
  have hk1 := h k (by omega)
  have hk2 := h (n - 1 - k) (by omega)
  unfold rvF at hk1 hk2 ⊢
  rw [if_neg (by omega)] at hk1 hk2
  by_cases e1 : j = n - 1 - k
  · rw [e1, upd_eq, hk1, if_pos (by omega)]
    exact congrArg f (by omega)
  · rw [upd_ne _ _ e1]
    by_cases e2 : j = k
    · rw [e2, upd_eq, hk2, if_pos (by omega)]
    · rw [upd_ne _ _ e2, h j hj]
      unfold rvF
      by_cases e3 : j < k ∨ n ≤ j + k
      · rw [if_pos e3, if_pos (by omega)]
      · rw [if_neg e3, if_neg (by omega)]
theorem rv_end {f B : Nat → Int32} {n k : Nat} (hk : ¬ 2 * k + 1 < n) (h : ∀ j, j < n → B j = rvF f n k j) : ∀ j, j < n → B j = f (n - 1 - j) := fun j hj => by
  rw [h j hj]
  unfold rvF
  by_cases e : j < k ∨ n ≤ j + k
  · rw [if_pos e]
  · rw [if_neg e]
    exact congrArg f (by omega)
theorem Xreverse_loop (K : zW → Option zW) {n : Nat} {f : Nat → Int32} (h48 : n ≤ 48) : ∀ (m k : Nat) (w : zW), k ≤ n → RX w n (rvF f n k) → n - k < m → ∃ w1, l_X3_reverse_2 K m (nI k) w = K w1 ∧ SR w w1 ∧ RX w1 n (fun j => f (n - 1 - j)) := by
  intro m
  induction m with
  | zero => intro k w _ _ h; omega
  | succ m ih =>
    intro k w hk hr hn
    rw [l_X3_reverse_2.eq_2, hr.1, pk_div (by omega) (by decide) (by decide)]
    by_cases e : 2 * k + 1 < n
    · obtain ⟨w1, x1, x2, x3⟩ := ih (k + 1) (zupd (zupd w 117 k (w 117 (n - 1 - k))) 117 (n - 1 - k) (w 117 k)) (by omega) ⟨by rw [zupd_ne _ _ _ (by decide), zupd_ne _ _ _ (by decide)]; exact hr.1, fun j hj => by
        rw [zupd_eq, zupd_eq]
        exact rv_step e hr.2 j hj⟩ (by omega)
      refine ⟨w1, ?_, SR.trans (SR.upd (SR.upd (SR.refl w) _ _ (by omega)) _ _ (by omega)) x2, x3⟩
      rw [if_pos (by rw [lt_nI _ (by omega), tnI (by omega)]; omega), nI_sub (by omega) (by omega), nI_sub (by omega) (by omega), zlet_e, zld_k _ _ _ _ _ (by omega) (by decide), zld_k _ _ _ _ _ (by omega) (by decide), zsto_k _ _ _ _ _ _ (by omega) (by decide), zsto_k _ _ _ _ _ _ (by omega) (by decide), zlet_e, nI_add]
      exact x1
    · rw [if_neg (by rw [lt_nI _ (by omega), tnI (by omega)]; omega)]
      exact ⟨w, rfl, SR.refl w, hr.1, rv_end e hr.2⟩
theorem Mturns_loop (K : zW → Option zW) {n : Nat} {f : Nat → Int32} (h48 : n ≤ 48) (h1 : 1 ≤ n) : ∀ (m k : Nat) (w : zW), k < n → RM w n (rvF f n k) → n - k < m → ∃ w1, l_X12_turns_9 K m (nI k) (nI (n - 1 - k)) w = K w1 ∧ SN w w1 ∧ RM w1 n (fun j => f (n - 1 - j)) := by
  intro m
  induction m with
  | zero => intro k w _ _ h; omega
  | succ m ih =>
    intro k w hk hr hn
    rw [l_X12_turns_9.eq_2]
    by_cases e : 2 * k + 1 < n
    · obtain ⟨w1, x1, x2, x3⟩ := ih (k + 1) (zupd (zupd w 135 k (w 135 (n - 1 - k))) 135 (n - 1 - k) (w 135 k)) (by omega) ⟨by rw [zupd_ne _ _ _ (by decide), zupd_ne _ _ _ (by decide)]; exact hr.1, fun j hj => by
        rw [zupd_eq, zupd_eq]
        exact rv_step e hr.2 j hj⟩ (by omega)
      refine ⟨w1, ?_, SN.trans (SN.upd (SN.upd (SN.refl w) _ _ (by omega)) _ _ (by omega)) x2, x3⟩
      rw [if_pos (by rw [lt_nI _ (by omega), tnI (by omega)]; omega), zld_k _ _ _ _ _ (by omega) (by decide), zld_k _ _ _ _ _ (by omega) (by decide), zsto_k _ _ _ _ _ _ (by omega) (by decide), zsto_k _ _ _ _ _ _ (by omega) (by decide), zlet_e, nI_add, nI_dec (by omega) (by omega), zlet_e, show n - 1 - k - 1 = n - 1 - (k + 1) by omega]
      exact x1
    · rw [if_neg (by rw [lt_nI _ (by omega), tnI (by omega)]; omega)]
      exact ⟨w, rfl, SN.refl w, hr.1, rv_end e hr.2⟩
/-- every second letter left out, the first k places done -/
def hvF (f : Nat → Int32) (k j : Nat) : Int32 := if j < k then f (2 * j) else f j
theorem hv_step {f B : Nat → Int32} {n k : Nat} (hk : 2 * k < n) (h : ∀ j, j < n → B j = hvF f k j) : ∀ j, j < n → upd B k (B (2 * k)) j = hvF f (k + 1) j := fun j hj => by
  have hk1 := h (2 * k) (by omega)
  unfold hvF at hk1 ⊢
  by_cases e1 : j = k
  · rw [e1, upd_eq, hk1, if_neg (by omega), if_pos (by omega)]
  · rw [upd_ne _ _ e1, h j hj]
    unfold hvF
    by_cases e3 : j < k
    · rw [if_pos e3, if_pos (by omega)]
    · rw [if_neg e3, if_neg (by omega)]
theorem Xhalve_loop (K : Int32 → zW → Option zW) {n : Nat} {f : Nat → Int32} (h48 : n ≤ 48) : ∀ (m k : Nat) (w : zW), k ≤ (n + 1) / 2 → RX w n (hvF f k) → n - k < m → ∃ w1, l_X3_leaveOutSeconds_11 K m (nI ((n + 1) / 2)) (nI k) w = K (nI ((n + 1) / 2)) w1 ∧ SR w w1 ∧ ∀ j, j < (n + 1) / 2 → w1 117 j = f (2 * j) := by
  intro m
  induction m with
  | zero => intro k w _ _ h; omega
  | succ m ih =>
    intro k w hk hr hn
    rw [l_X3_leaveOutSeconds_11.eq_2]
    by_cases e : k < (n + 1) / 2
    · obtain ⟨w1, x1, x2, x3⟩ := ih (k + 1) (zupd w 117 k (w 117 (2 * k))) (by omega) ⟨by rw [zupd_ne _ _ _ (by decide)]; exact hr.1, fun j hj => by
        rw [zupd_eq]
        exact hv_step (by omega) hr.2 j hj⟩ (by omega)
      refine ⟨w1, ?_, SR.trans (SR.upd (SR.refl w) _ _ (by omega)) x2, x3⟩
      rw [if_pos (by rw [lt_nI _ (by omega), tnI (by omega)]; omega), pk_mul, zld_k _ _ _ _ _ (by omega) (by decide), zsto_k _ _ _ _ _ _ (by omega) (by decide), zlet_e, nI_add]
      exact x1
    · rw [if_neg (by rw [lt_nI _ (by omega), tnI (by omega)]; omega)]
      refine ⟨w, rfl, SR.refl w, fun j hj => ?_⟩
      rw [hr.2 j (by omega), hvF, if_pos (by omega)]
theorem Mhalve_loop (K : Int32 → Int32 → zW → Option zW) {n : Nat} {f : Nat → Int32} (h48 : n ≤ 48) (a2 a3 : Int32) : ∀ (m k : Nat) (w : zW), k ≤ (n + 1) / 2 → RM w n (hvF f k) → n - k < m → ∃ w1, l_X12_reads_79 K m a2 a3 (nI k) w = K a2 a3 w1 ∧ SN w w1 ∧ w1 128 12 = nI n ∧ ∀ j, j < (n + 1) / 2 → w1 135 j = f (2 * j) := by
  intro m
  induction m with
  | zero => intro k w _ _ h; omega
  | succ m ih =>
    intro k w hk hr hn
    rw [l_X12_reads_79.eq_2, hr.1, nI_add, pk_div (by omega) (by decide) (by decide)]
    by_cases e : k < (n + 1) / 2
    · obtain ⟨w1, x1, x2, x3⟩ := ih (k + 1) (zupd w 135 k (w 135 (2 * k))) (by omega) ⟨by rw [zupd_ne _ _ _ (by decide)]; exact hr.1, fun j hj => by
        rw [zupd_eq]
        exact hv_step (by omega) hr.2 j hj⟩ (by omega)
      refine ⟨w1, ?_, SN.trans (SN.upd (SN.refl w) _ _ (by omega)) x2, x3⟩
      rw [if_pos (by rw [lt_nI _ (by omega), tnI (by omega)]; omega), pk_mul, zld_k _ _ _ _ _ (by omega) (by decide), zsto_k _ _ _ _ _ _ (by omega) (by decide), zlet_e, nI_add]
      exact x1
    · rw [if_neg (by rw [lt_nI _ (by omega), tnI (by omega)]; omega)]
      refine ⟨w, rfl, SN.refl w, hr.1, fun j hj => ?_⟩
      rw [hr.2 j (by omega), hvF, if_pos (by omega)]
/-- each letter changed by a rule, the first k done -/
def chF (t : Nat → Int32 → Int32) (f : Nat → Int32) (k j : Nat) : Int32 := if j < k then t j (f j) else f j
theorem ch_step {t : Nat → Int32 → Int32} {f B : Nat → Int32} {n k : Nat} (hk : k < n) (h : ∀ j, j < n → B j = chF t f k j) : ∀ j, j < n → upd B k (t k (f k)) j = chF t f (k + 1) j := fun j hj => by
  unfold chF
  by_cases e1 : j = k
  · rw [e1, upd_eq, if_pos (by omega)]
  · rw [upd_ne _ _ e1, h j hj]
    unfold chF
    by_cases e3 : j < k
    · rw [if_pos e3, if_pos (by omega)]
    · rw [if_neg e3, if_neg (by omega)]
theorem ch_end {t : Nat → Int32 → Int32} {f B : Nat → Int32} {n : Nat} (h : ∀ j, j < n → B j = chF t f n j) : ∀ j, j < n → B j = t j (f j) := fun j hj => by
  rw [h j hj, chF, if_pos hj]
theorem Xmirror_loop (K : zW → Option zW) {n : Nat} {f : Nat → Int32} (h48 : n ≤ 48) : ∀ (m k : Nat) (w : zW), k ≤ n → RX w n (chF (fun _ x => nI 27 - x) f k) → n - k < m → ∃ w1, l_X3_mirrorLetters_2 K m (nI k) w = K w1 ∧ SR w w1 ∧ RX w1 n (fun j => nI 27 - f j) := by
  intro m
  induction m with
  | zero => intro k w _ _ h; omega
  | succ m ih =>
    intro k w hk hr hn
    rw [l_X3_mirrorLetters_2.eq_2, hr.1]
    by_cases e : k < n
    · have hkk := hr.2 k e
      rw [chF, if_neg (by omega)] at hkk
      obtain ⟨w1, x1, x2, x3⟩ := ih (k + 1) (zupd w 117 k (nI 27 - f k)) (by omega) ⟨by rw [zupd_ne _ _ _ (by decide)]; exact hr.1, fun j hj => by
        rw [zupd_eq]
        exact ch_step (t := fun _ x => nI 27 - x) e hr.2 j hj⟩ (by omega)
      refine ⟨w1, ?_, SR.trans (SR.upd (SR.refl w) _ _ (by omega)) x2, x3⟩
      rw [if_pos (by rw [lt_nI _ (by omega), tnI (by omega)]; omega), zld_k _ _ _ _ _ (by omega) (by decide), hkk, zsto_k _ _ _ _ _ _ (by omega) (by decide), zlet_e, nI_add]
      exact x1
    · have : k = n := by omega
      subst this
      rw [if_neg (by rw [lt_nI _ (by omega), tnI (by omega)]; omega)]
      exact ⟨w, rfl, SR.refl w, hr.1, ch_end (t := fun _ x => nI 27 - x) hr.2⟩
theorem RT_aside {w w1 : zW} {T : Nat} {s : Nat → Int32} (h : ∀ k, T ≤ k → k ≤ T + 50 → ¬ (k = T + 30 ∨ k = T + 31 ∨ k = T + 34 ∨ k = T + 35) → w1 k = w k) (hR : RT w T s) : RT w1 T s := by
  obtain ⟨h1, h2, h3, h4, h5, h6, h7, h8⟩ := hR
  have e0 := h T (by omega) (by omega) (by omega)
  have e2 := h (T + 2) (by omega) (by omega) (by omega)
  obtain ⟨⟨c1, c1'⟩, ⟨c2, c2'⟩, c3⟩ := id h2
  refine ⟨h1, ?_, ?_, ?_, ?_, ?_, ?_, ?_⟩
  · unfold Rcnt
    rw [e0, e2]
    exact h2
  · intro i hi
    have := h3 i hi
    unfold Rwal1 at this ⊢
    rw [h (T + 39 + 2 * i) (by omega) (by omega) (by omega), h (T + 40 + 2 * i) (by omega) (by omega) (by omega)]
    exact this
  · intro i hi
    have := h4 i hi
    unfold Rwor1 at this ⊢
    rw [h (T + 4 + 2 * i) (by omega) (by omega) (by omega), h (T + 5 + 2 * i) (by omega) (by omega) (by omega)]
    exact this
  · unfold Rheap
    rw [h (T + 37) (by omega) (by omega) (by omega)]
    exact h5
  · unfold Rtape
    rw [h (T + 36) (by omega) (by omega) (by omega)]
    exact h6
  · unfold Rwait
    rw [h (T + 38) (by omega) (by omega) (by omega)]
    exact h7
  · intro u hu
    have := h8 u hu
    unfold Rtex1 at this ⊢
    rw [h (T + 28 + 4 * u) (by omega) (by omega) (by omega), h (T + 29 + 4 * u) (by omega) (by omega) (by omega)]
    exact this
theorem SR.SX {w w1 : zW} (h : SR w w1) : SX w w1 := fun k hk => h k (by omega)
theorem RT_SX {w w1 : zW} {s : Nat → Int32} (h : RT w 1 s) (hx : SX w w1) : RT w1 1 s := RT_aside (fun k h1 h2 h3 => hx k (by omega)) h
theorem tsk_congr {f f1 e : Nat → Int32} : ∀ c : Nat, (∀ k, k < 2 * c → f1 k = f k) → tsk f1 e c = tsk f e c
  | 0, _ => rfl
  | c + 1, h => by
    rw [tsk, tsk, h (2 * c) (by omega), h (2 * c + 1) (by omega), tsk_congr c (fun k hk => h k (by omega)), tdep_congr c (fun k hk => h k (by omega))]
theorem tval_congr {s s1 e : Nat → Int32} {u : Nat} (h60 : (s (294 + 125 * u)).toInt ≤ 60) (h : ∀ p, 294 + 125 * u ≤ p → p < 419 + 125 * u → s1 p = s p) : tval s1 u e = tval s u e := by
  unfold tval
  rw [h (294 + 125 * u) (by omega) (by omega)]
  rw [tsk_congr _ (fun k hk => h _ (by omega) (by omega))]
/-- the letter that the turning rule makes of x at place j of n -/
def tenv (a b c d : Int32) : Nat → Int32 := fun p => if p = 108 then a else if p = 105 then b else if p = 110 then c else d
def tnv (s : Nat → Int32) (n : Nat) (m : Int32) (j : Nat) (x : Int32) : Int32 := if 1 ≤ (tval s 0 (tenv x (nI j) (nI n) m)).toInt ∧ (tval s 0 (tenv x (nI j) (nI n) m)).toInt ≤ 26 then tval s 0 (tenv x (nI j) (nI n) m) else nI 1
theorem Xturn_loop (K : zW → Option zW) {n : Nat} {f s : Nat → Int32} (h48 : n ≤ 48) (mm : Int32) (ht : 0 < (s 294).toInt) : ∀ (m k : Nat) (w : zW), k ≤ n → RT w 1 s → RX w n (chF (tnv s n mm) f k) → n - k < m → ∃ w1, l_X3_turnBy_2 K m 29 mm (nI k) w = K w1 ∧ SR w w1 ∧ RX w1 n (fun j => tnv s n mm j (f j)) := by
  intro m
  induction m with
  | zero => intro k w _ _ _ h; omega
  | succ m ih =>
    intro k w hk hR hr hn
    rw [l_X3_turnBy_2.eq_2, hr.1]
    by_cases e : k < n
    · have hkk := hr.2 k e
      rw [chF, if_neg (by omega)] at hkk
      obtain ⟨wa, x1, x2⟩ := Xworth_ok (e := tenv (f k) (nI k) (nI n) mm) hR (show 0 < 2 by decide) ht (f k) (nI k) (nI n) mm rfl rfl rfl (fun _ => rfl)
      have sa : SR w wa := fun j hj => x2 j (by omega) (by omega)
      obtain ⟨w1, y1, y2, y3⟩ := ih (k + 1) (zupd wa 117 k (tnv s n mm k (f k))) (by omega) (RT_SX hR (SR.SX (SR.upd sa _ _ (by omega)))) ⟨by rw [zupd_ne _ _ _ (by decide), x2 116 (by decide) (by decide)]; exact hr.1, fun j hj => by
        rw [zupd_eq, x2 117 (by decide) (by decide)]
        exact ch_step (t := tnv s n mm) e hr.2 j hj⟩ (by omega)
      refine ⟨w1, ?_, SR.trans (SR.upd sa _ _ (by omega)) y2, y3⟩
      rw [if_pos (by rw [lt_nI _ (by omega), tnI (by omega)]; omega), zld_k _ _ _ _ _ (by omega) (by decide), hkk]
      rw [show (29 : Nat) = 29 + 4 * 0 from rfl, x1, zb2_s, XisLetter_spec, zb_s]
      unfold tnv at y1
      by_cases q : 1 ≤ (tval s 0 (tenv (f k) (nI k) (nI n) mm)).toInt ∧ (tval s 0 (tenv (f k) (nI k) (nI n) mm)).toInt ≤ 26
      · rw [if_pos q] at y1
        rw [if_neg (by rw [bP_0]; omega), j_X3_turnBy_47, zsto_k _ _ _ _ _ _ (by omega) (by decide), zlet_e, nI_add]
        exact y1
      · rw [if_neg q] at y1
        rw [if_pos (by rw [bP_0]; omega), j_X3_turnBy_47, zsto_k _ _ _ _ _ _ (by omega) (by decide), zlet_e, nI_add]
        exact y1
    · have : k = n := by omega
      subst this
      rw [if_neg (by rw [lt_nI _ (by omega), tnI (by omega)]; omega)]
      exact ⟨w, rfl, SR.refl w, hr.1, ch_end hr.2⟩
/-- what the reference's last pass over the row does to a letter -/
def lpv (s : Nat → Int32) (kd n : Nat) (m : Int32) (j : Nat) (x : Int32) : Int32 := if kd = 4 then nI 27 - x else if kd = 6 ∧ 0 < (s 294).toInt then tnv s n m j x else x
theorem chF_id {t : Nat → Int32 → Int32} (f : Nat → Int32) {k : Nat} (h : t k (f k) = f k) : chF t f (k + 1) = chF t f k := funext fun j => by
  unfold chF
  by_cases e : j < k
  · rw [if_pos e, if_pos (by omega)]
  · rw [if_neg e]
    by_cases e2 : j < k + 1
    · rw [if_pos e2, show j = k by omega, h]
    · rw [if_neg e2]
theorem Mpass_loop (K : zW → Option zW) {n kd : Nat} {f s : Nat → Int32} {wx : zW} (hR : RT wx 1 s) (h48 : n ≤ 48) (hkd : kd < 7) (mm : Int32) : ∀ (m k : Nat) (w : zW), k ≤ n → w 129 = s → RM w n (chF (lpv s kd n mm) f k) → n - k < m → ∃ w1, l_X12_reads_129 K m (nI kd) mm (nI k) w = K w1 ∧ SN w w1 ∧ RM w1 n (fun j => lpv s kd n mm j (f j)) := by
  intro m
  induction m with
  | zero => intro k w _ _ _ h; omega
  | succ m ih =>
    intro k w hk hw hr hn
    rw [l_X12_reads_129.eq_2, hr.1]
    by_cases e : k < n
    · have hkk := hr.2 k e
      rw [chF, if_neg (by omega)] at hkk
      rw [if_pos (by rw [lt_nI _ (by omega), tnI (by omega)]; omega)]
      by_cases k4 : kd = 4
      · have lv : lpv s kd n mm k (f k) = nI 27 - f k := if_pos k4
        obtain ⟨w1, y1, y2, y3⟩ := ih (k + 1) (zupd w 135 k (nI 27 - f k)) (by omega) (by rw [zupd_ne _ _ _ (by decide)]; exact hw) ⟨by rw [zupd_ne _ _ _ (by decide)]; exact hr.1, fun j hj => by
          rw [zupd_eq, ← lv]
          exact ch_step (t := lpv s kd n mm) e hr.2 j hj⟩ (by omega)
        refine ⟨w1, ?_, SN.trans (SN.upd (SN.refl w) _ _ (by omega)) y2, y3⟩
        rw [if_pos (by rw [k4]), zld_k _ _ _ _ _ (by omega) (by decide), hkk, zsto_k _ _ _ _ _ _ (by omega) (by decide), j_X12_reads_160, if_neg (by rw [k4]; decide), zlet_e, nI_add]
        exact y1
      · rw [if_neg (by rw [eq_nI _ (by decide), tnI (by omega)]; omega), j_X12_reads_160]
        by_cases k6 : kd = 6
        · rw [if_pos (by rw [k6]), f_X12_hasText, pk_mul, nI_add, zld_k _ _ _ _ _ (by decide) (by decide), hw]
          by_cases ht : 0 < (s 294).toInt
          · have lv : lpv s kd n mm k (f k) = tnv s n mm k (f k) := by
              unfold lpv
              rw [if_neg k4, if_pos ⟨k6, ht⟩]
            obtain ⟨W, hW⟩ : ∃ W, W = zupd (zupd (zupd (zupd w 133 108 (f k)) 133 105 (nI k)) 133 110 (nI n)) 133 109 mm := ⟨_, rfl⟩
            have sW : SN w W := by
              rw [hW]
              exact SN.upd (SN.upd (SN.upd (SN.upd (SN.refl w) _ _ (by omega)) _ _ (by omega)) _ _ (by omega)) _ _ (by omega)
            have eW : ∀ j, j ≠ 133 → W j = w j := fun j hj => by rw [hW, zupd_ne _ _ _ hj, zupd_ne _ _ _ hj, zupd_ne _ _ _ hj, zupd_ne _ _ _ hj]
            obtain ⟨wa, x1, x2⟩ := Mworth_ok (e := tenv (f k) (nI k) (nI n) mm) (w := W) hR (by rw [eW 129 (by decide)]; exact hw) (show 0 < 2 by decide) ht (fun i hi => by
              have : i = 0 ∨ i = 1 ∨ i = 2 ∨ i = 3 := by simp only [tnames] at hi; omega
              rw [hW, zupd_eq, zupd_eq, zupd_eq, zupd_eq]
              rcases this with rfl | rfl | rfl | rfl
              · rw [tname, upd_ne _ _ (by decide), upd_ne _ _ (by decide), upd_ne _ _ (by decide), upd_eq]; rfl
              · rw [tname, upd_ne _ _ (by decide), upd_ne _ _ (by decide), upd_eq]; rfl
              · rw [tname, upd_ne _ _ (by decide), upd_eq]; rfl
              · rw [tname, upd_eq]; rfl)
            have sa : SN w wa := SN.trans sW ⟨fun j hj => x2 j (by omega), fun j _ => by rw [x2 128 (by decide)]⟩
            obtain ⟨w1, y1, y2, y3⟩ := ih (k + 1) (zupd wa 135 k (tnv s n mm k (f k))) (by omega) (by rw [zupd_ne _ _ _ (by decide), x2 129 (by decide), eW 129 (by decide)]; exact hw) ⟨by rw [zupd_ne _ _ _ (by decide), x2 128 (by decide), eW 128 (by decide)]; exact hr.1, fun j hj => by
              rw [zupd_eq, x2 135 (by decide), eW 135 (by decide), ← lv]
              exact ch_step (t := lpv s kd n mm) e hr.2 j hj⟩ (by omega)
            refine ⟨w1, ?_, SN.trans (SN.upd sa _ _ (by omega)) y2, y3⟩
            rw [if_pos (by rw [nI_lt2 _ (by decide)]; omega), zb_s, if_neg (by decide), zld_k _ _ _ _ _ (by omega) (by decide), hkk, zlet_e, zlet_e, zlet_e, zlet_e, zupd_ne _ _ _ (show 128 ≠ 133 by decide), zupd_ne _ _ _ (show 128 ≠ 133 by decide), hr.1, ← hW, x1, zb2_s, isLetter_spec, zb_s]
            unfold tnv at y1
            by_cases q : 1 ≤ (tval s 0 (tenv (f k) (nI k) (nI n) mm)).toInt ∧ (tval s 0 (tenv (f k) (nI k) (nI n) mm)).toInt ≤ 26
            · rw [if_pos q] at y1
              rw [if_neg (by rw [bP_0]; omega), j_X12_reads_243, zsto_k _ _ _ _ _ _ (by omega) (by decide), zlet_e, nI_add]
              exact y1
            · rw [if_neg q] at y1
              rw [if_pos (by rw [bP_0]; omega), j_X12_reads_243, zsto_k _ _ _ _ _ _ (by omega) (by decide), zlet_e, nI_add]
              exact y1
          · have lv : lpv s kd n mm k (f k) = f k := by
              unfold lpv
              rw [if_neg k4, if_neg (by omega)]
            rw [if_neg (by rw [nI_lt2 _ (by decide)]; omega), zb_s, if_pos rfl, zlet_e, nI_add]
            exact ih (k + 1) w (by omega) hw (by rw [chF_id f lv]; exact hr) (by omega)
        · have lv : lpv s kd n mm k (f k) = f k := by
            unfold lpv
            rw [if_neg k4, if_neg (by omega)]
          rw [if_neg (by rw [eq_nI _ (by decide), tnI (by omega)]; omega), zlet_e, nI_add]
          exact ih (k + 1) w (by omega) hw (by rw [chF_id f lv]; exact hr) (by omega)
    · have : k = n := by omega
      subst this
      rw [if_neg (by rw [lt_nI _ (by omega), tnI (by omega)]; omega)]
      exact ⟨w, rfl, SN.refl w, hr.1, ch_end hr.2⟩
