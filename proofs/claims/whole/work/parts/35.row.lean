theorem und3 : ∀ k, k < 7 → f_X11_isUnder (nI k) (nI 3) = some (bP (k = 3 ∨ k = 5)) := by decide +kernel
theorem und1 : ∀ k, k < 7 → f_X11_isUnder (nI k) (nI 1) = some (bP (k = 1 ∨ k = 4)) := by decide +kernel
/-- the row in the class's cells, in the reference's cells -/
def RX (w : zW) (n : Nat) (f : Nat → Int32) : Prop := w 116 1 = nI n ∧ ∀ j, j < n → w 117 j = f j
def RM (w : zW) (n : Nat) (f : Nat → Int32) : Prop := w 128 12 = nI n ∧ ∀ j, j < n → w 135 j = f j
/-- only cells aside have changed -/
def SX (w w1 : zW) : Prop := ∀ k, ¬ (k = 31 ∨ k = 32 ∨ k = 35 ∨ k = 36 ∨ (112 ≤ k ∧ k < 125)) → w1 k = w k
def SM (w w2 : zW) : Prop := (∀ k, k ≠ 128 → ¬ (132 ≤ k ∧ k < 139) → k < 143 → w2 k = w k) ∧ w2 128 2 = w 128 2 ∧ w2 128 21 = w 128 21
/-- only the row, the text's stack and names have changed -/
def SR (w w1 : zW) : Prop := ∀ k, ¬ (k = 31 ∨ k = 32 ∨ k = 116 ∨ k = 117) → w1 k = w k
theorem SR.trans {a b c : zW} (h : SR a b) (h' : SR b c) : SR a c := fun k hk => (h' k hk).trans (h k hk)
theorem SR.refl (a : zW) : SR a a := fun _ _ => rfl
theorem SR.upd {a b : zW} (h : SR a b) {k : Nat} (i : Nat) (v : Int32) (hk : k = 31 ∨ k = 32 ∨ k = 116 ∨ k = 117) : SR a (zupd b k i v) := fun j hj => by rw [zupd_ne _ _ _ (by omega)]; exact h j hj
/-- the same of the reference -/
def SN (w w1 : zW) : Prop := (∀ k, ¬ (k = 128 ∨ k = 133 ∨ k = 134 ∨ k = 135) → w1 k = w k) ∧ ∀ j, j ≠ 12 → w1 128 j = w 128 j
theorem SN.trans {a b c : zW} (h : SN a b) (h' : SN b c) : SN a c := ⟨fun k hk => (h'.1 k hk).trans (h.1 k hk), fun k hk => (h'.2 k hk).trans (h.2 k hk)⟩
theorem SN.refl (a : zW) : SN a a := ⟨fun _ _ => rfl, fun _ _ => rfl⟩
theorem SN.upd {a b : zW} (h : SN a b) {k : Nat} (i : Nat) (v : Int32) (hk : k = 133 ∨ k = 134 ∨ k = 135) : SN a (zupd b k i v) := ⟨fun j hj => by rw [zupd_ne _ _ _ (by omega)]; exact h.1 j hj, fun j hj => by rw [zupd_ne _ _ _ (by omega)]; exact h.2 j hj⟩
theorem SN.upd8 {a b : zW} (h : SN a b) (v : Int32) : SN a (zupd b 128 12 v) := ⟨fun j hj => by rw [zupd_ne _ _ _ (by omega)]; exact h.1 j hj, fun j hj => by rw [zupd_eq, upd_ne _ _ hj]; exact h.2 j hj⟩
def tkN (g : Nat → Int32) (n0 : Nat) : Nat → Nat
  | 0 => n0
  | k + 1 => if g k = nI 0 then tkN g n0 k else tkN g n0 k + 1
def tkF (g f0 : Nat → Int32) (n0 : Nat) : Nat → Nat → Int32
  | 0 => f0
  | k + 1 => if g k = nI 0 then tkF g f0 n0 k else upd (tkF g f0 n0 k) (tkN g n0 k) (g k)
theorem tkN_le (g : Nat → Int32) (n0 : Nat) : ∀ k, tkN g n0 k ≤ n0 + k
  | 0 => Nat.le_refl _
  | k + 1 => by
    have := tkN_le g n0 k
    rw [tkN]
    split <;> omega
theorem Xappend_loop (K : zW → Option zW) {A ln n0 : Nat} {g f0 : Nat → Int32} (h1 : A + 1 < 116 ∨ 117 < A) (h2 : n0 + ln ≤ 48) (hl : ln ≤ 24) : ∀ (n k : Nat) (w : zW), k ≤ ln → w A 3 = nI ln → (∀ j, j < ln → w (A + 1) j = g j) → RX w (tkN g n0 k) (tkF g f0 n0 k) → ln - k < n → ∃ w1, l_X3_append_2 K n A (nI k) w = K w1 ∧ SR w w1 ∧ RX w1 (tkN g n0 ln) (tkF g f0 n0 ln) := by
  intro n
  induction n with
  | zero => intro k w _ _ _ _ h; omega
  | succ n ih =>
    intro k w hk hw hg hr hn
    have tl := tkN_le g n0 k
    rw [l_X3_append_2.eq_2, hw]
    by_cases e : k < ln
    · rw [if_pos (by rw [lt_nI _ (by omega), tnI (by omega)]; omega), zld_k _ _ _ _ _ (by omega) (by decide), hg k e]
      by_cases e0 : g k = nI 0
      · rw [if_pos e0, zlet_e, nI_add]
        exact ih (k + 1) w (by omega) hw hg (by rw [tkN, if_pos e0, tkF, if_pos e0]; exact hr) (by omega)
      · obtain ⟨w1, x1, x2, x3⟩ := ih (k + 1) (zupd (zupd w 117 (tkN g n0 k) (g k)) 116 1 (nI (tkN g n0 k + 1))) (by omega) (by rw [zupd_ne _ _ _ (by omega), zupd_ne _ _ _ (by omega)]; exact hw) (fun j hj => by rw [zupd_ne _ _ _ (by omega), zupd_ne _ _ _ (by omega)]; exact hg j hj) (by
          rw [tkN, if_neg e0, tkF, if_neg e0]
          refine ⟨by rw [zupd_eq, upd_eq], fun j hj => ?_⟩
          rw [zupd_ne _ _ _ (by decide), zupd_eq]
          by_cases ej : j = tkN g n0 k
          · rw [ej, upd_eq, upd_eq]
          · rw [upd_ne _ _ ej, upd_ne _ _ ej]
            exact hr.2 j (by omega)) (by omega)
        refine ⟨w1, ?_, fun c hc => (x2 c hc).trans (by rw [zupd_ne _ _ _ (by omega), zupd_ne _ _ _ (by omega)]), x3⟩
        rw [if_neg e0, hr.1, if_pos (by rw [lt_nI _ (by decide), tnI (by omega)]; omega), zld_k _ _ _ _ _ (by omega) (by decide), hg k e, zsto_k _ _ _ _ _ _ (by omega) (by decide), zupd_ne _ _ _ (show 116 ≠ 117 by decide), hr.1, nI_add, zlet_e, nI_add, zlet_e]
        exact x1
    · have : k = ln := by omega
      subst this
      rw [if_neg (by rw [lt_nI _ (by omega), tnI (by omega)]; omega)]
      exact ⟨w, rfl, SR.refl w, hr⟩
theorem Mtakes_loop (K : zW → Option zW) {s : Nat → Int32} {i ln n0 : Nat} {f0 : Nat → Int32} (hi : i < 6) (h2 : n0 + ln ≤ 48) (hl : ln ≤ 24) (hn9 : nn s) (hs10 : s (10 + 27 * i) = nI ln) : ∀ (n k : Nat) (w : zW), k ≤ ln → w 129 = s → RM w (tkN (fun j => s (11 + 27 * i + j)) n0 k) (tkF (fun j => s (11 + 27 * i + j)) f0 n0 k) → ln - k < n → ∃ w1, l_X12_takes_2 K n (nI i) (nI k) w = K w1 ∧ SN w w1 ∧ RM w1 (tkN (fun j => s (11 + 27 * i + j)) n0 ln) (tkF (fun j => s (11 + 27 * i + j)) f0 n0 ln) := by
  obtain ⟨g, hg⟩ : ∃ g : Nat → Int32, g = fun j => s (11 + 27 * i + j) := ⟨_, rfl⟩
  have hgk : ∀ k, s (11 + 27 * i + k) = g k := fun k => by rw [hg]
  rw [← hg]
  intro n
  induction n with
  | zero => intro k w _ _ _ h; omega
  | succ n ih =>
    intro k w hk hw hr hn
    have tl := tkN_le g n0 k
    rw [l_X12_takes_2.eq_2, its_k hw hi (by decide), show 8 + 27 * i + 2 = 10 + 27 * i by omega, hs10, zb_s]
    by_cases e : k < ln
    · have gk0 : 0 ≤ (g k).toInt := by rw [← hgk]; exact hn9 _ (by omega) (by omega)
      rw [if_pos (by rw [lt_nI _ (by omega), tnI (by omega)]; omega), at_k, zb_s, zld_k _ _ _ _ _ (by omega) (by decide), hw, hgk]
      by_cases e0 : g k = nI 0
      · rw [if_neg (by rw [e0]; decide), zlet_e, nI_add]
        exact ih (k + 1) w (by omega) hw (by rw [tkN, if_pos e0, tkF, if_pos e0]; exact hr) (by omega)
      · have e0' := e0
        rw [eq_nI _ (by decide)] at e0'
        obtain ⟨w1, x1, x2, x3⟩ := ih (k + 1) (zupd (zupd w 135 (tkN g n0 k) (g k)) 128 12 (nI (tkN g n0 k + 1))) (by omega) (by rw [zupd_ne _ _ _ (by decide), zupd_ne _ _ _ (by decide)]; exact hw) (by
          rw [tkN, if_neg e0, tkF, if_neg e0]
          refine ⟨by rw [zupd_eq, upd_eq], fun j hj => ?_⟩
          rw [zupd_ne _ _ _ (by decide), zupd_eq]
          by_cases ej : j = tkN g n0 k
          · rw [ej, upd_eq, upd_eq]
          · rw [upd_ne _ _ ej, upd_ne _ _ ej]
            exact hr.2 j (by omega)) (by omega)
        refine ⟨w1, ?_, SN.trans (SN.upd8 (SN.upd (SN.refl w) _ _ (by omega)) _) x2, x3⟩
        rw [if_pos (by rw [nI_lt2 _ (by decide)]; omega), zb_s, zld_k _ _ _ _ _ (by omega) (by decide), hr.1, zsto_k _ _ _ _ _ _ (by omega) (by decide), zupd_ne _ _ _ (show 128 ≠ 135 by decide), hr.1, nI_add, zlet_e, nI_add, zlet_e, hw, hgk]
        exact x1
    · have : k = ln := by omega
      subst this
      rw [if_neg (by rw [lt_nI _ (by omega), tnI (by omega)]; omega)]
      exact ⟨w, rfl, SN.refl w, hr⟩
/-- the row turned round, its outermost k pairs done -/
def rvF (f : Nat → Int32) (n k j : Nat) : Int32 := if j < k ∨ n ≤ j + k then f (n - 1 - j) else f j
theorem rv_step {f B : Nat → Int32} {n k : Nat} (hk : 2 * k + 1 < n) (h : ∀ j, j < n → B j = rvF f n k j) : ∀ j, j < n → upd (upd B k (B (n - 1 - k))) (n - 1 - k) (B k) j = rvF f n (k + 1) j := fun j hj => by
  have hk1 := h k (by omega)
  have hk2 := h (n - 1 - k) (by omega)
  unfold rvF at hk1 hk2 ⊢
  rw [if_neg (by omega)] at hk1 hk2
  by_cases e1 : j = n - 1 - k
  · rw [e1, upd_eq, hk1, if_pos (by omega)]
    exact congrArg f (by omega)
  · rw [upd_ne _ _ e1]
    by_cases e2 : j = k
    · rw [e2, upd_eq, hk2, if_pos (by omega)]
    · rw [upd_ne _ _ e2, h j hj]
      unfold rvF
      by_cases e3 : j < k ∨ n ≤ j + k
      · rw [if_pos e3, if_pos (by omega)]
      · rw [if_neg e3, if_neg (by omega)]
theorem rv_end {f B : Nat → Int32} {n k : Nat} (hk : ¬ 2 * k + 1 < n) (h : ∀ j, j < n → B j = rvF f n k j) : ∀ j, j < n → B j = f (n - 1 - j) := fun j hj => by
  rw [h j hj]
  unfold rvF
  by_cases e : j < k ∨ n ≤ j + k
  · rw [if_pos e]
  · rw [if_neg e]
    exact congrArg f (by omega)
theorem Xreverse_loop (K : zW → Option zW) {n : Nat} {f : Nat → Int32} (h48 : n ≤ 48) : ∀ (m k : Nat) (w : zW), k ≤ n → RX w n (rvF f n k) → n - k < m → ∃ w1, l_X3_reverse_2 K m (nI k) w = K w1 ∧ SR w w1 ∧ RX w1 n (fun j => f (n - 1 - j)) := by
  intro m
  induction m with
  | zero => intro k w _ _ h; omega
  | succ m ih =>
    intro k w hk hr hn
    rw [l_X3_reverse_2.eq_2, hr.1, pk_div (by omega) (by decide) (by decide)]
    by_cases e : 2 * k + 1 < n
    · obtain ⟨w1, x1, x2, x3⟩ := ih (k + 1) (zupd (zupd w 117 k (w 117 (n - 1 - k))) 117 (n - 1 - k) (w 117 k)) (by omega) ⟨by rw [zupd_ne _ _ _ (by decide), zupd_ne _ _ _ (by decide)]; exact hr.1, fun j hj => by
        rw [zupd_eq, zupd_eq]
        exact rv_step e hr.2 j hj⟩ (by omega)
      refine ⟨w1, ?_, SR.trans (SR.upd (SR.upd (SR.refl w) _ _ (by omega)) _ _ (by omega)) x2, x3⟩
      rw [if_pos (by rw [lt_nI _ (by omega), tnI (by omega)]; omega), nI_sub (by omega) (by omega), nI_sub (by omega) (by omega), zlet_e, zld_k _ _ _ _ _ (by omega) (by decide), zld_k _ _ _ _ _ (by omega) (by decide), zsto_k _ _ _ _ _ _ (by omega) (by decide), zsto_k _ _ _ _ _ _ (by omega) (by decide), zlet_e, nI_add]
      exact x1
    · rw [if_neg (by rw [lt_nI _ (by omega), tnI (by omega)]; omega)]
      exact ⟨w, rfl, SR.refl w, hr.1, rv_end e hr.2⟩
theorem Mturns_loop (K : zW → Option zW) {n : Nat} {f : Nat → Int32} (h48 : n ≤ 48) (h1 : 1 ≤ n) : ∀ (m k : Nat) (w : zW), k < n → RM w n (rvF f n k) → n - k < m → ∃ w1, l_X12_turns_9 K m (nI k) (nI (n - 1 - k)) w = K w1 ∧ SN w w1 ∧ RM w1 n (fun j => f (n - 1 - j)) := by
  intro m
  induction m with
  | zero => intro k w _ _ h; omega
  | succ m ih =>
    intro k w hk hr hn
    rw [l_X12_turns_9.eq_2]
    by_cases e : 2 * k + 1 < n
    · obtain ⟨w1, x1, x2, x3⟩ := ih (k + 1) (zupd (zupd w 135 k (w 135 (n - 1 - k))) 135 (n - 1 - k) (w 135 k)) (by omega) ⟨by rw [zupd_ne _ _ _ (by decide), zupd_ne _ _ _ (by decide)]; exact hr.1, fun j hj => by
        rw [zupd_eq, zupd_eq]
        exact rv_step e hr.2 j hj⟩ (by omega)
      refine ⟨w1, ?_, SN.trans (SN.upd (SN.upd (SN.refl w) _ _ (by omega)) _ _ (by omega)) x2, x3⟩
      rw [if_pos (by rw [lt_nI _ (by omega), tnI (by omega)]; omega), zld_k _ _ _ _ _ (by omega) (by decide), zld_k _ _ _ _ _ (by omega) (by decide), zsto_k _ _ _ _ _ _ (by omega) (by decide), zsto_k _ _ _ _ _ _ (by omega) (by decide), zlet_e, nI_add, nI_dec (by omega) (by omega), zlet_e, show n - 1 - k - 1 = n - 1 - (k + 1) by omega]
      exact x1
    · rw [if_neg (by rw [lt_nI _ (by omega), tnI (by omega)]; omega)]
      exact ⟨w, rfl, SN.refl w, hr.1, rv_end e hr.2⟩
/-- every second letter left out, the first k places done -/
def hvF (f : Nat → Int32) (k j : Nat) : Int32 := if j < k then f (2 * j) else f j
theorem hv_step {f B : Nat → Int32} {n k : Nat} (hk : 2 * k < n) (h : ∀ j, j < n → B j = hvF f k j) : ∀ j, j < n → upd B k (B (2 * k)) j = hvF f (k + 1) j := fun j hj => by
  have hk1 := h (2 * k) (by omega)
  unfold hvF at hk1 ⊢
  by_cases e1 : j = k
  · rw [e1, upd_eq, hk1, if_neg (by omega), if_pos (by omega)]
  · rw [upd_ne _ _ e1, h j hj]
    unfold hvF
    by_cases e3 : j < k
    · rw [if_pos e3, if_pos (by omega)]
    · rw [if_neg e3, if_neg (by omega)]
theorem Xhalve_loop (K : Int32 → zW → Option zW) {n : Nat} {f : Nat → Int32} (h48 : n ≤ 48) : ∀ (m k : Nat) (w : zW), k ≤ (n + 1) / 2 → RX w n (hvF f k) → n - k < m → ∃ w1, l_X3_leaveOutSeconds_11 K m (nI ((n + 1) / 2)) (nI k) w = K (nI ((n + 1) / 2)) w1 ∧ SR w w1 ∧ ∀ j, j < (n + 1) / 2 → w1 117 j = f (2 * j) := by
  intro m
  induction m with
  | zero => intro k w _ _ h; omega
  | succ m ih =>
    intro k w hk hr hn
    rw [l_X3_leaveOutSeconds_11.eq_2]
    by_cases e : k < (n + 1) / 2
    · obtain ⟨w1, x1, x2, x3⟩ := ih (k + 1) (zupd w 117 k (w 117 (2 * k))) (by omega) ⟨by rw [zupd_ne _ _ _ (by decide)]; exact hr.1, fun j hj => by
        rw [zupd_eq]
        exact hv_step (by omega) hr.2 j hj⟩ (by omega)
      refine ⟨w1, ?_, SR.trans (SR.upd (SR.refl w) _ _ (by omega)) x2, x3⟩
      rw [if_pos (by rw [lt_nI _ (by omega), tnI (by omega)]; omega), pk_mul, zld_k _ _ _ _ _ (by omega) (by decide), zsto_k _ _ _ _ _ _ (by omega) (by decide), zlet_e, nI_add]
      exact x1
    · rw [if_neg (by rw [lt_nI _ (by omega), tnI (by omega)]; omega)]
      refine ⟨w, rfl, SR.refl w, fun j hj => ?_⟩
      rw [hr.2 j (by omega), hvF, if_pos (by omega)]
theorem Mhalve_loop (K : Int32 → Int32 → zW → Option zW) {n : Nat} {f : Nat → Int32} (h48 : n ≤ 48) (a2 a3 : Int32) : ∀ (m k : Nat) (w : zW), k ≤ (n + 1) / 2 → RM w n (hvF f k) → n - k < m → ∃ w1, l_X12_reads_79 K m a2 a3 (nI k) w = K a2 a3 w1 ∧ SN w w1 ∧ w1 128 12 = nI n ∧ ∀ j, j < (n + 1) / 2 → w1 135 j = f (2 * j) := by
  intro m
  induction m with
  | zero => intro k w _ _ h; omega
  | succ m ih =>
    intro k w hk hr hn
    rw [l_X12_reads_79.eq_2, hr.1, nI_add, pk_div (by omega) (by decide) (by decide)]
    by_cases e : k < (n + 1) / 2
    · obtain ⟨w1, x1, x2, x3⟩ := ih (k + 1) (zupd w 135 k (w 135 (2 * k))) (by omega) ⟨by rw [zupd_ne _ _ _ (by decide)]; exact hr.1, fun j hj => by
        rw [zupd_eq]
        exact hv_step (by omega) hr.2 j hj⟩ (by omega)
      refine ⟨w1, ?_, SN.trans (SN.upd (SN.refl w) _ _ (by omega)) x2, x3⟩
      rw [if_pos (by rw [lt_nI _ (by omega), tnI (by omega)]; omega), pk_mul, zld_k _ _ _ _ _ (by omega) (by decide), zsto_k _ _ _ _ _ _ (by omega) (by decide), zlet_e, nI_add]
      exact x1
    · rw [if_neg (by rw [lt_nI _ (by omega), tnI (by omega)]; omega)]
      refine ⟨w, rfl, SN.refl w, hr.1, fun j hj => ?_⟩
      rw [hr.2 j (by omega), hvF, if_pos (by omega)]
/-- each letter changed by a rule, the first k done -/
def chF (t : Nat → Int32 → Int32) (f : Nat → Int32) (k j : Nat) : Int32 := if j < k then t j (f j) else f j
theorem ch_step {t : Nat → Int32 → Int32} {f B : Nat → Int32} {n k : Nat} (hk : k < n) (h : ∀ j, j < n → B j = chF t f k j) : ∀ j, j < n → upd B k (t k (f k)) j = chF t f (k + 1) j := fun j hj => by
  unfold chF
  by_cases e1 : j = k
  · rw [e1, upd_eq, if_pos (by omega)]
  · rw [upd_ne _ _ e1, h j hj]
    unfold chF
    by_cases e3 : j < k
    · rw [if_pos e3, if_pos (by omega)]
    · rw [if_neg e3, if_neg (by omega)]
theorem ch_end {t : Nat → Int32 → Int32} {f B : Nat → Int32} {n : Nat} (h : ∀ j, j < n → B j = chF t f n j) : ∀ j, j < n → B j = t j (f j) := fun j hj => by
  rw [h j hj, chF, if_pos hj]
theorem Xmirror_loop (K : zW → Option zW) {n : Nat} {f : Nat → Int32} (h48 : n ≤ 48) : ∀ (m k : Nat) (w : zW), k ≤ n → RX w n (chF (fun _ x => nI 27 - x) f k) → n - k < m → ∃ w1, l_X3_mirrorLetters_2 K m (nI k) w = K w1 ∧ SR w w1 ∧ RX w1 n (fun j => nI 27 - f j) := by
  intro m
  induction m with
  | zero => intro k w _ _ h; omega
  | succ m ih =>
    intro k w hk hr hn
    rw [l_X3_mirrorLetters_2.eq_2, hr.1]
    by_cases e : k < n
    · have hkk := hr.2 k e
      rw [chF, if_neg (by omega)] at hkk
      obtain ⟨w1, x1, x2, x3⟩ := ih (k + 1) (zupd w 117 k (nI 27 - f k)) (by omega) ⟨by rw [zupd_ne _ _ _ (by decide)]; exact hr.1, fun j hj => by
        rw [zupd_eq]
        exact ch_step (t := fun _ x => nI 27 - x) e hr.2 j hj⟩ (by omega)
      refine ⟨w1, ?_, SR.trans (SR.upd (SR.refl w) _ _ (by omega)) x2, x3⟩
      rw [if_pos (by rw [lt_nI _ (by omega), tnI (by omega)]; omega), zld_k _ _ _ _ _ (by omega) (by decide), hkk, zsto_k _ _ _ _ _ _ (by omega) (by decide), zlet_e, nI_add]
      exact x1
    · have : k = n := by omega
      subst this
      rw [if_neg (by rw [lt_nI _ (by omega), tnI (by omega)]; omega)]
      exact ⟨w, rfl, SR.refl w, hr.1, ch_end (t := fun _ x => nI 27 - x) hr.2⟩
