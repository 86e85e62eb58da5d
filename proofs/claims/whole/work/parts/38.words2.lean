def wcn (s : Nat → Int32) : Nat := (s 1).toInt.toNat
def wso (s : Nat → Int32) (j : Nat) : Nat := (s (170 + 8 * j)).toInt.toNat
def wle (s : Nat → Int32) (j : Nat) : Nat := (s (171 + 8 * j)).toInt.toNat
def wlt (s : Nat → Int32) (j k : Nat) : Int32 := s (172 + 8 * j + k)
def unlN (f g : Nat → Int32) : Nat → Nat
  | 0 => 0
  | k + 1 => unlN f g k + if f k = g k then 0 else 1
/-- how many letters of word j are unlike the row's from p on -/
def unl (s f : Nat → Int32) (j p : Nat) : Nat := unlN (fun k => f (p + k)) (wlt s j) (wle s j)
theorem unlN_le (f g : Nat → Int32) : ∀ k, unlN f g k ≤ k
  | 0 => Nat.le_refl _
  | k + 1 => by
    have := unlN_le f g k
    rw [unlN]
    split <;> omega
theorem unlN_0 (f g : Nat → Int32) : ∀ k, unlN f g k = 0 ↔ ∀ j, j < k → f j = g j
  | 0 => ⟨fun _ j hj => by omega, fun _ => rfl⟩
  | k + 1 => by
    have ih := unlN_0 f g k
    rw [unlN]
    constructor
    · intro h j hj
      by_cases e : f k = g k
      · rw [if_pos e] at h
        by_cases ej : j = k
        · rw [ej, e]
        · exact ih.mp (by omega) j (by omega)
      · rw [if_neg e] at h
        omega
    · intro h
      rw [if_pos (h k (by omega)), ih.mpr (fun j hj => h j (by omega))]
theorem bP_iff {p q : Prop} [Decidable p] [Decidable q] (h : p ↔ q) : bP p = bP q := by
  unfold bP
  by_cases e : p
  · rw [if_pos e, if_pos (h.mp e)]
  · rw [if_neg e, if_neg (fun a => e (h.mpr a))]
section WD
theorem wcn_ok {w : zW} {T : Nat} {s : Nat → Int32} (h : RT w T s) : wcn s ≤ 12 ∧ s 1 = nI (wcn s) := by
  have q := h.2.1.2.1.2
  obtain ⟨k, hk, ek, tk⟩ := of_toInt _ (h.1 1 (by decide) (by decide))
  refine ⟨by unfold wcn; omega, ?_⟩
  unfold wcn
  rw [tk, Int.toNat_natCast, ek]
theorem wso_ok {w : zW} {T : Nat} {s : Nat → Int32} (h : RT w T s) {j : Nat} (hj : j < wcn s) : wso s j < 5 ∧ s (170 + 8 * j) = nI (wso s j) := by
  have c := wcn_ok h
  have q := (h.2.2.2.1 j (by rw [c.2, tnI (by omega)]; omega)).1.2
  obtain ⟨k, hk, ek, tk⟩ := of_toInt _ (h.1 (170 + 8 * j) (by omega) (by omega))
  refine ⟨by unfold wso; omega, ?_⟩
  unfold wso
  rw [tk, Int.toNat_natCast, ek]
theorem wle_ok {w : zW} {T : Nat} {s : Nat → Int32} (h : RT w T s) {j : Nat} (hj : j < wcn s) : 1 ≤ wle s j ∧ wle s j ≤ 6 ∧ s (171 + 8 * j) = nI (wle s j) := by
  have c := wcn_ok h
  have q := (h.2.2.2.1 j (by rw [c.2, tnI (by omega)]; omega)).2.1.2
  obtain ⟨k, hk, ek, tk⟩ := of_toInt _ (h.1 (171 + 8 * j) (by omega) (by omega))
  refine ⟨by unfold wle; omega, by unfold wle; omega, ?_⟩
  unfold wle
  rw [tk, Int.toNat_natCast, ek]
/-- the class's word j -/
theorem Xword_at {w : zW} {s : Nat → Int32} (h : RT w 1 s) {j : Nat} (hj : j < wcn s) : w (5 + 2 * j) 1 = nI (wso s j) ∧ w (5 + 2 * j) 2 = nI (wle s j) ∧ ∀ k, k < wle s j → w (5 + 2 * j + 1) k = wlt s j k := by
  have c := wcn_ok h
  have q := h.2.2.2.1 j (by rw [c.2, tnI (by omega)]; omega)
  unfold Rwor1 at q
  rw [show 1 + 4 + 2 * j = 5 + 2 * j by omega, show 1 + 5 + 2 * j = 5 + 2 * j + 1 by omega] at q
  have e1 := (wso_ok h hj).2
  have e2 := (wle_ok h hj).2.2
  refine ⟨q.1.1.trans e1, q.2.1.1.trans e2, fun k hk => (q.2.2 k ?_).1⟩
  rw [e2, tnI (by have := wle_ok h hj; omega)]
  omega
theorem Xstands_loop {w : zW} {n A p ln : Nat} {f g : Nat → Int32} (hr : RX w n f) (hp : p + ln ≤ n) (hn : n ≤ 48) (h6 : ln ≤ 6) (hl : w A 2 = nI ln) (hg : ∀ k, k < ln → w (A + 1) k = g k) : ∀ (m k : Nat), k ≤ ln → (∀ i, i < k → f (p + i) = g i) → ln - k < m → l_X10_standsAt_21 w (some (nI 0)) (some (nI 1)) m A (nI p) (nI k) = some (bP (∀ i, i < ln → f (p + i) = g i)) := by
  intro m
  induction m with
  | zero => intro k _ _ h; omega
  | succ m ih =>
    intro k hk he hm
    rw [l_X10_standsAt_21.eq_2, hl]
    by_cases e : k < ln
    · rw [if_pos (by rw [lt_nI _ (by omega), tnI (by omega)]; omega), nI_add, zld_k _ _ _ _ _ (by omega) (by decide), zld_k _ _ _ _ _ (by omega) (by decide), hr.2 _ (by omega), hg k e]
      by_cases q : f (p + k) = g k
      · rw [if_pos q, zlet_e, nI_add]
        exact ih (k + 1) (by omega) (fun i hi => by
          by_cases ei : i = k
          · rw [ei, q]
          · exact he i (by omega)) (by omega)
      · rw [if_neg q, bP_f (fun a => q (a k e))]
    · rw [if_neg (by rw [lt_nI _ (by omega), tnI (by omega)]; omega), bP_t (fun i hi => he i (by omega))]
theorem Xstands {w : zW} {s f : Nat → Int32} (h : RT w 1 s) {n j p : Nat} (hj : j < wcn s) (hr : RX w n f) (hn : n ≤ 48) (hp : p ≤ 100) : f_X10_standsAt (5 + 2 * j) (nI p) w = some (bP (p + wle s j ≤ n ∧ unl s f j p = 0)) := by
  obtain ⟨e1, e2, e3⟩ := Xword_at h hj
  obtain ⟨l1, l6, el⟩ := wle_ok h hj
  rw [f_X10_standsAt, if_neg (by rw [lt_nI _ (by decide), tnI (by omega)]; omega), hr.1, e2]
  have et : (nI n - nI p).toInt = (n : Int) - p := by
    rw [tsub (by rw [tnI (by omega), tnI (by omega)]; omega) (by rw [tnI (by omega), tnI (by omega)]; omega), tnI (by omega), tnI (by omega)]
  by_cases q : p + wle s j ≤ n
  · rw [if_neg (by rw [lt_nI _ (by omega), et]; omega), Xstands_loop hr q hn l6 e2 e3 zfuel 0 (by omega) (fun i hi => by omega) (by unfold zfuel; omega)]
    exact congrArg some (bP_iff ⟨fun a => ⟨q, (unlN_0 _ _ _).mpr a⟩, fun a => (unlN_0 _ _ _).mp a.2⟩)
  · rw [if_pos (by rw [lt_nI _ (by omega), et]; omega), bP_f (fun a => q a.1)]
theorem Xunl_loop {w : zW} {n A p ln : Nat} {f g : Nat → Int32} (hr : RX w n f) (hp : p + ln ≤ n) (hn : n ≤ 48) (h6 : ln ≤ 6) (hl : w A 2 = nI ln) (hg : ∀ k, k < ln → w (A + 1) k = g k) : ∀ (m k : Nat), k ≤ ln → ln - k < m → l_X10_unlikeAt_25 w (fun k67_a3 => some k67_a3) m A (nI p) (nI (unlN (fun i => f (p + i)) g k)) (nI k) = some (nI (unlN (fun i => f (p + i)) g ln)) := by
  intro m
  induction m with
  | zero => intro k _ h; omega
  | succ m ih =>
    intro k hk hm
    rw [l_X10_unlikeAt_25.eq_2, hl]
    by_cases e : k < ln
    · rw [if_pos (by rw [lt_nI _ (by omega), tnI (by omega)]; omega), nI_add, zld_k _ _ _ _ _ (by omega) (by decide), zld_k _ _ _ _ _ (by omega) (by decide), hr.2 _ (by omega), hg k e]
      have := ih (k + 1) (by omega) (by omega)
      rw [unlN] at this
      by_cases q : f (p + k) = g k
      · rw [if_pos q] at this
        rw [if_pos q, j_X10_unlikeAt_59, zlet_e, nI_add, nI_add, zlet_e]
        exact this
      · rw [if_neg q] at this
        rw [if_neg q, j_X10_unlikeAt_59, zlet_e, nI_add, nI_add, zlet_e]
        exact this
    · have : k = ln := by omega
      subst this
      rw [if_neg (by rw [lt_nI _ (by omega), tnI (by omega)]; omega)]
theorem Xunl {w : zW} {s f : Nat → Int32} (h : RT w 1 s) {n j p : Nat} (hj : j < wcn s) (hr : RX w n f) (hn : n ≤ 48) (hp : p ≤ 100) : f_X10_unlikeAt (5 + 2 * j) (nI p) w = some (if p + wle s j ≤ n then nI (unl s f j p) else nI 1000000) := by
  obtain ⟨e1, e2, e3⟩ := Xword_at h hj
  obtain ⟨l1, l6, el⟩ := wle_ok h hj
  rw [f_X10_unlikeAt, if_neg (by rw [lt_nI _ (by decide), tnI (by omega)]; omega), hr.1, e2]
  have et : (nI n - nI p).toInt = (n : Int) - p := by
    rw [tsub (by rw [tnI (by omega), tnI (by omega)]; omega) (by rw [tnI (by omega), tnI (by omega)]; omega), tnI (by omega), tnI (by omega)]
  by_cases q : p + wle s j ≤ n
  · rw [if_neg (by rw [lt_nI _ (by omega), et]; omega), if_pos q]
    exact Xunl_loop hr q hn l6 e2 e3 zfuel 0 (by omega) (by unfold zfuel; omega)
  · rw [if_pos (by rw [lt_nI _ (by omega), et]; omega), if_neg q, j_X10_unlikeAt_17]
theorem Munl_loop {w : zW} {s f : Nat → Int32} {n j p ln : Nat} (hw : w 129 = s) (hj : j < 12) (hr : RM w n f) (hp : p + ln ≤ n) (hn : n ≤ 48) (h6 : ln ≤ 6) : ∀ (m k : Nat), k ≤ ln → ln - k < m → l_X12_unlike_26 w (fun k67_a4 => some k67_a4) m (nI j) (nI p) (nI ln) (nI (unlN (fun i => f (p + i)) (wlt s j) k)) (nI k) = some (nI (unlN (fun i => f (p + i)) (wlt s j) ln)) := by
  intro m
  induction m with
  | zero => intro k _ h; omega
  | succ m ih =>
    intro k hk hm
    rw [l_X12_unlike_26.eq_2]
    by_cases e : k < ln
    · rw [if_pos (by rw [lt_nI _ (by omega), tnI (by omega)]; omega), nI_add, zld_k _ _ _ _ _ (by omega) (by decide), hr.2 _ (by omega), letterOf_k hw hj (by omega), zb_s]
      have := ih (k + 1) (by omega) (by omega)
      rw [unlN] at this
      unfold wlt at this
      by_cases q : f (p + k) = s (172 + 8 * j + k)
      · rw [if_pos q] at this
        rw [if_pos q, j_X12_unlike_58, zlet_e, nI_add, nI_add, zlet_e]
        exact this
      · rw [if_neg q] at this
        rw [if_neg q, j_X12_unlike_58, zlet_e, nI_add, nI_add, zlet_e]
        exact this
    · have : k = ln := by omega
      subst this
      rw [if_neg (by rw [lt_nI _ (by omega), tnI (by omega)]; omega)]
theorem Munl {w wx : zW} {s f : Nat → Int32} (h : RT wx 1 s) (hw : w 129 = s) {n j p : Nat} (hj : j < wcn s) (hr : RM w n f) (hn : n ≤ 48) (hp : p ≤ 100) : f_X12_unlike (nI j) (nI p) w = some (if p + wle s j ≤ n then nI (unl s f j p) else nI 9999) := by
  obtain ⟨l1, l6, el⟩ := wle_ok h hj
  have c12 := wcn_ok h
  rw [f_X12_unlike, lengthOf_k hw (by omega), zb_s, hr.1, el, nI_add]
  by_cases q : p + wle s j ≤ n
  · rw [if_neg (by rw [lt_nI _ (by omega), tnI (by omega)]; omega), if_pos q]
    exact Munl_loop hw (by omega) hr q hn l6 zfuel 0 (by omega) (by unfold zfuel; omega)
  · rw [if_pos (by rw [lt_nI _ (by omega), tnI (by omega)]; omega), if_neg q]
end WD
def bhd (q so : Nat) : Bool := (q == 0 && so == 0) || (q == 1 && so == 1) || (q == 2 && so == 2) || (q == 2 && so == 3) || (q == 3 && so == 3) || (q == 4 && so == 4)
def aft (so : Nat) : Nat := if so = 4 then 0 else so + 1
def befN : Nat → Nat
  | 0 => 1
  | 1 => 2
  | 2 => 4
  | 3 => 12
  | _ => 16
theorem behind_k : ∀ q, q < 5 → ∀ so, so < 5 → f_X12_behind (nI q) (nI so) = some (if bhd q so then nI (aft so) else mI 1) := by decide +kernel
theorem aft_k : ∀ so, so < 5 → ztab 1 so = nI (aft so) ∧ aft so < 5 := by decide +kernel
theorem bef_k : ∀ so, so < 5 → ztab 2 so = nI (befN so) ∧ befN so < 32 := by decide +kernel
def tb (v q : Nat) : Bool := v / 2 ^ q % 2 == 1
theorem tb_k : ∀ v, v < 32 → ∀ q, q < 5 → (nI v &&& (nI 1 <<< (nI q &&& 31)) = nI 0) = (tb v q = false) := fun v hv q hq => by
  have : ∀ v, v < 32 → ∀ q, q < 5 → decide (nI v &&& (nI 1 <<< (nI q &&& 31)) = nI 0) = decide (tb v q = false) := by decide +kernel
  exact propext (decide_eq_decide.mp (this v hv q hq))
theorem tb_or : ∀ v, v < 32 → ∀ u, u < 32 → nI v ||| nI u = nI (v ||| u) ∧ v ||| u < 32 ∧ ∀ q, q < 5 → tb (v ||| u) q = (tb v q || tb u q) := by decide +kernel
theorem tb_bef : ∀ so, so < 5 → ∀ q, q < 5 → tb (befN so) q = bhd q so := by decide +kernel
