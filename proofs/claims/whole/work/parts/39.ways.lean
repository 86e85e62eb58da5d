/-- word j leads from place p, state q, onward -/
def ed (s f : Nat → Int32) (n p q j : Nat) : Bool := bhd q (wso s j) && (decide (p + wle s j ≤ n) && unl s f j p == 0)
theorem ed_iff (s f : Nat → Int32) (n p q j : Nat) : ed s f n p q j = true ↔ bhd q (wso s j) = true ∧ p + wle s j ≤ n ∧ unl s f j p = 0 := by
  unfold ed
  simp
def sm (g : Nat → Nat) : Nat → Nat
  | 0 => 0
  | k + 1 => sm g k + g k
theorem sm_congr {g h : Nat → Nat} : ∀ k, (∀ j, j < k → g j = h j) → sm g k = sm h k
  | 0, _ => rfl
  | k + 1, e => by
    rw [sm, sm, sm_congr k (fun j hj => e j (by omega)), e k (by omega)]
/-- how many ways lead from place p, state q to the end -/
def bw (s f : Nat → Int32) (n : Nat) : Nat → Nat → Nat → Nat
  | 0, p, q => if p = n ∧ q = 4 then 1 else 0
  | d + 1, p, q => if n ≤ p then (if p = n ∧ q = 4 then 1 else 0) else sm (fun j => if ed s f n p q j then bw s f n d (p + wle s j) (aft (wso s j)) else 0) (wcn s)
theorem bw_st {s f : Nat → Int32} {n : Nat} (hL : ∀ j, j < wcn s → 1 ≤ wle s j) : ∀ d d' p q, n - p ≤ d → n - p ≤ d' → bw s f n d p q = bw s f n d' p q := by
  intro d
  induction d with
  | zero =>
    intro d' p q h1 h2
    cases d' with
    | zero => rfl
    | succ d' => rw [bw, bw, if_pos (show n ≤ p by omega)]
  | succ d ih =>
    intro d' p q h1 h2
    by_cases e : n ≤ p
    · cases d' with
      | zero => rw [bw, bw, if_pos e]
      | succ d' => rw [bw, bw, if_pos e, if_pos e]
    · cases d' with
      | zero => omega
      | succ d' =>
        rw [bw, bw, if_neg e, if_neg e]
        refine sm_congr _ (fun j hj => ?_)
        have := hL j hj
        rw [ih d' (p + wle s j) (aft (wso s j)) (by omega) (by omega)]
def Bw (s f : Nat → Int32) (n p q : Nat) : Nat := bw s f n 48 p q
/-- one word's share of the ways -/
def bs (s f : Nat → Int32) (n p q j : Nat) : Nat := if ed s f n p q j then Bw s f n (p + wle s j) (aft (wso s j)) else 0
theorem Bw_step {s f : Nat → Int32} {n : Nat} (hL : ∀ j, j < wcn s → 1 ≤ wle s j) (hn : n ≤ 48) {p : Nat} (q : Nat) (hp : p < n) : Bw s f n p q = sm (bs s f n p q) (wcn s) := by
  rw [Bw, bw, if_neg (by omega)]
  refine sm_congr _ (fun j hj => ?_)
  have := hL j hj
  unfold bs Bw
  rw [bw_st hL 47 48 (p + wle s j) (aft (wso s j)) (by omega) (by omega)]
theorem Bw_end (s f : Nat → Int32) (n q : Nat) : Bw s f n n q = if q = 4 then 1 else 0 := by
  rw [Bw, bw, if_pos (Nat.le_refl _)]
  by_cases e : q = 4
  · rw [if_pos ⟨rfl, e⟩, if_pos e]
  · rw [if_neg (fun a => e a.2), if_neg e]
def cap (x : Nat) : Nat := min x 999999
theorem held_k {x : Nat} (hx : x < 2 ^ 31) : f_X12_held (nI x) (nI 0) (nI 999999) = some (nI (cap x)) := by
  unfold f_X12_held cap
  rw [if_neg (by rw [lt_nI _ (by decide), tnI hx]; omega)]
  by_cases e : 999999 < x
  · rw [if_pos (by rw [nI_lt2 _ (by decide), tnI hx]; omega), show min x 999999 = 999999 by omega]
  · rw [if_neg (by rw [nI_lt2 _ (by decide), tnI hx]; omega), show min x 999999 = x by omega]
theorem nI_nm {a : Nat} (ha : a < 2 ^ 31) : ¬ nI a = mI 1 := fun e => by
  have := congrArg Int32.toInt e
  rw [tnI ha, tmI (by decide)] at this
  omega
section WY
/-- the reference's table from place p on -/
def WM (s f : Nat → Int32) (n lo : Nat) (w : zW) : Prop := ∀ p q, lo ≤ p → p ≤ n → q < 5 → w 136 (5 * p + q) = nI (cap (Bw s f n p q))
theorem Mways_in (K : Int32 → Int32 → Int32 → zW → Option (Int32 × zW)) {wx w : zW} {s f : Nat → Int32} {n p q : Nat} (h : RT wx 1 s) (hw : w 129 = s) (hr : RM w n f) (hn : n ≤ 48) (hp : p < n) (hq : q < 5) (ht : WM s f n (p + 1) w) : ∀ (m k : Nat), k ≤ wcn s → wcn s - k < m → l_X12_findWays_59 K m (nI p) (nI q) (nI (cap (sm (bs s f n p q) k))) (nI k) w = K (nI p) (nI q) (nI (cap (sm (bs s f n p q) (wcn s)))) w := by
  have c12 := wcn_ok h
  intro m
  induction m with
  | zero => intro k _ h; omega
  | succ m ih =>
    intro k hk hm
    rw [l_X12_findWays_59.eq_2, hw, c12.2]
    by_cases e : k < wcn s
    · obtain ⟨l1, l6, el⟩ := wle_ok h e
      obtain ⟨s5, es⟩ := wso_ok h e
      have ih1 := ih (k + 1) (by omega) (by omega)
      rw [sm] at ih1
      rw [if_pos (by rw [lt_nI _ (by omega), tnI (by omega)]; omega), sortOf_k hw (by omega), es, zb_s, behind_k q hq _ s5, zb_s]
      by_cases eb : bhd q (wso s k) = true
      · have a5 := (aft_k _ s5).2
        rw [if_pos eb, if_neg (nI_nm (by omega)), Munl h hw e hr hn (by omega), zb_s]
        by_cases ef : p + wle s k ≤ n
        · have u6 := unlN_le (fun i => f (p + i)) (wlt s k) (wle s k)
          rw [if_pos ef]
          by_cases eu : unl s f k p = 0
          · have ee : bs s f n p q k = Bw s f n (p + wle s k) (aft (wso s k)) := if_pos ((ed_iff ..).mpr ⟨eb, ef, eu⟩)
            rw [if_pos (by rw [eu]), lengthOf_k hw (by omega), el, zb_s, nI_add, pk_mul, nI_add, zld_k _ _ _ _ _ (by omega) (by decide), ht _ _ (by omega) ef a5, nI_add, held_k (by unfold cap; omega), zb_s, zlet_e, nI_add]
            rw [show cap (cap (sm (bs s f n p q) k) + cap (Bw s f n (p + wle s k) (aft (wso s k)))) = cap (sm (bs s f n p q) k + bs s f n p q k) by rw [ee]; unfold cap; omega]
            exact ih1
          · have ee : bs s f n p q k = 0 := if_neg (fun a => eu ((ed_iff ..).mp a).2.2)
            unfold unl at eu
            rw [ee, Nat.add_zero] at ih1
            rw [if_neg (by rw [eq_nI _ (by decide)]; unfold unl; rw [tnI (by omega)]; omega), zlet_e, nI_add]
            exact ih1
        · have ee : bs s f n p q k = 0 := if_neg (fun a => ef ((ed_iff ..).mp a).2.1)
          rw [ee, Nat.add_zero] at ih1
          rw [if_neg ef, if_neg (by decide), zlet_e, nI_add]
          exact ih1
      · have ee : bs s f n p q k = 0 := if_neg (fun a => eb ((ed_iff ..).mp a).1)
        rw [ee, Nat.add_zero] at ih1
        rw [if_neg eb, if_pos rfl, zlet_e, nI_add]
        exact ih1
    · have : k = wcn s := by omega
      subst this
      rw [if_neg (by rw [lt_nI _ (by omega), tnI (by omega)]; omega)]
theorem Mways_q (K : Int32 → zW → Option (Int32 × zW)) {wx : zW} {s f : Nat → Int32} {n p : Nat} (h : RT wx 1 s) (hn : n ≤ 48) (hp : p < n) : ∀ (m q : Nat) (w : zW), w 129 = s → RM w n f → q ≤ 5 → WM s f n (p + 1) w → (∀ q', q' < q → w 136 (5 * p + q') = nI (cap (Bw s f n p q'))) → 5 - q < m → ∃ A, l_X12_findWays_49 K m (nI p) (nI q) w = K (nI p) (zset w 136 A) ∧ WM s f n p (zset w 136 A) := by
  have hL : ∀ j, j < wcn s → 1 ≤ wle s j := fun j hj => (wle_ok h hj).1
  intro m
  induction m with
  | zero => intro q w _ _ _ _ _ h; omega
  | succ m ih =>
    intro q w hw hr hq ht hd hm
    rw [l_X12_findWays_49.eq_2]
    by_cases e : q < 5
    · have st := Mways_in (fun k131_a1 k131_a2 k131_a3 w11 =>
        zsto w11 136 245 (((nI 5) * k131_a1) + k131_a2) k131_a3 fun w12 =>
        zlet (k131_a2 + nI 1) fun x102 =>
        (l_X12_findWays_49 K m) k131_a1 x102 w12) h hw hr hn hp e ht zfuel 0 (by omega) (by have := wcn_ok h; unfold zfuel; omega)
      rw [← Bw_step hL hn q hp] at st
      obtain ⟨A, a1, a2⟩ := ih (q + 1) (zupd w 136 (5 * p + q) (nI (cap (Bw s f n p q)))) (by rw [zupd_ne _ _ _ (by decide)]; exact hw) ⟨by rw [zupd_ne _ _ _ (by decide)]; exact hr.1, fun j hj => by rw [zupd_ne _ _ _ (by decide)]; exact hr.2 j hj⟩ (by omega) (fun p' q' h1 h2 h3 => by rw [zupd_eq, upd_ne _ _ (by omega)]; exact ht p' q' h1 h2 h3) (fun q' hq' => by
        rw [zupd_eq]
        by_cases eq : q' = q
        · rw [eq, upd_eq]
        · rw [upd_ne _ _ (by omega)]
          exact hd q' (by omega)) (by omega)
      rw [zset_zupd] at a1 a2
      refine ⟨A, ?_, a2⟩
      rw [if_pos (by rw [lt_nI _ (by omega), tnI (by omega)]; omega)]
      refine st.trans ?_
      rw [pk_mul, nI_add, zsto_k _ _ _ _ _ _ (by omega) (by decide), zlet_e, nI_add]
      exact a1
    · have : q = 5 := by omega
      subst this
      rw [if_neg (by rw [lt_nI _ (by omega), tnI (by omega)]; omega)]
      refine ⟨w 136, by rw [zset_self], ?_⟩
      rw [zset_self]
      intro p' q' h1 h2 h3
      by_cases ep : p' = p
      · rw [ep]
        exact hd q' h3
      · exact ht p' q' (by omega) h2 h3
theorem Mways_p (K : zW → Option (Int32 × zW)) {wx : zW} {s f : Nat → Int32} {n : Nat} (h : RT wx 1 s) (hn : n ≤ 48) : ∀ (m k : Nat) (w : zW), w 129 = s → RM w n f → k ≤ n → WM s f n k w → k < m → ∃ A, l_X12_findWays_43 K m (nI k + mI 1) w = K (zset w 136 A) ∧ WM s f n 0 (zset w 136 A) := by
  intro m
  induction m with
  | zero => intro k w _ _ _ _ h; omega
  | succ m ih =>
    intro k w hw hr hk ht hm
    rw [l_X12_findWays_43.eq_2]
    by_cases e : k = 0
    · subst e
      rw [if_pos (by decide)]
      exact ⟨w 136, by rw [zset_self], by rw [zset_self]; exact ht⟩
    · obtain ⟨A, a1, a2⟩ := Mways_q (fun k148_a1 w11 =>
        zlet (k148_a1 + mI 1) fun x102 =>
        (l_X12_findWays_43 K m) x102 w11) (p := k - 1) h hn (by omega) zfuel 0 w hw hr (by omega) (by rw [show k - 1 + 1 = k by omega]; exact ht) (fun q' hq' => by omega) (by unfold zfuel; omega)
      obtain ⟨A2, b1, b2⟩ := ih (k - 1) (zset w 136 A) (by rw [zset_ne _ _ (by decide)]; exact hw) ⟨by rw [zset_ne _ _ (by decide)]; exact hr.1, fun j hj => by rw [zset_ne _ _ (by decide)]; exact hr.2 j hj⟩ (by omega) a2 (by omega)
      rw [zset_zset] at b1 b2
      refine ⟨A2, ?_, b2⟩
      rw [nI_dec (by omega) (by omega), if_neg (by rw [lt_nI _ (by decide), tnI (by omega)]; omega), a1, zlet_e]
      exact b1
theorem Mways_0 (K : zW → Option (Int32 × zW)) {s f : Nat → Int32} {n : Nat} (hn : n ≤ 48) : ∀ (m q : Nat) (w : zW), RM w n f → q ≤ 5 → (∀ q', q' < q → w 136 (5 * n + q') = nI (cap (Bw s f n n q'))) → 5 - q < m → ∃ A, l_X12_findWays_2 K m (nI q) w = K (zset w 136 A) ∧ WM s f n n (zset w 136 A) := by
  intro m
  induction m with
  | zero => intro q w _ _ _ h; omega
  | succ m ih =>
    intro q w hr hq hd hm
    rw [l_X12_findWays_2.eq_2, hr.1]
    by_cases e : q < 5
    · obtain ⟨A, a1, a2⟩ := ih (q + 1) (zupd w 136 (5 * n + q) (nI (if q = 4 then 1 else 0))) ⟨by rw [zupd_ne _ _ _ (by decide)]; exact hr.1, fun j hj => by rw [zupd_ne _ _ _ (by decide)]; exact hr.2 j hj⟩ (by omega) (fun q' hq' => by
        rw [zupd_eq]
        by_cases eq : q' = q
        · rw [eq, upd_eq, Bw_end]
          by_cases e4 : q = 4
          · rw [if_pos e4]; rfl
          · rw [if_neg e4]; rfl
        · rw [upd_ne _ _ (by omega)]
          exact hd q' (by omega)) (by omega)
      rw [zset_zupd] at a1 a2
      refine ⟨A, ?_, a2⟩
      rw [if_pos (by rw [lt_nI _ (by omega), tnI (by omega)]; omega), pk_mul, nI_add]
      by_cases e4 : q = 4
      · rw [if_pos e4] at a1
        rw [if_pos (by rw [e4]), j_X12_findWays_29, zsto_k _ _ _ _ _ _ (by omega) (by decide), zlet_e, nI_add]
        exact a1
      · rw [if_neg e4] at a1
        rw [if_neg (by rw [eq_nI _ (by decide), tnI (by omega)]; omega), j_X12_findWays_29, zsto_k _ _ _ _ _ _ (by omega) (by decide), zlet_e, nI_add]
        exact a1
    · have : q = 5 := by omega
      subst this
      rw [if_neg (by rw [lt_nI _ (by omega), tnI (by omega)]; omega)]
      refine ⟨w 136, by rw [zset_self], ?_⟩
      rw [zset_self]
      intro p' q' h1 h2 h3
      rw [show p' = n by omega]
      exact hd q' h3
theorem Mways_ok {wx w : zW} {s f : Nat → Int32} {n : Nat} (h : RT wx 1 s) (hw : w 129 = s) (hr : RM w n f) (hn : n ≤ 48) (h1 : 1 ≤ n) : ∃ A, f_X12_findWays w = some (nI (cap (Bw s f n 0 0)), zset w 136 A) ∧ WM s f n 0 (zset w 136 A) := by
  obtain ⟨A, a1, a2⟩ := Mways_0 (s := s) (fun w11 =>
    zlet ((w11 128 12) - (nI 1)) fun x101 =>
    l_X12_findWays_43 (fun w22 =>
      some (w22 136 0, w22)) zfuel x101 w11) hn zfuel 0 w hr (by omega) (fun q' hq' => by omega) (by unfold zfuel; omega)
  obtain ⟨A2, b1, b2⟩ := Mways_p (fun w22 => some (w22 136 0, w22)) h hn zfuel n (zset w 136 A) (by rw [zset_ne _ _ (by decide)]; exact hw) ⟨by rw [zset_ne _ _ (by decide)]; exact hr.1, fun j hj => by rw [zset_ne _ _ (by decide)]; exact hr.2 j hj⟩ (Nat.le_refl _) a2 (by unfold zfuel; omega)
  rw [zset_zset] at b1 b2
  refine ⟨A2, ?_, b2⟩
  rw [f_X12_findWays]
  refine a1.trans ?_
  rw [zset_ne _ _ (by decide), hr.1, nI_sub h1 (by omega), zlet_e, ← nI_dec h1 (by omega), b1, b2 0 0 (by omega) (by omega) (by omega)]
end WY
