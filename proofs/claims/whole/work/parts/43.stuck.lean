/-- the last place that words reach -/
def Top (s f : Nat → Int32) (n r : Nat) : Prop := r ≤ n ∧ (∃ q, q < 5 ∧ Rch s f n r q) ∧ ∀ p q, p ≤ n → q < 5 → Rch s f n p q → p ≤ r
theorem Top_eq {s f : Nat → Int32} {n r r' : Nat} (h : Top s f n r) (h' : Top s f n r') : r = r' := by
  obtain ⟨q, q5, hq⟩ := h.2.1
  obtain ⟨q', q5', hq'⟩ := h'.2.1
  have := h.2.2 r' q' h'.1 q5' hq'
  have := h'.2.2 r q h.1 q5 hq
  omega
section SK
theorem CI_Rch {w : zW} {s f : Nat → Int32} {n : Nat} {C : Nat → Nat → Nat} (h : RT w 1 s) (hI : CI s f n C n 0) : ∀ p q, p ≤ n → q < 5 → (0 < C p q ↔ Rch s f n p q) := fun p q hp hq => by
  refine ⟨hI.2.1 p q hp hq, fun ⟨k, hk⟩ => ?_⟩
  refine (Rch_min (P := fun p q => 0 < C p q) hI.1 (fun p0 q0 j h1 h2 h3 hj he => ?_) (fun j hj => (wso_ok h hj).1) k p q hk).2.2
  have l := (wle_ok h hj).1
  have := ((ed_iff ..).mp he).2.1
  exact hI.2.2 p0 q0 j (by omega) h2 hj h3 he
theorem Xstuck_loop {wx : zW} {s f : Nat → Int32} {n : Nat} {C : Nat → Nat → Nat} {w : zW} (h : RT wx 1 s) (hr : RX w n f) (hn : n ≤ 48) (hc : CXw n w C) (hI : CI s f n C n 0) : ∀ (m k r : Nat), k ≤ (n + 1) * 5 → r ≤ n → (∃ q, q < 5 ∧ 0 < C r q) → (∀ p q, p * 5 + q < k → q < 5 → 0 < C p q → p ≤ r) → (n + 1) * 5 - k < m → ∃ r', l_X1_stuckAt_11 (fun k45_a3 w12 => some (k45_a3, w12)) m (nI r) (nI k) w = some (nI r', w) ∧ Top s f n r' := by
  intro m
  induction m with
  | zero => intro k r _ _ _ _ h; omega
  | succ m ih =>
    intro k r hk hrn he hd hm
    rw [l_X1_stuckAt_11.eq_2, hr.1, nI_add, pk_mul]
    by_cases e : k < (n + 1) * 5
    · have hck := hc (k / 5) (k % 5) (by omega) (by omega)
      rw [show k / 5 * 5 + k % 5 = k by omega] at hck
      have cl := cap_le (C (k / 5) (k % 5))
      rw [if_pos (by rw [lt_nI _ (by omega), tnI (by omega)]; omega), zld_k _ _ _ _ _ (by omega) (by decide), hck]
      by_cases c : 0 < C (k / 5) (k % 5)
      · have cp : 0 < cap (C (k / 5) (k % 5)) := by unfold cap; omega
        rw [if_pos (by rw [nI_lt2 _ (by decide), tnI (by omega)]; omega), pk_div (by omega) (by decide) (by decide), zlet_e, nI_add, zlet_e]
        refine ih (k + 1) (k / 5) (by omega) (by omega) ⟨k % 5, by omega, c⟩ (fun p q h1 h2 h3 => ?_) (by omega)
        omega
      · have cp : cap (C (k / 5) (k % 5)) = 0 := by unfold cap; omega
        rw [cp, if_neg (by decide), nI_add, zlet_e]
        refine ih (k + 1) r (by omega) hrn he (fun p q h1 h2 h3 => ?_) (by omega)
        by_cases ek : p * 5 + q = k
        · rw [show k / 5 = p by omega, show k % 5 = q by omega] at c
          exact absurd h3 c
        · exact hd p q (by omega) h2 h3
    · rw [if_neg (by rw [lt_nI _ (by omega), tnI (by omega)]; omega)]
      refine ⟨r, rfl, hrn, ?_, fun p q h1 h2 h3 => ?_⟩
      · obtain ⟨q, q5, hq⟩ := he
        exact ⟨q, q5, (CI_Rch h hI r q hrn q5).mp hq⟩
      · exact hd p q (by omega) h2 ((CI_Rch h hI p q h1 h2).mpr h3)
theorem Xstuck_ok {w : zW} {s f : Nat → Int32} {n : Nat} (h : RT w 1 s) (hr : RX w n f) (hn : n ≤ 48) : ∃ A r, f_X1_stuckAt w = some (nI r, zset w 114 A) ∧ Top s f n r := by
  obtain ⟨A, C, a1, a2, a3, a4⟩ := Xcount_ok h hr hn
  obtain ⟨r, b1, b2⟩ := Xstuck_loop (w := zset w 114 A) h ⟨by rw [zset_ne _ _ (by decide)]; exact hr.1, fun j hj => by rw [zset_ne _ _ (by decide)]; exact hr.2 j hj⟩ hn a2 a4 zfuel 0 0 (by omega) (by omega) ⟨0, by omega, a4.1⟩ (fun p q h1 => by omega) (by unfold zfuel; omega)
  refine ⟨A, r, ?_, b2⟩
  rw [f_X1_stuckAt, a1, zb_s]
  exact b1
theorem tb_sh : ∀ v, v < 32 → ∀ q, q < 5 → (((nI v >>> (nI q &&& 31)) &&& nI 1) = nI 1) = (tb v q = true) := fun v hv q hq => by
  have : ∀ v, v < 32 → ∀ q, q < 5 → decide (((nI v >>> (nI q &&& 31)) &&& nI 1) = nI 1) = decide (tb v q = true) := by decide +kernel
  exact propext (decide_eq_decide.mp (this v hv q hq))
theorem tb_set : ∀ v, v < 32 → ∀ u, u < 5 → nI v ||| (nI 1 <<< (nI u &&& 31)) = nI (v ||| 2 ^ u) ∧ v ||| 2 ^ u < 32 ∧ ∀ q, q < 5 → tb (v ||| 2 ^ u) q = (tb v q || q == u) := by decide +kernel
theorem tb_0 : ∀ v, v < 32 → (∀ q, q < 5 → tb v q = false) → v = 0 := by decide +kernel
/-- the reference's marks -/
def MK (n : Nat) (w : zW) (V : Nat → Nat) : Prop := ∀ p, p ≤ n → w 136 p = nI (V p) ∧ V p < 32
def SI (s f : Nat → Int32) (n : Nat) (V : Nat → Nat) (p t : Nat) : Prop := tb (V 0) 0 = true ∧ (∀ p q, p ≤ n → q < 5 → tb (V p) q = true → Rch s f n p q) ∧ ∀ p0 q0 i, (p0 < p ∨ (p0 = p ∧ 5 * i + q0 < t)) → q0 < 5 → i < wcn s → tb (V p0) q0 = true → ed s f n p0 q0 i = true → tb (V (p0 + wle s i)) (aft (wso s i)) = true
theorem SI_skip {s f : Nat → Int32} {n : Nat} {V : Nat → Nat} {p j q : Nat} (hq : q < 5) (h : SI s f n V p (5 * j + q)) (hn : ¬ (tb (V p) q = true ∧ ed s f n p q j = true)) : SI s f n V p (5 * j + (q + 1)) := by
  refine ⟨h.1, h.2.1, fun p0 q0 i hi hq0 hiw ht he => ?_⟩
  by_cases e : p0 = p ∧ 5 * i + q0 = 5 * j + q
  · have e1 : i = j := by omega
    have e2 : q0 = q := by omega
    rw [e.1, e2] at ht
    rw [e.1, e1, e2] at he
    exact absurd ⟨ht, he⟩ hn
  · exact h.2.2 p0 q0 i (by omega) hq0 hiw ht he
def uV (V : Nat → Nat) (p v : Nat) : Nat → Nat := fun k => if k = p then v else V k
theorem SI_go {s f : Nat → Int32} {n : Nat} {V : Nat → Nat} {p j q : Nat} (hV : ∀ p, p ≤ n → V p < 32) (h5 : wso s j < 5) (hl : 1 ≤ wle s j) (hj : j < wcn s) (hp : p ≤ n) (hq : q < 5) (h : SI s f n V p (5 * j + q)) (ht : tb (V p) q = true) (he : ed s f n p q j = true) : SI s f n (uV V (p + wle s j) (V (p + wle s j) ||| 2 ^ aft (wso s j))) p (5 * j + (q + 1)) := by
  have fit := ((ed_iff ..).mp he).2.1
  have a5 := (aft_k _ h5).2
  obtain ⟨t1, t2, t3⟩ := tb_set _ (hV _ fit) _ a5
  have low : ∀ k, k ≤ p → uV V (p + wle s j) (V (p + wle s j) ||| 2 ^ aft (wso s j)) k = V k := fun k hk => if_neg (by omega)
  have mono : ∀ k u, k ≤ n → u < 5 → tb (V k) u = true → tb (uV V (p + wle s j) (V (p + wle s j) ||| 2 ^ aft (wso s j)) k) u = true := fun k u hk hu hb => by
    unfold uV
    by_cases e : k = p + wle s j
    · rw [if_pos e, t3 u hu, ← e, hb]
      rfl
    · rw [if_neg e]
      exact hb
  refine ⟨mono 0 0 (by omega) (by decide) h.1, fun p' q' hp' hq' hb => ?_, fun p0 q0 i hi hq0 hiw hb he' => ?_⟩
  · unfold uV at hb
    by_cases e : p' = p + wle s j
    · rw [if_pos e, t3 q' hq'] at hb
      by_cases eq : q' = aft (wso s j)
      · rw [e, eq]
        exact Rch_step (h.2.1 p q hp hq ht) hj he
      · have : tb (V (p + wle s j)) q' = true := by
          have e0 : (q' == aft (wso s j)) = false := by simpa using eq
          rw [e0, Bool.or_false] at hb
          exact hb
        rw [← e] at this
        exact h.2.1 p' q' hp' hq' this
    · rw [if_neg e] at hb
      exact h.2.1 p' q' hp' hq' hb
  · rw [low p0 (by omega)] at hb
    by_cases e : p0 = p ∧ 5 * i + q0 = 5 * j + q
    · have e1 : i = j := by omega
      rw [e.1, e1]
      unfold uV
      rw [if_pos rfl, t3 _ a5]
      simp
    · have f0 := ((ed_iff ..).mp he').2.1
      have := h.2.2 p0 q0 i (by omega) hq0 hiw hb he'
      by_cases hs5 : aft (wso s i) < 5
      · exact mono _ _ f0 hs5 this
      · exact absurd (by unfold aft at hs5 ⊢; have : bhd q0 (wso s i) = true := ((ed_iff ..).mp he').1; unfold bhd at this; simp at this; split <;> omega) hs5
theorem Mstuck_q (K : Int32 → Int32 → Int32 → zW → Option (Int32 × zW)) {wx : zW} {s f : Nat → Int32} {n p j : Nat} (a1 : Int32) (h : RT wx 1 s) (hn : n ≤ 48) (hp : p ≤ n) (hj : j < wcn s) : ∀ (m q : Nat) (w : zW) (V : Nat → Nat), w 129 = s → RM w n f → MK n w V → SI s f n V p (5 * j + q) → q ≤ 5 → 5 - q < m → ∃ A V', l_X12_stuck_82 K m a1 (nI p) (nI j) (nI q) w = K a1 (nI p) (nI j) (zset w 136 A) ∧ MK n (zset w 136 A) V' ∧ SI s f n V' p (5 * (j + 1)) ∧ ∀ k, k ≤ p → V' k = V k := by
  obtain ⟨l1, l6, el⟩ := wle_ok h hj
  obtain ⟨s5, es⟩ := wso_ok h hj
  have c12 := wcn_ok h
  have a5 := (aft_k _ s5).2
  intro m
  induction m with
  | zero => intro q w V _ _ _ _ _ h; omega
  | succ m ih =>
    intro q w V hw hr hV hI hq hm
    rw [l_X12_stuck_82.eq_2]
    by_cases e : q < 5
    · obtain ⟨v1, v2⟩ := hV p hp
      rw [if_pos (by rw [lt_nI _ (by omega), tnI (by omega)]; omega), sortOf_k hw (by omega), es, zb_s, behind_k q e _ s5, zb_s, zld_k _ _ _ _ _ (by omega) (by decide), v1]
      by_cases t : tb (V p) q = true
      · rw [if_pos (by rw [tb_sh _ v2 _ e]; exact t)]
        by_cases eb : bhd q (wso s j) = true
        · rw [if_pos eb, if_neg (nI_nm (by omega)), Munl h hw hj hr hn (by omega), zb_s]
          by_cases ef : p + wle s j ≤ n
          · have u6 := unlN_le (fun i => f (p + i)) (wlt s j) (wle s j)
            rw [if_pos ef]
            by_cases eu : unl s f j p = 0
            · have ee := (ed_iff s f n p q j).mpr ⟨eb, ef, eu⟩
              obtain ⟨x1, x2⟩ := hV _ ef
              obtain ⟨t1, t2, t3⟩ := tb_set _ x2 _ a5
              have hI' := SI_go (fun k hk => (hV k hk).2) s5 l1 hj hp e hI t ee
              obtain ⟨A, V', b1, b2, b3, b4⟩ := ih (q + 1) (zupd w 136 (p + wle s j) (nI (V (p + wle s j) ||| 2 ^ aft (wso s j)))) _ (by rw [zupd_ne _ _ _ (by decide)]; exact hw) ⟨by rw [zupd_ne _ _ _ (by decide)]; exact hr.1, fun j hj => by rw [zupd_ne _ _ _ (by decide)]; exact hr.2 j hj⟩ (fun k hk => by
                rw [zupd_eq]
                unfold uV
                by_cases ek : k = p + wle s j
                · rw [if_pos ek, ek, upd_eq]
                  exact ⟨rfl, t2⟩
                · rw [if_neg ek, upd_ne _ _ ek]
                  exact hV k hk) hI' (by omega) (by omega)
              rw [zset_zupd] at b1 b2
              refine ⟨A, V', ?_, b2, b3, fun k hk => (b4 k hk).trans (if_neg (by omega))⟩
              rw [if_pos (by rw [eu]), lengthOf_k hw (by omega), el, zb_s, nI_add, zld_k _ _ _ _ _ (by omega) (by decide), x1, t1, zsto_k _ _ _ _ _ _ (by omega) (by decide), nI_add, zlet_e]
              exact b1
            · have := SI_skip e hI (fun a => eu ((ed_iff ..).mp a.2).2.2)
              unfold unl at eu
              rw [if_neg (by rw [eq_nI _ (by decide)]; unfold unl; rw [tnI (by omega)]; omega), zlet_e, nI_add]
              exact ih (q + 1) w V hw hr hV this (by omega) (by omega)
          · rw [if_neg ef, if_neg (by decide), zlet_e, nI_add]
            exact ih (q + 1) w V hw hr hV (SI_skip e hI (fun a => ef ((ed_iff ..).mp a.2).2.1)) (by omega) (by omega)
        · rw [if_neg eb, if_pos rfl, zlet_e, nI_add]
          exact ih (q + 1) w V hw hr hV (SI_skip e hI (fun a => eb ((ed_iff ..).mp a.2).1)) (by omega) (by omega)
      · rw [if_neg (by rw [tb_sh _ v2 _ e]; exact t), zlet_e, nI_add]
        exact ih (q + 1) w V hw hr hV (SI_skip e hI (fun a => t a.1)) (by omega) (by omega)
    · have : q = 5 := by omega
      subst this
      rw [if_neg (by rw [lt_nI _ (by omega), tnI (by omega)]; omega)]
      exact ⟨w 136, V, by rw [zset_self], by rw [zset_self]; exact hV, hI, fun _ _ => rfl⟩
theorem SI_row {s f : Nat → Int32} {n : Nat} {V : Nat → Nat} {p t : Nat} (h5 : ∀ i, i < wcn s → 5 * i + 5 ≤ 5 * wcn s) (h : SI s f n V p t) (ht : t = 5 * wcn s ∨ ∀ q, q < 5 → tb (V p) q = false) : SI s f n V (p + 1) 0 := by
  refine ⟨h.1, h.2.1, fun p0 q0 i hi hq0 hiw hb he => ?_⟩
  by_cases e : p0 = p
  · rcases ht with ht | ht
    · have := h5 i hiw
      exact h.2.2 p0 q0 i (by omega) hq0 hiw hb he
    · rw [e, ht q0 hq0] at hb
      exact absurd hb (by decide)
  · exact h.2.2 p0 q0 i (by omega) hq0 hiw hb he
theorem Mstuck_j (K : Int32 → Int32 → zW → Option (Int32 × zW)) {wx : zW} {s f : Nat → Int32} {n p : Nat} (a1 : Int32) (h : RT wx 1 s) (hn : n ≤ 48) (hp : p ≤ n) : ∀ (m j : Nat) (w : zW) (V : Nat → Nat), w 129 = s → RM w n f → MK n w V → SI s f n V p (5 * j) → j ≤ wcn s → wcn s - j < m → ∃ A V', l_X12_stuck_60 K m a1 (nI p) (nI j) w = K a1 (nI p) (zset w 136 A) ∧ MK n (zset w 136 A) V' ∧ SI s f n V' (p + 1) 0 ∧ ∀ k, k ≤ p → V' k = V k := by
  have c12 := wcn_ok h
  intro m
  induction m with
  | zero => intro j w V _ _ _ _ _ h; omega
  | succ m ih =>
    intro j w V hw hr hV hI hj hm
    rw [l_X12_stuck_60.eq_2, hw, c12.2]
    by_cases e : j < wcn s
    · obtain ⟨v1, v2⟩ := hV p hp
      rw [if_pos (by rw [lt_nI _ (by omega), tnI (by omega)]; omega), zld_k _ _ _ _ _ (by omega) (by decide), v1]
      by_cases v0 : V p = 0
      · rw [v0, if_pos rfl]
        refine ⟨w 136, V, by rw [zset_self], by rw [zset_self]; exact hV, SI_row (fun i hi => by omega) hI (Or.inr (fun q hq => ?_)), fun _ _ => rfl⟩
        rw [v0]
        have : q = 0 ∨ q = 1 ∨ q = 2 ∨ q = 3 ∨ q = 4 := by omega
        rcases this with rfl | rfl | rfl | rfl | rfl <;> rfl
      · obtain ⟨A, V', a1', a2, a3, a4⟩ := Mstuck_q (fun k155_a1 k155_a2 k155_a3 w11 =>
          zlet (k155_a3 + nI 1) fun x104 =>
          (l_X12_stuck_60 K m) k155_a1 k155_a2 x104 w11) a1 h hn hp e zfuel 0 w V hw hr hV hI (by omega) (by unfold zfuel; omega)
        obtain ⟨A2, V2, b1, b2, b3, b4⟩ := ih (j + 1) (zset w 136 A) V' (by rw [zset_ne _ _ (by decide)]; exact hw) ⟨by rw [zset_ne _ _ (by decide)]; exact hr.1, fun j hj => by rw [zset_ne _ _ (by decide)]; exact hr.2 j hj⟩ a2 a3 (by omega) (by omega)
        rw [zset_zset] at b1 b2
        refine ⟨A2, V2, ?_, b2, b3, fun k hk => (b4 k hk).trans (a4 k hk)⟩
        rw [if_neg (by rw [eq_nI _ (by decide), tnI (by omega)]; omega)]
        refine a1'.trans ?_
        rw [nI_add, zlet_e]
        exact b1
    · have : j = wcn s := by omega
      subst this
      rw [if_neg (by rw [lt_nI _ (by omega), tnI (by omega)]; omega)]
      exact ⟨w 136, V, by rw [zset_self], by rw [zset_self]; exact hV, SI_row (fun i hi => by omega) hI (Or.inl rfl), fun _ _ => rfl⟩
theorem Mstuck_p (K : Int32 → zW → Option (Int32 × zW)) {wx : zW} {s f : Nat → Int32} {n : Nat} (h : RT wx 1 s) (hn : n ≤ 48) : ∀ (m p r : Nat) (w : zW) (V : Nat → Nat), w 129 = s → RM w n f → MK n w V → SI s f n V p 0 → p ≤ n + 1 → r ≤ n → (∃ q, q < 5 ∧ tb (V r) q = true) → (∀ k q, k < p → q < 5 → tb (V k) q = true → k ≤ r) → (r < p ∨ p = 0 ∧ r = 0) → n + 1 - p < m → ∃ A r', l_X12_stuck_35 K m (nI r) (nI p) w = K (nI r') (zset w 136 A) ∧ Top s f n r' := by
  have c12 := wcn_ok h
  intro m
  induction m with
  | zero => intro p r w V _ _ _ _ _ _ _ _ _ h; omega
  | succ m ih =>
    intro p r w V hw hr hV hI hp hrn hre hrd hrp hm
    rw [l_X12_stuck_35.eq_2, hr.1]
    by_cases e : n < p
    · rw [if_pos (by rw [lt_nI _ (by omega), tnI (by omega)]; omega)]
      have full : ∀ k q, k ≤ n → q < 5 → Rch s f n k q → tb (V k) q = true := fun k q hk hq ⟨c, hc⟩ =>
        (Rch_min (P := fun k q => tb (V k) q = true) hI.1 (fun p0 q0 j h1 h2 h3 hj he => hI.2.2 p0 q0 j (Or.inl (by omega)) h2 hj h3 he) (fun j hj => (wso_ok h hj).1) c k q hc).2.2
      refine ⟨w 136, r, by rw [zset_self], hrn, ?_, fun k q hk hq hc => hrd k q (by omega) hq (full k q hk hq hc)⟩
      obtain ⟨q, q5, hq⟩ := hre
      exact ⟨q, q5, hI.2.1 r q hrn q5 hq⟩
    · obtain ⟨v1, v2⟩ := hV p (by omega)
      obtain ⟨b, hb⟩ : ∃ b, b = if V p = 0 then r else p := ⟨_, rfl⟩
      obtain ⟨A, V', a1, a2, a3, a4⟩ := Mstuck_j (fun k161_a1 k161_a2 w11 =>
        zlet (k161_a2 + nI 1) fun x101 =>
        (l_X12_stuck_35 K m) k161_a1 x101 w11) (nI b) h hn (show p ≤ n by omega) zfuel 0 w V hw hr hV hI (by omega) (by unfold zfuel; omega)
      have vz : V p = 0 ∨ ∃ q, q < 5 ∧ tb (V p) q = true := by
        by_cases z : V p = 0
        · exact Or.inl z
        · refine Or.inr ?_
          by_cases a : ∃ q, q < 5 ∧ tb (V p) q = true
          · exact a
          · refine absurd (tb_0 _ v2 (fun q hq => ?_)) z
            by_cases t : tb (V p) q = true
            · exact absurd ⟨q, hq, t⟩ a
            · simpa using t
      have bn : b ≤ n ∧ b ≤ p := by
        rw [hb]
        split <;> omega
      obtain ⟨A2, r', b1, b2⟩ := ih (p + 1) b (zset w 136 A) V' (by rw [zset_ne _ _ (by decide)]; exact hw) ⟨by rw [zset_ne _ _ (by decide)]; exact hr.1, fun j hj => by rw [zset_ne _ _ (by decide)]; exact hr.2 j hj⟩ a2 a3 (by omega) bn.1 (by
        rw [hb]
        by_cases z : V p = 0
        · rw [if_pos z, a4 r (by omega)]
          exact hre
        · rw [if_neg z, a4 p (Nat.le_refl _)]
          exact vz.resolve_left z) (fun k q hk hq ht => by
        rw [a4 k (by omega)] at ht
        rw [hb]
        by_cases z : V p = 0
        · rw [if_pos z]
          by_cases ek : k = p
          · rw [ek, z] at ht
            have : q = 0 ∨ q = 1 ∨ q = 2 ∨ q = 3 ∨ q = 4 := by omega
            rcases this with rfl | rfl | rfl | rfl | rfl <;> exact absurd ht (by decide)
          · exact hrd k q (by omega) hq ht
        · rw [if_neg z]
          omega) (Or.inl (by omega)) (by omega)
      rw [zset_zset] at b1
      refine ⟨A2, r', ?_, b2⟩
      rw [if_neg (by rw [lt_nI _ (by omega), tnI (by omega)]; omega), zld_k _ _ _ _ _ (by omega) (by decide), v1]
      have fin : j_X12_stuck_57 (l_X12_stuck_35 K m) K (nI p) (nI b) w = K (nI r') (zset w 136 A2) := by
        rw [j_X12_stuck_57]
        refine a1.trans ?_
        rw [nI_add, zlet_e]
        exact b1
      by_cases z : V p = 0
      · rw [if_pos z] at hb
        rw [z, if_pos rfl, ← hb]
        exact fin
      · rw [if_neg z] at hb
        rw [if_neg (by rw [eq_nI _ (by decide), tnI (by omega)]; omega)]
        rw [hb] at fin
        exact fin
theorem Mstuck_0 (K : Int32 → zW → Option (Int32 × zW)) {f : Nat → Int32} {n : Nat} (a1 : Int32) (hn : n ≤ 48) : ∀ (m k : Nat) (w : zW), RM w n f → k ≤ n + 1 → (∀ p, p < k → w 136 p = nI (if p = 0 then 1 else 0)) → n + 1 - k < m → ∃ A, l_X12_stuck_4 K m a1 (nI k) w = K a1 (zset w 136 A) ∧ MK n (zset w 136 A) (fun p => if p = 0 then 1 else 0) := by
  intro m
  induction m with
  | zero => intro k w _ _ _ h; omega
  | succ m ih =>
    intro k w hr hk hd hm
    rw [l_X12_stuck_4.eq_2, hr.1]
    by_cases e : n < k
    · rw [if_pos (by rw [lt_nI _ (by omega), tnI (by omega)]; omega)]
      refine ⟨w 136, by rw [zset_self], fun p hp => ?_⟩
      rw [zset_self]
      refine ⟨hd p (by omega), ?_⟩
      show (if p = 0 then 1 else 0) < 32
      split <;> omega
    · obtain ⟨A, b1, b2⟩ := ih (k + 1) (zupd w 136 k (nI (if k = 0 then 1 else 0))) ⟨by rw [zupd_ne _ _ _ (by decide)]; exact hr.1, fun j hj => by rw [zupd_ne _ _ _ (by decide)]; exact hr.2 j hj⟩ (by omega) (fun p hp => by
        rw [zupd_eq]
        by_cases ep : p = k
        · rw [ep, upd_eq]
        · rw [upd_ne _ _ ep]
          exact hd p (by omega)) (by omega)
      rw [zset_zupd] at b1 b2
      refine ⟨A, ?_, b2⟩
      rw [if_neg (by rw [lt_nI _ (by omega), tnI (by omega)]; omega)]
      by_cases k0 : k = 0
      · rw [if_pos k0] at b1
        rw [if_pos (by rw [k0]), j_X12_stuck_26, zsto_k _ _ _ _ _ _ (by omega) (by decide), zlet_e, nI_add]
        exact b1
      · rw [if_neg k0] at b1
        rw [if_neg (by rw [eq_nI _ (by decide), tnI (by omega)]; omega), j_X12_stuck_26, zsto_k _ _ _ _ _ _ (by omega) (by decide), zlet_e, nI_add]
        exact b1
theorem Mstuck_ok {wx w : zW} {s f : Nat → Int32} {n : Nat} (h : RT wx 1 s) (hw : w 129 = s) (hr : RM w n f) (hn : n ≤ 48) : ∃ A r, f_X12_stuck w = some (nI r, zset w 136 A) ∧ Top s f n r := by
  obtain ⟨A, a1, a2⟩ := Mstuck_0 (fun k33_a1 w11 =>
    l_X12_stuck_35 (fun k167_a1 w22 =>
      some (k167_a1, w22)) zfuel k33_a1 (nI 0) w11) (nI 0) hn zfuel 0 w hr (by omega) (fun p hp => by omega) (by unfold zfuel; omega)
  obtain ⟨A2, r, b1, b2⟩ := Mstuck_p (fun k167_a1 w22 => some (k167_a1, w22)) (f := f) h hn zfuel 0 0 (zset w 136 A) _ (by rw [zset_ne _ _ (by decide)]; exact hw) ⟨by rw [zset_ne _ _ (by decide)]; exact hr.1, fun j hj => by rw [zset_ne _ _ (by decide)]; exact hr.2 j hj⟩ a2 ⟨by decide, fun p q hp hq ht => by
    by_cases p0 : p = 0
    · subst p0
      have : q = 0 ∨ q = 1 ∨ q = 2 ∨ q = 3 ∨ q = 4 := by omega
      rcases this with rfl | rfl | rfl | rfl | rfl
      · exact Rch0 s f n
      all_goals exact absurd ht (by decide)
    · have ht : tb (if p = 0 then 1 else 0) q = true := ht
      rw [if_neg p0] at ht
      have : q = 0 ∨ q = 1 ∨ q = 2 ∨ q = 3 ∨ q = 4 := by omega
      rcases this with rfl | rfl | rfl | rfl | rfl <;> exact absurd ht (by decide), fun p0 q0 i hi => by omega⟩ (by omega) (by omega) ⟨0, by decide, by decide⟩ (fun k q hk => by omega) (Or.inr ⟨rfl, rfl⟩) (by unfold zfuel; omega)
  rw [zset_zset] at b1
  refine ⟨A2, r, ?_, b2⟩
  rw [f_X12_stuck]
  exact a1.trans b1
end SK
