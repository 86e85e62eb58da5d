section CO
/-- places and states that words reach, and what of letters is otherwise on the way -/
def Ck (s f : Nat → Int32) (n : Nat) : Nat → Nat → Nat → Nat → Prop
  | 0, p, q, c => p = 0 ∧ q = 0 ∧ c = 0
  | k + 1, p, q, c => Ck s f n k p q c ∨ ∃ p0 q0 j c0, Ck s f n k p0 q0 c0 ∧ j < wcn s ∧ bhd q0 (wso s j) = true ∧ p0 + wle s j ≤ n ∧ p = p0 + wle s j ∧ q = aft (wso s j) ∧ c = c0 + unl s f j p0
def Cch (s f : Nat → Int32) (n p q c : Nat) : Prop := ∃ k, Ck s f n k p q c
theorem Cch_step {s f : Nat → Int32} {n p q c j : Nat} (h : Cch s f n p q c) (hj : j < wcn s) (hb : bhd q (wso s j) = true) (hf : p + wle s j ≤ n) : Cch s f n (p + wle s j) (aft (wso s j)) (c + unl s f j p) := by
  obtain ⟨k, hk⟩ := h
  exact ⟨k + 1, Or.inr ⟨p, q, j, c, hk, hj, hb, hf, rfl, rfl, rfl⟩⟩
def MI (s f : Nat → Int32) (n F : Nat) (D : Nat → Nat → Nat → Prop) (V : Nat → Nat → Nat) : Prop := V 0 0 = 0 ∧ (∀ p q, p ≤ n → q < 5 → V p q < F → Cch s f n p q (V p q)) ∧ (∀ p q, V p q ≤ F) ∧ ∀ p0 q0 i, D p0 q0 i → q0 < 5 → i < wcn s → bhd q0 (wso s i) = true → p0 + wle s i ≤ n → V p0 q0 < F → V (p0 + wle s i) (aft (wso s i)) ≤ V p0 q0 + unl s f i p0
theorem MI_skip {s f : Nat → Int32} {n F : Nat} {D D' : Nat → Nat → Nat → Prop} {V : Nat → Nat → Nat} (h : MI s f n F D V) (hD : ∀ p0 q0 i, q0 < 5 → i < wcn s → D' p0 q0 i → D p0 q0 i ∨ ¬ (bhd q0 (wso s i) = true ∧ p0 + wle s i ≤ n ∧ V p0 q0 < F)) : MI s f n F D' V := by
  refine ⟨h.1, h.2.1, h.2.2.1, fun p0 q0 i hd hq hi hb hf hv => ?_⟩
  rcases hD p0 q0 i hq hi hd with a | a
  · exact h.2.2.2 p0 q0 i a hq hi hb hf hv
  · exact absurd ⟨hb, hf, hv⟩ a
def vput (V : Nat → Nat → Nat) (p0 q0 v : Nat) : Nat → Nat → Nat := fun p q => if p = p0 ∧ q = q0 then v else V p q
theorem MI_step {s f : Nat → Int32} {n F L p j : Nat} {D D' : Nat → Nat → Nat → Prop} {V : Nat → Nat → Nat} (hl : 1 ≤ wle s j) (hj : j < wcn s) (hpn : p + wle s j ≤ n) (h : MI s f n F D V) (hL : L < F → ∃ q, q < 5 ∧ bhd q (wso s j) = true ∧ V p q = L) (hD : ∀ p0 q0 i, q0 < 5 → D' p0 q0 i → p0 ≤ p ∧ (D p0 q0 i ∨ (p0 = p ∧ i = j ∧ (bhd q0 (wso s j) = true → L ≤ V p q0)))) : MI s f n F D' (vput V (p + wle s j) (aft (wso s j)) (min (V (p + wle s j) (aft (wso s j))) (L + unl s f j p))) := by
  obtain ⟨h1, h2, h3, h4⟩ := h
  have low : ∀ p' q', p' ≤ p → vput V (p + wle s j) (aft (wso s j)) (min (V (p + wle s j) (aft (wso s j))) (L + unl s f j p)) p' q' = V p' q' := fun p' q' hp => if_neg (by omega)
  have le : ∀ p' q', vput V (p + wle s j) (aft (wso s j)) (min (V (p + wle s j) (aft (wso s j))) (L + unl s f j p)) p' q' ≤ V p' q' := fun p' q' => by
    unfold vput
    by_cases e : p' = p + wle s j ∧ q' = aft (wso s j)
    · rw [if_pos e, e.1, e.2]
      omega
    · rw [if_neg e]
      exact Nat.le_refl _
  refine ⟨by rw [low 0 0 (by omega), h1], fun p' q' hp' hq' hv => ?_, fun p' q' => Nat.le_trans (le p' q') (h3 p' q'), fun p0 q0 i hd hq hi hb hf hv => ?_⟩
  · by_cases e : p' = p + wle s j ∧ q' = aft (wso s j)
    · have eV : vput V (p + wle s j) (aft (wso s j)) (min (V (p + wle s j) (aft (wso s j))) (L + unl s f j p)) p' q' = min (V (p + wle s j) (aft (wso s j))) (L + unl s f j p) := if_pos e
      rw [eV] at hv ⊢
      by_cases c : V (p + wle s j) (aft (wso s j)) ≤ L + unl s f j p
      · have em : min (V (p + wle s j) (aft (wso s j))) (L + unl s f j p) = V p' q' := by
          rw [e.1, e.2]
          omega
        rw [em] at hv ⊢
        exact h2 p' q' hp' hq' hv
      · have em : min (V (p + wle s j) (aft (wso s j))) (L + unl s f j p) = L + unl s f j p := by omega
        rw [em] at hv ⊢
        obtain ⟨q, q5, qb, qv⟩ := hL (by omega)
        rw [e.1, e.2, ← qv]
        exact Cch_step (h2 p q (by omega) q5 (by omega)) hj qb hpn
    · have eV : vput V (p + wle s j) (aft (wso s j)) (min (V (p + wle s j) (aft (wso s j))) (L + unl s f j p)) p' q' = V p' q' := if_neg e
      rw [eV] at hv ⊢
      exact h2 p' q' hp' hq' hv
  · obtain ⟨d1, d2⟩ := hD p0 q0 i hq hd
    rw [low p0 q0 d1] at hv ⊢
    rcases d2 with d2 | ⟨rfl, rfl, d3⟩
    · exact Nat.le_trans (le _ _) (h4 p0 q0 i d2 hq hi hb hf hv)
    · have := d3 hb
      have e : vput V (p0 + wle s i) (aft (wso s i)) (min (V (p0 + wle s i) (aft (wso s i))) (L + unl s f i p0)) (p0 + wle s i) (aft (wso s i)) = min (V (p0 + wle s i) (aft (wso s i))) (L + unl s f i p0) := if_pos ⟨rfl, rfl⟩
      rw [e]
      omega
/-- the least that a law of the row's length costs, F if there is none -/
def Lst (s f : Nat → Int32) (n F r : Nat) : Prop := (r < F → Cch s f n n 4 r) ∧ (r ≤ F) ∧ ∀ c, Cch s f n n 4 c → r ≤ c ∧ c ≤ 48 ∧ 0 < n
theorem MI_end {w : zW} {s f : Nat → Int32} {n F : Nat} {D : Nat → Nat → Nat → Prop} {V : Nat → Nat → Nat} (h : RT w 1 s) (hI : MI s f n F D V) (hn : n ≤ 48) (hF : 48 < F) (hD : ∀ p0 q0 i, p0 < n → q0 < 5 → i < wcn s → D p0 q0 i) : Lst s f n F (V n 4) := by
  have key : ∀ k p q c, Ck s f n k p q c → p ≤ n ∧ q < 5 ∧ c ≤ p ∧ V p q ≤ c ∧ (p = 0 → q = 0) := fun k => by
    induction k with
    | zero =>
      intro p q c hc
      obtain ⟨rfl, rfl, rfl⟩ := hc
      exact ⟨by omega, by omega, by omega, by rw [hI.1]; omega, fun _ => rfl⟩
    | succ k ih =>
      intro p q c hc
      rcases hc with hc | ⟨p0, q0, j, c0, hc, hj, hb, hf, rfl, rfl, rfl⟩
      · exact ih p q c hc
      · obtain ⟨i1, i2, i3, i4, i5⟩ := ih p0 q0 c0 hc
        obtain ⟨l1, l6, el⟩ := wle_ok h hj
        have u6 : unl s f j p0 ≤ wle s j := unlN_le _ _ _
        have := hI.2.2.2 p0 q0 j (hD p0 q0 j (by omega) i2 hj) i2 hj hb hf (by omega)
        exact ⟨hf, (aft_k _ (wso_ok h hj).1).2, by omega, by omega, fun a => by omega⟩
  refine ⟨fun hr => hI.2.1 n 4 (Nat.le_refl _) (by decide) hr, hI.2.2.1 n 4, fun c ⟨k, hc⟩ => ?_⟩
  obtain ⟨a, b, c1, d, e⟩ := key k n 4 c hc
  refine ⟨d, by omega, ?_⟩
  by_cases n0 : n = 0
  · exact absurd (e n0) (by decide)
  · omega
/-- two searches tell the same -/
theorem Lst_eq {s f : Nat → Int32} {n F F' r r' : Nat} (hF : 48 < F) (hF' : 48 < F') (h : Lst s f n F r) (h' : Lst s f n F' r') : (r < F ∧ r' < F' ∧ r = r' ∧ r ≤ 48 ∧ 0 < n) ∨ (r = F ∧ r' = F') := by
  by_cases a : r < F
  · have := h'.2.2 r (h.1 a)
    have := h.2.2 r' (h'.1 (by omega))
    exact Or.inl ⟨a, by omega, by omega, by omega, by omega⟩
  · refine Or.inr ⟨by have := h.2.1; omega, ?_⟩
    by_cases b : r' < F'
    · have := h.2.2 r' (h'.1 b)
      omega
    · have := h'.2.1
      omega
def TVw (k n : Nat) (w : zW) (V : Nat → Nat → Nat) : Prop := ∀ p q, p ≤ n → q < 5 → w k (p * 5 + q) = nI (V p q)
def V0 (F : Nat) : Nat → Nat → Nat := fun p q => if p = 0 ∧ q = 0 then 0 else F
theorem MI_0 (s f : Nat → Int32) (n F : Nat) : MI s f n F (fun _ _ _ => False) (V0 F) := by
  refine ⟨if_pos ⟨rfl, rfl⟩, fun p q hp hq hv => ?_, fun p q => ?_, fun p0 q0 i hd => absurd hd id⟩
  · by_cases e : p = 0 ∧ q = 0
    · rw [e.1, e.2]
      exact ⟨0, rfl, rfl, rfl⟩
    · have : V0 F p q = F := if_neg e
      omega
  · unfold V0
    split <;> omega
/-- the least of the states from which a word of a sort may come -/
def LI (V : Nat → Nat → Nat) (p so F : Nat) : Nat → Nat
  | 0 => F
  | k + 1 => if bhd k so = true then min (LI V p so F k) (V p k) else LI V p so F k
theorem LI_le (V : Nat → Nat → Nat) (p so F : Nat) : ∀ k, LI V p so F k ≤ F
  | 0 => Nat.le_refl _
  | k + 1 => by
    have := LI_le V p so F k
    rw [LI]
    split <;> omega
theorem LI_lo (V : Nat → Nat → Nat) (p so F : Nat) : ∀ k q, q < k → bhd q so = true → LI V p so F k ≤ V p q
  | 0, q, h, _ => by omega
  | k + 1, q, h, hb => by
    rw [LI]
    by_cases e : q = k
    · subst e
      rw [if_pos hb]
      omega
    · have := LI_lo V p so F k q (by omega) hb
      split <;> omega
theorem LI_at (V : Nat → Nat → Nat) (p so F : Nat) : ∀ k, LI V p so F k < F → ∃ q, q < k ∧ bhd q so = true ∧ V p q = LI V p so F k
  | 0, h => by rw [LI] at h; omega
  | k + 1, h => by
    rw [LI] at h ⊢
    by_cases b : bhd k so = true
    · rw [if_pos b] at h ⊢
      by_cases c : V p k < LI V p so F k
      · exact ⟨k, by omega, b, by omega⟩
      · obtain ⟨q, q1, q2, q3⟩ := LI_at V p so F k (by omega)
        exact ⟨q, by omega, q2, by omega⟩
    · rw [if_neg b] at h ⊢
      obtain ⟨q, q1, q2, q3⟩ := LI_at V p so F k h
      exact ⟨q, by omega, q2, q3⟩
theorem minI {x y : Nat} (hx : x < 2 ^ 31) (hy : y < 2 ^ 31) : (if nI x < nI y then nI x else nI y) = nI (min y x) := by
  by_cases e : x < y
  · rw [if_pos (by rw [lt_nI _ (by omega), tnI hx]; omega), show min y x = x by omega]
  · rw [if_neg (by rw [lt_nI _ (by omega), tnI hx]; omega), show min y x = y by omega]
theorem Xleast_loop {w : zW} {n p so : Nat} {V : Nat → Nat → Nat} (hn : n ≤ 48) (hp : p < n) (hs : so < 5) (hc : TVw 114 n w V) (hV : ∀ p q, V p q ≤ 1000000) : ∀ (m k : Nat), k ≤ 5 → 5 - k < m → l_X1_leastInto_6 w (fun k47_a3 => some k47_a3) m (nI so) (nI p) (nI (LI V p so 1000000 k)) (nI k) = some (nI (LI V p so 1000000 5)) := by
  intro m
  induction m with
  | zero => intro k _ h; omega
  | succ m ih =>
    intro k hk hm
    rw [l_X1_leastInto_6.eq_2]
    by_cases e : k < 5
    · obtain ⟨o1, o2⟩ := bef_k _ hs
      have ih1 := ih (k + 1) (by omega) (by omega)
      rw [LI] at ih1
      rw [if_pos (by rw [lt_nI _ (by decide), tnI (by omega)]; omega), ztld_k _ _ _ _ hs (by decide), o1]
      by_cases eb : bhd k so = true
      · have l1 := LI_le V p so 1000000 k
        have l2 := hV p k
        rw [if_pos eb] at ih1
        rw [if_neg (by rw [tb_k _ o2 _ e, tb_bef _ hs _ e, eb]; decide), pk_mul, nI_add, zld_k _ _ _ _ _ (by omega) (by decide), hc p k (by omega) e, minI (by omega) (by omega), zlet_e, nI_add, zlet_e]
        exact ih1
      · rw [if_neg eb] at ih1
        rw [if_pos (by rw [tb_k _ o2 _ e, tb_bef _ hs _ e]; simpa using eb), zlet_e, nI_add]
        exact ih1
    · have : k = 5 := by omega
      subst this
      rw [if_neg (by rw [lt_nI _ (by decide), tnI (by omega)]; omega)]
theorem TVw_put {k n : Nat} {w : zW} {V : Nat → Nat → Nat} (hc : TVw k n w V) {p0 q0 v : Nat} (hq : q0 < 5) : TVw k n (zupd w k (p0 * 5 + q0) (nI v)) (vput V p0 q0 v) := fun p q h1 h2 => by
  rw [zupd_eq]
  unfold vput
  by_cases e : p = p0 ∧ q = q0
  · rw [if_pos e, e.1, e.2, upd_eq]
  · rw [if_neg e, upd_ne _ _ (by omega)]
    exact hc p q h1 h2
/-- the class's triples that are done: before p, and at p the words before j -/
def Dx (p j : Nat) : Nat → Nat → Nat → Prop := fun p0 _ i => p0 < p ∨ (p0 = p ∧ i < j)
theorem Xfew_in (K : Int32 → zW → Option (Int32 × zW)) {s f : Nat → Int32} {n p : Nat} (hn : n ≤ 48) (hp : p < n) : ∀ (m k : Nat) (w : zW) (V : Nat → Nat → Nat), RT w 1 s → RX w n f → TVw 114 n w V → MI s f n 1000000 (Dx p k) V → k ≤ wcn s → wcn s - k < m → ∃ A V', l_X1_fewestUnlike_29 K m (nI p) (nI k) w = K (nI p) (zset w 114 A) ∧ TVw 114 n (zset w 114 A) V' ∧ MI s f n 1000000 (Dx p (wcn s)) V' := by
  intro m
  induction m with
  | zero => intro k w V _ _ _ _ _ h; omega
  | succ m ih =>
    intro k w V h hr hc hI hk hm
    have c12 := wcn_ok h
    rw [l_X1_fewestUnlike_29.eq_2, show w 3 1 = nI (wcn s) from h.2.1.2.1.1.trans c12.2]
    by_cases e : k < wcn s
    · obtain ⟨e1, e2, e3⟩ := Xword_at h e
      obtain ⟨s5, es⟩ := wso_ok h e
      obtain ⟨l1, l6, el⟩ := wle_ok h e
      have et : (nI n - nI p).toInt = (n : Int) - p := by
        rw [tsub (by rw [tnI (by omega), tnI (by omega)]; omega) (by rw [tnI (by omega), tnI (by omega)]; omega), tnI (by omega), tnI (by omega)]
      rw [if_pos (by rw [lt_nI _ (by omega), tnI (by omega)]; omega), zin_nI (by omega) (by decide), zg_t, clamp_nI (by omega), hr.1, e2]
      by_cases q : p + wle s k ≤ n
      · obtain ⟨a1, a2⟩ := aft_k _ s5
        have u6 : unl s f k p ≤ wle s k := unlN_le _ _ _
        have lle := LI_le V p (wso s k) 1000000 5
        have vle := hI.2.2.1 (p + wle s k) (aft (wso s k))
        have hI' := MI_step (D' := Dx p (k + 1)) (L := LI V p (wso s k) 1000000 5) l1 e q hI (LI_at V p (wso s k) 1000000 5) (fun p0 q0 i hq0 hd => by
          unfold Dx at hd ⊢
          refine ⟨by omega, ?_⟩
          by_cases ei : p0 = p ∧ i = k
          · exact Or.inr ⟨ei.1, ei.2, fun b => LI_lo V p (wso s k) 1000000 5 q0 hq0 b⟩
          · exact Or.inl (by omega))
        have sx : SX w (zupd w 114 ((p + wle s k) * 5 + aft (wso s k)) (nI (min (V (p + wle s k) (aft (wso s k))) (LI V p (wso s k) 1000000 5 + unl s f k p)))) := SX.upd (SX.refl w) _ _ (by omega)
        obtain ⟨A, V', b1, b2, b3⟩ := ih (k + 1) _ _ (RT_SX h sx) ⟨by rw [zupd_ne _ _ _ (by decide)]; exact hr.1, fun j hj => by rw [zupd_ne _ _ _ (by decide)]; exact hr.2 j hj⟩ (TVw_put hc a2) hI' (by omega) (by omega)
        rw [zset_zupd] at b1 b2
        refine ⟨A, V', ?_, b2, b3⟩
        have into : f_X1_leastInto (nI (wso s k)) (nI p) w = some (nI (LI V p (wso s k) 1000000 5)) := by
          rw [f_X1_leastInto]
          exact Xleast_loop hn hp s5 hc hI.2.2.1 zfuel 0 (by omega) (by unfold zfuel; omega)
        rw [if_neg (by rw [lt_nI _ (by omega), et]; omega), e1, ztld_k _ _ _ _ s5 (by decide), a1, nI_add, pk_mul, nI_add, zlet_e, into, zb_s, Xunl h e hr hn (by omega), if_pos q, zb_s, nI_add, zlet_e, zld_k _ _ _ _ _ (by omega) (by decide), hc _ _ q a2, minI (by omega) (by omega), zsto_k _ _ _ _ _ _ (by omega) (by decide), zlet_e, nI_add]
        exact b1
      · rw [if_pos (by rw [lt_nI _ (by omega), et]; omega), zlet_e, nI_add]
        refine ih (k + 1) w V h hr hc (MI_skip hI (fun p0 q0 i hq0 hi hd => ?_)) (by omega) (by omega)
        unfold Dx at hd ⊢
        by_cases ei : p0 = p ∧ i = k
        · refine Or.inr (fun a => q ?_)
          rw [← ei.1, ← ei.2]
          exact a.2.1
        · exact Or.inl (by omega)
    · have : k = wcn s := by omega
      subst this
      rw [if_neg (by rw [lt_nI _ (by omega), tnI (by omega)]; omega)]
      exact ⟨w 114, V, by rw [zset_self], by rw [zset_self]; exact hc, hI⟩
theorem Xfew_out (K : zW → Option (Int32 × zW)) {s f : Nat → Int32} {n : Nat} (hn : n ≤ 48) : ∀ (m p : Nat) (w : zW) (V : Nat → Nat → Nat), RT w 1 s → RX w n f → TVw 114 n w V → MI s f n 1000000 (Dx p 0) V → p ≤ n → n - p < m → ∃ A V', l_X1_fewestUnlike_18 K m (nI p) w = K (zset w 114 A) ∧ TVw 114 n (zset w 114 A) V' ∧ MI s f n 1000000 (Dx n 0) V' := by
  intro m
  induction m with
  | zero => intro p w V _ _ _ _ _ h; omega
  | succ m ih =>
    intro p w V h hr hc hI hp hm
    rw [l_X1_fewestUnlike_18.eq_2, hr.1]
    by_cases e : p < n
    · obtain ⟨A, V', a1, a2, a3⟩ := Xfew_in (fun k127_a3 w11 =>
        zlet (k127_a3 + nI 1) fun x102 =>
        (l_X1_fewestUnlike_18 K m) x102 w11) hn e zfuel 0 w V h hr hc hI (by omega) (by have := wcn_ok h; unfold zfuel; omega)
      have hI1 : MI s f n 1000000 (Dx (p + 1) 0) V' := MI_skip a3 (fun p0 q0 i hq0 hi hd => Or.inl (by unfold Dx at hd ⊢; omega))
      obtain ⟨A2, V2, b1, b2, b3⟩ := ih (p + 1) (zset w 114 A) V' (RT_SX h (SX.set (SX.refl w) _ (by omega))) ⟨by rw [zset_ne _ _ (by decide)]; exact hr.1, fun j hj => by rw [zset_ne _ _ (by decide)]; exact hr.2 j hj⟩ a2 hI1 (by omega) (by omega)
      rw [zset_zset] at b1 b2
      refine ⟨A2, V2, ?_, b2, b3⟩
      rw [if_pos (by rw [lt_nI _ (by omega), tnI (by omega)]; omega), a1, zlet_e, nI_add]
      exact b1
    · have : p = n := by omega
      subst this
      rw [if_neg (by rw [lt_nI _ (by omega), tnI (by omega)]; omega)]
      exact ⟨w 114, V, by rw [zset_self], by rw [zset_self]; exact hc, hI⟩
theorem Xfew_ok {w : zW} {s f : Nat → Int32} {n : Nat} (h : RT w 1 s) (hr : RX w n f) (hn : n ≤ 48) : ∃ A r, f_X1_fewestUnlike w = some (nI r, zset w 114 A) ∧ Lst s f n 1000000 r := by
  obtain ⟨W, hW⟩ : ∃ W, W = zupd (zset w 114 (frow (w 114) 0 245 (nI 1000000))) 114 0 (nI 0) := ⟨_, rfl⟩
  have eW : ∀ k, k ≠ 114 → W k = w k := fun k hk => by rw [hW, zupd_ne _ _ _ hk, zset_ne _ _ hk]
  have hR : RT W 1 s := RT_SX h (by rw [hW]; exact SX.upd (SX.set (SX.refl w) _ (by omega)) _ _ (by omega))
  have hr' : RX W n f := ⟨by rw [eW 116 (by decide)]; exact hr.1, fun j hj => by rw [eW 117 (by decide)]; exact hr.2 j hj⟩
  obtain ⟨A, V, a1, a2, a3⟩ := Xfew_out (fun w13 =>
    zld w13 114 245 (((w13 116 1) * (nI 5)) + (nI 4)) fun x102 =>
    some (x102, w13)) hn zfuel 0 W (V0 1000000) hR hr' (fun p q hp hq => by
    rw [hW, zupd_eq]
    unfold V0
    by_cases e : p = 0 ∧ q = 0
    · rw [e.1, e.2, if_pos ⟨rfl, rfl⟩, upd_eq]
    · rw [if_neg e, upd_ne _ _ (by omega), zset_eq, frow_in (by omega)]) (MI_skip (MI_0 s f n 1000000) (fun p0 q0 i hq0 hi hd => by unfold Dx at hd; omega)) (by omega) (by unfold zfuel; omega)
  have eZ : zset W 114 A = zset w 114 A := by rw [hW, zset_zupd, zset_zset]
  rw [eZ] at a1 a2
  refine ⟨A, V n 4, ?_, MI_end h a3 hn (by decide) (fun p0 q0 i h1 h2 h3 => Or.inl h1)⟩
  rw [f_X1_fewestUnlike, f_J7_ok _ _ _ _ (by decide), zb_s, zlet_e, ← hW, a1, zset_ne _ _ (by decide), hr.1, pk_mul, nI_add, zld_k _ _ _ _ _ (by omega) (by decide), a2 n 4 (Nat.le_refl _) (by decide)]
/-- the reference's triples that are done: before p, at p the states before q, there the words before j -/
def Dm (p q j : Nat) : Nat → Nat → Nat → Prop := fun p0 q0 i => p0 < p ∨ (p0 = p ∧ (q0 < q ∨ (q0 = q ∧ i < j)))
theorem Mfew_in (K : Int32 → Int32 → zW → Option (Int32 × zW)) {wx : zW} {s f : Nat → Int32} {n p q : Nat} (h : RT wx 1 s) (hn : n ≤ 48) (hp : p < n) (hq : q < 5) : ∀ (m k : Nat) (w : zW) (V : Nat → Nat → Nat), w 129 = s → RM w n f → TVw 136 n w V → MI s f n 9999 (Dm p q k) V → k ≤ wcn s → wcn s - k < m → ∃ A V', l_X12_mends_76 K m (nI p) (nI q) (nI k) w = K (nI p) (nI q) (zset w 136 A) ∧ TVw 136 n (zset w 136 A) V' ∧ MI s f n 9999 (Dm p q (wcn s)) V' := by
  have c12 := wcn_ok h
  intro m
  induction m with
  | zero => intro k w V _ _ _ _ _ h; omega
  | succ m ih =>
    intro k w V hw hr hc hI hk hm
    have vpq := hI.2.2.1 p q
    rw [l_X12_mends_76.eq_2, hw, c12.2]
    by_cases e : k < wcn s
    · obtain ⟨s5, es⟩ := wso_ok h e
      obtain ⟨l1, l6, el⟩ := wle_ok h e
      have u6 : unl s f k p ≤ wle s k := unlN_le _ _ _
      have cpq : w 136 (5 * p + q) = nI (V p q) := by rw [Nat.mul_comm]; exact hc p q (by omega) hq
      rw [if_pos (by rw [lt_nI _ (by omega), tnI (by omega)]; omega), pk_mul, nI_add, zld_k _ _ _ _ _ (by omega) (by decide), cpq]
      by_cases v : V p q < 9999
      · rw [if_pos (by rw [lt_nI _ (by decide), tnI (by omega)]; omega), sortOf_k hw (by omega), es, zb_s, behind_k q hq _ s5, zb_s, Munl h hw e hr hn (by omega), zb_s]
        by_cases eb : bhd q (wso s k) = true
        · obtain ⟨a1, a5⟩ := aft_k _ s5
          rw [if_pos eb, if_neg (nI_nm (by omega))]
          by_cases ef : p + wle s k ≤ n
          · have vt := hI.2.2.1 (p + wle s k) (aft (wso s k))
            have ct : w 136 (5 * (p + wle s k) + aft (wso s k)) = nI (V (p + wle s k) (aft (wso s k))) := by rw [Nat.mul_comm]; exact hc _ _ ef a5
            have hI' := MI_step (D' := Dm p q (k + 1)) (L := V p q) l1 e ef hI (fun _ => ⟨q, hq, eb, rfl⟩) (fun p0 q0 i hq0 hd => by
              unfold Dm at hd ⊢
              refine ⟨by omega, ?_⟩
              by_cases ei : p0 = p ∧ q0 = q ∧ i = k
              · exact Or.inr ⟨ei.1, ei.2.2, fun b => by rw [ei.2.1]; exact Nat.le_refl _⟩
              · exact Or.inl (by omega))
            obtain ⟨A, V', b1, b2, b3⟩ := ih (k + 1) (zupd w 136 ((p + wle s k) * 5 + aft (wso s k)) (nI (min (V (p + wle s k) (aft (wso s k))) (V p q + unl s f k p)))) _ (by rw [zupd_ne _ _ _ (by decide)]; exact hw) ⟨by rw [zupd_ne _ _ _ (by decide)]; exact hr.1, fun j hj => by rw [zupd_ne _ _ _ (by decide)]; exact hr.2 j hj⟩ (TVw_put hc a5) hI' (by omega) (by omega)
            rw [zset_zupd] at b1 b2
            refine ⟨A, V', ?_, b2, b3⟩
            rw [if_pos ef, if_pos (by rw [lt_nI _ (by decide), tnI (by omega)]; omega), lengthOf_k hw (by omega), el, zb_s, nI_add, pk_mul, nI_add, zlet_e, zld_k _ _ _ _ _ (by omega) (by decide), cpq, nI_add, zlet_e, zld_k _ _ _ _ _ (by omega) (by decide), ct]
            rw [Nat.mul_comm] at ct
            by_cases c : V p q + unl s f k p < V (p + wle s k) (aft (wso s k))
            · rw [show min (V (p + wle s k) (aft (wso s k))) (V p q + unl s f k p) = V p q + unl s f k p by omega, Nat.mul_comm] at b1
              rw [if_pos (by rw [lt_nI _ (by omega), tnI (by omega)]; omega), j_X12_mends_198, zsto_k _ _ _ _ _ _ (by omega) (by decide), nI_add, zlet_e]
              exact b1
            · rw [show min (V (p + wle s k) (aft (wso s k))) (V p q + unl s f k p) = V (p + wle s k) (aft (wso s k)) by omega, Nat.mul_comm] at b1
              rw [if_neg (by rw [lt_nI _ (by omega), tnI (by omega)]; omega), zld_k _ _ _ _ _ (by omega) (by decide), Nat.mul_comm, ct, j_X12_mends_198, Nat.mul_comm, zsto_k _ _ _ _ _ _ (by omega) (by decide), nI_add, zlet_e]
              exact b1
          · rw [if_neg ef, if_neg (by decide), zlet_e, nI_add]
            refine ih (k + 1) w V hw hr hc (MI_skip hI (fun p0 q0 i hq0 hi hd => ?_)) (by omega) (by omega)
            unfold Dm at hd ⊢
            by_cases ei : p0 = p ∧ q0 = q ∧ i = k
            · refine Or.inr (fun a => ef ?_)
              rw [← ei.1, ← ei.2.2]
              exact a.2.1
            · exact Or.inl (by omega)
        · rw [if_neg eb, if_pos rfl, zlet_e, nI_add]
          refine ih (k + 1) w V hw hr hc (MI_skip hI (fun p0 q0 i hq0 hi hd => ?_)) (by omega) (by omega)
          unfold Dm at hd ⊢
          by_cases ei : p0 = p ∧ q0 = q ∧ i = k
          · refine Or.inr (fun a => eb ?_)
            rw [← ei.2.1, ← ei.2.2]
            exact a.1
          · exact Or.inl (by omega)
      · rw [if_neg (by rw [lt_nI _ (by decide), tnI (by omega)]; omega)]
        refine ⟨w 136, V, by rw [zset_self], by rw [zset_self]; exact hc, MI_skip hI (fun p0 q0 i hq0 hi hd => ?_)⟩
        unfold Dm at hd ⊢
        by_cases ei : p0 = p ∧ q0 = q
        · refine Or.inr (fun a => v ?_)
          rw [← ei.1, ← ei.2]
          exact a.2.2
        · exact Or.inl (by omega)
    · have : k = wcn s := by omega
      subst this
      rw [if_neg (by rw [lt_nI _ (by omega), tnI (by omega)]; omega)]
      exact ⟨w 136, V, by rw [zset_self], by rw [zset_self]; exact hc, hI⟩
theorem Mfew_q (K : Int32 → zW → Option (Int32 × zW)) {wx : zW} {s f : Nat → Int32} {n p : Nat} (h : RT wx 1 s) (hn : n ≤ 48) (hp : p < n) : ∀ (m q : Nat) (w : zW) (V : Nat → Nat → Nat), w 129 = s → RM w n f → TVw 136 n w V → MI s f n 9999 (Dm p q 0) V → q ≤ 5 → 5 - q < m → ∃ A V', l_X12_mends_68 K m (nI p) (nI q) w = K (nI p) (zset w 136 A) ∧ TVw 136 n (zset w 136 A) V' ∧ MI s f n 9999 (Dm (p + 1) 0 0) V' := by
  have c12 := wcn_ok h
  intro m
  induction m with
  | zero => intro q w V _ _ _ _ _ h; omega
  | succ m ih =>
    intro q w V hw hr hc hI hq hm
    rw [l_X12_mends_68.eq_2]
    by_cases e : q < 5
    · obtain ⟨A, V', a1, a2, a3⟩ := Mfew_in (fun k205_a2 k205_a3 w11 =>
        zlet (k205_a3 + nI 1) fun x102 =>
        (l_X12_mends_68 K m) k205_a2 x102 w11) h hn hp e zfuel 0 w V hw hr hc hI (by omega) (by unfold zfuel; omega)
      obtain ⟨A2, V2, b1, b2, b3⟩ := ih (q + 1) (zset w 136 A) V' (by rw [zset_ne _ _ (by decide)]; exact hw) ⟨by rw [zset_ne _ _ (by decide)]; exact hr.1, fun j hj => by rw [zset_ne _ _ (by decide)]; exact hr.2 j hj⟩ a2 (MI_skip a3 (fun p0 q0 i hq0 hi hd => Or.inl (by unfold Dm at hd ⊢; omega))) (by omega) (by omega)
      rw [zset_zset] at b1 b2
      refine ⟨A2, V2, ?_, b2, b3⟩
      rw [if_pos (by rw [lt_nI _ (by omega), tnI (by omega)]; omega)]
      refine a1.trans ?_
      rw [nI_add, zlet_e]
      exact b1
    · have : q = 5 := by omega
      subst this
      rw [if_neg (by rw [lt_nI _ (by omega), tnI (by omega)]; omega)]
      exact ⟨w 136, V, by rw [zset_self], by rw [zset_self]; exact hc, MI_skip hI (fun p0 q0 i hq0 hi hd => Or.inl (by unfold Dm at hd ⊢; omega))⟩
theorem Mfew_p (K : zW → Option (Int32 × zW)) {wx : zW} {s f : Nat → Int32} {n : Nat} (h : RT wx 1 s) (hn : n ≤ 48) : ∀ (m p : Nat) (w : zW) (V : Nat → Nat → Nat), w 129 = s → RM w n f → TVw 136 n w V → MI s f n 9999 (Dm p 0 0) V → p ≤ n → n - p < m → ∃ A V', l_X12_mends_58 K m (nI p) w = K (zset w 136 A) ∧ TVw 136 n (zset w 136 A) V' ∧ MI s f n 9999 (Dm n 0 0) V' := by
  intro m
  induction m with
  | zero => intro p w V _ _ _ _ _ h; omega
  | succ m ih =>
    intro p w V hw hr hc hI hp hm
    rw [l_X12_mends_58.eq_2, hr.1]
    by_cases e : p < n
    · obtain ⟨A, V', a1, a2, a3⟩ := Mfew_q (fun k211_a2 w11 =>
        zlet (k211_a2 + nI 1) fun x102 =>
        (l_X12_mends_58 K m) x102 w11) h hn e zfuel 0 w V hw hr hc hI (by omega) (by unfold zfuel; omega)
      obtain ⟨A2, V2, b1, b2, b3⟩ := ih (p + 1) (zset w 136 A) V' (by rw [zset_ne _ _ (by decide)]; exact hw) ⟨by rw [zset_ne _ _ (by decide)]; exact hr.1, fun j hj => by rw [zset_ne _ _ (by decide)]; exact hr.2 j hj⟩ a2 a3 (by omega) (by omega)
      rw [zset_zset] at b1 b2
      refine ⟨A2, V2, ?_, b2, b3⟩
      rw [if_pos (by rw [lt_nI _ (by omega), tnI (by omega)]; omega)]
      refine a1.trans ?_
      rw [nI_add, zlet_e]
      exact b1
    · have : p = n := by omega
      subst this
      rw [if_neg (by rw [lt_nI _ (by omega), tnI (by omega)]; omega)]
      exact ⟨w 136, V, by rw [zset_self], by rw [zset_self]; exact hc, hI⟩
theorem Mfew_0 (K : zW → Option (Int32 × zW)) {f : Nat → Int32} {n : Nat} (hn : n ≤ 48) : ∀ (m k : Nat) (w : zW), RM w n f → k ≤ 5 * n + 5 → (∀ t, t < k → w 136 t = nI (if t = 0 then 0 else 9999)) → 5 * n + 5 - k < m → ∃ A, l_X12_mends_21 K m (nI k) w = K (zset w 136 A) ∧ TVw 136 n (zset w 136 A) (V0 9999) := by
  intro m
  induction m with
  | zero => intro k w _ _ _ h; omega
  | succ m ih =>
    intro k w hr hk hd hm
    rw [l_X12_mends_21.eq_2, hr.1, pk_mul, nI_add]
    by_cases e : 5 * n + 4 < k
    · rw [if_pos (by rw [lt_nI _ (by omega), tnI (by omega)]; omega)]
      refine ⟨w 136, by rw [zset_self], fun p q hp hq => ?_⟩
      rw [zset_self, hd _ (by omega)]
      unfold V0
      by_cases z : p = 0 ∧ q = 0
      · rw [if_pos z, if_pos (by omega)]
      · rw [if_neg z, if_neg (by omega)]
    · obtain ⟨A, b1, b2⟩ := ih (k + 1) (zupd w 136 k (nI (if k = 0 then 0 else 9999))) ⟨by rw [zupd_ne _ _ _ (by decide)]; exact hr.1, fun j hj => by rw [zupd_ne _ _ _ (by decide)]; exact hr.2 j hj⟩ (by omega) (fun t ht => by
        rw [zupd_eq]
        by_cases et : t = k
        · rw [et, upd_eq]
        · rw [upd_ne _ _ et]
          exact hd t (by omega)) (by omega)
      rw [zset_zupd] at b1 b2
      refine ⟨A, ?_, b2⟩
      rw [if_neg (by rw [lt_nI _ (by omega), tnI (by omega)]; omega)]
      by_cases k0 : k = 0
      · rw [if_pos k0] at b1
        rw [if_pos (by rw [k0]), j_X12_mends_49, zsto_k _ _ _ _ _ _ (by omega) (by decide), nI_add, zlet_e]
        exact b1
      · rw [if_neg k0] at b1
        rw [if_neg (by rw [eq_nI _ (by decide), tnI (by omega)]; omega), j_X12_mends_49, zsto_k _ _ _ _ _ _ (by omega) (by decide), nI_add, zlet_e]
        exact b1
/-- the reference's answer, its row read -/
theorem Mmends_ok {wx w : zW} {s : Nat → Int32} {i : Nat} (h : RT wx 1 s) (hw : w 129 = s) (hi : (i : Int) < (s 0).toInt) : ∃ w1 r, SM w w1 ∧ Lst s (rowF s i) (rowN s i) 9999 r ∧ f_X12_mends (nI i) w = (if rowN s i = 0 then j_X12_mends_245 w1 else if r < 9999 then some (nI r, w1) else j_X12_mends_245 w1) := by
  have n48 := rowN_le h hi
  have h6 := h.2.1.1.2
  obtain ⟨wa, x1, x2, x3⟩ := Mreads_ok h hw hi
  obtain ⟨A, a1, a2⟩ := Mfew_0 (fun w12 =>
      l_X12_mends_58 (fun w23 =>
        zld w23 136 245 (((nI 5) * (w23 128 12)) + (nI 4)) fun x205 =>
        if (w23 128 12) = nI 0 then
          j_X12_mends_245 w23
        else
        if x205 < (nI 9999) then
          some (x205, w23)
        else
          j_X12_mends_245 w23) zfuel (nI 0) w12) n48 zfuel 0 wa x3 (by omega) (fun t ht => by omega) (by unfold zfuel; omega)
  obtain ⟨A2, V, b1, b2, b3⟩ := Mfew_p (fun w23 =>
        zld w23 136 245 (((nI 5) * (w23 128 12)) + (nI 4)) fun x205 =>
        if (w23 128 12) = nI 0 then
          j_X12_mends_245 w23
        else
        if x205 < (nI 9999) then
          some (x205, w23)
        else
          j_X12_mends_245 w23) (f := rowF s i) h n48 zfuel 0 (zset wa 136 A) _ (by rw [zset_ne _ _ (by decide), x2.1 129 (by omega)]; exact hw) ⟨by rw [zset_ne _ _ (by decide)]; exact x3.1, fun j hj => by rw [zset_ne _ _ (by decide)]; exact x3.2 j hj⟩ a2 (MI_skip (MI_0 s (rowF s i) (rowN s i) 9999) (fun p0 q0 i hq0 hi hd => by unfold Dm at hd; omega)) (by omega) (by unfold zfuel; omega)
  rw [zset_zset] at b1 b2
  have L := MI_end h b3 n48 (by decide) (fun p0 q0 i h1 h2 h3 => Or.inl h1)
  refine ⟨zset wa 136 A2, V (rowN s i) 4, SM.set (SN.SM x2) _ (by omega), L, ?_⟩
  have v := b2 (rowN s i) 4 (Nat.le_refl _) (by decide)
  have vl := L.2.1
  rw [f_X12_mends, isWall_spec hw h.1 h6, zb_s, if_neg (by rw [bP_0]; rw [tnI (by omega)]; omega), x1, zb_s]
  refine (a1.trans b1).trans ?_
  rw [zset_ne _ _ (by decide), x3.1, pk_mul, nI_add, zld_k _ _ _ _ _ (by omega) (by decide), Nat.mul_comm, v]
  by_cases n0 : rowN s i = 0
  · rw [if_pos n0, if_pos (by rw [n0])]
  · rw [if_neg n0, if_neg (by rw [eq_nI _ (by decide), tnI (by omega)]; omega)]
    by_cases c : V (rowN s i) 4 < 9999
    · rw [if_pos c, if_pos (by rw [lt_nI _ (by decide), tnI (by omega)]; omega)]
    · rw [if_neg c, if_neg (by rw [lt_nI _ (by decide), tnI (by omega)]; omega)]
theorem op_mends {w : zW} (hR : Rel w) (a : Int32) : OK2 (f_X11_mends a) (f_X12_mends a) w := by
  have h := hR.1
  have h6 := h.2.1.1.2
  by_cases ha : 0 ≤ a.toInt ∧ a.toInt < (w 129 0).toInt
  · obtain ⟨i, hi, rfl, ei⟩ := of_toInt a ha.1
    have hi' : (i : Int) < (w 129 0).toInt := by omega
    obtain ⟨wa, x1, x2, x3⟩ := Xspell_own h hi'
    have n48 := rowN_le h hi'
    obtain ⟨A, r, y1, y2⟩ := Xfew_ok (RT_SX h (SR.SX x2)) x3 n48
    have e9 : (zset wa 114 A) 129 = w 129 := by rw [zset_ne _ _ (by decide)]; exact x2 129 (by omega)
    have sx : SX w (zset wa 114 A) := SX.set (SR.SX x2) _ (by omega)
    have rl := y2.2.1
    have X0 : f_X11_mends (nI i) w = (if r < 1000000 then some (nI r, zset wa 114 A) else f_X11_error (nI 2) (zset wa 114 A)) := by
      rw [f_X11_mends, hasWall_spec h, zb_s, if_neg (by rw [bP_0]; omega), zin_nI (by omega) (by decide), zg_t, clamp_nI (by omega), x1, zb_s, y1, zb2_s]
      by_cases c : r < 1000000
      · rw [if_pos c, if_pos (by rw [lt_nI _ (by decide), tnI (by omega)]; omega)]
      · rw [if_neg c, if_neg (by rw [lt_nI _ (by decide), tnI (by omega)]; omega), zb2_eta]
    by_cases c : r < 1000000
    · rw [if_pos c] at X0
      obtain ⟨w1, r', z1, z2, z3⟩ := Mmends_ok (w := zset wa 114 A) h e9 hi'
      rcases Lst_eq (by decide) (by decide) y2 z2 with l | l
      · rw [if_neg (by omega), if_pos l.2.1, ← l.2.2.1] at z3
        exact OK_ask hR X0 sx z3 z1
      · omega
    · rw [if_neg c] at X0
      refine OK_askE hR (k := 2) (by decide) (by decide) X0 sx (fun w1 e => ?_)
      obtain ⟨w2, r', z1, z2, z3⟩ := Mmends_ok (w := w1) h ((e 129 (by decide)).trans e9) hi'
      refine ⟨w2, ?_, z1⟩
      rcases Lst_eq (by decide) (by decide) y2 z2 with l | l
      · omega
      · rw [z3, if_neg (show ¬ r' < 9999 by omega), j_X12_mends_245, zb2_eta]
        split <;> rfl
  · refine OK_err hR (k := 1) (by decide) (by decide) ?_ (fun w1 e => ?_)
    · rw [f_X11_mends, hasWall_spec h, zb_s, if_pos (by rw [bP_0]; exact ha), zb2_eta]
    · rw [f_X12_mends, isWall_spec e h.1 h6, zb_s, if_pos (by rw [bP_0]; exact ha), zb2_eta]
end CO
