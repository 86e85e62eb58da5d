/-- the lowest word below k that leads on from place p, state q -/
def lj (s f : Nat → Int32) (n p q : Nat) : Nat → Nat
  | 0 => 0
  | k + 1 => if lj s f n p q k < k then lj s f n p q k else if 0 < bs s f n p q k then k else k + 1
theorem lj_spec (s f : Nat → Int32) (n p q : Nat) : ∀ k, lj s f n p q k ≤ k ∧ (∀ j, j < lj s f n p q k → ¬ 0 < bs s f n p q j) ∧ (lj s f n p q k < k → 0 < bs s f n p q (lj s f n p q k))
  | 0 => ⟨Nat.le_refl _, fun j hj => by rw [lj] at hj; omega, fun h => by rw [lj] at h; omega⟩
  | k + 1 => by
    obtain ⟨h1, h2, h3⟩ := lj_spec s f n p q k
    rw [lj]
    by_cases e : lj s f n p q k < k
    · rw [if_pos e]
      exact ⟨by omega, h2, fun _ => h3 e⟩
    · have ek : lj s f n p q k = k := by omega
      rw [if_neg e]
      rw [ek] at h2
      by_cases b : 0 < bs s f n p q k
      · rw [if_pos b]
        exact ⟨by omega, h2, fun _ => b⟩
      · rw [if_neg b]
        refine ⟨by omega, fun j hj => ?_, fun h => by omega⟩
        by_cases ej : j = k
        · rw [ej]; exact b
        · exact h2 j (by omega)
theorem sm_pos {g : Nat → Nat} : ∀ k, 0 < sm g k → ∃ j, j < k ∧ 0 < g j
  | 0, h => by rw [sm] at h; omega
  | k + 1, h => by
    rw [sm] at h
    by_cases e : 0 < g k
    · exact ⟨k, by omega, e⟩
    · obtain ⟨j, a, b⟩ := sm_pos (g := g) k (by omega)
      exact ⟨j, by omega, b⟩
theorem lj_lt {s f : Nat → Int32} {n p q k : Nat} (h : 0 < sm (bs s f n p q) k) : lj s f n p q k < k := by
  obtain ⟨h1, h2, h3⟩ := lj_spec s f n p q k
  obtain ⟨j, a, b⟩ := sm_pos k h
  by_cases e : lj s f n p q k < k
  · exact e
  · exact absurd b (h2 j (by omega))
theorem bs_iff {s f : Nat → Int32} {n p q j : Nat} : 0 < bs s f n p q j ↔ ed s f n p q j = true ∧ 0 < Bw s f n (p + wle s j) (aft (wso s j)) := by
  unfold bs
  by_cases e : ed s f n p q j = true
  · rw [if_pos e]
    exact ⟨fun h => ⟨e, h⟩, fun h => h.2⟩
  · rw [if_neg e]
    exact ⟨fun h => by omega, fun h => absurd h.1 e⟩
/-- place and state after k words of what a wall says -/
def spq (s f : Nat → Int32) (n : Nat) : Nat → Nat × Nat
  | 0 => (0, 0)
  | k + 1 => ((spq s f n k).1 + wle s (lj s f n (spq s f n k).1 (spq s f n k).2 (wcn s)), aft (wso s (lj s f n (spq s f n k).1 (spq s f n k).2 (wcn s))))
/-- the k-th word that a wall says -/
def swd (s f : Nat → Int32) (n k : Nat) : Nat := lj s f n (spq s f n k).1 (spq s f n k).2 (wcn s)
def sEnd (s f : Nat → Int32) (n m : Nat) : Prop := (spq s f n m).1 = n ∧ ∀ t, t < m → (spq s f n t).1 < n
theorem sEnd_eq {s f : Nat → Int32} {n m m' : Nat} (h : sEnd s f n m) (h' : sEnd s f n m') : m = m' := by
  by_cases e : m < m'
  · have := h'.2 m e
    have := h.1
    omega
  · by_cases e2 : m' < m
    · have := h.2 m' e2
      have := h'.1
      omega
    · omega
section SY
theorem Xlow_loop {w : zW} {s f : Nat → Int32} {n p q : Nat} (h : RT w 1 s) (hr : RX w n f) (hn : n ≤ 48) (hp : p < n) (hq : q < 5) (ht : HX s f n (p + 1) w) {j0 : Nat} (hj0 : j0 < wcn s) (hb : 0 < bs s f n p q j0) (hl : ∀ j, j < j0 → ¬ 0 < bs s f n p q j) : ∀ (m k : Nat), k ≤ j0 → j0 - k < m → l_X1_lowestThatLeadsOn_3 w (fun k49_a5 => some k49_a5) (some (mI 1)) m (nI p) (nI q) (nI k) = some (nI j0) := by
  have c12 := wcn_ok h
  intro m
  induction m with
  | zero => intro k _ h; omega
  | succ m ih =>
    intro k hk hm
    have e : k < wcn s := by omega
    obtain ⟨e1, e2, e3⟩ := Xword_at h e
    obtain ⟨s5, es⟩ := wso_ok h e
    obtain ⟨o1, o2⟩ := bef_k _ s5
    rw [l_X1_lowestThatLeadsOn_3.eq_2, show w 3 1 = nI (wcn s) from h.2.1.2.1.1.trans c12.2, if_pos (by rw [lt_nI _ (by omega), tnI (by omega)]; omega), zin_nI (by omega) (by decide), zg_t, clamp_nI (by omega), e1, ztld_k _ _ _ _ s5 (by decide), o1, Xleads h hr hn e hp ht]
    by_cases b : 0 < bs s f n p q k
    · have ek : k = j0 := by
        by_cases z : k < j0
        · exact absurd b (hl k z)
        · omega
      obtain ⟨b1, b2⟩ := bs_iff.mp b
      obtain ⟨b3, b4⟩ := (ed_iff ..).mp b1
      rw [if_neg (by rw [tb_k _ o2 _ hq, tb_bef _ s5 _ hq, b3]; decide), zb_s, if_neg (by rw [bP_0]; exact fun z => z ⟨b4, b2⟩), ek]
    · have kl : k < j0 := by
        by_cases z : k = j0
        · rw [z] at b; exact absurd hb b
        · omega
      by_cases eb : bhd q (wso s k) = true
      · rw [if_neg (by rw [tb_k _ o2 _ hq, tb_bef _ s5 _ hq, eb]; decide), zb_s, if_pos (by rw [bP_0]; exact fun z => b (bs_iff.mpr ⟨(ed_iff ..).mpr ⟨eb, z.1⟩, z.2⟩)), nI_add, zlet_e]
        exact ih (k + 1) (by omega) (by omega)
      · rw [if_pos (by rw [tb_k _ o2 _ hq, tb_bef _ s5 _ hq]; simpa using eb), nI_add, zlet_e]
        exact ih (k + 1) (by omega) (by omega)
theorem Xfind_loop (K1 K2 : zW → Option (Int32 × zW)) {s f : Nat → Int32} {n : Nat} (hn : n ≤ 48) : ∀ (m k : Nat) (w : zW), RT w 1 s → RX w n f → HX s f n 0 w → k ≤ (spq s f n k).1 → (spq s f n k).1 ≤ n → (spq s f n k).2 < 5 → 0 < Bw s f n (spq s f n k).1 (spq s f n k).2 → (∀ t, t < k → (spq s f n t).1 < n) → w 112 3 = nI k → (∀ t, t < k → w 115 t = nI (swd s f n t)) → n - (spq s f n k).1 < m → ∃ w1 m', l_X1_find_24 K1 K2 m (nI (spq s f n k).1) (nI (spq s f n k).2) (nI k) w = K2 w1 ∧ SX w w1 ∧ sEnd s f n m' ∧ m' ≤ 48 ∧ w1 112 3 = nI m' ∧ ∀ t, t < m' → w1 115 t = nI (swd s f n t) := by
  intro m
  induction m with
  | zero => intro k w _ _ _ _ _ _ _ _ _ _ h; omega
  | succ m ih =>
    intro k w h hr ht hk hpn hq hB hlt h3 hw hm
    have hL : ∀ j, j < wcn s → 1 ≤ wle s j := fun j hj => (wle_ok h hj).1
    rw [l_X1_find_24.eq_2, hr.1]
    by_cases e : (spq s f n k).1 < n
    · have hB' := hB
      rw [Bw_step hL hn _ e] at hB'
      have jl := lj_lt hB'
      obtain ⟨_, j2, j3⟩ := lj_spec s f n (spq s f n k).1 (spq s f n k).2 (wcn s)
      have jb := j3 jl
      have c12 := wcn_ok h
      have low : f_X1_lowestThatLeadsOn (nI (spq s f n k).1) (nI (spq s f n k).2) w = some (nI (swd s f n k)) := by
        rw [f_X1_lowestThatLeadsOn]
        exact Xlow_loop h hr hn e hq (fun p hp hp2 => ht p (by omega) hp2) jl jb j2 zfuel 0 (by omega) (by unfold zfuel; omega)
      have jl' : swd s f n k < wcn s := jl
      obtain ⟨e1, e2, e3⟩ := Xword_at h jl'
      obtain ⟨s5, es⟩ := wso_ok h jl'
      obtain ⟨l1, l6, el⟩ := wle_ok h jl'
      obtain ⟨a1, a5⟩ := aft_k _ s5
      obtain ⟨b1, b2⟩ := bs_iff.mp jb
      have fit := ((ed_iff ..).mp b1).2.1
      have sx : SX w (zupd (zupd w 115 k (nI (swd s f n k))) 112 3 (nI (k + 1))) := SX.upd (SX.upd (SX.refl w) _ _ (by omega)) _ _ (by omega)
      have p1 : (spq s f n (k + 1)).1 = (spq s f n k).1 + wle s (swd s f n k) := rfl
      have p2 : (spq s f n (k + 1)).2 = aft (wso s (swd s f n k)) := rfl
      have fit' : (spq s f n k).1 + wle s (swd s f n k) ≤ n := fit
      obtain ⟨w1, m', x1, x2, x3, x4, x5, x6⟩ := ih (k + 1) (zupd (zupd w 115 k (nI (swd s f n k))) 112 3 (nI (k + 1))) (RT_SX h sx) (hr.aside (by rw [zupd_ne _ _ _ (by decide), zupd_ne _ _ _ (by decide)]) (by rw [zupd_ne _ _ _ (by decide), zupd_ne _ _ _ (by decide)])) (fun p hp hp2 => by
        rw [zupd_ne _ _ _ (by decide), zupd_ne _ _ _ (by decide)]
        exact ht p hp hp2) (by rw [p1]; omega) (by rw [p1]; exact fit') (by rw [p2]; exact a5) b2 (fun t htk => by
        by_cases et : t = k
        · rw [et]; exact e
        · exact hlt t (by omega)) (by rw [zupd_eq, upd_eq]) (fun t htk => by
        rw [zupd_ne _ _ _ (by decide), zupd_eq]
        by_cases et : t = k
        · rw [et, upd_eq]
        · rw [upd_ne _ _ et]
          exact hw t (by omega)) (by rw [p1]; omega)
      refine ⟨w1, m', ?_, SX.trans sx x2, x3, x4, x5, x6⟩
      rw [if_pos (by rw [lt_nI _ (by decide), tnI (by omega)]; omega), if_pos (by rw [lt_nI _ (by omega), tnI (by omega)]; omega), low, zb_s, if_neg (by rw [lt_nI _ (by decide), tnI (by omega)]; omega), zsto_k _ _ _ _ _ _ (by omega) (by decide), zupd_ne _ _ _ (show 112 ≠ 115 by decide), h3, nI_add, zlet_e, zin_nI (by omega) (by decide), zg_t, clamp_nI (by omega), zupd_ne _ _ _ (show 5 + 2 * swd s f n k ≠ 112 by omega), zupd_ne _ _ _ (show 5 + 2 * swd s f n k ≠ 115 by omega), e1, e2, nI_add, zlet_e, zg_t, ztld_k _ _ _ _ s5 (by decide), a1, zlet_e]
      exact x1
    · have en : (spq s f n k).1 = n := by omega
      refine ⟨w, k, ?_, SX.refl w, ⟨en, hlt⟩, by omega, h3, hw⟩
      by_cases k48 : k < 48
      · rw [if_pos (by rw [lt_nI _ (by decide), tnI (by omega)]; omega), if_neg (by rw [lt_nI _ (by omega), tnI (by omega)]; omega)]
      · rw [if_neg (by rw [lt_nI _ (by decide), tnI (by omega)]; omega)]
end SY
theorem Xfind_ok {w : zW} {s f : Nat → Int32} {n : Nat} (h : RT w 1 s) (hr : RX w n f) (hn : n ≤ 48) : ∃ w1, f_X1_find w = some (bP (0 < Bw s f n 0 0), w1) ∧ SX w w1 ∧ (0 < Bw s f n 0 0 → ∃ m, sEnd s f n m ∧ m ≤ 48 ∧ w1 112 3 = nI m ∧ ∀ t, t < m → w1 115 t = nI (swd s f n t)) := by
  have s0 : SX w (zupd w 112 3 (nI 0)) := SX.upd (SX.refl w) _ _ (by omega)
  obtain ⟨A, a1, a2⟩ := Xhold_ok (w := zupd w 112 3 (nI 0)) (RT_SX h s0) (hr.aside (by rw [zupd_ne _ _ _ (by decide)]) (by rw [zupd_ne _ _ _ (by decide)])) hn
  rw [f_X1_find, zlet_e, a1, zb2_s]
  by_cases b : 0 < Bw s f n 0 0
  · have s1 := SX.set s0 (k := 113) A (by omega)
    obtain ⟨w1, m, x1, x2, x3, x4, x5, x6⟩ := Xfind_loop (fun w13 => some (nI 0, w13)) (fun w23 => some (nI 1, w23)) hn zfuel 0 (zset (zupd w 112 3 (nI 0)) 113 A) (RT_SX h s1) (hr.aside (by rw [zset_ne _ _ (by decide), zupd_ne _ _ _ (by decide)]) (by rw [zset_ne _ _ (by decide), zupd_ne _ _ _ (by decide)])) a2 (Nat.zero_le _) (Nat.zero_le _) (show 0 < 5 by decide) b (fun t ht => by omega) (by rw [zset_ne _ _ (by decide), zupd_eq, upd_eq]) (fun t ht => by omega) (by unfold zfuel; omega)
    refine ⟨w1, ?_, SX.trans s1 x2, fun _ => ⟨m, x3, x4, x5, x6⟩⟩
    rw [if_neg (by rw [bP_0]; exact fun z => z b), bP_t b]
    exact x1
  · refine ⟨_, ?_, SX.set s0 (k := 113) A (by omega), fun z => absurd z b⟩
    rw [if_pos (by rw [bP_0]; exact b), bP_f b]
/-- only the words said have changed -/
def SD (w w1 : zW) : Prop := (∀ k, k ≠ 128 → k ≠ 137 → w1 k = w k) ∧ ∀ j, j ≠ 15 → w1 128 j = w 128 j
theorem SD.SM {w w1 : zW} (h : SD w w1) : SM w w1 := ⟨fun k hk h1 h2 => h.1 k hk (by omega), h.2 2 (by decide), h.2 21 (by decide)⟩
section SZ
theorem Mlow_loop (K : Int32 → Int32 → Int32 → zW → Option zW) {wx w : zW} {s f : Nat → Int32} {n p q : Nat} (h : RT wx 1 s) (hw : w 129 = s) (hr : RM w n f) (hn : n ≤ 48) (hp : p < n) (hq : q < 5) (ht : WM s f n 0 w) {j0 : Nat} (hj0 : j0 < wcn s) (hb : 0 < bs s f n p q j0) (hl : ∀ j, j < j0 → ¬ 0 < bs s f n p q j) : ∀ (m k : Nat), k ≤ j0 → j0 - k + 1 < m → l_X12_findSaid_22 K m (nI p) (nI q) (nI k) (nI 0) w = K (nI p) (nI q) (nI j0) w := by
  have c12 := wcn_ok h
  intro m
  induction m with
  | zero => intro k _ h; omega
  | succ m ih =>
    intro k hk hm
    have e : k < wcn s := by omega
    obtain ⟨s5, es⟩ := wso_ok h e
    obtain ⟨l1, l6, el⟩ := wle_ok h e
    have a5 := (aft_k _ s5).2
    have go : k < j0 → j_X12_findSaid_77 (l_X12_findSaid_22 K m) K (nI p) (nI q) (nI k) w = K (nI p) (nI q) (nI j0) w := fun kl => by
      rw [j_X12_findSaid_77, j_X12_findSaid_78, if_pos rfl, j_X12_findSaid_91, nI_add, zlet_e]
      exact ih (k + 1) (by omega) (by omega)
    rw [l_X12_findSaid_22.eq_2, if_pos rfl, sortOf_k hw (by omega), es, zb_s, behind_k q hq _ s5, zb_s]
    by_cases b : 0 < bs s f n p q k
    · have ek : k = j0 := by
        by_cases z : k < j0
        · exact absurd b (hl k z)
        · omega
      obtain ⟨b1, b2⟩ := bs_iff.mp b
      obtain ⟨b3, b4, b5⟩ := (ed_iff ..).mp b1
      have cl := cap_le (Bw s f n (p + wle s k) (aft (wso s k)))
      have cp : 0 < cap (Bw s f n (p + wle s k) (aft (wso s k))) := by unfold cap; omega
      rw [if_pos b3, if_neg (nI_nm (by omega)), Munl h hw e hr hn (by omega), if_pos b4, zb_s, if_pos (by rw [b5]), lengthOf_k hw (by omega), el, zb_s, nI_add, pk_mul, nI_add, zld_k _ _ _ _ _ (by omega) (by decide), ht _ _ (by omega) b4 a5, if_pos (by rw [nI_lt2 _ (by decide), tnI (by omega)]; omega), j_X12_findSaid_78, if_neg (by decide), j_X12_findSaid_91, nI_add, zlet_e, Nat.add_zero]
      cases m with
      | zero => omega
      | succ m => rw [l_X12_findSaid_22.eq_2, if_neg (by decide), ek]
    · have kl : k < j0 := by
        by_cases z : k = j0
        · rw [z] at b; exact absurd hb b
        · omega
      by_cases eb : bhd q (wso s k) = true
      · rw [if_pos eb, if_neg (nI_nm (by omega)), Munl h hw e hr hn (by omega), zb_s]
        by_cases ef : p + wle s k ≤ n
        · have u6 := unlN_le (fun i => f (p + i)) (wlt s k) (wle s k)
          rw [if_pos ef]
          by_cases eu : unl s f k p = 0
          · have nb : Bw s f n (p + wle s k) (aft (wso s k)) = 0 := by
              by_cases z : 0 < Bw s f n (p + wle s k) (aft (wso s k))
              · exact absurd (bs_iff.mpr ⟨(ed_iff ..).mpr ⟨eb, ef, eu⟩, z⟩) b
              · omega
            rw [if_pos (by rw [eu]), lengthOf_k hw (by omega), el, zb_s, nI_add, pk_mul, nI_add, zld_k _ _ _ _ _ (by omega) (by decide), ht _ _ (by omega) ef a5, nb, if_neg (by decide)]
            exact go kl
          · unfold unl at eu
            rw [if_neg (by rw [eq_nI _ (by decide)]; unfold unl; rw [tnI (by omega)]; omega)]
            exact go kl
        · rw [if_neg ef, if_neg (by decide)]
          exact go kl
      · rw [if_neg eb, if_pos rfl]
        exact go kl
theorem Msaid_loop {wx : zW} {s f : Nat → Int32} {n : Nat} (hx : RT wx 1 s) (hn : n ≤ 48) : ∀ (m k : Nat) (w : zW), w 129 = s → RM w n f → WM s f n 0 w → k ≤ (spq s f n k).1 → (spq s f n k).1 ≤ n → (spq s f n k).2 < 5 → 0 < Bw s f n (spq s f n k).1 (spq s f n k).2 → (∀ t, t < k → (spq s f n t).1 < n) → w 128 15 = nI k → (∀ t, t < k → w 137 t = nI (swd s f n t)) → n - (spq s f n k).1 < m → ∃ w1 m', l_X12_findSaid_9 (fun w12 => some w12) m (nI (spq s f n k).1) (nI (spq s f n k).2) w = some w1 ∧ SD w w1 ∧ sEnd s f n m' ∧ m' ≤ 48 ∧ w1 128 15 = nI m' ∧ ∀ t, t < m' → w1 137 t = nI (swd s f n t) := by
  intro m
  induction m with
  | zero => intro k w _ _ _ _ _ _ _ _ _ _ h; omega
  | succ m ih =>
    intro k w h9 hr ht hk hpn hq hB hlt h3 hw hm
    have hL : ∀ j, j < wcn s → 1 ≤ wle s j := fun j hj => (wle_ok hx hj).1
    rw [l_X12_findSaid_9.eq_2, hr.1]
    by_cases e : (spq s f n k).1 < n
    · have hB' := hB
      rw [Bw_step hL hn _ e] at hB'
      have jl := lj_lt hB'
      obtain ⟨_, j2, j3⟩ := lj_spec s f n (spq s f n k).1 (spq s f n k).2 (wcn s)
      have jb := j3 jl
      have c12 := wcn_ok hx
      have low := fun K => Mlow_loop K hx h9 hr hn e hq ht jl jb j2 zfuel 0 (by omega) (by unfold zfuel; omega)
      have jl' : swd s f n k < wcn s := jl
      obtain ⟨s5, es⟩ := wso_ok hx jl'
      obtain ⟨l1, l6, el⟩ := wle_ok hx jl'
      obtain ⟨a1, a5⟩ := aft_k _ s5
      obtain ⟨b1, b2⟩ := bs_iff.mp jb
      have fit := ((ed_iff ..).mp b1).2.1
      have b3 : bhd (spq s f n k).2 (wso s (swd s f n k)) = true := ((ed_iff ..).mp b1).1
      obtain ⟨W, hW⟩ : ∃ W, W = zupd (zupd w 137 k (nI (swd s f n k))) 128 15 (nI (k + 1)) := ⟨_, rfl⟩
      have eW : ∀ c, c ≠ 128 → c ≠ 137 → W c = w c := fun c h1 h2 => by rw [hW, zupd_ne _ _ _ h1, zupd_ne _ _ _ h2]
      have eW8 : ∀ j, j ≠ 15 → W 128 j = w 128 j := fun j hj => by rw [hW, zupd_eq, upd_ne _ _ hj, zupd_ne _ _ _ (by decide)]
      have p1 : (spq s f n (k + 1)).1 = (spq s f n k).1 + wle s (swd s f n k) := rfl
      have p2 : (spq s f n (k + 1)).2 = aft (wso s (swd s f n k)) := rfl
      have fit' : (spq s f n k).1 + wle s (swd s f n k) ≤ n := fit
      have hW9 : W 129 = s := by rw [eW 129 (by decide) (by decide)]; exact h9
      obtain ⟨w1, m', x1, x2, x3, x4, x5, x6⟩ := ih (k + 1) W hW9 ⟨by rw [eW8 12 (by decide)]; exact hr.1, fun j hj => by rw [eW 135 (by decide) (by decide)]; exact hr.2 j hj⟩ (fun p q hp hp2 hq => by
        rw [eW 136 (by decide) (by decide)]
        exact ht p q hp hp2 hq) (by rw [p1]; omega) (by rw [p1]; exact fit') (by rw [p2]; exact a5) b2 (fun t htk => by
        by_cases et : t = k
        · rw [et]; exact e
        · exact hlt t (by omega)) (by rw [hW, zupd_eq, upd_eq]) (fun t htk => by
        rw [hW, zupd_ne _ _ _ (by decide), zupd_eq]
        by_cases et : t = k
        · rw [et, upd_eq]
        · rw [upd_ne _ _ et]
          exact hw t (by omega)) (by rw [p1]; omega)
      refine ⟨w1, m', ?_, ⟨fun c h1 h2 => (x2.1 c h1 h2).trans (eW c h1 h2), fun j hj => (x2.2 j hj).trans (eW8 j hj)⟩, x3, x4, x5, x6⟩
      rw [if_pos (by rw [lt_nI _ (by omega), tnI (by omega)]; omega), low]
      rw [show lj s f n (spq s f n k).1 (spq s f n k).2 (wcn s) = swd s f n k from rfl, h3, zsto_k _ _ _ _ _ _ (by omega) (by decide), zupd_ne _ _ _ (show 128 ≠ 137 by decide), h3, nI_add, zlet_e, ← hW, sortOf_k hW9 (by omega), es, zb_s, behind_k _ hq _ s5, zb_s, if_pos b3, lengthOf_k hW9 (by omega), el, zb_s, nI_add, zlet_e]
      exact x1
    · have en : (spq s f n k).1 = n := by omega
      refine ⟨w, k, ?_, ⟨fun _ _ _ => rfl, fun _ _ => rfl⟩, ⟨en, hlt⟩, by omega, h3, hw⟩
      rw [if_neg (by rw [lt_nI _ (by omega), tnI (by omega)]; omega)]
theorem Msaid_ok {wx w : zW} {s f : Nat → Int32} {n : Nat} (hx : RT wx 1 s) (hw : w 129 = s) (hr : RM w n f) (hn : n ≤ 48) (ht : WM s f n 0 w) (hB : 0 < Bw s f n 0 0) : ∃ w1 m', f_X12_findSaid w = some w1 ∧ SM w w1 ∧ sEnd s f n m' ∧ m' ≤ 48 ∧ w1 128 15 = nI m' ∧ ∀ t, t < m' → w1 137 t = nI (swd s f n t) := by
  have s0 : SM w (zupd w 128 15 (nI 0)) := SM.upd8 (SM.refl w) _ (by omega)
  obtain ⟨w1, m', x1, x2, x3, x4, x5, x6⟩ := Msaid_loop (f := f) hx hn zfuel 0 (zupd w 128 15 (nI 0)) (by rw [zupd_ne _ _ _ (by decide)]; exact hw) ⟨by rw [zupd_eq, upd_ne _ _ (by decide)]; exact hr.1, fun j hj => by rw [zupd_ne _ _ _ (by decide)]; exact hr.2 j hj⟩ (fun p q hp hp2 hq => by rw [zupd_ne _ _ _ (by decide)]; exact ht p q hp hp2 hq) (Nat.zero_le _) (Nat.zero_le _) (show 0 < 5 by decide) hB (fun t ht => by omega) (by rw [zupd_eq, upd_eq]) (fun t ht => by omega) (by unfold zfuel; omega)
  refine ⟨w1, m', ?_, SM.trans s0 (SD.SM x2), x3, x4, x5, x6⟩
  rw [f_X12_findSaid, zlet_e]
  exact x1
end SZ
