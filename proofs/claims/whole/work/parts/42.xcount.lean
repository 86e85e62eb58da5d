theorem cap_le (x : Nat) : cap x ≤ 999999 := by
  unfold cap
  omega
section XC
def CXw (n : Nat) (w : zW) (C : Nat → Nat → Nat) : Prop := ∀ p q, p ≤ n → q < 5 → w 114 (p * 5 + q) = nI (cap (C p q))
theorem min_k {x : Nat} (hx : x < 2 ^ 31) : (if nI x < nI 999999 then nI x else nI 999999) = nI (cap x) := by
  unfold cap
  by_cases e : x < 999999
  · rw [if_pos (by rw [lt_nI _ (by decide), tnI hx]; omega), show min x 999999 = x by omega]
  · rw [if_neg (by rw [lt_nI _ (by decide), tnI hx]; omega), show min x 999999 = 999999 by omega]
theorem sm_le {g : Nat → Nat} {b : Nat} (h : ∀ i, g i ≤ b) : ∀ k, sm g k ≤ k * b
  | 0 => by simp [sm]
  | k + 1 => by
    have := sm_le h k
    have := h k
    rw [sm, Nat.add_mul]
    omega
theorem Xinto_loop {w : zW} {n p so : Nat} {C : Nat → Nat → Nat} (hn : n ≤ 48) (hp : p < n) (hs : so < 5) (hc : CXw n w C) : ∀ (m k : Nat), k ≤ 5 → 5 - k < m → l_X1_waysInto_5 w (fun k44_a3 => some k44_a3) m (nI so) (nI p) (nI (sm (fun q => if bhd q so then cap (C p q) else 0) k)) (nI k) = some (nI (sm (fun q => if bhd q so then cap (C p q) else 0) 5)) := by
  intro m
  induction m with
  | zero => intro k _ h; omega
  | succ m ih =>
    intro k hk hm
    rw [l_X1_waysInto_5.eq_2]
    by_cases e : k < 5
    · obtain ⟨o1, o2⟩ := bef_k _ hs
      have ih1 := ih (k + 1) (by omega) (by omega)
      rw [sm] at ih1
      rw [if_pos (by rw [lt_nI _ (by decide), tnI (by omega)]; omega), ztld_k _ _ _ _ hs (by decide), o1]
      by_cases eb : bhd k so = true
      · rw [if_pos eb] at ih1
        rw [if_neg (by rw [tb_k _ o2 _ e, tb_bef _ hs _ e, eb]; decide), pk_mul, nI_add, zld_k _ _ _ _ _ (by omega) (by decide), hc p k (by omega) e, nI_add, zlet_e, nI_add, zlet_e]
        exact ih1
      · rw [if_neg eb, Nat.add_zero] at ih1
        rw [if_pos (by rw [tb_k _ o2 _ e, tb_bef _ hs _ e]; simpa using eb), zlet_e, nI_add]
        exact ih1
    · have : k = 5 := by omega
      subst this
      rw [if_neg (by rw [lt_nI _ (by decide), tnI (by omega)]; omega)]
theorem cap_flow {s : Nat → Int32} {C : Nat → Nat → Nat} {p j c : Nat} (hs : wso s j < 5) : cap (cap c + sm (fun q => if bhd q (wso s j) then cap (C p q) else 0) 5) = cap (c + flow s C p j) := by
  unfold flow
  have five : wso s j = 0 ∨ wso s j = 1 ∨ wso s j = 2 ∨ wso s j = 3 ∨ wso s j = 4 := by omega
  rcases five with e5 | e5 | e5 | e5 | e5 <;> rw [e5] <;> simp [sm, bhd, cap] <;> omega
theorem Xcount_in (K : Int32 → zW → Option zW) {s f : Nat → Int32} {n p : Nat} (hn : n ≤ 48) (hp : p < n) : ∀ (m k : Nat) (w : zW) (C : Nat → Nat → Nat), RT w 1 s → RX w n f → CXw n w C → CS s f n C p k → CI s f n C p k → k ≤ wcn s → wcn s - k < m → ∃ A C', l_X1_countFromBegin_28 K m (nI p) (nI k) w = K (nI p) (zset w 114 A) ∧ CXw n (zset w 114 A) C' ∧ CS s f n C' p (wcn s) ∧ CI s f n C' p (wcn s) := by
  intro m
  induction m with
  | zero => intro k w C _ _ _ _ _ _ h; omega
  | succ m ih =>
    intro k w C h hr hc hS hI hk hm
    have c12 := wcn_ok h
    rw [l_X1_countFromBegin_28.eq_2, show w 3 1 = nI (wcn s) from h.2.1.2.1.1.trans c12.2]
    by_cases e : k < wcn s
    · obtain ⟨e1, e2, e3⟩ := Xword_at h e
      obtain ⟨s5, es⟩ := wso_ok h e
      obtain ⟨l1, l6, el⟩ := wle_ok h e
      have hS' := CS_step s5 l1 hp e hS
      have hI' := CI_step l1 e hI hp
      rw [if_pos (by rw [lt_nI _ (by omega), tnI (by omega)]; omega), zin_nI (by omega) (by decide), zg_t, clamp_nI (by omega), Xstands h e hr hn (by omega), zb_s]
      by_cases q : p + wle s k ≤ n ∧ unl s f k p = 0
      · rw [if_pos q] at hS' hI'
        obtain ⟨a1, a2⟩ := aft_k _ s5
        obtain ⟨A, C', b1, b2, b3, b4⟩ := ih (k + 1) (zupd w 114 ((p + wle s k) * 5 + aft (wso s k)) (nI (cap (C (p + wle s k) (aft (wso s k)) + flow s C p k)))) _ (RT_SX h (SX.upd (SX.refl w) _ _ (by omega))) ⟨by rw [zupd_ne _ _ _ (by decide)]; exact hr.1, fun j hj => by rw [zupd_ne _ _ _ (by decide)]; exact hr.2 j hj⟩ (fun p' q' h1 h2 => by
          rw [zupd_eq]
          unfold cadd
          by_cases ec : p' = p + wle s k ∧ q' = aft (wso s k)
          · rw [if_pos ec, ec.1, ec.2, upd_eq]
          · rw [if_neg ec, upd_ne _ _ (by omega)]
            exact hc p' q' h1 h2) hS' hI' (by omega) (by omega)
        rw [zset_zupd] at b1 b2
        refine ⟨A, C', ?_, b2, b3, b4⟩
        have into : f_X1_waysInto (nI (wso s k)) (nI p) w = some (nI (sm (fun q => if bhd q (wso s k) then cap (C p q) else 0) 5)) := by
          rw [f_X1_waysInto]
          exact Xinto_loop hn hp s5 hc zfuel 0 (by omega) (by unfold zfuel; omega)
        have bnd : sm (fun q => if bhd q (wso s k) then cap (C p q) else 0) 5 ≤ 5 * 999999 := sm_le (fun i => by unfold cap; split <;> omega) 5
        rw [if_neg (by rw [bP_0]; exact fun a => a q), e1, e2, ztld_k _ _ _ _ s5 (by decide), a1, nI_add, pk_mul, nI_add, zlet_e, zld_k _ _ _ _ _ (by omega) (by decide), hc _ _ q.1 a2, into, zb_s, nI_add, min_k (by have := cap_le (C (p + wle s k) (aft (wso s k))); omega), cap_flow s5, zsto_k _ _ _ _ _ _ (by omega) (by decide), zlet_e, nI_add]
        exact b1
      · rw [if_neg q] at hS' hI'
        rw [if_pos (by rw [bP_0]; exact q), zlet_e, nI_add]
        exact ih (k + 1) w C h hr hc hS' hI' (by omega) (by omega)
    · have : k = wcn s := by omega
      subst this
      rw [if_neg (by rw [lt_nI _ (by omega), tnI (by omega)]; omega)]
      exact ⟨w 114, C, by rw [zset_self], by rw [zset_self]; exact hc, hS, hI⟩
/-- what holds of the counts between two places -/
def CR (s f : Nat → Int32) (n : Nat) (C : Nat → Nat → Nat) (p : Nat) : Prop := TT s f n C (n - p) p + sm (fun q => C p q * Bw s f n p q) 5 = Bw s f n 0 0
theorem Xcount_out (K : zW → Option zW) {s f : Nat → Int32} {n : Nat} (hn : n ≤ 48) : ∀ (m p : Nat) (w : zW) (C : Nat → Nat → Nat), RT w 1 s → RX w n f → CXw n w C → CR s f n C p → CI s f n C p 0 → p ≤ n → n - p < m → ∃ A C', l_X1_countFromBegin_17 K m (nI p) w = K (zset w 114 A) ∧ CXw n (zset w 114 A) C' ∧ CR s f n C' n ∧ CI s f n C' n 0 := by
  intro m
  induction m with
  | zero => intro p w C _ _ _ _ _ _ h; omega
  | succ m ih =>
    intro p w C h hr hc hS hI hp hm
    have hL : ∀ j, j < wcn s → 1 ≤ wle s j := fun j hj => (wle_ok h hj).1
    rw [l_X1_countFromBegin_17.eq_2, hr.1]
    by_cases e : p < n
    · have hS0 : CS s f n C p 0 := by
        unfold CS
        rw [← hS]
        simp only [rs_0, Bw_step hL hn _ e]
      obtain ⟨A, C', a1, a2, a3, a4⟩ := Xcount_in (fun k113_a3 w11 =>
        zlet (k113_a3 + nI 1) fun x102 =>
        (l_X1_countFromBegin_17 K m) x102 w11) hn e zfuel 0 w C h hr hc hS0 hI (by omega) (by have := wcn_ok h; unfold zfuel; omega)
      have hS1 : CR s f n C' (p + 1) := by
        unfold CS at a3
        simp only [rs_end, Nat.mul_zero] at a3
        rw [show n - p = n - (p + 1) + 1 by omega, TT, sm_0 (g := fun _ => 0) 5 (fun _ _ => rfl)] at a3
        unfold CR
        omega
      have hI1 : CI s f n C' (p + 1) 0 := ⟨a4.1, a4.2.1, fun p0 q0 i hi hq0 hiw hc0 he => a4.2.2 p0 q0 i (by omega) hq0 hiw hc0 he⟩
      obtain ⟨A2, C2, b1, b2, b3, b4⟩ := ih (p + 1) (zset w 114 A) C' (RT_SX h (SX.set (SX.refl w) _ (by omega))) ⟨by rw [zset_ne _ _ (by decide)]; exact hr.1, fun j hj => by rw [zset_ne _ _ (by decide)]; exact hr.2 j hj⟩ a2 hS1 hI1 (by omega) (by omega)
      rw [zset_zset] at b1 b2
      refine ⟨A2, C2, ?_, b2, b3, b4⟩
      rw [if_pos (by rw [lt_nI _ (by omega), tnI (by omega)]; omega), a1, zlet_e, nI_add]
      exact b1
    · have : p = n := by omega
      subst this
      rw [if_neg (by rw [lt_nI _ (by omega), tnI (by omega)]; omega)]
      exact ⟨w 114, C, by rw [zset_self], by rw [zset_self]; exact hc, hS, hI⟩
theorem Xcount_ok {w : zW} {s f : Nat → Int32} {n : Nat} (h : RT w 1 s) (hr : RX w n f) (hn : n ≤ 48) : ∃ A C, f_X1_countFromBegin w = some (zset w 114 A) ∧ CXw n (zset w 114 A) C ∧ C n 4 = Bw s f n 0 0 ∧ CI s f n C n 0 := by
  obtain ⟨W, hW⟩ : ∃ W, W = zupd (zset w 114 (frow (w 114) 0 245 (nI 0))) 114 0 (nI 1) := ⟨_, rfl⟩
  have eW : ∀ k, k ≠ 114 → W k = w k := fun k hk => by rw [hW, zupd_ne _ _ _ hk, zset_ne _ _ hk]
  have hR : RT W 1 s := RT_SX h (by rw [hW]; exact SX.upd (SX.set (SX.refl w) _ (by omega)) _ _ (by omega))
  have hr' : RX W n f := ⟨by rw [eW 116 (by decide)]; exact hr.1, fun j hj => by rw [eW 117 (by decide)]; exact hr.2 j hj⟩
  obtain ⟨C, hC⟩ : ∃ C : Nat → Nat → Nat, C = fun p q => if p = 0 ∧ q = 0 then 1 else 0 := ⟨_, rfl⟩
  have C0 : C 0 0 = 1 := by rw [hC]; rfl
  have Cn : ∀ p q, ¬ (p = 0 ∧ q = 0) → C p q = 0 := fun p q hpq => by rw [hC]; exact if_neg hpq
  have TT0 : ∀ d p, TT s f n C d p = 0 := fun d => by
    induction d with
    | zero => intro p; rfl
    | succ d ih =>
      intro p
      rw [TT, ih, sm_0 5 (fun q hq => by rw [Cn _ _ (by omega), Nat.zero_mul])]
  obtain ⟨A, C', a1, a2, a3, a4⟩ := Xcount_out (fun w13 => some w13) hn zfuel 0 W C hR hr' (fun p q hp hq => by
    rw [hW, zupd_eq]
    by_cases e : p = 0 ∧ q = 0
    · rw [e.1, e.2, C0, upd_eq]
      rfl
    · rw [Cn p q e, upd_ne _ _ (by omega), zset_eq, frow_in (by omega)]
      rfl) (by
    unfold CR
    rw [TT0]
    simp [sm, C0, Cn]) ⟨by rw [C0]; decide, fun p q hp hq hc => by
      by_cases e : p = 0 ∧ q = 0
      · rw [e.1, e.2]; exact Rch0 s f n
      · rw [Cn p q e] at hc; omega, fun p0 q0 i hi => by omega⟩ (by omega) (by unfold zfuel; omega)
  have eZ : zset W 114 A = zset w 114 A := by rw [hW, zset_zupd, zset_zset]
  rw [eZ] at a1 a2
  refine ⟨A, C', ?_, a2, ?_, a4⟩
  · rw [f_X1_countFromBegin, f_J7_ok _ _ _ _ (by decide), zb_s, zlet_e, ← hW, a1]
  · unfold CR at a3
    rw [Nat.sub_self, TT] at a3
    rw [← a3]
    simp [sm, Bw_end]
theorem Xways_ok {w : zW} {s f : Nat → Int32} {n : Nat} (h : RT w 1 s) (hr : RX w n f) (hn : n ≤ 48) : ∃ A, f_X1_countWays w = some (nI (cap (Bw s f n 0 0)), zset w 114 A) := by
  obtain ⟨A, C, a1, a2, a3, a4⟩ := Xcount_ok h hr hn
  refine ⟨A, ?_⟩
  rw [f_X1_countWays, a1, zb_s, zset_ne _ _ (by decide), hr.1, pk_mul, nI_add, zld_k _ _ _ _ _ (by omega) (by decide), a2 n 4 (Nat.le_refl _) (by decide), a3]
end XC
