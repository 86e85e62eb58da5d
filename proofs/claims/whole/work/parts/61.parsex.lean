theorem byte_k : ∀ b, b < 256 → ((nI b).toUInt32 % 65536).toInt32 = nI b ∧ (nI b).toInt8.toInt32 = if b < 128 then nI b else mI (256 - b) := by decide +kernel
theorem ioc_step (K22 : Int32 → Option Int32) (K31 : Option Int32) (m : Nat) {c n j : Nat} (x : Int32) (hc : zslen (nI c) = n) (hj : j < n) (hn : n < 100) : l_J1_indexOfChar_4cfef_7 K22 K31 (m + 1) (nI c) (nI n) x (nI j) = if zsch (nI c) j = x then K22 (nI j) else l_J1_indexOfChar_4cfef_7 K22 K31 m (nI c) (nI n) x (nI (j + 1)) := by
  rw [l_J1_indexOfChar_4cfef_7.eq_2, if_pos (by rw [lt_nI _ (by omega), tnI (by omega)]; omega), zbld, hc, if_pos (zin_nI hj (by omega)), clamp_nI (by omega), nI_add, zlet_e]
theorem ioc_end (K22 : Int32 → Option Int32) (K31 : Option Int32) (m : Nat) {c n : Nat} (x : Int32) (hn : n < 100) : l_J1_indexOfChar_4cfef_7 K22 K31 (m + 1) (nI c) (nI n) x (nI n) = K31 := by
  rw [l_J1_indexOfChar_4cfef_7.eq_2, if_neg (by rw [lt_nI _ (by omega), tnI (by omega)]; omega)]
theorem nb_k {b k : Nat} (hb : b < 256) (hk : k < 128) : (nI k = (nI b).toInt8.toInt32) ↔ b = k := by
  rw [(byte_k b hb).2]
  by_cases c : b < 128
  · rw [if_pos c, eq_nI _ (by omega), tnI (by omega)]
    omega
  · rw [if_neg c]
    constructor
    · intro h
      have := congrArg Int32.toInt h
      rw [tnI (by omega), tmI (by omega)] at this
      omega
    · intro h
      omega
theorem zsl_k : zslen (nI 1) = 4 ∧ zslen (nI 2) = 3 ∧ zsch (nI 1) 0 = nI 108 ∧ zsch (nI 1) 1 = nI 105 ∧ zsch (nI 1) 2 = nI 110 ∧ zsch (nI 1) 3 = nI 109 ∧ zsch (nI 2) 0 = nI 108 ∧ zsch (nI 2) 1 = nI 115 ∧ zsch (nI 2) 2 = nI 104 := by decide +kernel
theorem coder_k : f_J0_coder_7d493 (nI 1) = some (nI 0) ∧ f_J0_coder_7d493 (nI 2) = some (nI 0) ∧ f_J0_isLatin1_aae02 (nI 1) = some (nI 1) ∧ f_J0_isLatin1_aae02 (nI 2) = some (nI 1) := by decide +kernel
theorem ioc_ok {u b : Nat} (hu : u < 2) (hb : b < 256) : l_J1_indexOfChar_4cfef_7 (fun k22_a5 => some k22_a5) (some (mI 1)) zfuel (nI (u + 1)) (nI (if u = 0 then 4 else 3)) (nI b).toInt8.toInt32 (nI 0) = some (if nmN u b < 9 then nI (nmN u b) else mI 1) := by
  obtain ⟨z1, z2, a0, a1, a2, a3, b0, b1, b2⟩ := zsl_k
  rw [show zfuel = 999995 + 1 + 1 + 1 + 1 + 1 from rfl]
  have u2 : u = 0 ∨ u = 1 := by omega
  unfold nmN
  rcases u2 with rfl | rfl
  · rw [if_pos rfl, ioc_step _ _ _ _ z1 (by decide) (by decide), a0, ioc_step _ _ _ _ z1 (by decide) (by decide), a1, ioc_step _ _ _ _ z1 (by decide) (by decide), a2, ioc_step _ _ _ _ z1 (by decide) (by decide), a3, ioc_end _ _ _ _ (by decide), if_pos rfl]
    simp only [nb_k hb (show 108 < 128 by decide), nb_k hb (show 105 < 128 by decide), nb_k hb (show 110 < 128 by decide), nb_k hb (show 109 < 128 by decide)]
    by_cases c1 : b = 108
    · rw [if_pos c1, if_pos c1]
      rfl
    · rw [if_neg c1, if_neg c1]
      by_cases c2 : b = 105
      · rw [if_pos c2, if_pos c2]
        rfl
      · rw [if_neg c2, if_neg c2]
        by_cases c3 : b = 110
        · rw [if_pos c3, if_pos c3]
          rfl
        · rw [if_neg c3, if_neg c3]
          by_cases c4 : b = 109
          · rw [if_pos c4, if_pos c4]
            rfl
          · rw [if_neg c4, if_neg c4]
            rfl
  · rw [show (if (1 : Nat) = 0 then 4 else 3) = 3 from rfl, ioc_step _ _ _ _ z2 (by decide) (by decide), b0, ioc_step _ _ _ _ z2 (by decide) (by decide), b1, ioc_step _ _ _ _ z2 (by decide) (by decide), b2, ioc_end _ _ _ _ (by decide), if_neg (show ¬ (1 : Nat) = 0 by decide)]
    simp only [nb_k hb (show 108 < 128 by decide), nb_k hb (show 115 < 128 by decide), nb_k hb (show 104 < 128 by decide)]
    by_cases c1 : b = 108
    · rw [if_pos c1, if_pos c1]
      rfl
    · rw [if_neg c1, if_neg c1]
      by_cases c2 : b = 115
      · rw [if_pos c2, if_pos c2]
        rfl
      · rw [if_neg c2, if_neg c2]
        by_cases c3 : b = 104
        · rw [if_pos c3, if_pos c3]
          rfl
        · rw [if_neg c3, if_neg c3]
          rfl
theorem idx_ok {u b : Nat} (hu : u < 2) (hb : b < 256) : f_J0_indexOf_0f7a4 (nI (u + 1)) (nI b) = some (if nmN u b < 9 then nI (nmN u b) else mI 1) := by
  obtain ⟨z1, z2, _⟩ := zsl_k
  obtain ⟨k1, k2, k3, k4⟩ := coder_k
  have ce : f_J1_canEncode_9a6ad (nI b) = some (nI 1) := by
    rw [f_J1_canEncode_9a6ad, if_neg (by rw [lt_nI _ (by decide), tnI (by omega)]; omega), if_neg (by rw [nI_lt2 _ (by decide), tnI (by omega)]; omega)]
  have ix : f_J1_indexOf_4cfef (nI (u + 1)) (nI b) (nI 0) (nI (if u = 0 then 4 else 3)) = some (if nmN u b < 9 then nI (nmN u b) else mI 1) := by
    have zl : zslen (nI (u + 1)) = if u = 0 then 4 else 3 := by
      have u2 : u = 0 ∨ u = 1 := by omega
      rcases u2 with rfl | rfl
      · exact z1
      · exact z2
    have n3 : 0 < (if u = 0 then 4 else 3) ∧ (if u = 0 then 4 else 3) < 5 := by split <;> omega
    rw [f_J1_indexOf_4cfef, ce, zb_s, if_neg (by decide), if_neg (by decide), zlet_e, zl, if_neg (show ¬ nI (if u = 0 then 4 else 3) < nI (if u = 0 then 4 else 3) by rw [lt_nI _ (by omega), tnI (by omega)]; omega), zlet_e, if_pos (show nI 0 < nI (if u = 0 then 4 else 3) by rw [lt_nI _ (by omega), tnI (by omega)]; omega), f_J1_indexOfChar_4cfef, zlet_e, ioc_ok hu hb, zb_s]
  have u2 : u = 0 ∨ u = 1 := by omega
  rcases u2 with rfl | rfl
  · have ln : f_J0_length_8abf5 (nI 1) = some (nI 4) := by
      rw [f_J0_length_8abf5, k1, zb_s, z1]
      decide
    rw [f_J0_indexOf_0f7a4, f_J0_indexOf_7cf53, k3, zb_s, if_neg (by decide), ln, zb_s, show f_J1_indexOf_4cfef (nI (0 + 1)) (nI b) (nI 0) (nI 4) = _ from ix, zb_s, zb_s]
  · have ln : f_J0_length_8abf5 (nI 2) = some (nI 3) := by
      rw [f_J0_length_8abf5, k2, zb_s, z2]
      decide
    rw [f_J0_indexOf_0f7a4, f_J0_indexOf_7cf53, k4, zb_s, if_neg (by decide), ln, zb_s, show f_J1_indexOf_4cfef (nI (1 + 1)) (nI b) (nI 0) (nI 3) = _ from ix, zb_s, zb_s]
def sgO (x : Nat × Nat) : Int32 := if x.1 = 0 then nI x.2 else if x.1 = 1 then mI (1 + x.2) else if x.1 = 2 then mI 33 else mI x.2
def oget : pO → Nat → Nat × Nat
  | [], _ => (0, 0)
  | x :: _, 0 => x
  | _ :: o, k + 1 => oget o k
theorem oget_l : ∀ {a b : pO} {k : Nat}, k < a.length → oget (a ++ b) k = oget a k
  | [], b, k, h => by simp at h
  | x :: a, b, 0, h => rfl
  | x :: a, b, k + 1, h => by
    rw [List.length_cons] at h
    rw [List.cons_append, oget, oget]
    exact oget_l (by omega)
theorem oget_r : ∀ {a b : pO} {k : Nat}, a.length ≤ k → oget (a ++ b) k = oget b (k - a.length)
  | [], b, k, h => rfl
  | x :: a, b, 0, h => by simp at h
  | x :: a, b, k + 1, h => by
    rw [List.length_cons] at h
    rw [List.cons_append, oget, List.length_cons, show k + 1 - (a.length + 1) = k - a.length by omega]
    exact oget_r (by omega)
section XP
variable {t : Nat → Nat} {z u : Nat}
def tok (t : Nat → Nat) (z : Nat) : Prop := z ≤ 60 ∧ ∀ k, k < z → t k < 256
/-- the class's parser at a place, with what it has laid down -/
def PX (t : Nat → Nat) (z u : Nat) (w : zW) (a : Nat) (o : pO) : Prop := w 120 2 = nI z ∧ w 120 3 = nI a ∧ w 120 4 = nI o.length ∧ w 120 5 = mI 1 ∧ w 120 6 = nI (u + 1) ∧ (∀ k, k < z → w 121 k = nI (t k)) ∧ (∀ k, k < o.length → w 122 k = sgO (oget o k)) ∧ a ≤ z ∧ o.length ≤ a
/-- behind a fault -/
def PD (z : Nat) (w : zW) (a : Nat) : Prop := w 120 2 = nI z ∧ w 120 3 = nI a ∧ (∃ c, c ≤ 60 ∧ w 120 4 = nI c) ∧ w 120 5 = nI a ∧ a ≤ z
def PF (w w1 : zW) : Prop := ∀ j, j ≠ 120 → j ≠ 122 → w1 j = w j
theorem PF.refl (w : zW) : PF w w := fun _ _ _ => rfl
theorem PF.trans {a b c : zW} (h : PF a b) (h' : PF b c) : PF a c := fun j h1 h2 => (h' j h1 h2).trans (h j h1 h2)
theorem Xnext_at {w : zW} {a : Nat} {o : pO} (ht : tok t z) (h : PX t z u w a o) : f_X2_next w = some (if a < z then nI (t a) else mI 1) := by
  obtain ⟨h2, h3, h4, h5, h6, h7, h8, h9, h10⟩ := h
  have z60 := ht.1
  rw [f_X2_next, h5, if_pos (by decide), h3, h2]
  by_cases c : a < z
  · rw [if_pos (by rw [lt_nI _ (by omega), tnI (by omega)]; omega), zld_k _ _ _ _ _ (by omega) (by decide), h7 a c, if_pos c]
  · rw [if_neg (by rw [lt_nI _ (by omega), tnI (by omega)]; omega), if_neg c]
theorem Xnext_dead {w : zW} {a : Nat} (hz : z ≤ 60) (h : PD z w a) : f_X2_next w = some (mI 1) := by
  obtain ⟨h2, h3, h4, h5, h9⟩ := h
  rw [f_X2_next, h5, if_neg (by rw [lt_nI _ (by decide), tnI (by omega)]; omega)]
/-- one place on -/
theorem PX.inc {w : zW} {a : Nat} {o : pO} (h : PX t z u w a o) (ha : a < z) : PX t z u (zupd w 120 3 (nI (a + 1))) (a + 1) o ∧ PF w (zupd w 120 3 (nI (a + 1))) := by
  obtain ⟨h2, h3, h4, h5, h6, h7, h8, h9, h10⟩ := h
  have g : ∀ j, j ≠ 3 → zupd w 120 3 (nI (a + 1)) 120 j = w 120 j := fun j hj => by rw [zupd_eq, upd_ne _ _ hj]
  have gc : ∀ c, c ≠ 120 → zupd w 120 3 (nI (a + 1)) c = w c := fun c hc => zupd_ne _ _ _ hc
  exact ⟨⟨(g 2 (by decide)).trans h2, by rw [zupd_eq, upd_eq], (g 4 (by decide)).trans h4, (g 5 (by decide)).trans h5, (g 6 (by decide)).trans h6, fun k hk => by rw [gc 121 (by decide)]; exact h7 k hk, fun k hk => by rw [gc 122 (by decide)]; exact h8 k hk, ha, by omega⟩, fun j h1 _ => gc j h1⟩
theorem Xemit_at {w : zW} {a : Nat} {o : pO} {x : Nat × Nat} (hz : z ≤ 60) (h : PX t z u w a o) (hl : o.length < a) : ∃ w1, f_X2_emit (sgO x) w = some w1 ∧ PF w w1 ∧ PX t z u w1 a (o ++ [x]) := by
  obtain ⟨h2, h3, h4, h5, h6, h7, h8, h9, h10⟩ := h
  have g : ∀ j, j ≠ 4 → zupd (zupd w 122 o.length (sgO x)) 120 4 (nI (o.length + 1)) 120 j = w 120 j := fun j hj => by rw [zupd_eq, upd_ne _ _ hj, zupd_ne _ _ _ (by decide)]
  refine ⟨zupd (zupd w 122 o.length (sgO x)) 120 4 (nI (o.length + 1)), ?_, fun j h1 h2 => by rw [zupd_ne _ _ _ h1, zupd_ne _ _ _ h2], (g 2 (by decide)).trans h2, (g 3 (by decide)).trans h3, ?_, (g 5 (by decide)).trans h5, (g 6 (by decide)).trans h6, fun k hk => ?_, fun k hk => ?_, h9, ?_⟩
  · rw [f_X2_emit, h4, if_pos (by rw [lt_nI _ (by decide), tnI (by omega)]; omega), zsto_k _ _ _ _ _ _ (by omega) (by decide), zupd_ne _ _ _ (show 120 ≠ 122 by decide), h4, nI_add, zlet_e]
  · rw [zupd_eq, upd_eq, List.length_append, List.length_singleton]
  · rw [zupd_ne _ _ _ (by decide), zupd_ne _ _ _ (by decide)]
    exact h7 k hk
  · rw [List.length_append, List.length_singleton] at hk
    rw [zupd_ne _ _ _ (by decide), zupd_eq]
    by_cases e : k < o.length
    · rw [upd_ne _ _ (by omega), oget_l e]
      exact h8 k e
    · have : k = o.length := by omega
      subst this
      rw [upd_eq, oget_r (Nat.le_refl _), Nat.sub_self]
      rfl
  · rw [List.length_append, List.length_singleton]
    omega
theorem Xemit_dead {w : zW} {a : Nat} (x : Int32) (h : PD z w a) : ∃ w1, f_X2_emit x w = some w1 ∧ PF w w1 ∧ PD z w1 a := by
  obtain ⟨h2, h3, ⟨c, hc, h4⟩, h5, h9⟩ := id h
  rw [f_X2_emit, h4]
  by_cases e : c < 60
  · have g : ∀ j, j ≠ 4 → zupd (zupd w 122 c x) 120 4 (nI (c + 1)) 120 j = w 120 j := fun j hj => by rw [zupd_eq, upd_ne _ _ hj, zupd_ne _ _ _ (by decide)]
    refine ⟨zupd (zupd w 122 c x) 120 4 (nI (c + 1)), ?_, fun j h1 h2 => by rw [zupd_ne _ _ _ h1, zupd_ne _ _ _ h2], (g 2 (by decide)).trans h2, (g 3 (by decide)).trans h3, ⟨c + 1, by omega, by rw [zupd_eq, upd_eq]⟩, (g 5 (by decide)).trans h5, h9⟩
    rw [if_pos (by rw [lt_nI _ (by decide), tnI (by omega)]; omega), zsto_k _ _ _ _ _ _ (by omega) (by decide), zupd_ne _ _ _ (show 120 ≠ 122 by decide), h4, nI_add, zlet_e]
  · rw [if_neg (by rw [lt_nI _ (by decide), tnI (by omega)]; omega)]
    exact ⟨w, rfl, PF.refl w, h⟩
theorem Xfail_at {w : zW} {a : Nat} {o : pO} (hz : z ≤ 60) (h : PX t z u w a o) : ∃ w1, f_X2_failHere w = some w1 ∧ PF w w1 ∧ PD z w1 a := by
  obtain ⟨h2, h3, h4, h5, h6, h7, h8, h9, h10⟩ := h
  have g : ∀ j, j ≠ 5 → zupd w 120 5 (nI a) 120 j = w 120 j := fun j hj => by rw [zupd_eq, upd_ne _ _ hj]
  refine ⟨zupd w 120 5 (nI a), ?_, fun j h1 _ => zupd_ne _ _ _ h1, (g 2 (by decide)).trans h2, (g 3 (by decide)).trans h3, ⟨o.length, by omega, (g 4 (by decide)).trans h4⟩, by rw [zupd_eq, upd_eq], h9⟩
  rw [f_X2_failHere, h5, if_pos (by decide), h3, zlet_e]
theorem Xfail_dead {w : zW} {a : Nat} (hz : z ≤ 60) (h : PD z w a) : f_X2_failHere w = some w := by
  obtain ⟨h2, h3, h4, h5, h9⟩ := h
  rw [f_X2_failHere, h5, if_neg (by rw [lt_nI _ (by decide), tnI (by omega)]; omega)]
theorem dig_k (x : Nat) (hx : x < 256) : f_X2_isDigit (nI x) = some (if 48 ≤ x ∧ x ≤ 57 then nI 1 else nI 0) := by
  rw [f_X2_isDigit]
  by_cases a : x < 48
  · rw [if_pos (by rw [lt_nI _ (by decide), tnI (by omega)]; omega), if_neg (by omega)]
  · rw [if_neg (by rw [lt_nI _ (by decide), tnI (by omega)]; omega)]
    by_cases b : 57 < x
    · rw [if_pos (by rw [nI_lt2 _ (by decide), tnI (by omega)]; omega), if_neg (by omega)]
    · rw [if_neg (by rw [nI_lt2 _ (by decide), tnI (by omega)]; omega), if_pos (by omega)]
theorem dig_m : f_X2_isDigit (mI 1) = some (nI 0) ∧ f_X2_rankOf (mI 1) = some (mI 1) := by decide +kernel
theorem rank_k : ∀ b, b < 256 → f_X2_rankOf (nI b) = some (if rkN b < 9 then nI (rkN b) else mI 1) := by decide +kernel
theorem Xnum_loop (ht : tok t z) : ∀ (n m a v : Nat) (o : pO) (w : zW), PX t z u w a o → n ≤ 4 → (v + 1) * 10 ^ n ≤ 10000 → n < m → ∃ w1, l_X2_number_4 (fun k48_a1 w11 => j_X2_number_48 k48_a1 w11) m (nI v) (nI (4 - n)) w = j_X2_number_48 (nI (dg t z n a v).2) w1 ∧ PF w w1 ∧ PX t z u w1 (dg t z n a v).1 o := by
  intro n
  induction n with
  | zero =>
    intro m a v o w h _ _ hm
    cases m with
    | zero => omega
    | succ m =>
      rw [l_X2_number_4.eq_2, if_neg (by decide), dg]
      exact ⟨w, rfl, PF.refl w, h⟩
  | succ n ih =>
    intro m a v o w h hn hv hm
    cases m with
    | zero => omega
    | succ m =>
      rw [l_X2_number_4.eq_2, if_pos (by rw [lt_nI _ (by decide), tnI (by omega)]; omega), Xnext_at ht h, zb_s, dg]
      by_cases az : a < z
      · have b256 := ht.2 a az
        rw [if_pos az, dig_k _ b256, zb_s]
        by_cases d : 48 ≤ t a ∧ t a ≤ 57
        · obtain ⟨p1, p2⟩ := h.inc az
          have v4 : v + 1 ≤ (v + 1) * 10 ^ (n + 1) := Nat.le_mul_of_pos_right _ (Nat.pow_pos (by decide))
          have hv2 : (10 * v + t a - 48 + 1) * 10 ^ n ≤ 10000 := by
            refine Nat.le_trans (Nat.mul_le_mul_right (10 ^ n) (show 10 * v + t a - 48 + 1 ≤ (v + 1) * 10 by omega)) ?_
            rw [Nat.mul_assoc, Nat.mul_comm 10 (10 ^ n), ← Nat.pow_succ]
            exact hv
          obtain ⟨w1, x1, x2, x3⟩ := ih m (a + 1) (10 * v + t a - 48) o _ p1 (by omega) hv2 (by omega)
          rw [if_pos d, if_neg (by decide), if_pos (show a < z ∧ 48 ≤ t a ∧ t a ≤ 57 from ⟨az, d⟩)]
          refine ⟨w1, ?_, PF.trans p2 x2, x3⟩
          rw [zb_s, pk_mul, nI_add, Nat.mul_comm v 10, nI_sub (by omega) (by omega), zlet_e, h.2.1, nI_add, zlet_e, nI_add, zlet_e, show 4 - (n + 1) + 1 = 4 - n by omega]
          exact x1
        · rw [if_neg d, if_pos rfl, if_neg (fun q => d q.2)]
          exact ⟨w, rfl, PF.refl w, h⟩
      · rw [if_neg az, dig_m.1, zb_s, if_pos rfl, if_neg (fun q => az q.1)]
        exact ⟨w, rfl, PF.refl w, h⟩
end XP
