def mvO (u : Nat) (x : Nat × Nat) : Nat := if x.1 = 1 then tname u x.2 else x.2
section PMs
variable {t : Nat → Nat} {z u : Nat} {s : Nat → Int32}
def sok (t : Nat → Nat) (z : Nat) (s : Nat → Int32) : Prop := s 4 = nI z ∧ ∀ k, k < z → s (544 + k) = nI (t k)
/-- the reference's parser at a place, with what it has laid down -/
def PM (s : Nat → Int32) (z u : Nat) (w : zW) (a dep : Nat) (o : pO) : Prop := w 128 4 = nI a ∧ w 128 5 = nI dep ∧ w 128 6 = nI o.length ∧ w 128 7 = nI u ∧ (∀ k, k < o.length → w 132 (2 * k) = nI (oget o k).1 ∧ w 132 (2 * k + 1) = nI (mvO u (oget o k))) ∧ w 129 = s ∧ a ≤ z ∧ o.length ≤ a
def PMd (s : Nat → Int32) (z : Nat) (w : zW) (a : Nat) : Prop := w 128 4 = nI a ∧ w 129 = s ∧ a ≤ z
def MQf (w w1 : zW) : Prop := (∀ j, j ≠ 128 → j ≠ 132 → w1 j = w j) ∧ ∀ j, j ≠ 4 → j ≠ 5 → j ≠ 6 → w1 128 j = w 128 j
theorem MQf.refl (w : zW) : MQf w w := ⟨fun _ _ _ => rfl, fun _ _ _ _ => rfl⟩
theorem MQf.trans {a b c : zW} (h : MQf a b) (h' : MQf b c) : MQf a c := ⟨fun j h1 h2 => (h'.1 j h1 h2).trans (h.1 j h1 h2), fun j h1 h2 h3 => (h'.2 j h1 h2 h3).trans (h.2 j h1 h2 h3)⟩
def MOut (s : Nat → Int32) (z u : Nat) (w : zW) (dep : Nat) (o : pO) (p : pR) (w1 : zW) : Prop := MQf w w1 ∧ (p.1 = true → PM s z u w1 p.2.1 dep (o ++ p.2.2)) ∧ (p.1 = false → PMd s z w1 p.2.1)
theorem MOut.pre {w w0 w1 : zW} {dep : Nat} {o : pO} {p : pR} (h : MOut s z u w dep o p w1) (f : MQf w0 w) : MOut s z u w0 dep o p w1 := ⟨MQf.trans f h.1, h.2⟩
theorem PM.dead {w : zW} {a dep : Nat} {o : pO} (h : PM s z u w a dep o) : PMd s z w a := ⟨h.1, h.2.2.2.2.2.1, h.2.2.2.2.2.2.1⟩
theorem Mlook_at {w : zW} {a dep : Nat} {o : pO} (ht : tok t z) (hs : sok t z s) (h : PM s z u w a dep o) : f_X12_look w = some (if a < z then nI (t a) else mI 1) := by
  obtain ⟨h1, h2, h3, h4, h5, h6, h7, h8⟩ := h
  have z60 := ht.1
  rw [f_X12_look, h1, h6, hs.1]
  by_cases c : a < z
  · rw [if_pos (by rw [lt_nI _ (by omega), tnI (by omega)]; omega), nI_add, zld_k _ _ _ _ _ (by omega) (by decide), h6, hs.2 a c, if_pos c]
  · rw [if_neg (by rw [lt_nI _ (by omega), tnI (by omega)]; omega), if_neg c]
theorem PM.inc {w : zW} {a dep : Nat} {o : pO} (h : PM s z u w a dep o) (ha : a < z) : PM s z u (zupd w 128 4 (nI (a + 1))) (a + 1) dep o ∧ MQf w (zupd w 128 4 (nI (a + 1))) := by
  obtain ⟨h1, h2, h3, h4, h5, h6, h7, h8⟩ := h
  have g : ∀ j, j ≠ 4 → zupd w 128 4 (nI (a + 1)) 128 j = w 128 j := fun j hj => by rw [zupd_eq, upd_ne _ _ hj]
  have gc : ∀ c, c ≠ 128 → zupd w 128 4 (nI (a + 1)) c = w c := fun c hc => zupd_ne _ _ _ hc
  exact ⟨⟨by rw [zupd_eq, upd_eq], (g 5 (by decide)).trans h2, (g 6 (by decide)).trans h3, (g 7 (by decide)).trans h4, fun k hk => by rw [gc 132 (by decide)]; exact h5 k hk, (gc 129 (by decide)).trans h6, ha, by omega⟩, fun j j1 _ => gc j j1, fun j j4 _ _ => g j j4⟩
theorem PM.dp {w : zW} {a dep : Nat} {o : pO} (h : PM s z u w a dep o) (d2 : Nat) : PM s z u (zupd w 128 5 (nI d2)) a d2 o ∧ MQf w (zupd w 128 5 (nI d2)) := by
  obtain ⟨h1, h2, h3, h4, h5, h6, h7, h8⟩ := h
  have g : ∀ j, j ≠ 5 → zupd w 128 5 (nI d2) 128 j = w 128 j := fun j hj => by rw [zupd_eq, upd_ne _ _ hj]
  have gc : ∀ c, c ≠ 128 → zupd w 128 5 (nI d2) c = w c := fun c hc => zupd_ne _ _ _ hc
  exact ⟨⟨(g 4 (by decide)).trans h1, by rw [zupd_eq, upd_eq], (g 6 (by decide)).trans h3, (g 7 (by decide)).trans h4, fun k hk => by rw [gc 132 (by decide)]; exact h5 k hk, (gc 129 (by decide)).trans h6, h7, h8⟩, fun j j1 _ => gc j j1, fun j _ j5 _ => g j j5⟩
theorem Mlay_at {w : zW} {a dep : Nat} {o : pO} {x : Nat × Nat} (hz : z ≤ 60) (h : PM s z u w a dep o) (hl : o.length < a) : ∃ w1, f_X12_lays (nI x.1) (nI (mvO u x)) w = some w1 ∧ MQf w w1 ∧ PM s z u w1 a dep (o ++ [x]) := by
  obtain ⟨h1, h2, h3, h4, h5, h6, h7, h8⟩ := h
  obtain ⟨W, hW⟩ : ∃ W, W = zupd (zupd (zupd w 132 (2 * o.length) (nI x.1)) 132 (2 * o.length + 1) (nI (mvO u x))) 128 6 (nI (o.length + 1)) := ⟨_, rfl⟩
  have g : ∀ j, j ≠ 6 → W 128 j = w 128 j := fun j hj => by rw [hW, zupd_eq, upd_ne _ _ hj, zupd_ne _ _ _ (by decide), zupd_ne _ _ _ (by decide)]
  have gc : ∀ c, c ≠ 128 → c ≠ 132 → W c = w c := fun c c1 c2 => by rw [hW, zupd_ne _ _ _ c1, zupd_ne _ _ _ c2, zupd_ne _ _ _ c2]
  refine ⟨W, ?_, ⟨gc, fun j _ _ j6 => g j j6⟩, (g 4 (by decide)).trans h1, (g 5 (by decide)).trans h2, ?_, (g 7 (by decide)).trans h4, fun k hk => ?_, (gc 129 (by decide) (by decide)).trans h6, h7, ?_⟩
  · rw [f_X12_lays, h3, pk_mul, zsto_k _ _ _ _ _ _ (by omega) (by decide), zupd_ne _ _ _ (show 128 ≠ 132 by decide), h3, pk_mul, nI_add, zsto_k _ _ _ _ _ _ (by omega) (by decide), zupd_ne _ _ _ (show 128 ≠ 132 by decide), zupd_ne _ _ _ (show 128 ≠ 132 by decide), h3, nI_add, zlet_e, ← hW]
  · rw [hW, zupd_eq, upd_eq, List.length_append, List.length_singleton]
  · rw [List.length_append, List.length_singleton] at hk
    rw [hW, zupd_ne _ _ _ (by decide), zupd_eq, zupd_eq]
    by_cases e : k < o.length
    · rw [upd_ne _ _ (by omega), upd_ne _ _ (by omega), upd_ne _ _ (by omega), upd_ne _ _ (by omega), oget_l e]
      exact h5 k e
    · have : k = o.length := by omega
      subst this
      rw [upd_ne _ _ (by omega), upd_eq, upd_eq, oget_r (Nat.le_refl _), Nat.sub_self]
      exact ⟨rfl, rfl⟩
  · rw [List.length_append, List.length_singleton]
    omega
/-- the loop of a level, whichever it is -/
theorem Mlev_loop {L : Nat → zW → Option (Int32 × zW)} {FF : zW → Option (Int32 × zW)} {G : Nat → pR} {r dep : Nat} (ht : tok t z) (h2 : r ≠ 2) (hG : ∀ a, a ≤ z → pg z u a (G a)) (hS : ∀ m w a o, PM s z u w a dep o → ¬ (a < z ∧ rkN (t a) = r) → L (m + 1) w = some (nI 1, w)) (hL : ∀ m w a o, PM s z u w a dep o → a < z → rkN (t a) = r → L (m + 1) w = zb2 (FF (zupd w 128 4 (nI (a + 1)))) fun x w2 => if x = nI 0 then some (nI 0, w2) else zb (f_X12_lays (nI 3) (nI (t a)) w2) fun w3 => L m w3) (hF : ∀ a o w, PM s z u w a dep o → ∃ w1, FF w = some (bI (G a).1, w1) ∧ MOut s z u w dep o (G a) w1) : ∀ (n m a : Nat) (o : pO) (w : zW), z - a < n → n ≤ m → PM s z u w a dep o → ∃ w1, L m w = some (bI (pl t z r G n a).1, w1) ∧ MOut s z u w dep o (pl t z r G n a) w1 := by
  have z60 := ht.1
  intro n
  induction n with
  | zero => intro m a o w h; omega
  | succ n ih =>
    intro m a o w hn hm h
    have az := h.2.2.2.2.2.2.1
    have ol := h.2.2.2.2.2.2.2
    cases m with
    | zero => omega
    | succ m =>
      rw [pl]
      by_cases c : a < z ∧ rkN (t a) = r
      · obtain ⟨p1, p2⟩ := h.inc c.1
        obtain ⟨w2, x1, x2, x3, x4⟩ := hF (a + 1) o _ p1
        have pgG := hG (a + 1) c.1
        rw [hL m w a o h c.1 c.2, x1, zb2_s, if_pos c]
        unfold pthen
        by_cases ok : (G (a + 1)).1 = true
        · obtain ⟨g1, g2, g3, g4⟩ := pgG.1 ok
          obtain ⟨w3, y1, y2, y3⟩ := Mlay_at (x := (3, t a)) z60 (x3 ok) (by rw [List.length_append]; omega)
          obtain ⟨w4, v1, v2⟩ := ih m _ _ w3 (by omega) (by omega) y3
          rw [ok, show bI true = nI 1 from rfl, if_neg (by decide), show nI (t a) = nI (mvO u (3, t a)) from rfl, show nI 3 = nI ((3, t a) : Nat × Nat).1 from rfl, y1, zb_s, if_pos rfl]
          dsimp only
          rw [if_neg h2]
          have v3 := v2.pre (MQf.trans (MQf.trans p2 x2) y2)
          refine ⟨w4, v1, v3.1, fun q => ?_, fun q => v3.2.2 q⟩
          have := v3.2.1 q
          unfold padd
          rw [List.append_assoc, List.append_assoc] at this
          show PM s z u w4 _ dep (o ++ ((G (a + 1)).2.2 ++ [(3, t a)] ++ (pl t z r G n (G (a + 1)).2.1).2.2))
          rw [List.append_assoc]
          exact this
        · have nok : (G (a + 1)).1 = false := by simpa using ok
          rw [nok, show bI false = nI 0 from rfl, if_pos rfl, if_neg (by decide)]
          exact ⟨w2, rfl, MQf.trans p2 x2, fun q => absurd q (by simp), fun _ => x4 nok⟩
      · rw [hS m w a o h c, if_neg c]
        refine ⟨w, rfl, MQf.refl w, fun _ => ?_, fun q => absurd q (by simp)⟩
        rw [List.append_nil]
        exact h
theorem c_k {b k : Nat} (hb : b < 256) (hk : k < 256) : (nI b = nI k) ↔ b = k := by
  rw [eq_nI _ (by omega), tnI (by omega)]
  omega
theorem rk_0 (b : Nat) : rkN b = 0 ↔ b = 124 := by
  unfold rkN
  constructor
  · intro h
    by_cases a1 : b = 37 ∨ b = 42 ∨ b = 47
    · rw [if_pos a1] at h; omega
    · rw [if_neg a1] at h
      by_cases a2 : b = 38
      · rw [if_pos a2] at h; omega
      · rw [if_neg a2] at h
        by_cases a3 : b = 43 ∨ b = 45
        · rw [if_pos a3] at h; omega
        · rw [if_neg a3] at h
          by_cases a4 : b = 60 ∨ b = 61 ∨ b = 62
          · rw [if_pos a4] at h; omega
          · rw [if_neg a4] at h
            by_cases a5 : b = 124
            · exact a5
            · rw [if_neg a5] at h; omega
  · intro h
    subst h
    rfl
theorem rk_all : ∀ b, b < 256 → (rkN b = 0 ↔ b = 124) ∧ (rkN b = 1 ↔ b = 38) ∧ (rkN b = 2 ↔ b = 60 ∨ b = 61 ∨ b = 62) ∧ (rkN b = 3 ↔ b = 43 ∨ b = 45) ∧ (rkN b = 4 ↔ b = 42 ∨ b = 47 ∨ b = 37) := by decide +kernel
/-- the byte at hand, or none -/
def bt (t : Nat → Nat) (z a : Nat) : Int32 := if a < z then nI (t a) else mI 1
theorem bt_eq (ht : tok t z) {a k : Nat} (hk : k < 256) : (bt t z a = nI k) ↔ a < z ∧ t a = k := by
  unfold bt
  by_cases c : a < z
  · rw [if_pos c, c_k (ht.2 a c) hk]
    exact ⟨fun e => ⟨c, e⟩, fun e => e.2⟩
  · rw [if_neg c]
    exact ⟨fun e => absurd e (mI_nI (by omega)), fun e => absurd e.1 c⟩
theorem MW0f (d : Nat) (w : zW) : F_X12_whole (d + 1) 0 w = b_X12_whole (F_X12_whole d) w := rfl
theorem MW1f (d : Nat) (w : zW) : F_X12_whole (d + 1) 1 w = b_X12_both (F_X12_whole d) w := rfl
theorem MW2f (d : Nat) (w : zW) : F_X12_whole (d + 1) 2 w = b_X12_compared (F_X12_whole d) w := rfl
theorem MW3f (d : Nat) (w : zW) : F_X12_whole (d + 1) 3 w = b_X12_sum (F_X12_whole d) w := rfl
theorem MW4f (d : Nat) (w : zW) : F_X12_whole (d + 1) 4 w = b_X12_product (F_X12_whole d) w := rfl
theorem MW5f (d : Nat) (w : zW) : F_X12_whole (d + 1) 5 w = b_X12_one (F_X12_whole d) w := rfl
/-- a level's start and its loop, whichever it is -/
theorem Mlev_all {L : Nat → zW → Option (Int32 × zW)} {FF : zW → Option (Int32 × zW)} {G : Nat → pR} {r dep a : Nat} {o : pO} {w : zW} (ht : tok t z) (h2 : r ≠ 2) (hG : ∀ a, a ≤ z → pg z u a (G a)) (hS : ∀ m w a o, PM s z u w a dep o → ¬ (a < z ∧ rkN (t a) = r) → L (m + 1) w = some (nI 1, w)) (hL : ∀ m w a o, PM s z u w a dep o → a < z → rkN (t a) = r → L (m + 1) w = zb2 (FF (zupd w 128 4 (nI (a + 1)))) fun x w2 => if x = nI 0 then some (nI 0, w2) else zb (f_X12_lays (nI 3) (nI (t a)) w2) fun w3 => L m w3) (hF : ∀ a o w, PM s z u w a dep o → ∃ w1, FF w = some (bI (G a).1, w1) ∧ MOut s z u w dep o (G a) w1) (h : PM s z u w a dep o) : ∃ w1, (zb2 (FF w) fun x w1 => if x = nI 0 then some (nI 0, w1) else L zfuel w1) = some (bI (pthen (G a) (fun a1 o1 => padd o1 (pl t z r G 61 a1))).1, w1) ∧ MOut s z u w dep o (pthen (G a) (fun a1 o1 => padd o1 (pl t z r G 61 a1))) w1 := by
  have z60 := ht.1
  obtain ⟨w1, x1, x2, x3, x4⟩ := hF a o w h
  have pgA := hG a h.2.2.2.2.2.2.1
  rw [x1, zb2_s]
  unfold pthen
  by_cases ok : (G a).1 = true
  · obtain ⟨g1, g2, g3, g4⟩ := pgA.1 ok
    obtain ⟨w2, y1, y2⟩ := Mlev_loop ht h2 hG hS hL hF 61 zfuel _ _ w1 (by omega) (by unfold zfuel; omega) (x3 ok)
    rw [ok, show bI true = nI 1 from rfl, if_neg (by decide), if_pos rfl]
    refine ⟨w2, y1, MQf.trans x2 y2.1, fun c => ?_, fun c => y2.2.2 c⟩
    have := y2.2.1 c
    rw [List.append_assoc] at this
    exact this
  · have nok : (G a).1 = false := by simpa using ok
    rw [nok, show bI false = nI 0 from rfl, if_pos rfl, if_neg (by decide)]
    exact ⟨w1, rfl, x2, fun q => absurd q (by simp), fun _ => x4 nok⟩
end PMs
