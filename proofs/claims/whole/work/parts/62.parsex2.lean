section XL
variable {t : Nat → Nat} {z u : Nat}
def XOut (t : Nat → Nat) (z u : Nat) (w : zW) (o : pO) (p : pR) (w1 : zW) : Prop := PF w w1 ∧ (p.1 = true → PX t z u w1 p.2.1 (o ++ p.2.2)) ∧ (p.1 = false → PD z w1 p.2.1)
theorem XOut.pre {w w0 w1 : zW} {o : pO} {p : pR} (h : XOut t z u w o p w1) (f : PF w0 w) : XOut t z u w0 o p w1 := ⟨PF.trans f h.1, h.2⟩
theorem FL0 (d : Nat) (a b : Int32) (w : zW) : F_X2_level (d + 1) 0 a b w = b_X2_level (F_X2_level d) a b w := rfl
theorem FL1 (d : Nat) (a b : Int32) (w : zW) : F_X2_level (d + 1) 1 a b w = b_X2_operand (F_X2_level d) a w := rfl
theorem mI_nI {r : Nat} (hr : r < 2 ^ 31) : ¬ mI 1 = nI r := fun e => by
  have := congrArg Int32.toInt e
  rw [tnI hr, tmI (by decide)] at this
  omega
theorem rk_eq {b r : Nat} (hr : r < 5) : ((if rkN b < 9 then nI (rkN b) else mI 1) = nI r) ↔ rkN b = r := by
  by_cases c : rkN b < 9
  · rw [if_pos c, eq_nI _ (by omega), tnI (by omega)]
    omega
  · rw [if_neg c]
    exact ⟨fun e => absurd e (mI_nI (by omega)), fun e => by omega⟩
/-- the loop of a level whose first part has failed -/
theorem Xlev_dead {F : Nat → Int32 → Int32 → zW → Option zW} {r M i a m : Nat} {dp : Int32} {w : zW} (hz : z ≤ 60) (hr : r < 5) (h : PD z w a) : l_X2_level_34 F (fun w11 => some w11) (m + 1) (nI r) dp (nI M) (nI i) w = some w := by
  rw [l_X2_level_34.eq_2, Xnext_dead hz h, zb_s, dig_m.2, zb_s, if_neg (mI_nI (by omega))]
  split <;> rfl
theorem Xlev_loop {F : Nat → Int32 → Int32 → zW → Option zW} {G : Nat → pR} {r dep : Nat} (ht : tok t z) (hr : r < 5) (h2 : r ≠ 2) (hG : ∀ a, a ≤ z → pg z u a (G a)) (hF : ∀ a o w, PX t z u w a o → ∃ w1, F 0 (nI (r + 1)) (nI dep) w = some w1 ∧ XOut t z u w o (G a) w1) : ∀ (n m i a : Nat) (o : pO) (w : zW), z - a < n → n ≤ m → i < a → PX t z u w a o → ∃ w1, l_X2_level_34 F (fun w11 => some w11) m (nI r) (nI dep) (nI 60) (nI i) w = some w1 ∧ XOut t z u w o (pl t z r G n a) w1 := by
  have z60 := ht.1
  intro n
  induction n with
  | zero => intro m i a o w h; omega
  | succ n ih =>
    intro m i a o w hn hm hi h
    have az := h.2.2.2.2.2.2.2.1
    have ol := h.2.2.2.2.2.2.2.2
    cases m with
    | zero => omega
    | succ m =>
      rw [l_X2_level_34.eq_2, if_pos (by rw [lt_nI _ (by decide), tnI (by omega)]; omega), Xnext_at ht h, zb_s, pl]
      by_cases c : a < z
      · have b256 := ht.2 a c
        rw [if_pos c, rank_k _ b256, zb_s]
        by_cases e : rkN (t a) = r
        · obtain ⟨p1, p2⟩ := h.inc c
          obtain ⟨w2, x1, x2, x3, x4⟩ := hF (a + 1) o _ p1
          have pgG := hG (a + 1) c
          rw [if_pos ((rk_eq hr).mpr e), zb_s, h.2.1, nI_add, zlet_e, nI_add, x1, zb_s, if_pos ⟨c, e⟩]
          unfold pthen
          by_cases ok : (G (a + 1)).1 = true
          · obtain ⟨g1, g2, g3, g4⟩ := pgG.1 ok
            obtain ⟨w3, y1, y2, y3⟩ := Xemit_at (x := (3, t a)) z60 (x3 ok) (by rw [List.length_append]; omega)
            obtain ⟨w4, v1, v2⟩ := ih m (i + 1) _ _ w3 (by omega) (by omega) (by omega) y3
            refine ⟨w4, ?_, ?_⟩
            · rw [show -(nI (t a)) = sgO (3, t a) from rfl, y1, zb_s, nI_add, zlet_e]
              exact v1
            · rw [if_pos ok]
              dsimp only
              rw [if_neg h2]
              have v3 := v2.pre (PF.trans (PF.trans p2 x2) y2)
              refine ⟨v3.1, fun q => ?_, fun q => v3.2.2 q⟩
              have := v3.2.1 q
              unfold padd
              rw [List.append_assoc, List.append_assoc] at this
              show PX t z u w4 _ (o ++ ((G (a + 1)).2.2 ++ [(3, t a)] ++ (pl t z r G n (G (a + 1)).2.1).2.2))
              rw [List.append_assoc]
              exact this
          · have nok : (G (a + 1)).1 = false := by simpa using ok
            obtain ⟨w3, y1, y2, y3⟩ := Xemit_dead (-(nI (t a))) (x4 nok)
            refine ⟨w3, ?_, ?_⟩
            · rw [y1, zb_s, nI_add, zlet_e]
              cases m with
              | zero => omega
              | succ m => exact Xlev_dead z60 hr y3
            · rw [if_neg ok]
              exact ⟨PF.trans (PF.trans p2 x2) y2, fun q => absurd q (by simp), fun _ => y3⟩
        · rw [if_neg (fun q => e ((rk_eq hr).mp q)), if_neg (fun q => e q.2)]
          refine ⟨w, rfl, PF.refl w, fun _ => ?_, fun q => absurd q (by simp)⟩
          rw [List.append_nil]
          exact h
      · rw [if_neg c, dig_m.2, zb_s, if_neg (mI_nI (by omega)), if_neg (fun q => c q.1)]
        refine ⟨w, rfl, PF.refl w, fun _ => ?_, fun q => absurd q (by simp)⟩
        rw [List.append_nil]
        exact h
theorem Xlev_two {F : Nat → Int32 → Int32 → zW → Option zW} {G : Nat → pR} {dep n m a : Nat} {o : pO} {w : zW} (ht : tok t z) (hG : ∀ a, a ≤ z → pg z u a (G a)) (hF : ∀ a o w, PX t z u w a o → ∃ w1, F 0 (nI (2 + 1)) (nI dep) w = some w1 ∧ XOut t z u w o (G a) w1) (h : PX t z u w a o) : ∃ w1, l_X2_level_34 F (fun w11 => some w11) (m + 2) (nI 2) (nI dep) (nI 1) (nI 0) w = some w1 ∧ XOut t z u w o (pl t z 2 G (n + 1) a) w1 := by
  have z60 := ht.1
  have az := h.2.2.2.2.2.2.2.1
  have ol := h.2.2.2.2.2.2.2.2
  rw [l_X2_level_34.eq_2, if_pos (by decide), Xnext_at ht h, zb_s, pl]
  by_cases c : a < z
  · have b256 := ht.2 a c
    rw [if_pos c, rank_k _ b256, zb_s]
    by_cases e : rkN (t a) = 2
    · obtain ⟨p1, p2⟩ := h.inc c
      obtain ⟨w2, x1, x2, x3, x4⟩ := hF (a + 1) o _ p1
      have pgG := hG (a + 1) c
      rw [if_pos ((rk_eq (by decide)).mpr e), zb_s, h.2.1, nI_add, zlet_e, nI_add, x1, zb_s, if_pos ⟨c, e⟩]
      unfold pthen
      by_cases ok : (G (a + 1)).1 = true
      · obtain ⟨g1, g2, g3, g4⟩ := pgG.1 ok
        obtain ⟨w3, y1, y2, y3⟩ := Xemit_at (x := (3, t a)) z60 (x3 ok) (by rw [List.length_append]; omega)
        refine ⟨w3, ?_, ?_⟩
        · rw [show -(nI (t a)) = sgO (3, t a) from rfl, y1, zb_s, nI_add, zlet_e, l_X2_level_34.eq_2, if_neg (by decide)]
        · rw [if_pos ok]
          dsimp only
          rw [if_pos rfl]
          refine ⟨PF.trans (PF.trans p2 x2) y2, fun q => ?_, fun q => absurd q (by simp)⟩
          rw [List.append_assoc] at y3
          exact y3
      · have nok : (G (a + 1)).1 = false := by simpa using ok
        obtain ⟨w3, y1, y2, y3⟩ := Xemit_dead (-(nI (t a))) (x4 nok)
        refine ⟨w3, ?_, ?_⟩
        · rw [y1, zb_s, nI_add, zlet_e]
          exact Xlev_dead z60 (by decide) y3
        · rw [if_neg ok]
          exact ⟨PF.trans (PF.trans p2 x2) y2, fun q => absurd q (by simp), fun _ => y3⟩
    · rw [if_neg (fun q => e ((rk_eq (by decide)).mp q)), if_neg (fun q => e q.2)]
      refine ⟨w, rfl, PF.refl w, fun _ => ?_, fun q => absurd q (by simp)⟩
      rw [List.append_nil]
      exact h
  · rw [if_neg c, dig_m.2, zb_s, if_neg (mI_nI (by decide)), if_neg (fun q => c q.1)]
    refine ⟨w, rfl, PF.refl w, fun _ => ?_, fun q => absurd q (by simp)⟩
    rw [List.append_nil]
    exact h
def need (r dep : Nat) : Nat := 8 * (5 - dep) + (7 - r)
def XLev (t : Nat → Nat) (z u d : Nat) : Prop := ∀ (r dep a : Nat) (o : pO) (w : zW), r ≤ 5 → dep ≤ 5 → need r dep ≤ d → PX t z u w a o → ∃ w1, F_X2_level d 0 (nI r) (nI dep) w = some w1 ∧ XOut t z u w o (ps t z u d r dep a) w1
def XOp (t : Nat → Nat) (z u d : Nat) : Prop := ∀ (dep a : Nat) (o : pO) (w : zW), dep ≤ 5 → need 6 dep ≤ d → PX t z u w a o → ∃ w1, F_X2_level d 1 (nI dep) (nI 0) w = some w1 ∧ XOut t z u w o (ps t z u d 6 dep a) w1
theorem XLev_ok {d : Nat} (ht : tok t z) (hu : u < 2) (h1 : XLev t z u d) (h2 : XOp t z u d) : XLev t z u (d + 1) := by
  intro r dep a o w hr hd hn h
  have z60 := ht.1
  rw [FL0, b_X2_level, ps]
  by_cases r5 : r < 5
  · obtain ⟨w1, x1, x2, x3, x4⟩ := h1 (r + 1) dep a o w (by omega) hd (by unfold need at hn ⊢; omega) h
    have pgA := ps_ok (t := t) (z := z) hu d (r + 1) dep a h.2.2.2.2.2.2.2.1
    rw [if_pos (by rw [lt_nI _ (by decide), tnI (by omega)]; omega), nI_add, x1, zb_s, if_pos r5]
    unfold pthen
    by_cases ok : (ps t z u d (r + 1) dep a).1 = true
    · obtain ⟨g1, g2, g3, g4⟩ := pgA.1 ok
      rw [if_pos ok]
      have fin : ∀ q w2, XOut t z u w1 (o ++ (ps t z u d (r + 1) dep a).2.2) q w2 → XOut t z u w o (padd (ps t z u d (r + 1) dep a).2.2 q) w2 := fun q w2 hq => by
        refine ⟨PF.trans x2 hq.1, fun c => ?_, fun c => hq.2.2 c⟩
        have := hq.2.1 c
        rw [List.append_assoc] at this
        exact this
      by_cases r2 : r = 2
      · subst r2
        obtain ⟨w2, y1, y2⟩ := Xlev_two (m := 999998) (n := 60) (F := F_X2_level d) (G := fun x => ps t z u d (2 + 1) dep x) (dep := dep) ht (fun x hx => ps_ok hu d _ _ _ hx) (fun x o' w' hw => h1 3 dep x o' w' (by decide) hd (by unfold need at hn ⊢; omega) hw) (x3 ok)
        refine ⟨w2, ?_, fin _ _ y2⟩
        rw [if_pos rfl, j_X2_level_30]
        exact y1
      · obtain ⟨w2, y1, y2⟩ := Xlev_loop (F := F_X2_level d) (G := fun x => ps t z u d (r + 1) dep x) (dep := dep) ht r5 r2 (fun x hx => ps_ok hu d _ _ _ hx) (fun x o' w' hw => h1 (r + 1) dep x o' w' (by omega) hd (by unfold need at hn ⊢; omega) hw) 61 zfuel 0 _ _ w1 (by omega) (by unfold zfuel; omega) (by omega) (x3 ok)
        refine ⟨w2, ?_, fin _ _ y2⟩
        rw [if_neg (by rw [eq_nI _ (by decide), tnI (by omega)]; omega), j_X2_level_30]
        exact y1
    · have nok : (ps t z u d (r + 1) dep a).1 = false := by simpa using ok
      rw [if_neg ok]
      refine ⟨w1, ?_, x2, fun q => absurd q (by simp), fun _ => x4 nok⟩
      rw [j_X2_level_30, j_X2_level_30, show zfuel = 999999 + 1 from rfl, Xlev_dead z60 r5 (x4 nok), Xlev_dead z60 r5 (x4 nok)]
      split <;> rfl
  · have r6 : r = 5 := by omega
    subst r6
    obtain ⟨w1, x1, x2⟩ := h2 dep a o w hd (by unfold need at hn ⊢; omega) h
    rw [if_neg (by decide), x1, zb_s, if_neg r5, if_pos rfl]
    exact ⟨w1, rfl, x2⟩
theorem m1_sub {i : Nat} (hi : i < 100) : mI 1 - nI i = mI (1 + i) := by
  apply Int32.toInt_inj.mp
  rw [tsub (by rw [tmI (by decide), tnI (by omega)]; omega) (by rw [tmI (by decide), tnI (by omega)]; omega), tmI (by decide), tnI (by omega), tmI (by omega)]
  omega
theorem Xclose_dead {w : zW} {a : Nat} (hz : z ≤ 60) (h : PD z w a) : f_X2_close w = some w := by
  rw [f_X2_close, Xnext_dead hz h, zb_s, if_neg (mI_nI (by decide)), Xfail_dead hz h, zb_s]
theorem XOp_ok {d : Nat} (ht : tok t z) (hu : u < 2) (h1 : XLev t z u d) (h2 : XOp t z u d) : XOp t z u (d + 1) := by
  intro dep a o w hd hn h
  have z60 := ht.1
  have az := h.2.2.2.2.2.2.2.1
  have ol := h.2.2.2.2.2.2.2.2
  have pgA := ps_ok (t := t) (z := z) hu (d + 1) 6 dep a az
  rw [FL1, b_X2_operand, Xnext_at ht h, zb_s]
  rw [ps, if_neg (show ¬ (6 : Nat) < 5 by decide), if_neg (show ¬ (6 : Nat) = 5 by decide)] at pgA ⊢
  have fail : ∃ w1, j_X2_operand_136 (F_X2_level d) w = some w1 ∧ XOut t z u w o (false, a, []) w1 := by
    obtain ⟨w1, x1, x2, x3⟩ := Xfail_at z60 h
    refine ⟨w1, ?_, x2, fun q => absurd q (by simp), fun _ => x3⟩
    rw [j_X2_operand_136, x1, zb_s]
  by_cases c : a < z
  · have b256 := ht.2 a c
    rw [if_pos c] at pgA ⊢
    rw [if_pos c, dig_k _ b256, zb_s]
    by_cases dc : 48 ≤ t a ∧ t a ≤ 57
    · rw [if_pos dc] at pgA ⊢
      rw [if_pos dc, if_neg (by decide)]
      obtain ⟨g1, g2, g3, g4⟩ := pgA.1 rfl
      obtain ⟨w1, x1, x2, x3⟩ := Xnum_loop ht 4 zfuel a 0 o w h (by decide) (by decide) (by unfold zfuel; omega)
      obtain ⟨w2, y1, y2, y3⟩ := Xemit_at (x := (0, (dg t z 4 a 0).2)) z60 x3 (by
        have : a + 1 ≤ (dg t z 4 a 0).1 := g3
        omega)
      refine ⟨w2, ?_, PF.trans x2 y2, fun _ => y3, fun q => absurd q (by simp)⟩
      rw [f_X2_number, show l_X2_number_4 (fun k48_a1 w11 => j_X2_number_48 k48_a1 w11) zfuel (nI 0) (nI 0) w = _ from x1, j_X2_number_48, show nI (dg t z 4 a 0).2 = sgO (0, (dg t z 4 a 0).2) from rfl, y1, zb_s, zb_s]
    · rw [if_neg dc]
      rw [if_neg dc, if_pos rfl, if_neg (by rw [lt_nI _ (by decide), tnI (by omega)]; omega), (byte_k _ b256).1, h.2.2.2.2.1, idx_ok hu b256, zb_s]
      by_cases nc : nmN u (t a) < 9
      · obtain ⟨p1, p2⟩ := h.inc c
        obtain ⟨w2, y1, y2, y3⟩ := Xemit_at (x := (1, nmN u (t a))) z60 p1 (by omega)
        rw [if_pos nc, if_neg (by rw [lt_nI _ (by decide), tnI (by omega)]; omega), if_pos nc]
        refine ⟨w2, ?_, PF.trans p2 y2, fun _ => y3, fun q => absurd q (by simp)⟩
        rw [h.2.1, nI_add, zlet_e, p1.2.2.2.2.1, idx_ok hu b256, zb_s, if_pos nc, m1_sub (by omega), show mI (1 + nmN u (t a)) = sgO (1, nmN u (t a)) from rfl, y1, zb_s]
      · rw [if_neg nc, if_pos (by decide), if_neg nc, j_X2_operand_63]
        by_cases c3 : t a = 33
        · rw [if_pos (by rw [c3])]
          by_cases d5 : dep < 5
          · obtain ⟨p1, p2⟩ := h.inc c
            obtain ⟨w1, x1, x2, x3, x4⟩ := h2 (dep + 1) (a + 1) o _ (by omega) (by unfold need at hn ⊢; omega) p1
            have pgB := ps_ok (t := t) (z := z) hu d 6 (dep + 1) (a + 1) c
            rw [if_pos (by rw [lt_nI _ (by decide), tnI (by omega)]; omega), if_pos ⟨c3, d5⟩, h.2.1, nI_add, zlet_e, nI_add, x1, zb_s]
            unfold pthen
            by_cases ok : (ps t z u d 6 (dep + 1) (a + 1)).1 = true
            · obtain ⟨g1, g2, g3, g4⟩ := pgB.1 ok
              obtain ⟨w2, y1, y2, y3⟩ := Xemit_at (x := (2, 0)) z60 (x3 ok) (by rw [List.length_append]; omega)
              refine ⟨w2, ?_, ?_⟩
              · rw [show mI 33 = sgO (2, 0) from rfl, y1, zb_s]
              · rw [if_pos ok]
                rw [List.append_assoc] at y3
                exact ⟨PF.trans (PF.trans p2 x2) y2, fun _ => y3, fun q => absurd q (by simp)⟩
            · have nok : (ps t z u d 6 (dep + 1) (a + 1)).1 = false := by simpa using ok
              obtain ⟨w2, y1, y2, y3⟩ := Xemit_dead (mI 33) (x4 nok)
              refine ⟨w2, ?_, ?_⟩
              · rw [y1, zb_s]
              · rw [if_neg ok]
                exact ⟨PF.trans (PF.trans p2 x2) y2, fun q => absurd q (by simp), fun _ => y3⟩
          · rw [if_neg (by rw [lt_nI _ (by decide), tnI (by omega)]; omega), if_neg (fun q => d5 q.2), if_neg (fun q => d5 q.2), j_X2_operand_100, if_neg (by rw [c3]; decide)]
            exact fail
        · rw [if_neg (by rw [eq_nI _ (by decide), tnI (by omega)]; omega), if_neg (fun q => c3 q.1), j_X2_operand_100]
          by_cases c4 : t a = 40
          · rw [if_pos (by rw [c4])]
            by_cases d5 : dep < 5
            · obtain ⟨p1, p2⟩ := h.inc c
              obtain ⟨w1, x1, x2, x3, x4⟩ := h1 0 (dep + 1) (a + 1) o _ (by omega) (by omega) (by unfold need at hn ⊢; omega) p1
              have pgB := ps_ok (t := t) (z := z) hu d 0 (dep + 1) (a + 1) c
              rw [if_pos (by rw [lt_nI _ (by decide), tnI (by omega)]; omega), if_pos ⟨c4, d5⟩, h.2.1, nI_add, zlet_e, nI_add, x1, zb_s]
              unfold pthen
              by_cases ok : (ps t z u d 0 (dep + 1) (a + 1)).1 = true
              · obtain ⟨g1, g2, g3, g4⟩ := pgB.1 ok
                have px := x3 ok
                rw [if_pos ok, f_X2_close, Xnext_at ht px, zb_s]
                dsimp only
                by_cases c5 : (ps t z u d 0 (dep + 1) (a + 1)).2.1 < z ∧ t (ps t z u d 0 (dep + 1) (a + 1)).2.1 = 41
                · obtain ⟨r1, r2⟩ := px.inc c5.1
                  rw [if_pos c5.1, if_pos (by rw [c5.2]), if_pos c5, px.2.1, nI_add, zlet_e, zb_s]
                  exact ⟨_, rfl, PF.trans (PF.trans p2 x2) r2, fun _ => r1, fun q => absurd q (by simp)⟩
                · obtain ⟨w2, y1, y2, y3⟩ := Xfail_at z60 px
                  have ne : ¬ (if (ps t z u d 0 (dep + 1) (a + 1)).2.1 < z then nI (t (ps t z u d 0 (dep + 1) (a + 1)).2.1) else mI 1) = nI 41 := by
                    by_cases c6 : (ps t z u d 0 (dep + 1) (a + 1)).2.1 < z
                    · have := ht.2 _ c6
                      rw [if_pos c6, eq_nI _ (by decide), tnI (by omega)]
                      exact fun q => c5 ⟨c6, by omega⟩
                    · rw [if_neg c6]
                      exact mI_nI (by decide)
                  rw [if_neg ne, if_neg c5, y1, zb_s, zb_s]
                  exact ⟨w2, rfl, PF.trans (PF.trans p2 x2) y2, fun q => absurd q (by simp), fun _ => y3⟩
              · have nok : (ps t z u d 0 (dep + 1) (a + 1)).1 = false := by simpa using ok
                rw [if_neg ok, Xclose_dead z60 (x4 nok), zb_s]
                exact ⟨w1, rfl, PF.trans p2 x2, fun q => absurd q (by simp), fun _ => x4 nok⟩
            · rw [if_neg (by rw [lt_nI _ (by decide), tnI (by omega)]; omega), if_neg (fun q => d5 q.2)]
              exact fail
          · rw [if_neg (by rw [eq_nI _ (by decide), tnI (by omega)]; omega), if_neg (fun q => c4 q.1)]
            exact fail
  · rw [if_neg c]
    rw [if_neg c, dig_m.1, zb_s, if_pos rfl, if_pos (by decide), j_X2_operand_63, if_neg (mI_nI (by decide)), j_X2_operand_100, if_neg (mI_nI (by decide))]
    exact fail
theorem X_parse (ht : tok t z) (hu : u < 2) : ∀ d, XLev t z u d ∧ XOp t z u d
  | 0 => ⟨fun r dep a o w hr _ hn => by unfold need at hn; omega, fun dep a o w _ hn => by unfold need at hn; omega⟩
  | d + 1 => by
    obtain ⟨h1, h2⟩ := X_parse ht hu d
    exact ⟨XLev_ok ht hu h1 h2, XOp_ok ht hu h1 h2⟩
end XL
