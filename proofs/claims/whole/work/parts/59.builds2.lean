/-- the reference's row while the search goes on -/
def shh (s : Nat → Int32) (h : Nat → Int) : Nat → Int32 := fun p => if 267 ≤ p ∧ p ≤ 292 then iI (h (p - 266)) else s p
theorem shh_out {s : Nat → Int32} {h : Nat → Int} {p : Nat} (hp : p < 267 ∨ 292 < p) : shh s h p = s p := if_neg (by omega)
theorem shh_in {s : Nat → Int32} {h : Nat → Int} {l : Nat} (h1 : 1 ≤ l) (h2 : l ≤ 26) : shh s h (266 + l) = iI (h l) := by
  unfold shh
  rw [if_pos (by omega), show 266 + l - 266 = l by omega]
theorem shh_upd {s : Nat → Int32} {h h1 : Nat → Int} {l : Nat} (l1 : 1 ≤ l) (l2 : l ≤ 26) (he : ∀ p, p ≠ l → h1 p = h p) : upd (shh s h) (266 + l) (iI (h1 l)) = shh s h1 := funext fun p => by
  by_cases e : p = 266 + l
  · rw [e, upd_eq, shh_in l1 l2]
  · rw [upd_ne _ _ e]
    unfold shh
    by_cases i : 267 ≤ p ∧ p ≤ 292
    · rw [if_pos i, if_pos i, he (p - 266) (by omega)]
    · rw [if_neg i, if_neg i]
section BM
def Y9 (w w1 : zW) : Prop := ∀ c, c ≠ 129 → w1 c = w c
theorem Y9.SM9 {w w1 : zW} (h : Y9 w w1) : SM9 w w1 := ⟨fun c _ h9 _ _ => h c h9, by rw [h 128 (by decide)], by rw [h 128 (by decide)]⟩
theorem Mtake_loop {wx : zW} {s : Nat → Int32} {j : Nat} {h : Nat → Int} (hR : RT wx 1 s) (hj : j < wcn s) (hh : hok h) : ∀ (m k : Nat) (w : zW), w 129 = shh s (hs h s j k) → k ≤ wle s j → wle s j - k < m → ∃ w1, l_X12_takesLetters_4 (fun k66_a2 w11 => zguard (zbool k66_a2) (some (k66_a2, w11))) m (nI j) (bI (tkG s j h k)) (nI k) w = some (bI (tkG s j h (wle s j)), w1) ∧ Y9 w w1 ∧ w1 129 = shh s (hs h s j (wle s j)) := by
  obtain ⟨l1, l6, el⟩ := wle_ok hR hj
  have c12 := (wcn_ok hR).1
  intro m
  induction m with
  | zero => intro k w _ _ h; omega
  | succ m ih =>
    intro k w hw hk hm
    rw [l_X12_takesLetters_4.eq_2, lengthOf_k hw (by omega), shh_out (by omega), el, zb_s]
    by_cases e : k < wle s j
    · obtain ⟨t1, t2, t3⟩ := wlt_ok hR hj e
      have hl := hh _ t1 t2
      have cl := cnt_le s j k (ltn s j k)
      have cl1 := cnt_le s j (k + 1) (ltn s j k)
      have hv : hs h s j k (ltn s j k) - 1 = hs h s j (k + 1) (ltn s j k) := by
        unfold hs
        rw [cnt, if_pos rfl]
        omega
      have lk : ∀ g : Nat → Int, shh s g (172 + 8 * j + k) = nI (ltn s j k) := fun g => by
        rw [shh_out (by omega)]
        exact t3
      obtain ⟨W, hW⟩ : ∃ W, W = zupd w 129 (266 + ltn s j k) (iI (hs h s j (k + 1) (ltn s j k))) := ⟨_, rfl⟩
      have y9 : Y9 w W := fun c hc => by rw [hW, zupd_ne _ _ _ hc]
      have hW9 : W 129 = shh s (hs h s j (k + 1)) := by
        rw [hW, zupd_eq, hw, shh_upd t1 t2 (fun p hp => by
          unfold hs
          rw [cnt, if_neg (fun a => hp a.symm), Nat.add_zero])]
      obtain ⟨w1, x1, x2, x3⟩ := ih (k + 1) W hW9 (by omega) (by omega)
      refine ⟨w1, ?_, fun c hc => (x2 c hc).trans (y9 c hc), x3⟩
      rw [if_pos (by rw [lt_nI _ (by omega), tnI (by omega)]; omega), letterOf_k hw (by omega) (by omega), zb_s, lk, nI_add, zld_k _ _ _ _ _ (by omega) (by decide), hw, shh_in t1 t2, iI_dec, hv, zsto_k _ _ _ _ _ _ (by omega) (by decide), ← hW]
      rw [tkG] at x1
      by_cases g : tkG s j h k = true
      · rw [g, Bool.true_and] at x1
        rw [g, show bI true = nI 1 from rfl, if_neg (by decide), letterOf_k hW9 (by omega) (by omega), zb_s, lk, nI_add, zld_k _ _ _ _ _ (by omega) (by decide), hW9, shh_in t1 t2]
        have rng : -1000 ≤ hs h s j (k + 1) (ltn s j k) ∧ hs h s j (k + 1) (ltn s j k) ≤ 1000 := by
          unfold hs
          omega
        by_cases z : hs h s j (k + 1) (ltn s j k) < 0
        · rw [decide_eq_false (by omega)] at x1
          rw [if_pos ((iI_lt rng.1 rng.2).mpr z), j_X12_takesLetters_58, j_X12_takesLetters_59, nI_add, zlet_e]
          exact x1
        · rw [decide_eq_true (by omega)] at x1
          rw [if_neg (fun a => z ((iI_lt rng.1 rng.2).mp a)), j_X12_takesLetters_59, nI_add, zlet_e]
          exact x1
      · have g0 : tkG s j h k = false := by simpa using g
        rw [g0, Bool.false_and] at x1
        rw [g0, show bI false = nI 0 from rfl, if_pos rfl, j_X12_takesLetters_58, j_X12_takesLetters_59, nI_add, zlet_e]
        exact x1
    · have : k = wle s j := by omega
      subst this
      rw [if_neg (by rw [lt_nI _ (by omega), tnI (by omega)]; omega), bI_bool, zg_t]
      exact ⟨w, rfl, fun _ _ => rfl, hw⟩
theorem Mgive_loop {wx : zW} {s : Nat → Int32} {j : Nat} {h : Nat → Int} (hR : RT wx 1 s) (hj : j < wcn s) : ∀ (m k : Nat) (w : zW), w 129 = shh s (hgv h s j k) → k ≤ wle s j → wle s j - k < m → ∃ w1, l_X12_givesLetters_2 (fun w11 => some w11) m (nI j) (nI k) w = some w1 ∧ Y9 w w1 ∧ w1 129 = shh s h := by
  obtain ⟨l1, l6, el⟩ := wle_ok hR hj
  have c12 := (wcn_ok hR).1
  intro m
  induction m with
  | zero => intro k w _ _ h; omega
  | succ m ih =>
    intro k w hw hk hm
    rw [l_X12_givesLetters_2.eq_2, lengthOf_k hw (by omega), shh_out (by omega), el, zb_s]
    by_cases e : k < wle s j
    · obtain ⟨t1, t2, t3⟩ := wlt_ok hR hj e
      have hv : hgv h s j k (ltn s j k) + 1 = hgv h s j (k + 1) (ltn s j k) := by
        unfold hgv
        rw [cnt, if_pos rfl]
        omega
      have lk : ∀ g : Nat → Int, shh s g (172 + 8 * j + k) = nI (ltn s j k) := fun g => by
        rw [shh_out (by omega)]
        exact t3
      obtain ⟨W, hW⟩ : ∃ W, W = zupd w 129 (266 + ltn s j k) (iI (hgv h s j (k + 1) (ltn s j k))) := ⟨_, rfl⟩
      have y9 : Y9 w W := fun c hc => by rw [hW, zupd_ne _ _ _ hc]
      have hW9 : W 129 = shh s (hgv h s j (k + 1)) := by
        rw [hW, zupd_eq, hw, shh_upd t1 t2 (fun p hp => by
          unfold hgv
          rw [cnt, if_neg (fun a => hp a.symm), Nat.add_zero])]
      obtain ⟨w1, x1, x2, x3⟩ := ih (k + 1) W hW9 (by omega) (by omega)
      refine ⟨w1, ?_, fun c hc => (x2 c hc).trans (y9 c hc), x3⟩
      rw [if_pos (by rw [lt_nI _ (by omega), tnI (by omega)]; omega), letterOf_k hw (by omega) (by omega), zb_s, lk, nI_add, zld_k _ _ _ _ _ (by omega) (by decide), hw, shh_in t1 t2, iI_inc, hv, zsto_k _ _ _ _ _ _ (by omega) (by decide), ← hW, nI_add, zlet_e]
      exact x1
    · have : k = wle s j := by omega
      subst this
      rw [hgv_end] at hw
      rw [if_neg (by rw [lt_nI _ (by omega), tnI (by omega)]; omega)]
      exact ⟨w, rfl, fun _ _ => rfl, hw⟩
def MAc (w : zW) (a : bA) : Prop := w 128 17 = nI a.1 ∧ w 128 18 = nI a.2.1 ∧ (a.2.2 < 8 → w 128 19 = nI a.2.2 ∧ 0 < a.2.1 ∧ a.2.1 < 2 ^ 31) ∧ (a.2.2 = 8 → a.2.1 = 0) ∧ a.2.2 ≤ 8
def MPre (s : Nat → Int32) (w : zW) (h : Nat → Int) (a : bA) : Prop := w 129 = shh s h ∧ MAc w a
theorem MPre.y9 {s : Nat → Int32} {w w1 : zW} {h h1 : Nat → Int} {a : bA} (hp : MPre s w h a) (y : Y9 w w1) (hX : w1 129 = shh s h1) : MPre s w1 h1 a := by
  refine ⟨hX, ?_⟩
  have := hp.2
  unfold MAc at this ⊢
  rw [y 128 (by decide)]
  exact this
def MCall (F : Nat → Int32 → Int32 → Int32 → Int32 → zW → Option zW) (s : Nat → Int32) (k : Nat) (G : Nat → Nat → Nat → (Nat → Int) → bA → bA) (n : Nat) : Prop := ∀ (q dig : Nat) (h : Nat → Int) (a : bA) (w : zW), q < 5 → dig < 16 ^ n → (q = 4 → 0 < dig) → hok h → MPre s w h a → ∃ w1, F 0 (nI k) (nI n) (nI q) (nI dig) w = some w1 ∧ SM9 w w1 ∧ MPre s w1 h (G q n dig h a)
theorem Mext_loop {F : Nat → Int32 → Int32 → Int32 → Int32 → zW → Option zW} {wx : zW} {s : Nat → Int32} {k n q dig : Nat} {G : Nat → Nat → Nat → (Nat → Int) → bA → bA} {h : Nat → Int} {a : bA} (hR : RT wx 1 s) (hk : k ≤ 7) (hn : n < k) (hF : MCall F s k G (n + 1)) (hq : q < 5) (hd : dig < 16 ^ n) (hh : hok h) : ∀ (m j : Nat) (w : zW), MPre s w h (bst s G q n dig h a j) → j ≤ wcn s → wcn s - j < m → ∃ w1, l_X12_builds1_44 F (fun w11 => some w11) m (nI k) (nI n) (nI q) (nI dig) (nI j) w = some w1 ∧ SM9 w w1 ∧ MPre s w1 h (bst s G q n dig h a (wcn s)) := by
  have c12 := wcn_ok hR
  intro m
  induction m with
  | zero => intro j w _ _ h; omega
  | succ m ih =>
    intro j w hp hj hm
    rw [l_X12_builds1_44.eq_2, hp.1, shh_out (by omega), c12.2]
    by_cases e : j < wcn s
    · obtain ⟨s5, es⟩ := wso_ok hR e
      obtain ⟨l1, l6, el⟩ := wle_ok hR e
      rw [if_pos (by rw [lt_nI _ (by omega), tnI (by omega)]; omega), if_pos (by rw [lt_nI _ (by omega), tnI (by omega)]; omega), sortOf_k hp.1 (by omega), shh_out (by omega), es, zb_s, behind_k q hq _ s5, zb_s]
      by_cases eb : bhd q (wso s j) = true
      · have a5 := (aft_k _ s5).2
        rw [if_pos eb, if_neg (nI_nm (by omega))]
        obtain ⟨wa, x1, x2, x3⟩ := Mtake_loop hR e hh zfuel 0 w (by rw [hp.1]; congr 1; exact funext fun p => by unfold hs cnt; omega) (by omega) (by unfold zfuel; omega)
        have hpa := hp.y9 x2 x3
        rw [f_X12_takesLetters, show l_X12_takesLetters_4 (fun k66_a2 w11 => zguard (zbool k66_a2) (some (k66_a2, w11))) zfuel (nI j) (nI 1) (nI 0) w = some (bI (tkG s j h (wle s j)), wa) from x1, zb2_s]
        have give : ∀ (b : bA) (w2 : zW), MPre s w2 (hs h s j (wle s j)) b → b = bst s G q n dig h a (j + 1) → SM9 w w2 → ∃ w1, j_X12_builds1_107 F (l_X12_builds1_44 F (fun w11 => some w11) m) (fun w11 => some w11) (nI k) (nI n) (nI q) (nI dig) (nI j) w2 = some w1 ∧ SM9 w w1 ∧ MPre s w1 h (bst s G q n dig h a (wcn s)) := fun b w2 hb eb bw => by
          obtain ⟨wb, y1, y2, y3⟩ := Mgive_loop (h := h) hR e zfuel 0 w2 (by rw [hgv_0]; exact hb.1) (by omega) (by unfold zfuel; omega)
          obtain ⟨w1, z1, z2, z3⟩ := ih (j + 1) wb (by rw [← eb]; exact hb.y9 y2 y3) (by omega) (by omega)
          refine ⟨w1, ?_, SM9.trans bw (SM9.trans (Y9.SM9 y2) z2), z3⟩
          rw [j_X12_builds1_107, f_X12_givesLetters, y1, zb_s, nI_add, zlet_e]
          exact z1
        by_cases g : tkG s j h (wle s j) = true
        · obtain ⟨wb, y1, y2, y3⟩ := hF (aft (wso s j)) (16 * dig + j + 1) (hs h s j (wle s j)) _ wa a5 (by rw [Nat.pow_succ]; omega) (fun _ => by omega) (fun p pa pb => by
            have := hh p pa pb
            have := tkG_pos (s := s) (j := j) (h := h) (p := p) (by omega) (wle s j) g
            refine ⟨this, ?_⟩
            unfold hs
            omega) hpa
          have st : G (aft (wso s j)) (n + 1) (16 * dig + j + 1) (hs h s j (wle s j)) (bst s G q n dig h a j) = bst s G q n dig h a (j + 1) := by
            rw [bst, if_pos ⟨eb, g⟩]
          obtain ⟨w1, z1, z2, z3⟩ := give _ wb y3 st (SM9.trans (Y9.SM9 x2) y2)
          refine ⟨w1, ?_, z2, z3⟩
          rw [g, show bI true = nI 1 from rfl, if_neg (by decide), pk_mul, nI_add, nI_add, nI_add, y1, zb_s]
          exact z1
        · have g0 : tkG s j h (wle s j) = false := by simpa using g
          obtain ⟨w1, z1, z2, z3⟩ := give _ wa hpa (by rw [bst, if_neg (fun b => g b.2)]) (Y9.SM9 x2)
          refine ⟨w1, ?_, z2, z3⟩
          rw [g0, show bI false = nI 0 from rfl, if_pos rfl]
          exact z1
      · rw [if_neg eb, if_pos rfl, nI_add, zlet_e]
        exact ih (j + 1) w (by rw [bst, if_neg (fun b => eb b.1)]; exact hp) (by omega) (by omega)
    · have : j = wcn s := by omega
      subst this
      rw [if_neg (by rw [lt_nI _ (by omega), tnI (by omega)]; omega)]
      exact ⟨w, rfl, SM9.refl w, hp⟩
theorem MX0e (d : Nat) (a b c e : Int32) (w : zW) : F_X12_builds1 (d + 1) 0 a b c e w = b_X12_builds1 (F_X12_builds1 d) a b c e w := rfl
theorem Mext_ok {wx : zW} {s : Nat → Int32} {k : Nat} (hR : RT wx 1 s) (hk : k ≤ 7) : ∀ (d n : Nat), n ≤ k → k - n < d → MCall (F_X12_builds1 d) s k (bx s k d) n := by
  have c12 := wcn_ok hR
  intro d
  induction d with
  | zero => intro n _ h; omega
  | succ d ih =>
    intro n hn hd q dig h a w hq hdg hpos hh hp
    rw [MX0e, b_X12_builds1]
    have p16 : (16 : Nat) ^ n ≤ 16 ^ 7 := Nat.pow_le_pow_right (by decide) (by omega)
    have e16 : (16 : Nat) ^ 7 = 268435456 := by decide
    have go : ∀ (w2 : zW) (b : bA), MPre s w2 h b → b = (if q = 4 then nt a n dig else a) → SM9 w w2 → ∃ w1, j_X12_builds1_41 (F_X12_builds1 d) (nI k) (nI n) (nI q) (nI dig) w2 = some w1 ∧ SM9 w w1 ∧ MPre s w1 h (bx s k (d + 1) q n dig h a) := fun w2 b hb eb bw => by
      rw [j_X12_builds1_41, bx, ← eb]
      by_cases e : n < k
      · obtain ⟨w1, x1, x2, x3⟩ := Mext_loop (a := b) hR hk e (ih (n + 1) (by omega) (by omega)) hq hdg hh zfuel 0 w2 hb (by omega) (by unfold zfuel; omega)
        rw [if_pos e]
        exact ⟨w1, x1, SM9.trans bw x2, x3⟩
      · rw [if_neg e]
        refine ⟨w2, ?_, bw, hb⟩
        rw [show zfuel = 999999 + 1 from rfl, l_X12_builds1_44.eq_2]
        rw [if_neg (show ¬ nI n < nI k by rw [lt_nI _ (by omega), tnI (by omega)]; omega)]
        split <;> rfl
    by_cases q4 : q = 4
    · obtain ⟨p9, a1, a2, a3, a4, a5⟩ := id hp
      have dpos := hpos q4
      rw [if_pos (by rw [q4]), a1, nI_add, zlet_e]
      have g : ∀ t, t ≠ 17 → zupd w 128 17 (nI (a.1 + 1)) 128 t = w 128 t := fun t t7 => by rw [zupd_eq, upd_ne _ _ t7]
      have gc : ∀ c, c ≠ 128 → zupd w 128 17 (nI (a.1 + 1)) c = w c := fun c hc => zupd_ne _ _ _ hc
      have sm : SM9 w (zupd w 128 17 (nI (a.1 + 1))) := ⟨fun c h1 _ _ _ => gc c h1, g 2 (by decide), g 21 (by decide)⟩
      rw [g 18 (by decide), a2]
      have take : n < a.2.2 → ∃ w1, j_X12_builds1_30 (F_X12_builds1 d) (nI k) (nI n) (nI q) (nI dig) (zupd w 128 17 (nI (a.1 + 1))) = some w1 ∧ SM9 w w1 ∧ MPre s w1 h (bx s k (d + 1) q n dig h a) := fun c => by
        rw [j_X12_builds1_30, zlet_e, zlet_e]
        have g3 : ∀ t, t ≠ 17 → t ≠ 18 → t ≠ 19 → zupd (zupd (zupd w 128 17 (nI (a.1 + 1))) 128 18 (nI dig)) 128 19 (nI n) 128 t = w 128 t := fun t t7 t8 t9 => by rw [zupd_eq, upd_ne _ _ t9, zupd_eq, upd_ne _ _ t8, g t t7]
        refine go _ (nt a n dig) ⟨?_, ?_⟩ (by rw [if_pos q4]) ⟨fun c h1 _ _ _ => by rw [zupd_ne _ _ _ h1, zupd_ne _ _ _ h1, gc c h1], g3 2 (by decide) (by decide) (by decide), g3 21 (by decide) (by decide) (by decide)⟩
        · rw [zupd_ne _ _ _ (by decide), zupd_ne _ _ _ (by decide), gc 129 (by decide)]
          exact p9
        · unfold nt
          rw [if_pos c]
          refine ⟨?_, ?_, fun _ => ⟨?_, dpos, ?_⟩, fun a => ?_, ?_⟩
          · rw [zupd_eq, upd_ne _ _ (by decide), zupd_eq, upd_ne _ _ (by decide), zupd_eq, upd_eq]
          · rw [zupd_eq, upd_ne _ _ (by decide), zupd_eq, upd_eq]
          · rw [zupd_eq, upd_eq]
          · show dig < 2 ^ 31
            omega
          · have : n = 8 := a
            omega
          · show n ≤ 8
            omega
      by_cases f8 : a.2.2 = 8
      · rw [a4 f8, if_pos rfl]
        exact take (by omega)
      · obtain ⟨b1, b2, b3⟩ := a3 (by omega)
        rw [if_neg (by rw [eq_nI _ (by decide), tnI b3]; omega), g 19 (by decide), b1]
        by_cases c : n < a.2.2
        · rw [if_pos (by rw [lt_nI _ (by omega), tnI (by omega)]; omega)]
          exact take c
        · rw [if_neg (by rw [lt_nI _ (by omega), tnI (by omega)]; omega)]
          refine go _ (nt a n dig) ⟨(gc 129 (by decide)).trans p9, ?_⟩ (by rw [if_pos q4]) sm
          unfold nt
          rw [if_neg c]
          exact ⟨by rw [zupd_eq, upd_eq], (g 18 (by decide)).trans a2, fun _ => ⟨(g 19 (by decide)).trans b1, b2, b3⟩, a4, a5⟩
    · rw [if_neg (by rw [eq_nI _ (by decide), tnI (by omega)]; omega)]
      exact go w a hp (by rw [if_neg q4]) (SM9.refl w)
theorem op_builds {w : zW} (hR : Rel w) (a b : Int32) : OK2 (f_X11_builds a b) (f_X12_builds a b) w := by
  have h := hR.1
  by_cases ha : (1 ≤ a.toInt ∧ a.toInt ≤ 7) ∧ 0 ≤ b.toInt ∧ b.toInt ≤ 1
  · obtain ⟨k, hk, rfl, ek⟩ := of_toInt a (by omega)
    obtain ⟨v, hv, rfl, ev⟩ := of_toInt b ha.2.1
    obtain ⟨H, hH⟩ : ∃ H : Nat → Int, H = fun p => (w 129 (266 + p)).toInt := ⟨_, rfl⟩
    have hh : hok H := fun p p1 p2 => by
      have q := (h.2.2.2.2.1 p p1 p2).2
      have n := h.1 (266 + p) (by omega) (by omega)
      rw [hH]
      exact ⟨n, q⟩
    have iH : ∀ p, iI (H p) = w 129 (266 + p) := fun p => by
      rw [hH]
      exact Int32.ofInt_toInt _
    have sH : shh (w 129) H = w 129 := funext fun p => by
      unfold shh
      by_cases e : 267 ≤ p ∧ p ≤ 292
      · rw [if_pos e, iH, show 266 + (p - 266) = p by omega]
      · rw [if_neg e]
    obtain ⟨W, hW⟩ : ∃ W, W = zupd (zupd (zupd (zupd (zupd (zcopy w 38 124 (nI 0) (nI 0) (nI 27)) 123 1 1) 123 2 (nI k)) 123 3 (nI 0)) 123 4 (nI 0)) 123 5 (nI 8) := ⟨_, rfl⟩
    have eW : ∀ c, c ≠ 123 → c ≠ 124 → W c = w c := fun c h1 h2 => by rw [hW, zupd_ne _ _ _ h1, zupd_ne _ _ _ h1, zupd_ne _ _ _ h1, zupd_ne _ _ _ h1, zupd_ne _ _ _ h1, zcopy, zset_ne _ _ h2]
    have sx : SX w W := fun c hc => eW c (by omega) (by omega)
    have pre : XPre (w 129) k W H (0, 0, 8) := by
      refine ⟨RT_SX h sx, ?_, ?_, fun p p1 p2 => ?_, ?_, ?_, ?_, Nat.le_refl _⟩
      · rw [hW, zupd_eq, upd_ne _ _ (by decide), zupd_eq, upd_ne _ _ (by decide), zupd_eq, upd_ne _ _ (by decide), zupd_eq, upd_ne _ _ (by decide), zupd_eq, upd_eq]
        decide
      · rw [hW, zupd_eq, upd_ne _ _ (by decide), zupd_eq, upd_ne _ _ (by decide), zupd_eq, upd_ne _ _ (by decide), zupd_eq, upd_eq]
      · have x := (h.2.2.2.2.1 p p1 p2).1
        rw [hW, zupd_ne _ _ _ (by decide), zupd_ne _ _ _ (by decide), zupd_ne _ _ _ (by decide), zupd_ne _ _ _ (by decide), zupd_ne _ _ _ (by decide), zcopy, zset_eq, clamp_nI (by omega), clamp_nI (by omega), iH]
        unfold va_cpy
        rw [if_pos (by omega), ← x]
        simp
      · rw [hW, zupd_eq, upd_ne _ _ (by decide), zupd_eq, upd_ne _ _ (by decide), zupd_eq, upd_eq]
      · rw [hW, zupd_eq, upd_ne _ _ (by decide), zupd_eq, upd_eq]
      · rw [hW, zupd_eq, upd_eq]
    obtain ⟨w1, x1, x2, x3⟩ := Xext_ok (s := w 129) (show k ≤ 7 by omega) 100 0 (by omega) (by omega) 0 0 H (0, 0, 8) W (by decide) hh pre
    have se : f_X0_search 38 27 (nI k) w = some w1 := by
      have mn : (if nI 7 < nI k then nI 7 else nI k) = nI k := if_neg (by rw [nI_lt2 _ (by decide), tnI (by omega)]; omega)
      rw [f_X0_search, cpyok 27 27 (by decide) (by decide), zg_t, mn, zlet_e, zlet_e, zlet_e, zlet_e, zlet_e, zlet_e, ← hW, f_X0_extend, x1, zb_s]
    have s1 : SX w w1 := SX.trans sx (BX.SX x2)
    obtain ⟨U, hU⟩ : ∃ U, U = zupd (zupd (zupd w1 128 17 (nI 0)) 128 18 (nI 0)) 128 19 (nI 0) := ⟨_, rfl⟩
    have gU : ∀ t, t ≠ 17 → t ≠ 18 → t ≠ 19 → U 128 t = w1 128 t := fun t t7 t8 t9 => by rw [hU, zupd_eq, upd_ne _ _ t9, zupd_eq, upd_ne _ _ t8, zupd_eq, upd_ne _ _ t7]
    have eU : ∀ c, c ≠ 128 → U c = w1 c := fun c hc => by rw [hU, zupd_ne _ _ _ hc, zupd_ne _ _ _ hc, zupd_ne _ _ _ hc]
    have e9 : U 129 = w 129 := (eU 129 (by decide)).trans (s1 129 (by omega))
    have sU : SM9 w1 U := ⟨fun c h1 _ _ _ => eU c h1, gU 2 (by decide) (by decide) (by decide), gU 21 (by decide) (by decide) (by decide)⟩
    obtain ⟨w2, y1, y2, y3⟩ := Mext_ok h (show k ≤ 7 by omega) 100 0 (by omega) (by omega) 0 0 H (0, 0, 8) U (by decide) (by decide) (fun a => absurd a (by decide)) hh ⟨by rw [e9, sH], by rw [hU, zupd_eq, upd_ne _ _ (by decide), zupd_eq, upd_ne _ _ (by decide), zupd_eq, upd_eq], by rw [hU, zupd_eq, upd_ne _ _ (by decide), zupd_eq, upd_eq], fun a => absurd a (by decide), fun _ => rfl, Nat.le_refl _⟩
    have s2 : SM w1 w2 := SM9.SM (SM9.trans sU y2) (by rw [y3.1, sH]; exact (s1 129 (by omega)).symm)
    have X0 : f_X11_builds (nI k) (nI v) w = if nI v = nI 0 then some (w1 123 3, w1) else some (w1 123 4, w1) := by
      rw [f_X11_builds, if_neg (by rw [lt_nI _ (by decide)]; omega), if_neg (by rw [nI_lt2 _ (by decide)]; omega), if_neg (by rw [lt_nI _ (by decide)]; omega), if_neg (by rw [nI_lt2 _ (by decide)]; omega), se, zb_s]
    have M0 : f_X12_builds (nI k) (nI v) w1 = if nI v = nI 0 then some (w2 128 17, w2) else some (w2 128 18, w2) := by
      rw [f_X12_builds, in_k _ (by decide) (by decide), zb_s, if_neg (by rw [bP_0]; omega), in_k _ (by decide) (by decide), zb_s, if_neg (by rw [bP_0]; omega), zlet_e, zlet_e, zlet_e, ← hU, f_X12_builds1, y1, zb_s]
    by_cases v0 : nI v = nI 0
    · rw [if_pos v0] at X0 M0
      refine OK_ask hR X0 s1 ?_ s2
      rw [M0, y3.2.1, x3.2.2.2.2.1]
    · rw [if_neg v0] at X0 M0
      refine OK_ask hR X0 s1 ?_ s2
      rw [M0, y3.2.2.1, x3.2.2.2.2.2.1]
  · refine OK_err hR (k := 1) (by decide) (by decide) ?_ (fun w1 e => ?_)
    · rw [f_X11_builds]
      by_cases a1 : a.toInt < 1
      · rw [if_pos (by rw [lt_nI _ (by decide)]; omega), j_X11_builds_20, zb2_eta]
      · rw [if_neg (by rw [lt_nI _ (by decide)]; omega)]
        by_cases a7 : 7 < a.toInt
        · rw [if_pos (by rw [nI_lt2 _ (by decide)]; omega), j_X11_builds_20, zb2_eta]
        · rw [if_neg (by rw [nI_lt2 _ (by decide)]; omega)]
          by_cases b0 : b.toInt < 0
          · rw [if_pos (by rw [lt_nI _ (by decide)]; omega), j_X11_builds_20, zb2_eta]
          · rw [if_neg (by rw [lt_nI _ (by decide)]; omega), if_pos (by rw [nI_lt2 _ (by decide)]; omega), j_X11_builds_20, zb2_eta]
    · rw [f_X12_builds, in_k _ (by decide) (by decide), zb_s]
      by_cases a1 : 1 ≤ a.toInt ∧ a.toInt ≤ 7
      · rw [if_neg (by rw [bP_0]; omega), in_k _ (by decide) (by decide), zb_s, if_pos (by rw [bP_0]; omega), j_X12_builds_19, zb2_eta]
      · rw [if_pos (by rw [bP_0]; exact a1), j_X12_builds_19, zb2_eta]
end BM
