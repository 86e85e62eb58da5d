def iI (x : Int) : Int32 := Int32.ofInt x
theorem iI_nat (n : Nat) : iI (n : Int) = nI n := Int32.ofInt_eq_ofNat
theorem iI_dec (x : Int) : iI x - nI 1 = iI (x - 1) := by
  rw [show nI 1 = Int32.ofInt 1 by decide]
  exact (Int32.ofInt_sub x 1).symm
theorem iI_inc (x : Int) : iI x + nI 1 = iI (x + 1) := by
  rw [show nI 1 = Int32.ofInt 1 by decide]
  exact (Int32.ofInt_add x 1).symm
theorem iI_lt {x : Int} (h1 : -1000 ≤ x) (h2 : x ≤ 1000) : iI x < nI 0 ↔ x < 0 := by
  rw [lt_nI _ (by decide)]
  unfold iI
  rw [Int32.toInt_ofInt_of_le (by omega) (by omega)]
  exact Iff.rfl
def ltn (s : Nat → Int32) (j k : Nat) : Nat := (wlt s j k).toInt.toNat
theorem wlt_ok {w : zW} {T : Nat} {s : Nat → Int32} (h : RT w T s) {j k : Nat} (hj : j < wcn s) (hk : k < wle s j) : 1 ≤ ltn s j k ∧ ltn s j k ≤ 26 ∧ wlt s j k = nI (ltn s j k) := by
  have c := wcn_ok h
  have e2 := wle_ok h hj
  have q := h.2.2.2.1 j (by rw [c.2, tnI (by omega)]; omega)
  have r := (q.2.2 k (by rw [e2.2.2, tnI (by omega)]; omega)).2
  obtain ⟨l, hl, el, tl⟩ := of_toInt (wlt s j k) (by unfold wlt; omega)
  have : ltn s j k = l := by
    unfold ltn
    omega
  unfold wlt at tl
  exact ⟨by omega, by omega, by rw [this]; exact el⟩
/-- how often a letter stands among a word's first k -/
def cnt (s : Nat → Int32) (j : Nat) : Nat → Nat → Nat
  | 0, _ => 0
  | k + 1, p => cnt s j k p + if ltn s j k = p then 1 else 0
theorem cnt_le (s : Nat → Int32) (j : Nat) : ∀ k p, cnt s j k p ≤ k
  | 0, _ => Nat.le_refl _
  | k + 1, p => by
    have := cnt_le s j k p
    rw [cnt]
    split <;> omega
/-- a heap without a word's first k letters -/
def hs (h : Nat → Int) (s : Nat → Int32) (j k : Nat) : Nat → Int := fun p => h p - cnt s j k p
def tkG (s : Nat → Int32) (j : Nat) (h : Nat → Int) : Nat → Bool
  | 0 => true
  | k + 1 => tkG s j h k && decide (0 ≤ hs h s j (k + 1) (ltn s j k))
theorem tkG_pos {s : Nat → Int32} {j : Nat} {h : Nat → Int} {p : Nat} (hp : 0 ≤ h p) : ∀ k, tkG s j h k = true → 0 ≤ hs h s j k p
  | 0, _ => by
    unfold hs cnt
    omega
  | k + 1, hk => by
    rw [tkG, Bool.and_eq_true] at hk
    by_cases e : ltn s j k = p
    · have := of_decide_eq_true hk.2
      rw [e] at this
      exact this
    · have := tkG_pos hp k hk.1
      unfold hs at this ⊢
      rw [cnt, if_neg e]
      exact this
def bI (b : Bool) : Int32 := if b = true then nI 1 else nI 0
theorem bI_bool (b : Bool) : zbool (bI b) = true := by
  cases b <;> decide
abbrev bA : Type := Nat × Nat × Nat
/-- a law is found -/
def nt (a : bA) (n dig : Nat) : bA := if n < a.2.2 then (a.1 + 1, dig, n) else (a.1 + 1, a.2.1, a.2.2)
def bst (s : Nat → Int32) (F : Nat → Nat → Nat → (Nat → Int) → bA → bA) (q n dig : Nat) (h : Nat → Int) (a : bA) : Nat → bA
  | 0 => a
  | j + 1 => if bhd q (wso s j) = true ∧ tkG s j h (wle s j) = true then F (aft (wso s j)) (n + 1) (16 * dig + j + 1) (hs h s j (wle s j)) (bst s F q n dig h a j) else bst s F q n dig h a j
/-- the search of both: all rows of words that are a law -/
def bx (s : Nat → Int32) (k : Nat) : Nat → Nat → Nat → Nat → (Nat → Int) → bA → bA
  | 0, _, _, _, _, a => a
  | d + 1, q, n, dig, h, a => if n < k then bst s (bx s k d) q n dig h (if q = 4 then nt a n dig else a) (wcn s) else if q = 4 then nt a n dig else a
section BX
def XH (w : zW) (h : Nat → Int) : Prop := ∀ p, 1 ≤ p → p ≤ 26 → w 124 p = iI (h p)
def XA (w : zW) (a : bA) : Prop := w 123 3 = nI a.1 ∧ w 123 4 = nI a.2.1 ∧ w 123 5 = nI a.2.2 ∧ a.2.2 ≤ 8
def Y4 (w w1 : zW) : Prop := ∀ c, c ≠ 124 → w1 c = w c
theorem Y4.SX {w w1 : zW} (h : Y4 w w1) : SX w w1 := fun c hc => h c (by omega)
def hok (h : Nat → Int) : Prop := ∀ p, 1 ≤ p → p ≤ 26 → 0 ≤ h p ∧ h p ≤ 99
theorem Xtake_loop {s : Nat → Int32} {j : Nat} {h : Nat → Int} (hj : j < wcn s) (hh : hok h) : ∀ (m k : Nat) (w : zW), RT w 1 s → XH w (hs h s j k) → k ≤ wle s j → wle s j - k < m → ∃ w1, l_X0_take_4 (fun k57_a2 w11 => zguard (zbool k57_a2) (some (k57_a2, w11))) m (5 + 2 * j) (bI (tkG s j h k)) (nI k) w = some (bI (tkG s j h (wle s j)), w1) ∧ Y4 w w1 ∧ XH w1 (hs h s j (wle s j)) := by
  intro m
  induction m with
  | zero => intro k w _ _ _ h; omega
  | succ m ih =>
    intro k w hR hX hk hm
    obtain ⟨e1, e2, e3⟩ := Xword_at hR hj
    obtain ⟨l1, l6, el⟩ := wle_ok hR hj
    have c12 := (wcn_ok hR).1
    rw [l_X0_take_4.eq_2, e2]
    by_cases e : k < wle s j
    · obtain ⟨t1, t2, t3⟩ := wlt_ok hR hj e
      have cl := cnt_le s j k (ltn s j k)
      have cl1 := cnt_le s j (k + 1) (ltn s j k)
      have hl := hh _ t1 t2
      have hv : hs h s j k (ltn s j k) - 1 = hs h s j (k + 1) (ltn s j k) := by
        unfold hs
        rw [cnt, if_pos rfl]
        omega
      obtain ⟨W, hW⟩ : ∃ W, W = zupd w 124 (ltn s j k) (iI (hs h s j (k + 1) (ltn s j k))) := ⟨_, rfl⟩
      have y4 : Y4 w W := fun c hc => by rw [hW, zupd_ne _ _ _ hc]
      have hX1 : XH W (hs h s j (k + 1)) := fun p p1 p2 => by
        rw [hW, zupd_eq]
        by_cases ep : p = ltn s j k
        · rw [ep, upd_eq]
        · rw [upd_ne _ _ ep, hX p p1 p2]
          unfold hs
          rw [cnt, if_neg (fun a => ep a.symm), Nat.add_zero]
      obtain ⟨w1, x1, x2, x3⟩ := ih (k + 1) W (RT_SX hR (Y4.SX y4)) hX1 (by omega) (by omega)
      refine ⟨w1, ?_, fun c hc => (x2 c hc).trans (y4 c hc), x3⟩
      rw [if_pos (by rw [lt_nI _ (by omega), tnI (by omega)]; omega), zld_k _ _ _ _ _ (by omega) (by decide), e3 k e, t3, zld_k _ _ _ _ _ (by omega) (by decide), hX _ t1 t2, iI_dec, hv, zsto_k _ _ _ _ _ _ (by omega) (by decide), ← hW]
      rw [tkG] at x1
      by_cases g : tkG s j h k = true
      · rw [g, Bool.true_and] at x1
        rw [g, show bI true = nI 1 from rfl, if_neg (by decide), zld_k _ _ _ _ _ (by omega) (by decide), y4 _ (by omega), e3 k e, t3, zld_k _ _ _ _ _ (by omega) (by decide), hX1 _ t1 t2]
        have rng : -1000 ≤ hs h s j (k + 1) (ltn s j k) ∧ hs h s j (k + 1) (ltn s j k) ≤ 1000 := by
          unfold hs
          omega
        by_cases z : hs h s j (k + 1) (ltn s j k) < 0
        · rw [decide_eq_false (by omega)] at x1
          rw [if_pos ((iI_lt rng.1 rng.2).mpr z), j_X0_take_49, j_X0_take_50, nI_add, zlet_e]
          exact x1
        · rw [decide_eq_true (by omega)] at x1
          rw [if_neg (fun a => z ((iI_lt rng.1 rng.2).mp a)), j_X0_take_50, nI_add, zlet_e]
          exact x1
      · have g0 : tkG s j h k = false := by simpa using g
        rw [g0, Bool.false_and] at x1
        rw [g0, show bI false = nI 0 from rfl, if_pos rfl, j_X0_take_49, j_X0_take_50, nI_add, zlet_e]
        exact x1
    · have : k = wle s j := by omega
      subst this
      rw [if_neg (by rw [lt_nI _ (by omega), tnI (by omega)]; omega), bI_bool, zg_t]
      exact ⟨w, rfl, fun _ _ => rfl, hX⟩
/-- while a word's letters are given back -/
def hgv (h : Nat → Int) (s : Nat → Int32) (j k : Nat) : Nat → Int := fun p => hs h s j (wle s j) p + cnt s j k p
theorem hgv_end (h : Nat → Int) (s : Nat → Int32) (j : Nat) : hgv h s j (wle s j) = h := funext fun p => by
  unfold hgv hs
  omega
theorem hgv_0 (h : Nat → Int) (s : Nat → Int32) (j : Nat) : hgv h s j 0 = hs h s j (wle s j) := funext fun p => by
  unfold hgv cnt
  omega
theorem Xgive_loop {s : Nat → Int32} {j : Nat} {h : Nat → Int} (hj : j < wcn s) : ∀ (m k : Nat) (w : zW), RT w 1 s → XH w (hgv h s j k) → k ≤ wle s j → wle s j - k < m → ∃ w1, l_X0_giveBack_2 (fun w11 => some w11) m (5 + 2 * j) (nI k) w = some w1 ∧ Y4 w w1 ∧ XH w1 h := by
  intro m
  induction m with
  | zero => intro k w _ _ _ h; omega
  | succ m ih =>
    intro k w hR hX hk hm
    obtain ⟨e1, e2, e3⟩ := Xword_at hR hj
    obtain ⟨l1, l6, el⟩ := wle_ok hR hj
    have c12 := (wcn_ok hR).1
    rw [l_X0_giveBack_2.eq_2, e2]
    by_cases e : k < wle s j
    · obtain ⟨t1, t2, t3⟩ := wlt_ok hR hj e
      have hv : hgv h s j k (ltn s j k) + 1 = hgv h s j (k + 1) (ltn s j k) := by
        unfold hgv
        rw [cnt, if_pos rfl]
        omega
      obtain ⟨W, hW⟩ : ∃ W, W = zupd w 124 (ltn s j k) (iI (hgv h s j (k + 1) (ltn s j k))) := ⟨_, rfl⟩
      have y4 : Y4 w W := fun c hc => by rw [hW, zupd_ne _ _ _ hc]
      have hX1 : XH W (hgv h s j (k + 1)) := fun p p1 p2 => by
        rw [hW, zupd_eq]
        by_cases ep : p = ltn s j k
        · rw [ep, upd_eq]
        · rw [upd_ne _ _ ep, hX p p1 p2]
          unfold hgv
          rw [cnt, if_neg (fun a => ep a.symm), Nat.add_zero]
      obtain ⟨w1, x1, x2, x3⟩ := ih (k + 1) W (RT_SX hR (Y4.SX y4)) hX1 (by omega) (by omega)
      refine ⟨w1, ?_, fun c hc => (x2 c hc).trans (y4 c hc), x3⟩
      rw [if_pos (by rw [lt_nI _ (by omega), tnI (by omega)]; omega), zld_k _ _ _ _ _ (by omega) (by decide), e3 k e, t3, zld_k _ _ _ _ _ (by omega) (by decide), hX _ t1 t2, iI_inc, hv, zsto_k _ _ _ _ _ _ (by omega) (by decide), ← hW, nI_add, zlet_e]
      exact x1
    · have : k = wle s j := by omega
      subst this
      rw [hgv_end] at hX
      rw [if_neg (by rw [lt_nI _ (by omega), tnI (by omega)]; omega)]
      exact ⟨w, rfl, fun _ _ => rfl, hX⟩
def BX (w w1 : zW) : Prop := (∀ c, c ≠ 123 → c ≠ 124 → w1 c = w c) ∧ w1 123 1 = w 123 1 ∧ w1 123 2 = w 123 2
theorem BX.trans {a b c : zW} (h : BX a b) (h' : BX b c) : BX a c := ⟨fun k h1 h2 => (h'.1 k h1 h2).trans (h.1 k h1 h2), h'.2.1.trans h.2.1, h'.2.2.trans h.2.2⟩
theorem BX.SX {w w1 : zW} (h : BX w w1) : SX w w1 := fun c hc => h.1 c (by omega) (by omega)
theorem Y4.BX {w w1 : zW} (h : Y4 w w1) : BX w w1 := ⟨fun c _ h2 => h c h2, by rw [h 123 (by decide)], by rw [h 123 (by decide)]⟩
def XPre (s : Nat → Int32) (k : Nat) (w : zW) (h : Nat → Int) (a : bA) : Prop := RT w 1 s ∧ (¬ w 123 1 = 0) ∧ w 123 2 = nI k ∧ XH w h ∧ XA w a
theorem XPre.y4 {s : Nat → Int32} {k : Nat} {w w1 : zW} {h h1 : Nat → Int} {a : bA} (hp : XPre s k w h a) (y : Y4 w w1) (hX : XH w1 h1) : XPre s k w1 h1 a := by
  obtain ⟨a1, a2, a3, a4, a5⟩ := hp
  refine ⟨RT_SX a1 (Y4.SX y), by rw [y 123 (by decide)]; exact a2, by rw [y 123 (by decide)]; exact a3, hX, ?_⟩
  unfold XA at a5 ⊢
  rw [y 123 (by decide)]
  exact a5
def XCall (F : Nat → Int32 → Int32 → Int32 → zW → Option zW) (s : Nat → Int32) (k : Nat) (G : Nat → Nat → Nat → (Nat → Int) → bA → bA) (n : Nat) : Prop := ∀ (q dig : Nat) (h : Nat → Int) (a : bA) (w : zW), q < 5 → hok h → XPre s k w h a → ∃ w1, F 0 (nI q) (nI n) (nI dig) w = some w1 ∧ BX w w1 ∧ XPre s k w1 h (G q n dig h a)
theorem Xext_loop {F : Nat → Int32 → Int32 → Int32 → zW → Option zW} {s : Nat → Int32} {k n q dig : Nat} {G : Nat → Nat → Nat → (Nat → Int) → bA → bA} {h : Nat → Int} {a : bA} (hF : XCall F s k G (n + 1)) (hq : q < 5) (hh : hok h) : ∀ (m j : Nat) (w : zW), XPre s k w h (bst s G q n dig h a j) → j ≤ wcn s → wcn s - j < m → ∃ w1, l_X0_extend_30 F (fun w11 => some w11) m (nI q) (nI n) (nI dig) (nI j) w = some w1 ∧ BX w w1 ∧ XPre s k w1 h (bst s G q n dig h a (wcn s)) := by
  intro m
  induction m with
  | zero => intro j w _ _ h; omega
  | succ m ih =>
    intro j w hp hj hm
    obtain ⟨hR, p1, p2, p3, p4⟩ := id hp
    have c12 := wcn_ok hR
    rw [l_X0_extend_30.eq_2, decide_eq_true p1, zg_t, show w 3 1 = nI (wcn s) from hR.2.1.2.1.1.trans c12.2]
    by_cases e : j < wcn s
    · obtain ⟨e1, e2, e3⟩ := Xword_at hR e
      obtain ⟨s5, es⟩ := wso_ok hR e
      obtain ⟨l1, l6, el⟩ := wle_ok hR e
      obtain ⟨o1, o2⟩ := bef_k _ s5
      rw [if_pos (by rw [lt_nI _ (by omega), tnI (by omega)]; omega), zg_t, zin_nI (by omega) (by decide), zg_t, clamp_nI (by omega), e1, ztld_k _ _ _ _ s5 (by decide), o1]
      by_cases eb : bhd q (wso s j) = true
      · rw [if_neg (by rw [tb_k _ o2 _ hq, tb_bef _ s5 _ hq, eb]; decide)]
        obtain ⟨wa, x1, x2, x3⟩ := Xtake_loop e hh zfuel 0 w hR (by unfold XH hs cnt; intro p pa pb; rw [p3 p pa pb]; congr 1; omega) (by omega) (by unfold zfuel; omega)
        have hpa := hp.y4 x2 x3
        rw [f_X0_take, show l_X0_take_4 (fun k57_a2 w11 => zguard (zbool k57_a2) (some (k57_a2, w11))) zfuel (5 + 2 * j) (nI 1) (nI 0) w = some (bI (tkG s j h (wle s j)), wa) from x1, zb2_s]
        have give : ∀ (b : bA) (w2 : zW), XPre s k w2 (hs h s j (wle s j)) b → b = bst s G q n dig h a (j + 1) → BX w w2 → ∃ w1, j_X0_extend_104 F (l_X0_extend_30 F (fun w11 => some w11) m) (fun w11 => some w11) (nI q) (nI n) (nI dig) (nI j) (5 + 2 * j) w2 = some w1 ∧ BX w w1 ∧ XPre s k w1 h (bst s G q n dig h a (wcn s)) := fun b w2 hb eb bw => by
          obtain ⟨wb, y1, y2, y3⟩ := Xgive_loop (h := h) e zfuel 0 w2 hb.1 (by rw [hgv_0]; exact hb.2.2.2.1) (by omega) (by unfold zfuel; omega)
          obtain ⟨w1, z1, z2, z3⟩ := ih (j + 1) wb (by rw [← eb]; exact hb.y4 y2 y3) (by omega) (by omega)
          refine ⟨w1, ?_, BX.trans bw (BX.trans (Y4.BX y2) z2), z3⟩
          rw [j_X0_extend_104, f_X0_giveBack, y1, zb_s, nI_add, zlet_e]
          exact z1
        by_cases g : tkG s j h (wle s j) = true
        · obtain ⟨a1, a2⟩ := aft_k _ s5
          obtain ⟨wb, y1, y2, y3⟩ := hF (aft (wso s j)) (16 * dig + j + 1) (hs h s j (wle s j)) _ wa a2 (fun p pa pb => by
            have := hh p pa pb
            have := tkG_pos (s := s) (j := j) (h := h) (p := p) (by omega) (wle s j) g
            refine ⟨this, ?_⟩
            unfold hs
            omega) hpa
          have st : G (aft (wso s j)) (n + 1) (16 * dig + j + 1) (hs h s j (wle s j)) (bst s G q n dig h a j) = bst s G q n dig h a (j + 1) := by
            rw [bst, if_pos ⟨eb, g⟩]
          obtain ⟨w1, z1, z2, z3⟩ := give _ wb y3 st (BX.trans (Y4.BX x2) y2)
          refine ⟨w1, ?_, z2, z3⟩
          rw [g, show bI true = nI 1 from rfl, if_neg (by decide), x2 _ (by omega), e1, ztld_k _ _ _ _ s5 (by decide), a1, pk_mul, nI_add, nI_add, nI_add, Nat.mul_comm dig 16, y1, zb_s]
          exact z1
        · have g0 : tkG s j h (wle s j) = false := by simpa using g
          obtain ⟨w1, z1, z2, z3⟩ := give _ wa hpa (by rw [bst, if_neg (fun b => g b.2)]) (Y4.BX x2)
          refine ⟨w1, ?_, z2, z3⟩
          rw [g0, show bI false = nI 0 from rfl, if_pos rfl]
          exact z1
      · rw [if_pos (by rw [tb_k _ o2 _ hq, tb_bef _ s5 _ hq]; simpa using eb), nI_add, zlet_e]
        exact ih (j + 1) w (by rw [bst, if_neg (fun b => eb b.1)]; exact hp) (by omega) (by omega)
    · have : j = wcn s := by omega
      subst this
      rw [if_neg (by rw [lt_nI _ (by omega), tnI (by omega)]; omega)]
      exact ⟨w, rfl, ⟨fun _ _ _ => rfl, rfl, rfl⟩, hp⟩
theorem FX0e (d : Nat) (a b c : Int32) (w : zW) : F_X0_extend (d + 1) 0 a b c w = b_X0_extend (F_X0_extend d) a b c w := rfl
theorem Xext_ok {s : Nat → Int32} {k : Nat} (hk : k ≤ 7) : ∀ (d n : Nat), n ≤ k → k - n < d → XCall (F_X0_extend d) s k (bx s k d) n := by
  intro d
  induction d with
  | zero => intro n _ h; omega
  | succ d ih =>
    intro n hn hd q dig h a w hq hh hp
    rw [FX0e, b_X0_extend]
    have go : ∀ (w2 : zW) (b : bA), XPre s k w2 h b → b = (if q = 4 then nt a n dig else a) → BX w w2 → ∃ w1, j_X0_extend_11 (F_X0_extend d) (nI q) (nI n) (nI dig) w2 = some w1 ∧ BX w w1 ∧ XPre s k w1 h (bx s k (d + 1) q n dig h a) := fun w2 b hb eb bw => by
      rw [j_X0_extend_11, hb.2.2.1, bx, ← eb]
      by_cases e : n < k
      · obtain ⟨w1, x1, x2, x3⟩ := Xext_loop (dig := dig) (a := b) (ih (n + 1) (by omega) (by omega)) hq hh zfuel 0 w2 hb (by omega) (by have := wcn_ok hb.1; unfold zfuel; omega)
        rw [if_pos (by rw [lt_nI _ (by omega), tnI (by omega)]; omega), decide_eq_true hb.2.1, zg_t, if_pos e]
        exact ⟨w1, x1, BX.trans bw x2, x3⟩
      · rw [if_neg (by rw [lt_nI _ (by omega), tnI (by omega)]; omega), if_neg e]
        exact ⟨w2, rfl, bw, hb⟩
    by_cases q4 : q = 4
    · obtain ⟨hR, p1, p2, p3, p4⟩ := id hp
      obtain ⟨a1, a2, a3, a4⟩ := p4
      obtain ⟨w2, n1, n2, n3⟩ : ∃ w2, f_X0_note (nI n) (nI dig) w = some w2 ∧ BX w w2 ∧ XPre s k w2 h (nt a n dig) := by
        have r3 : zupd w 123 3 (nI (a.1 + 1)) 123 5 = nI a.2.2 := by rw [zupd_eq, upd_ne _ _ (by decide)]; exact a3
        rw [f_X0_note, a1, nI_add, zlet_e, r3]
        unfold nt
        by_cases c : n < a.2.2
        · rw [if_pos (by rw [lt_nI _ (by omega), tnI (by omega)]; omega), zlet_e, zlet_e, if_pos c]
          have g : ∀ t, t ≠ 3 → t ≠ 4 → t ≠ 5 → zupd (zupd (zupd w 123 3 (nI (a.1 + 1))) 123 5 (nI n)) 123 4 (nI dig) 123 t = w 123 t := fun t t3 t4 t5 => by rw [zupd_eq, upd_ne _ _ t4, zupd_eq, upd_ne _ _ t5, zupd_eq, upd_ne _ _ t3]
          have gc : ∀ c, c ≠ 123 → zupd (zupd (zupd w 123 3 (nI (a.1 + 1))) 123 5 (nI n)) 123 4 (nI dig) c = w c := fun c hc => by rw [zupd_ne _ _ _ hc, zupd_ne _ _ _ hc, zupd_ne _ _ _ hc]
          refine ⟨_, rfl, ⟨fun c h1 _ => gc c h1, g 1 (by decide) (by decide) (by decide), g 2 (by decide) (by decide) (by decide)⟩, RT_SX hR (fun c hc => gc c (by omega)), by rw [g 1 (by decide) (by decide) (by decide)]; exact p1, by rw [g 2 (by decide) (by decide) (by decide)]; exact p2, fun p pa pb => by rw [gc 124 (by decide)]; exact p3 p pa pb, ?_, ?_, ?_, ?_⟩
          · rw [zupd_eq, upd_ne _ _ (by decide), zupd_eq, upd_ne _ _ (by decide), zupd_eq, upd_eq]
          · rw [zupd_eq, upd_eq]
          · rw [zupd_eq, upd_ne _ _ (by decide), zupd_eq, upd_eq]
          · show n ≤ 8
            omega
        · rw [if_neg (by rw [lt_nI _ (by omega), tnI (by omega)]; omega), if_neg c]
          have g : ∀ t, t ≠ 3 → zupd w 123 3 (nI (a.1 + 1)) 123 t = w 123 t := fun t t3 => by rw [zupd_eq, upd_ne _ _ t3]
          have gc : ∀ c, c ≠ 123 → zupd w 123 3 (nI (a.1 + 1)) c = w c := fun c hc => zupd_ne _ _ _ hc
          refine ⟨_, rfl, ⟨fun c h1 _ => gc c h1, g 1 (by decide), g 2 (by decide)⟩, RT_SX hR (fun c hc => gc c (by omega)), by rw [g 1 (by decide)]; exact p1, by rw [g 2 (by decide)]; exact p2, fun p pa pb => by rw [gc 124 (by decide)]; exact p3 p pa pb, ?_, (g 4 (by decide)).trans a2, (g 5 (by decide)).trans a3, a4⟩
          rw [zupd_eq, upd_eq]
      rw [if_pos (by rw [q4]), n1, zb_s]
      exact go w2 _ n3 (by rw [if_pos q4]) n2
    · rw [if_neg (by rw [eq_nI _ (by decide), tnI (by omega)]; omega)]
      exact go w a hp (by rw [if_neg q4]) ⟨fun _ _ _ => rfl, rfl, rfl⟩
end BX
