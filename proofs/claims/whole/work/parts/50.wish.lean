theorem sm_mono {g : Nat → Nat} : ∀ {a b : Nat}, a ≤ b → sm g a ≤ sm g b := fun {a b} h => by
  induction b with
  | zero => rw [show a = 0 by omega]; exact Nat.le_refl _
  | succ b ih =>
    by_cases e : a = b + 1
    · rw [e]; exact Nat.le_refl _
    · have := ih (by omega)
      rw [sm]
      omega
section WI
def wv (g : Nat → Int32) (t : Nat) : Nat := (g t).toInt.toNat
def wL (s g : Nat → Int32) : Nat → Nat := sm (fun t => wle s (wv g t))
def wU (s f g : Nat → Int32) : Nat → Nat := sm (fun t => unl s f (wv g t) (wL s g t))
theorem wL_le {w : zW} {s g : Nat → Int32} (h : RT w 1 s) : ∀ k, (∀ t, t < k → wv g t < wcn s) → wL s g k ≤ 6 * k
  | 0, _ => Nat.le_refl _
  | k + 1, hk => by
    have := wL_le h k (fun t ht => hk t (by omega))
    have := (wle_ok h (hk k (by omega))).2.1
    unfold wL at *
    rw [sm]
    omega
theorem wU_le {w : zW} {s f g : Nat → Int32} (h : RT w 1 s) : ∀ k, (∀ t, t < k → wv g t < wcn s) → wU s f g k ≤ 6 * k
  | 0, _ => Nat.le_refl _
  | k + 1, hk => by
    have := wU_le (f := f) h k (fun t ht => hk t (by omega))
    have l6 := (wle_ok h (hk k (by omega))).2.1
    have := unlN_le (fun t => f (wL s g k + t)) (wlt s (wv g k)) (wle s (wv g k))
    unfold wU at *
    rw [sm]
    have e : unl s f (wv g k) (wL s g k) ≤ 6 := by unfold unl; omega
    omega
theorem Xhas_loop {w : zW} {s g : Nat → Int32} {i sz r : Nat} (K1 : zW → Option (Int32 × zW)) (K2 : Int32 → Nat → zW → Option (Int32 × zW)) (a1 : Int32) (h : RT w 1 s) (hz : sz ≤ 24) (hs : w (104 + 2 * i) 2 = nI sz) (hg : ∀ t, t < sz → w (105 + 2 * i) t = g t) (hr : r ≤ sz) (h1 : ∀ t, t < r → 0 ≤ (g t).toInt ∧ (g t).toInt < (s 1).toInt) (h2 : r = sz ∨ (r < sz ∧ ¬ (0 ≤ (g r).toInt ∧ (g r).toInt < (s 1).toInt))) : ∀ (m k : Nat), k ≤ r → r - k < m → l_X11_wish_47 K1 K2 m a1 (104 + 2 * i) (nI k) w = if r = sz then K2 a1 (104 + 2 * i) w else K1 w := by
  intro m
  induction m with
  | zero => intro k _ h; omega
  | succ m ih =>
    intro k hk hm
    rw [l_X11_wish_47.eq_2, hs]
    by_cases e : k < sz
    · rw [if_pos (by rw [lt_nI _ (by omega), tnI (by omega)]; omega), show 104 + 2 * i + 1 = 105 + 2 * i by omega, zld_k _ _ _ _ _ (by omega) (by decide), hg k e, has_spec h, zb_s]
      by_cases er : k < r
      · rw [if_neg (by rw [bP_0]; exact fun z => z (h1 k er)), nI_add, zlet_e]
        exact ih (k + 1) (by omega) (by omega)
      · have : k = r := by omega
        subst this
        have h3 : ¬ (0 ≤ (g k).toInt ∧ (g k).toInt < (s 1).toInt) := by omega
        rw [if_pos (by rw [bP_0]; exact h3), if_neg (by omega)]
    · rw [if_neg (by rw [lt_nI _ (by omega), tnI (by omega)]; omega), if_pos (by omega)]
theorem Mhas_loop {w wx : zW} {s g : Nat → Int32} {i sz r : Nat} (K1 : zW → Option (Int32 × zW)) (K2 : Int32 → Int32 → Int32 → zW → Option (Int32 × zW)) (a1 : Int32) (h : RT wx 1 s) (hw : w 129 = s) (hi : i < 4) (hz : sz ≤ 24) (hs : w 141 i = nI sz) (hg : ∀ t, t < sz → w 142 (24 * i + t) = g t) (hr : r ≤ sz) (h1 : ∀ t, t < r → 0 ≤ (g t).toInt ∧ (g t).toInt < (s 1).toInt) (h2 : r = sz ∨ (r < sz ∧ ¬ (0 ≤ (g r).toInt ∧ (g r).toInt < (s 1).toInt))) : ∀ (m k : Nat), k ≤ r → r - k < m → l_X12_wish_41 K1 K2 m a1 (nI i) (nI (wL s g k)) (nI k) w = if r = sz then K2 a1 (nI i) (nI (wL s g sz)) w else K1 w := by
  have c12 := wcn_ok h
  have s12 := h.2.1.2.1.2
  intro m
  induction m with
  | zero => intro k _ h; omega
  | succ m ih =>
    intro k hk hm
    rw [l_X12_wish_41.eq_2, zld_k _ _ _ _ _ (by omega) (by decide), hs]
    by_cases e : k < sz
    · rw [if_pos (by rw [lt_nI _ (by omega), tnI (by omega)]; omega), pk_mul, nI_add, zld_k _ _ _ _ _ (by omega) (by decide), hg k e, isWord_spec hw h.1 s12, zb_s]
      by_cases er : k < r
      · have hk1 := h1 k er
        obtain ⟨v, hv, ev, tv⟩ := of_toInt _ hk1.1
        have wve : wv g k = v := by unfold wv; omega
        have vc : v < wcn s := by
          have := c12.2
          rw [this, tnI (by omega)] at hk1
          omega
        have ih1 := ih (k + 1) (by omega) (by omega)
        unfold wL at ih1 ⊢
        rw [sm, wve] at ih1
        rw [if_neg (by rw [bP_0]; exact fun z => z hk1), zld_k _ _ _ _ _ (by omega) (by decide), hg k e, ev, lengthOf_k hw (by omega), (wle_ok h vc).2.2, zb_s, nI_add, zlet_e, nI_add, zlet_e]
        exact ih1
      · have : k = r := by omega
        subst this
        have h3 : ¬ (0 ≤ (g k).toInt ∧ (g k).toInt < (s 1).toInt) := by omega
        rw [if_pos (by rw [bP_0]; exact h3), if_neg (by omega)]
    · have ek : k = sz := by omega
      rw [if_neg (by rw [lt_nI _ (by omega), tnI (by omega)]; omega), if_pos (by omega), ek]
end WI
theorem Xwish_loop {w : zW} {s f g : Nat → Int32} {i sz n : Nat} (h : RT w 1 s) (hr : RX w n f) (hn : n ≤ 48) (hz : sz ≤ 24) (hs : w (104 + 2 * i) 2 = nI sz) (hg : ∀ t, t < sz → w (105 + 2 * i) t = g t) (h1 : ∀ t, t < sz → 0 ≤ (g t).toInt ∧ (g t).toInt < (s 1).toInt) (h1' : ∀ t, t < sz → wv g t < wcn s) : ∀ (m k : Nat), k ≤ sz → wL s g k ≤ n → sz - k < m → l_X11_unlikeWish_7 w (some (nI 1000000)) (some (nI 1000000)) (fun k105_a2 k105_a3 => if k105_a2 = (w 116 1) then some k105_a3 else some (nI 1000000)) m (104 + 2 * i) (nI (wL s g k)) (nI (wU s f g k)) (nI k) = some (if wL s g sz = n then nI (wU s f g sz) else nI 1000000) := by
  have c12 := wcn_ok h
  intro m
  induction m with
  | zero => intro k _ _ h; omega
  | succ m ih =>
    intro k hk hl hm
    have ul := wU_le (f := f) h k (fun t ht => h1' t (by omega))
    rw [l_X11_unlikeWish_7.eq_2, hs]
    by_cases e : k < sz
    · obtain ⟨v, hv, ev, tv⟩ := of_toInt _ (h1 k e).1
      have wve : wv g k = v := by unfold wv; omega
      have vc : v < wcn s := by rw [← wve]; exact h1' k e
      obtain ⟨e1, e2, e3⟩ := Xword_at h vc
      obtain ⟨l1, l6, el⟩ := wle_ok h vc
      have L1 : wL s g (k + 1) = wL s g k + wle s v := by unfold wL; rw [sm, wve]
      have U1 : wU s f g (k + 1) = wU s f g k + unl s f v (wL s g k) := by unfold wU; rw [sm, wve]
      rw [if_pos (by rw [lt_nI _ (by omega), tnI (by omega)]; omega), show 104 + 2 * i + 1 = 105 + 2 * i by omega, zld_k _ _ _ _ _ (by omega) (by decide), hg k e, has_spec h, zb_s, if_neg (by rw [bP_0]; exact fun z => z (h1 k e)), ev, zin_nI (by omega) (by decide), zg_t, clamp_nI (by omega), hr.1, e2, nI_sub hl (by omega)]
      by_cases ft : wL s g k + wle s v ≤ n
      · have ih1 := ih (k + 1) (by omega) (by omega) (by omega)
        rw [hr.1] at ih1
        rw [if_neg (by rw [lt_nI _ (by omega), tnI (by omega)]; omega), Xunl h vc hr hn (by omega), if_pos ft, zb_s, nI_add, zlet_e, nI_add, zlet_e, nI_add, zlet_e, ← L1, ← U1]
        exact ih1
      · have mono : wL s g (k + 1) ≤ wL s g sz := sm_mono (by omega)
        rw [if_pos (by rw [lt_nI _ (by omega), tnI (by omega)]; omega), if_neg (by omega)]
    · have : k = sz := by omega
      subst this
      rw [if_neg (by rw [lt_nI _ (by omega), tnI (by omega)]; omega), hr.1]
      show (if _ then _ else _) = _
      by_cases q : wL s g k = n
      · rw [if_pos (by rw [q]), if_pos q]
      · rw [if_neg (by rw [eq_nI _ (by omega), tnI (by omega)]; omega), if_neg q]
theorem Mwish_loop {w wx : zW} {s f g : Nat → Int32} {i sz n : Nat} (h : RT wx 1 s) (hw : w 129 = s) (hr : RM w n f) (hn : n ≤ 48) (hi : i < 4) (hz : sz ≤ 24) (hs : w 141 i = nI sz) (hg : ∀ t, t < sz → w 142 (24 * i + t) = g t) (h1 : ∀ t, t < sz → 0 ≤ (g t).toInt) (h1' : ∀ t, t < sz → wv g t < wcn s) (hL : wL s g sz = n) : ∀ (m k : Nat), k ≤ sz → sz - k < m → l_X12_wish_130 (fun k191_a4 w33 => some (k191_a4, w33)) m (nI i) (nI (wU s f g k)) (nI (wL s g k)) (nI k) w = some (nI (wU s f g sz), w) := by
  have c12 := wcn_ok h
  intro m
  induction m with
  | zero => intro k _ h; omega
  | succ m ih =>
    intro k hk hm
    rw [l_X12_wish_130.eq_2, zld_k _ _ _ _ _ (by omega) (by decide), hs]
    by_cases e : k < sz
    · obtain ⟨v, hv, ev, tv⟩ := of_toInt _ (h1 k e)
      have wve : wv g k = v := by unfold wv; omega
      have vc : v < wcn s := by rw [← wve]; exact h1' k e
      obtain ⟨l1, l6, el⟩ := wle_ok h vc
      have L1 : wL s g (k + 1) = wL s g k + wle s v := by unfold wL; rw [sm, wve]
      have U1 : wU s f g (k + 1) = wU s f g k + unl s f v (wL s g k) := by unfold wU; rw [sm, wve]
      have mono : wL s g (k + 1) ≤ wL s g sz := sm_mono (by omega)
      rw [if_pos (by rw [lt_nI _ (by omega), tnI (by omega)]; omega), pk_mul, nI_add, zld_k _ _ _ _ _ (by omega) (by decide), hg k e, ev, Munl h hw vc hr hn (by omega), if_pos (by omega), zb_s, nI_add, zlet_e, zld_k _ _ _ _ _ (by omega) (by decide), hg k e, ev, lengthOf_k hw (by omega), el, zb_s, nI_add, zlet_e, nI_add, zlet_e, ← L1, ← U1]
      exact ih (k + 1) (by omega) (by omega)
    · have : k = sz := by omega
      subst this
      rw [if_neg (by rw [lt_nI _ (by omega), tnI (by omega)]; omega)]
theorem op_wish {w : zW} (hR : Rel w) (a b : Int32) : OK2 (f_X11_wish a b) (f_X12_wish a b) w := by
  have h := hR.1
  have h6 := h.2.1.1.2
  by_cases hx : (0 ≤ a.toInt ∧ a.toInt < (w 129 0).toInt) ∧ (0 ≤ b.toInt ∧ b.toInt ≤ 3)
  · obtain ⟨i, hi, rfl, ei⟩ := of_toInt a hx.1.1
    obtain ⟨d, hd, rfl, ed⟩ := of_toInt b hx.2.1
    have hi' : (i : Int) < (w 129 0).toInt := by omega
    have d4 : d < 4 := by omega
    have c12 := wcn_ok h
    obtain ⟨q1, q2, q3, q4, q5, q6⟩ := hR.2.2.1 d d4
    by_cases h0 : (w 140 d).toInt = 0
    · refine OK_err2 hR (k := 2) (by decide) (by decide) ?_ (fun w1 e => ?_)
      · rw [f_X11_wish, hasWall_spec h, zb_s, if_neg (by rw [bP_0]; omega), XisSheet_spec, zb_s, if_neg (by rw [bP_0]; omega), zin_nI (by omega) (by decide), zg_t, clamp_nI (by omega), f_X4_isMissing, q1, if_pos (by rw [eq_nI _ (by decide)]; omega), zb_s, if_neg (by decide), zb2_eta]
      · rw [f_X12_wish, isWall_spec (e 129 (by decide)) h.1 h6, zb_s, if_neg (by rw [bP_0]; omega), isSheet_spec, zb_s, if_neg (by rw [bP_0]; omega), zld_k _ _ _ _ _ (by omega) (by decide), e 140 (by decide), if_pos (by rw [eq_nI _ (by decide)]; omega), zb2_eta]
    · obtain ⟨sz, hsz, esz, tsz⟩ := of_toInt (w 141 d) q4
      have sz24 : sz ≤ 24 := by omega
      obtain ⟨g, hg⟩ : ∃ g : Nat → Int32, g = fun j => w 142 (24 * d + j) := ⟨_, rfl⟩
      have xg : ∀ t, t < sz → w (105 + 2 * d) t = g t := fun t ht => by rw [hg]; exact q6 t (by omega)
      have mg : ∀ t, w 142 (24 * d + t) = g t := fun t => by rw [hg]
      obtain ⟨r, r1, r2, r3⟩ := first_bad (fun j => 0 ≤ (g j).toInt ∧ (g j).toInt < (w 129 1).toInt) sz
      have X0 := fun K1 K2 => Xhas_loop (i := d) (g := g) K1 K2 (nI i) h sz24 (by rw [q3, esz]) xg r1 r2 r3 zfuel 0 (by omega) (by unfold zfuel; omega)
      have M0 := fun K1 K2 (u : zW) (hu : ∀ j, j ≠ 127 → u j = w j) => Mhas_loop (w := u) (i := d) (g := g) K1 K2 (nI i) h (hu 129 (by decide)) d4 sz24 (by rw [hu 141 (by decide), esz]) (fun t _ => by rw [hu 142 (by decide)]; exact mg t) r1 r2 r3 zfuel 0 (by omega) (by unfold zfuel; omega)
      by_cases er : r = sz
      · subst er
        have hall := r2
        have hv : ∀ t, t < r → wv g t < wcn (w 129) := fun t ht => by
          have q := hall t ht
          have c2 := c12.2
          rw [c2, tnI (by omega)] at q
          unfold wv
          omega
        obtain ⟨wa, x1, x2, x3⟩ := Xspell_own h hi'
        have n48 := rowN_le h hi'
        have sx := SR.SX x2
        have xl := Xwish_loop (w := wa) (i := d) (f := rowF (w 129) i) (RT_SX h sx) x3 n48 sz24 (by rw [x2 _ (by omega), q3, esz]) (fun t ht => by rw [x2 _ (by omega)]; exact xg t ht) hall hv zfuel 0 (by omega) (Nat.zero_le _) (by unfold zfuel; omega)
        have uw : f_X11_unlikeWish (104 + 2 * d) wa = _ := xl
        have ul := wU_le (f := rowF (w 129) i) h r hv
        have XX : f_X11_wish (nI i) (nI d) w = (if (if wL (w 129) g r = rowN (w 129) i then nI (wU (w 129) (rowF (w 129) i) g r) else nI 1000000) < nI 1000000 then some ((if wL (w 129) g r = rowN (w 129) i then nI (wU (w 129) (rowF (w 129) i) g r) else nI 1000000), wa) else f_X11_error (nI 2) wa) := by
          rw [f_X11_wish, hasWall_spec h, zb_s, if_neg (by rw [bP_0]; omega), XisSheet_spec, zb_s, if_neg (by rw [bP_0]; omega), zin_nI (by omega) (by decide), zg_t, clamp_nI (by omega), f_X4_isMissing, q1, if_neg (by rw [eq_nI _ (by decide)]; omega), zb_s, if_pos rfl, X0, if_pos rfl, zin_nI (by omega) (by decide), zg_t, clamp_nI (by omega), x1, zb_s, uw, zb_s, zb2_eta]
        have MM : ∀ u : zW, (∀ j, j ≠ 127 → j ≠ 31 → j ≠ 32 → j ≠ 116 → j ≠ 117 → u j = w j) → ∃ u1, SM u u1 ∧ f_X12_wish (nI i) (nI d) u = (if wL (w 129) g r = rowN (w 129) i then some (nI (wU (w 129) (rowF (w 129) i) g r), u1) else f_X12_error (nI 2) u1) := fun u hu => by
          obtain ⟨u1, y1, y2, y3⟩ := Mreads_ok (w := u) h (hu 129 (by decide) (by decide) (by decide) (by decide) (by decide)) hi'
          have M1 := fun K1 K2 => Mhas_loop (w := u) (i := d) (g := g) K1 K2 (nI i) h (hu 129 (by decide) (by decide) (by decide) (by decide) (by decide)) d4 sz24 (by rw [hu 141 (by decide) (by decide) (by decide) (by decide) (by decide), esz]) (fun t _ => by rw [hu 142 (by decide) (by decide) (by decide) (by decide) (by decide)]; exact mg t) r1 r2 r3 zfuel 0 (by omega) (by unfold zfuel; omega)
          refine ⟨u1, SN.SM y2, ?_⟩
          have L0 : wL (w 129) g 0 = 0 := rfl
          have LL := wL_le h r hv
          rw [L0] at M1
          rw [f_X12_wish, isWall_spec (hu 129 (by decide) (by decide) (by decide) (by decide) (by decide)) h.1 h6, zb_s, if_neg (by rw [bP_0]; omega), isSheet_spec, zb_s, if_neg (by rw [bP_0]; omega), zld_k _ _ _ _ _ (by omega) (by decide), hu 140 (by decide) (by decide) (by decide) (by decide) (by decide), if_neg (by rw [eq_nI _ (by decide)]; omega), M1, if_pos rfl, y1, zb_s, y3.1, zb2_eta]
          by_cases q : wL (w 129) g r = rowN (w 129) i
          · rw [if_pos (by rw [q]), if_pos q]
            exact Mwish_loop (w := u1) h (by rw [y2.1 129 (by omega)]; exact hu 129 (by decide) (by decide) (by decide) (by decide) (by decide)) y3 n48 d4 sz24 (by rw [y2.1 141 (by omega), hu 141 (by decide) (by decide) (by decide) (by decide) (by decide), esz]) (fun t _ => by rw [y2.1 142 (by omega), hu 142 (by decide) (by decide) (by decide) (by decide) (by decide)]; exact mg t) (fun t ht => (hall t ht).1) hv q zfuel 0 (by omega) (by unfold zfuel; omega)
          · rw [if_neg (by rw [eq_nI _ (by omega), tnI (by omega)]; omega), if_neg q]
        by_cases q : wL (w 129) g r = rowN (w 129) i
        · obtain ⟨u1, y1, y2⟩ := MM wa (fun j _ b c d e => x2 j (by omega))
          rw [if_pos q, if_pos (by rw [lt_nI _ (by decide), tnI (by omega)]; omega)] at XX
          rw [if_pos q] at y2
          exact OK_ask hR XX sx y2 y1
        · rw [if_neg q, if_neg (by decide)] at XX
          refine OK_askE hR (k := 2) (by decide) (by decide) XX sx (fun u hu => ?_)
          obtain ⟨u1, y1, y2⟩ := MM u (fun j a b c d e => (hu j a).trans (x2 j (by omega)))
          rw [if_neg q] at y2
          exact ⟨u1, y2, y1⟩
      · refine OK_err2 hR (k := 1) (by decide) (by decide) ?_ (fun w1 e => ?_)
        · rw [f_X11_wish, hasWall_spec h, zb_s, if_neg (by rw [bP_0]; omega), XisSheet_spec, zb_s, if_neg (by rw [bP_0]; omega), zin_nI (by omega) (by decide), zg_t, clamp_nI (by omega), f_X4_isMissing, q1, if_neg (by rw [eq_nI _ (by decide)]; omega), zb_s, if_pos rfl, X0, if_neg er, zb2_eta]
        · have M1 := fun K1 K2 => M0 K1 K2 w1 e
          rw [show wL (w 129) g 0 = 0 from rfl] at M1
          rw [f_X12_wish, isWall_spec (e 129 (by decide)) h.1 h6, zb_s, if_neg (by rw [bP_0]; omega), isSheet_spec, zb_s, if_neg (by rw [bP_0]; omega), zld_k _ _ _ _ _ (by omega) (by decide), e 140 (by decide), if_neg (by rw [eq_nI _ (by decide)]; omega), M1, if_neg er, zb2_eta]
  · refine OK_err hR (k := 1) (by decide) (by decide) ?_ (fun w1 e => ?_)
    · rw [f_X11_wish, hasWall_spec h, zb_s]
      by_cases ha : 0 ≤ a.toInt ∧ a.toInt < (w 129 0).toInt
      · rw [if_neg (by rw [bP_0]; omega), XisSheet_spec, zb_s, if_pos (by rw [bP_0]; omega), j_X11_wish_18, zb2_eta]
      · rw [if_pos (by rw [bP_0]; exact ha), j_X11_wish_18, zb2_eta]
    · rw [f_X12_wish, isWall_spec e h.1 h6, zb_s]
      by_cases ha : 0 ≤ a.toInt ∧ a.toInt < (w 129 0).toInt
      · rw [if_neg (by rw [bP_0]; omega), isSheet_spec, zb_s, if_pos (by rw [bP_0]; omega), j_X12_wish_15, zb2_eta]
      · rw [if_pos (by rw [bP_0]; exact ha), j_X12_wish_15, zb2_eta]
