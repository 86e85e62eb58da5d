theorem oget_mem : ∀ {o : pO} {k : Nat}, k < o.length → oget o k ∈ o
  | [], k, h => by simp at h
  | x :: o, 0, h => by rw [oget]; exact List.mem_cons_self ..
  | x :: o, k + 1, h => by
    rw [List.length_cons] at h
    rw [oget]
    exact List.mem_cons_of_mem _ (oget_mem (by omega))
theorem run_dep {f : Nat → Int32} {r : Nat} : ∀ (b : pO) (n : Nat), (∀ k, k < b.length → f (2 * (n + k)) = nI (oget b k).1) → (∀ x, x ∈ b → x.1 ≤ 3) → run (tdep f n) b = some r → tdep f (n + b.length) = r ∧ ∀ k, k < b.length → (f (2 * (n + k)) = nI 2 → 1 ≤ tdep f (n + k)) ∧ (f (2 * (n + k)) = nI 3 → 2 ≤ tdep f (n + k))
  | [], n, _, _, h => by
    rw [run] at h
    exact ⟨Option.some.inj h, fun k hk => by simp at hk⟩
  | x :: b, n, hf, hx, h => by
    have f0 : f (2 * n) = nI x.1 := hf 0 (by simp)
    have x3 := hx x (List.mem_cons_self ..)
    have hf' : ∀ k, k < b.length → f (2 * (n + 1 + k)) = nI (oget b k).1 := fun k hk => by
      have := hf (k + 1) (by rw [List.length_cons]; omega)
      rw [show n + 1 + k = n + (k + 1) by omega]
      exact this
    have hx' : ∀ y, y ∈ b → y.1 ≤ 3 := fun y hy => hx y (List.mem_cons_of_mem _ hy)
    have c0 : (f (2 * n) = nI 0 ∨ f (2 * n) = nI 1) ↔ x.1 ≤ 1 := by
      rw [f0, eq_nI _ (by decide), eq_nI _ (by decide), tnI (by omega)]
      omega
    have c2 : f (2 * n) = nI 2 ↔ x.1 = 2 := by
      rw [f0, eq_nI _ (by decide), tnI (by omega)]
      omega
    have c3 : f (2 * n) = nI 3 ↔ x.1 = 3 := by
      rw [f0, eq_nI _ (by decide), tnI (by omega)]
      omega
    have key : run (tdep f (n + 1)) b = some r ∧ (f (2 * n) = nI 2 → 1 ≤ tdep f n) ∧ (f (2 * n) = nI 3 → 2 ≤ tdep f n) := by
      rw [run] at h
      rw [tdep]
      by_cases a1 : x.1 ≤ 1
      · rw [if_pos a1] at h
        rw [if_pos (c0.mpr a1)]
        exact ⟨h, fun q => by have := c2.mp q; omega, fun q => by have := c3.mp q; omega⟩
      · rw [if_neg a1] at h
        rw [if_neg (fun q => a1 (c0.mp q))]
        by_cases a2 : x.1 = 2
        · rw [if_pos a2] at h
          rw [if_pos (c2.mpr a2)]
          by_cases a3 : 1 ≤ tdep f n
          · rw [if_pos a3] at h
            exact ⟨h, fun _ => a3, fun q => by have := c3.mp q; omega⟩
          · rw [if_neg a3] at h
            cases h
        · rw [if_neg a2] at h
          rw [if_neg (fun q => a2 (c2.mp q))]
          by_cases a3 : 2 ≤ tdep f n
          · rw [if_pos a3] at h
            exact ⟨h, fun q => by have := c2.mp q; omega, fun _ => a3⟩
          · rw [if_neg a3] at h
            cases h
    obtain ⟨k1, k2, k3⟩ := key
    obtain ⟨i1, i2⟩ := run_dep b (n + 1) hf' hx' k1
    refine ⟨by rw [List.length_cons, show n + (b.length + 1) = n + 1 + b.length by omega]; exact i1, fun k hk => ?_⟩
    cases k with
    | zero => exact ⟨k2, k3⟩
    | succ k =>
      rw [List.length_cons] at hk
      have := i2 k (by omega)
      rw [show n + 1 + k = n + (k + 1) by omega] at this
      exact this
theorem text_made {u : Nat} {o : pO} {f g : Nat → Int32} (h60 : o.length ≤ 60) (hv : val1 u o) (hf : ∀ k, k < o.length → f (2 * k) = nI (oget o k).1 ∧ f (2 * k + 1) = nI (mvO u (oget o k))) (hg : ∀ k, k < o.length → g k = sgO (oget o k)) : textOk u o.length f g := by
  have x3 : ∀ x, x ∈ o → x.1 ≤ 3 := fun x hx => by
    rcases hv.1 x hx with a | a | a | a <;> omega
  obtain ⟨r1, r2⟩ := run_dep (f := f) (r := 1) o 0 (fun k hk => by rw [Nat.zero_add]; exact (hf k hk).1) x3 (hv.2 0)
  refine ⟨h60, fun k hk => ⟨?_, ?_⟩, fun _ => by rw [Nat.zero_add] at r1; exact r1⟩
  · obtain ⟨f1, f2⟩ := hf k hk
    have e := hg k hk
    unfold stepOk
    unfold sgO at e
    unfold mvO at f2
    rcases hv.1 _ (oget_mem hk) with ⟨a, b⟩ | ⟨a, b⟩ | ⟨a, b⟩ | ⟨a, b⟩
    · rw [if_neg (by omega)] at f2
      rw [if_pos a] at e
      exact Or.inl ⟨by rw [f1, a], _, b, f2, e⟩
    · rw [if_pos a] at f2
      rw [if_neg (by omega), if_pos a] at e
      exact Or.inr (Or.inl ⟨by rw [f1, a], _, b, f2, e⟩)
    · rw [if_neg (by omega), if_neg (by omega), if_pos a] at e
      exact Or.inr (Or.inr (Or.inl ⟨by rw [f1, a], e⟩))
    · rw [if_neg (by omega)] at f2
      rw [if_neg (by omega), if_neg (by omega), if_neg (by omega)] at e
      exact Or.inr (Or.inr (Or.inr ⟨by rw [f1, a], _, b, f2, e⟩))
  · have := r2 k hk
    rw [Nat.zero_add] at this
    exact this
section TX
variable {t : Nat → Nat} {z u : Nat} {s : Nat → Int32}
def ttp (s : Nat → Int32) : Nat → Nat := fun k => (s (544 + k)).toInt.toNat
def ttn (s : Nat → Int32) : Nat := (s 4).toInt.toNat
theorem tape_ok {w : zW} (h : RT w 1 s) : tok (ttp s) (ttn s) ∧ sok (ttp s) (ttn s) s := by
  obtain ⟨n, hn, en, tn⟩ := nn_nI h.1 4 (by decide) (by decide)
  have n60 := h.2.1.2.2.2.2.1.2
  have e : ttn s = n := by
    unfold ttn
    omega
  rw [e]
  refine ⟨⟨by omega, fun k hk => ?_⟩, en, fun k hk => ?_⟩
  · have := (h.2.2.2.2.2.1 k (by omega)).2
    unfold ttp
    omega
  · have q := h.1 (544 + k) (by omega) (by omega)
    obtain ⟨m, hm, em, tm⟩ := of_toInt _ q
    unfold ttp
    rw [tm, Int.toNat_natCast, em]
/-- what the class finds: the fault's place or none -/
theorem Xfault_ok {w : zW} (h : RT w 1 s) (hu : u < 2) : ∃ w1, (∀ j, j ≠ 120 → j ≠ 121 → j ≠ 122 → w1 j = w j) ∧ (((ps (ttp s) (ttn s) u 100 0 0 0).1 = true ∧ (ps (ttp s) (ttn s) u 100 0 0 0).2.1 = ttn s ∧ f_X2_faultOf 37 60 (nI (ttn s)) (nI (u + 1)) w = some (mI 1, w1) ∧ PX (ttp s) (ttn s) u w1 (ttn s) (ps (ttp s) (ttn s) u 100 0 0 0).2.2) ∨ (¬ ((ps (ttp s) (ttn s) u 100 0 0 0).1 = true ∧ (ps (ttp s) (ttn s) u 100 0 0 0).2.1 = ttn s) ∧ f_X2_faultOf 37 60 (nI (ttn s)) (nI (u + 1)) w = some (nI (ps (ttp s) (ttn s) u 100 0 0 0).2.1, w1))) := by
  obtain ⟨ht, hs⟩ := tape_ok h
  have z60 := ht.1
  obtain ⟨W, hW⟩ : ∃ W, W = zupd (zupd (zupd (zupd (zupd (zcopy w 37 121 (nI 0) (nI 0) (nI 60)) 120 2 (nI (ttn s))) 120 6 (nI (u + 1))) 120 3 (nI 0)) 120 4 (nI 0)) 120 5 (mI 1) := ⟨_, rfl⟩
  have eW : ∀ c, c ≠ 120 → c ≠ 121 → W c = w c := fun c c1 c2 => by rw [hW, zupd_ne _ _ _ c1, zupd_ne _ _ _ c1, zupd_ne _ _ _ c1, zupd_ne _ _ _ c1, zupd_ne _ _ _ c1, zcopy, zset_ne _ _ c2]
  have px : PX (ttp s) (ttn s) u W 0 [] := by
    refine ⟨?_, ?_, ?_, ?_, ?_, fun k hk => ?_, fun k hk => by simp at hk, Nat.zero_le _, Nat.le_refl _⟩
    · rw [hW, zupd_eq, upd_ne _ _ (by decide), zupd_eq, upd_ne _ _ (by decide), zupd_eq, upd_ne _ _ (by decide), zupd_eq, upd_ne _ _ (by decide), zupd_eq, upd_eq]
    · rw [hW, zupd_eq, upd_ne _ _ (by decide), zupd_eq, upd_ne _ _ (by decide), zupd_eq, upd_eq]
    · rw [hW, zupd_eq, upd_ne _ _ (by decide), zupd_eq, upd_eq]
      rfl
    · rw [hW, zupd_eq, upd_eq]
    · rw [hW, zupd_eq, upd_ne _ _ (by decide), zupd_eq, upd_ne _ _ (by decide), zupd_eq, upd_ne _ _ (by decide), zupd_eq, upd_eq]
    · have x := (h.2.2.2.2.2.1 k (by rw [hs.1, tnI (by omega)]; omega)).1
      rw [hW, zupd_ne _ _ _ (by decide), zupd_ne _ _ _ (by decide), zupd_ne _ _ _ (by decide), zupd_ne _ _ _ (by decide), zupd_ne _ _ _ (by decide), zcopy, zset_eq, clamp_nI (by omega), clamp_nI (by omega), ← hs.2 k hk, ← x]
      unfold va_cpy
      rw [if_pos (by omega)]
      simp
  obtain ⟨w7, x1, x2, x3, x4⟩ := (X_parse ht hu 100).1 0 0 0 [] W (by decide) (by decide) (by decide) px
  have pgA := ps_ok (t := ttp s) (z := ttn s) hu 100 0 0 0 (Nat.zero_le _)
  have e7 : ∀ j, j ≠ 120 → j ≠ 121 → j ≠ 122 → w7 j = w j := fun j j1 j2 j3 => (x2 j j1 j3).trans (eW j j1 j2)
  have X0 : f_X2_faultOf 37 60 (nI (ttn s)) (nI (u + 1)) w = if w7 120 3 < w7 120 2 then (zb (f_X2_failHere w7) fun w8 => j_X2_faultOf_58 w8) else j_X2_faultOf_58 w7 := by
    rw [f_X2_faultOf, cpyok 60 60 (by decide) (by decide), zg_t, zlet_e, zlet_e, zlet_e, zlet_e, zlet_e, zlet_e, ← hW, f_X2_level, x1, zb_s]
  by_cases ok : (ps (ttp s) (ttn s) u 100 0 0 0).1 = true
  · have p7 := x3 ok
    rw [List.nil_append] at p7
    obtain ⟨g1, g2, g3, g4⟩ := pgA.1 ok
    rw [p7.2.1, p7.1] at X0
    by_cases c : (ps (ttp s) (ttn s) u 100 0 0 0).2.1 < ttn s
    · obtain ⟨w8, y1, y2, y3⟩ := Xfail_at z60 p7
      refine ⟨w8, fun j j1 j2 j3 => (y2 j j1 j3).trans (e7 j j1 j2 j3), Or.inr ⟨fun q => by omega, ?_⟩⟩
      rw [X0, if_pos (by rw [lt_nI _ (by omega), tnI (by omega)]; omega), y1, zb_s, j_X2_faultOf_58, y3.2.2.2.1]
    · have e : (ps (ttp s) (ttn s) u 100 0 0 0).2.1 = ttn s := by omega
      refine ⟨w7, e7, Or.inl ⟨ok, e, ?_, by rw [e] at p7; exact p7⟩⟩
      rw [X0, if_neg (by rw [lt_nI _ (by omega), tnI (by omega)]; omega), j_X2_faultOf_58, p7.2.2.2.1]
  · have nok : (ps (ttp s) (ttn s) u 100 0 0 0).1 = false := by simpa using ok
    have p7 := x4 nok
    refine ⟨w7, e7, Or.inr ⟨fun q => ok q.1, ?_⟩⟩
    have f7 := Xfail_dead z60 p7
    rw [X0, f7, zb_s, j_X2_faultOf_58, p7.2.2.2.1]
    split <;> rfl
theorem Mtxt_loop (K : zW → Option (Int32 × zW)) {b len : Nat} (hb : b + 2 * len ≤ 627) (hl : len ≤ 60) : ∀ (m k : Nat) (w : zW), w 128 6 = nI len → k ≤ 2 * len → 2 * len - k < m → l_X12_text_102 K m (nI b) (nI k) w = K (zset w 129 (cpr (w 129) (w 132) (b + 1) k (2 * len))) := by
  intro m
  induction m with
  | zero => intro k w _ _ h; omega
  | succ m ih =>
    intro k w h6 hk hm
    rw [l_X12_text_102.eq_2, h6, pk_mul]
    by_cases e : k < 2 * len
    · have := ih (k + 1) (zupd w 129 (b + 1 + k) (w 132 k)) (by rw [zupd_ne _ _ _ (by decide)]; exact h6) (by omega) (by omega)
      rw [zupd_ne _ _ _ (show 132 ≠ 129 by decide), zset_upd_cpr _ _ _ _ e rfl] at this
      rw [if_pos (by rw [lt_nI _ (by omega), tnI (by omega)]; omega), zld_k _ _ _ _ _ (by omega) (by decide), nI_add, nI_add, zsto_k _ _ _ _ _ _ (by omega) (by decide), nI_add, zlet_e]
      exact this
    · have : k = 2 * len := by omega
      subst this
      rw [if_neg (by rw [lt_nI _ (by omega), tnI (by omega)]; omega), cpr_end _ _ _ (Nat.le_refl _), zset_self]
/-- what the reference finds and lays down -/
theorem Mtext_ok {wx w : zW} (h : RT wx 1 s) (hw : w 129 = s) (hu : u < 2) : ∃ w1, SM9 w w1 ∧ (((ps (ttp s) (ttn s) u 100 0 0 0).1 = true ∧ (ps (ttp s) (ttn s) u 100 0 0 0).2.1 = ttn s ∧ f_X12_text (nI u) w = some (nI 1, w1) ∧ ∃ g : Nat → Int32, w1 129 = cpr (upd (upd s 4 (nI 0)) (294 + 125 * u) (nI (ps (ttp s) (ttn s) u 100 0 0 0).2.2.length)) g (295 + 125 * u) 0 (2 * (ps (ttp s) (ttn s) u 100 0 0 0).2.2.length) ∧ ∀ k, k < (ps (ttp s) (ttn s) u 100 0 0 0).2.2.length → g (2 * k) = nI (oget (ps (ttp s) (ttn s) u 100 0 0 0).2.2 k).1 ∧ g (2 * k + 1) = nI (mvO u (oget (ps (ttp s) (ttn s) u 100 0 0 0).2.2 k))) ∨ (¬ ((ps (ttp s) (ttn s) u 100 0 0 0).1 = true ∧ (ps (ttp s) (ttn s) u 100 0 0 0).2.1 = ttn s) ∧ f_X12_text (nI u) w = some (mI 10 - nI (ps (ttp s) (ttn s) u 100 0 0 0).2.1, w1) ∧ w1 129 = upd s 4 (nI 0))) := by
  obtain ⟨ht, hs⟩ := tape_ok h
  have z60 := ht.1
  obtain ⟨W, hW⟩ : ∃ W, W = zupd (zupd (zupd (zupd w 128 7 (nI u)) 128 4 (nI 0)) 128 5 (nI 0)) 128 6 (nI 0) := ⟨_, rfl⟩
  have gW : ∀ j, j ≠ 4 → j ≠ 5 → j ≠ 6 → j ≠ 7 → W 128 j = w 128 j := fun j j4 j5 j6 j7 => by rw [hW, zupd_eq, upd_ne _ _ j6, zupd_eq, upd_ne _ _ j5, zupd_eq, upd_ne _ _ j4, zupd_eq, upd_ne _ _ j7]
  have eW : ∀ c, c ≠ 128 → W c = w c := fun c hc => by rw [hW, zupd_ne _ _ _ hc, zupd_ne _ _ _ hc, zupd_ne _ _ _ hc, zupd_ne _ _ _ hc]
  have pm : PM s (ttn s) u W 0 0 [] := by
    refine ⟨?_, ?_, ?_, ?_, fun k hk => by simp at hk, (eW 129 (by decide)).trans hw, Nat.zero_le _, Nat.le_refl _⟩
    · rw [hW, zupd_eq, upd_ne _ _ (by decide), zupd_eq, upd_ne _ _ (by decide), zupd_eq, upd_eq]
    · rw [hW, zupd_eq, upd_ne _ _ (by decide), zupd_eq, upd_eq]
    · rw [hW, zupd_eq, upd_eq]
      rfl
    · rw [hW, zupd_eq, upd_ne _ _ (by decide), zupd_eq, upd_ne _ _ (by decide), zupd_eq, upd_ne _ _ (by decide), zupd_eq, upd_eq]
  obtain ⟨w5, x1, x2, x3, x4⟩ := (M_parse ht hu hs 100 100 (Nat.le_refl _)).1 0 0 0 [] W (by decide) (by decide) (by decide) pm
  have pgA := ps_ok (t := ttp s) (z := ttn s) hu 100 0 0 0 (Nat.zero_le _)
  have s5 : SM9 w w5 := ⟨fun c c1 _ c3 c4 => (x2.1 c c1 (by omega)).trans (eW c c1), (x2.2 2 (by decide) (by decide) (by decide)).trans (gW 2 (by decide) (by decide) (by decide) (by decide)), (x2.2 21 (by decide) (by decide) (by decide)).trans (gW 21 (by decide) (by decide) (by decide) (by decide))⟩
  have M0 : f_X12_text (nI u) w = if bI (ps (ttp s) (ttn s) u 100 0 0 0).1 = nI 0 then j_X12_text_59 (nI u) w5 else if w5 128 4 = w5 129 4 then j_X12_text_60 (nI u) (nI 1) w5 else j_X12_text_59 (nI u) w5 := by
    rw [f_X12_text, in_k _ (by decide) (by decide), zb_s, if_neg (by rw [bP_0, tnI (by omega)]; omega), zlet_e, zlet_e, zlet_e, zlet_e, ← hW, f_X12_whole, x1, zb2_s]
  have bad : ∀ a, w5 128 4 = nI a → w5 129 = s → j_X12_text_59 (nI u) w5 = some (mI 10 - nI a, zupd w5 129 4 (nI 0)) := fun a ha h9 => by
    rw [j_X12_text_59, j_X12_text_60, zlet_e, if_pos rfl, zupd_ne _ _ _ (show 128 ≠ 129 by decide), ha]
  by_cases ok : (ps (ttp s) (ttn s) u 100 0 0 0).1 = true
  · have p5 := x3 ok
    rw [List.nil_append] at p5
    obtain ⟨g1, g2, g3, g4⟩ := pgA.1 ok
    have len60 : (ps (ttp s) (ttn s) u 100 0 0 0).2.2.length ≤ 60 := by omega
    rw [ok, show bI true = nI 1 from rfl, if_neg (by decide), p5.1, p5.2.2.2.2.2.1, hs.1] at M0
    by_cases c : (ps (ttp s) (ttn s) u 100 0 0 0).2.1 = ttn s
    · rw [if_pos (by rw [c]), j_X12_text_60, zlet_e, if_neg (by decide), pk_mul, nI_add, zlet_e, zsto_k _ _ _ _ _ _ (by omega) (by decide), zupd_ne _ _ _ (show 128 ≠ 129 by decide), p5.2.2.1] at M0
      have lp := Mtxt_loop (fun w13 => some (nI 1, w13)) (b := 294 + 125 * u) (len := (ps (ttp s) (ttn s) u 100 0 0 0).2.2.length) (by omega) len60 zfuel 0 (zupd (zupd w5 129 4 (nI 0)) 129 (294 + 125 * u) (nI (ps (ttp s) (ttn s) u 100 0 0 0).2.2.length)) (by rw [zupd_ne _ _ _ (by decide), zupd_ne _ _ _ (by decide)]; exact p5.2.2.1) (by omega) (by unfold zfuel; omega)
      rw [zupd_eq, zupd_eq, p5.2.2.2.2.2.1, zupd_ne _ _ _ (show 132 ≠ 129 by decide), zupd_ne _ _ _ (show 132 ≠ 129 by decide)] at lp
      refine ⟨_, ?_, Or.inl ⟨ok, c, M0.trans lp, w5 132, ?_, p5.2.2.2.2.1⟩⟩
      · exact SM9.trans s5 ⟨fun k k1 k2 _ _ => by rw [zset_ne _ _ k2, zupd_ne _ _ _ k2, zupd_ne _ _ _ k2], by rw [zset_ne _ _ (by decide), zupd_ne _ _ _ (by decide), zupd_ne _ _ _ (by decide)], by rw [zset_ne _ _ (by decide), zupd_ne _ _ _ (by decide), zupd_ne _ _ _ (by decide)]⟩
      · rw [zset_eq, show 294 + 125 * u + 1 = 295 + 125 * u by omega]
    · rw [if_neg (by rw [eq_nI _ (by omega), tnI (by omega)]; omega), bad _ p5.1 p5.2.2.2.2.2.1] at M0
      exact ⟨_, SM9.upd s5 _ _ (by omega), Or.inr ⟨fun q => c q.2, M0, by rw [zupd_eq, p5.2.2.2.2.2.1]⟩⟩
  · have nok : (ps (ttp s) (ttn s) u 100 0 0 0).1 = false := by simpa using ok
    have p5 := x4 nok
    rw [nok, show bI false = nI 0 from rfl, if_pos rfl, bad _ p5.1 p5.2.1] at M0
    exact ⟨_, SM9.upd s5 _ _ (by omega), Or.inr ⟨fun q => ok q.1, M0, by rw [zupd_eq, p5.2.1]⟩⟩
/-- the tape is empty again -/
theorem RT_notape {w w1 : zW} (h : RT w 1 s) (hw : ∀ k, k ≤ 51 → k ≠ 1 → w1 k = w k) (h8 : w1 1 = upd (w 1) 8 (nI 0)) : RT w1 1 (upd s 4 (nI 0)) := by
  obtain ⟨g1, g2, g3, g4, g5, g6, g7, g8⟩ := h
  have u' : ∀ p, p ≠ 4 → upd s 4 (nI 0) p = s p := fun p q => upd_ne s _ q
  refine ⟨nn_upd g1 _ _ (by rw [tnI (by omega)]; omega), ?_, Rwall_c g3 g2.1.2 (fun k _ _ => hw k (by omega) (by omega)) (u' 0 (by omega)) (fun p _ _ => u' p (by omega)), Rword_c g4 g2.2.1.2 (fun k _ _ => hw k (by omega) (by omega)) (u' 1 (by omega)) (fun p _ _ => u' p (by omega)), Rheap_c g5 (hw _ (by omega) (by omega)) (fun p _ _ => u' p (by omega)), ?_, Rwait_c g7 g2.2.2.2.2.2.1.2 (hw _ (by omega) (by omega)) (u' 5 (by omega)) (fun p _ _ => u' p (by omega)), Rtext_c g8 (fun k _ _ => hw k (by omega) (by omega)) (fun p _ _ => u' p (by omega))⟩
  · unfold Rcnt at g2 ⊢
    rw [hw (1 + 2) (by omega) (by omega), h8, u' 0 (by omega), u' 1 (by omega), u' 2 (by omega), u' 3 (by omega), u' 5 (by omega), u' 6 (by omega), upd_eq, upd_eq, upd_ne (w 1) _ (show 7 ≠ 8 by decide), upd_ne (w 1) _ (show 10 ≠ 8 by decide), upd_ne (w 1) _ (show 11 ≠ 8 by decide), upd_ne (w 1) _ (show 9 ≠ 8 by decide), upd_ne (w 1) _ (show 12 ≠ 8 by decide)]
    exact ⟨g2.1, g2.2.1, g2.2.2.1, g2.2.2.2.1, ⟨rfl, by decide⟩, g2.2.2.2.2.2⟩
  · intro k hk
    rw [upd_eq, tnI (by omega)] at hk
    omega
theorem mvO_lt {x : Nat × Nat} (h : okst u x) : mvO u x < 10000 ∧ x.1 ≤ 3 := by
  have tops_lt : ∀ c, c ∈ tops → c < 10000 := by decide
  have tn : ∀ i, tname u i < 10000 := fun i => by
    unfold tname
    split <;> omega
  unfold mvO
  rcases h with ⟨a, b⟩ | ⟨a, b⟩ | ⟨a, b⟩ | ⟨a, b⟩
  · rw [if_neg (by omega)]
    omega
  · rw [if_pos a]
    exact ⟨tn _, by omega⟩
  · rw [if_neg (by omega)]
    omega
  · rw [if_neg (by omega)]
    exact ⟨tops_lt _ b, by omega⟩
/-- a text is laid down on both sides -/
theorem RT_text {w w1 : zW} {o : pO} {g : Nat → Int32} (h : RT w 1 s) (hu : u < 2) (h60 : o.length ≤ 60) (hv : val1 u o) (hg : ∀ k, k < o.length → g (2 * k) = nI (oget o k).1 ∧ g (2 * k + 1) = nI (mvO u (oget o k))) (hw : ∀ k, k ≤ 51 → k ≠ 29 + 4 * u → k ≠ 30 + 4 * u → w1 k = w k) (h3 : w1 (29 + 4 * u) 3 = nI o.length) (hc : ∀ k, k < o.length → w1 (30 + 4 * u) k = sgO (oget o k)) : RT w1 1 (cpr (upd s (294 + 125 * u) (nI o.length)) g (295 + 125 * u) 0 (2 * o.length)) := by
  obtain ⟨g1, g2, g3, g4, g5, g6, g7, g8⟩ := h
  obtain ⟨S, hS⟩ : ∃ S, S = cpr (upd s (294 + 125 * u) (nI o.length)) g (295 + 125 * u) 0 (2 * o.length) := ⟨_, rfl⟩
  have so : ∀ p, ¬ (294 + 125 * u ≤ p ∧ p < 415 + 125 * u) → S p = s p := fun p hp => by
    rw [hS]
    unfold cpr
    rw [if_neg (by omega), upd_ne _ _ (by omega)]
  have sl : S (294 + 125 * u) = nI o.length := by
    rw [hS]
    unfold cpr
    rw [if_neg (by omega), upd_eq]
  have si : ∀ k, k < 2 * o.length → S (295 + 125 * u + k) = g k := fun k hk => by
    rw [hS]
    unfold cpr
    rw [if_pos (by omega), Nat.add_sub_cancel_left]
  rw [← hS]
  have lo : ∀ p, p < 294 ∨ 544 ≤ p → S p = s p := fun p hp => so p (by omega)
  refine ⟨fun p hp h6 => ?_, ?_, Rwall_c g3 g2.1.2 (fun k _ _ => hw k (by omega) (by omega) (by omega)) (lo 0 (by omega)) (fun p _ _ => lo p (by omega)), Rword_c g4 g2.2.1.2 (fun k _ _ => hw k (by omega) (by omega) (by omega)) (lo 1 (by omega)) (fun p _ _ => lo p (by omega)), Rheap_c g5 (hw _ (by omega) (by omega) (by omega)) (fun p _ _ => lo p (by omega)), Rtape_c g6 g2.2.2.2.2.1.2 (hw _ (by omega) (by omega) (by omega)) (lo 4 (by omega)) (fun p _ _ => lo p (by omega)), Rwait_c g7 g2.2.2.2.2.2.1.2 (hw _ (by omega) (by omega) (by omega)) (lo 5 (by omega)) (fun p _ _ => lo p (by omega)), fun u' hu' => ?_⟩
  · by_cases c : p = 294 + 125 * u
    · rw [c, sl, tnI (by omega)]
      omega
    · by_cases c2 : 295 + 125 * u ≤ p ∧ p < 295 + 125 * u + 2 * o.length
      · obtain ⟨k, rfl⟩ : ∃ k, p = 295 + 125 * u + k := ⟨p - (295 + 125 * u), by omega⟩
        rw [si k (by omega)]
        obtain ⟨q1, q2⟩ := hg (k / 2) (by omega)
        obtain ⟨m1, m2⟩ := mvO_lt (hv.1 _ (oget_mem (show k / 2 < o.length by omega)))
        have : k = 2 * (k / 2) ∨ k = 2 * (k / 2) + 1 := by omega
        rcases this with e | e
        · rw [e, q1, tnI (by omega)]
          omega
        · rw [e, q2, tnI (by omega)]
          omega
      · have : S p = s p := by
          rw [hS]
          unfold cpr
          rw [if_neg (by omega), upd_ne _ _ c]
        rw [this]
        exact g1 p hp h6
  · unfold Rcnt
    rw [hw 1 (by omega) (by omega) (by omega), hw (1 + 2) (by omega) (by omega) (by omega), lo 0 (by omega), lo 1 (by omega), lo 2 (by omega), lo 3 (by omega), lo 4 (by omega), lo 5 (by omega), lo 6 (by omega)]
    exact g2
  · by_cases e : u' = u
    · subst e
      unfold Rtex1
      rw [show 1 + 28 + 4 * u' = 29 + 4 * u' by omega, show 1 + 29 + 4 * u' = 30 + 4 * u' by omega, sl, tnI (by omega), Int.toNat_natCast]
      refine ⟨h3, text_made h60 hv (fun k hk => ?_) hc⟩
      show S (295 + 125 * u' + 2 * k) = _ ∧ S (295 + 125 * u' + (2 * k + 1)) = _
      rw [si _ (by omega), si _ (by omega)]
      exact hg k hk
    · have q := g8 u' hu'
      unfold Rtex1 at q ⊢
      rw [show 1 + 28 + 4 * u' = 29 + 4 * u' by omega, show 1 + 29 + 4 * u' = 30 + 4 * u' by omega] at q ⊢
      have l60 := q.2.1
      rw [hw (29 + 4 * u') (by omega) (by omega) (by omega), hw (30 + 4 * u') (by omega) (by omega) (by omega), so (294 + 125 * u') (by omega)]
      exact ⟨q.1, textOk_congr q.2 (fun k hk => so _ (by omega)) (fun _ _ => rfl)⟩
theorem op_text {w : zW} (hR : Rel w) (a : Int32) : OK2 (f_X11_text a) (f_X12_text a) w := by
  have h := hR.1
  by_cases ha : 0 ≤ a.toInt ∧ a.toInt < 2
  · obtain ⟨u, hu, rfl, eu⟩ := of_toInt a ha.1
    have u2 : u < 2 := by omega
    obtain ⟨ht, hs⟩ := tape_ok h
    have z60 := ht.1
    have e8 : w 1 8 = nI (ttn (w 129)) := h.2.1.2.2.2.2.1.1.trans hs.1
    obtain ⟨w1, f1, f2⟩ := Xfault_ok h u2
    have pgA := ps_ok (t := ttp (w 129)) (z := ttn (w 129)) u2 100 0 0 0 (Nat.zero_le _)
    have X0 : f_X11_text (nI u) w = j_X11_text_44 (nI u) (nI (ttn (w 129))) (nI (u + 1)) w := by
      rw [f_X11_text, if_neg (by rw [lt_nI _ (by decide)]; omega), if_pos (by rw [lt_nI _ (by decide)]; omega), e8]
      have : u = 0 ∨ u = 1 := by omega
      rcases this with rfl | rfl
      · rw [if_pos rfl]
      · rw [if_neg (by decide)]
    have r0 : RT (zupd w1 1 8 (nI 0)) 1 (upd (w 129) 4 (nI 0)) := RT_notape h (fun k k1 k2 => by rw [zupd_ne _ _ _ k2]; exact f1 k (by omega) (by omega) (by omega)) (by rw [zupd_eq, f1 1 (by decide) (by decide) (by decide)])
    have F0 : FX w (zupd w1 1 8 (nI 0)) := fun k hk => by
      rw [zupd_ne _ _ _ (by omega)]
      exact f1 k (by omega) (by omega) (by omega)
    rcases f2 with ⟨ok, ez, x1, px⟩ | ⟨no, x1⟩
    · obtain ⟨g1, g2, g3, g4⟩ := pgA.1 ok
      have len60 : (ps (ttp (w 129)) (ttn (w 129)) u 100 0 0 0).2.2.length ≤ 60 := by omega
      obtain ⟨W, hW⟩ : ∃ W, W = zupd (zcopy (zupd w1 1 8 (nI 0)) 122 (30 + 4 * u) (nI 0) (nI 0) (nI 60)) (29 + 4 * u) 3 (nI (ps (ttp (w 129)) (ttn (w 129)) u 100 0 0 0).2.2.length) := ⟨_, rfl⟩
      have eW : ∀ k, k ≠ 29 + 4 * u → k ≠ 30 + 4 * u → W k = zupd w1 1 8 (nI 0) k := fun k k1 k2 => by rw [hW, zupd_ne _ _ _ k1, zcopy, zset_ne _ _ k2]
      have X1 : f_X11_text (nI u) w = some (nI 1, W) := by
        have to : f_X8_textOf (nI u) (zupd w1 1 8 (nI 0)) = some (29 + 4 * u) := by
          rw [f_X8_textOf]
          have : u = 0 ∨ u = 1 := by omega
          rcases this with rfl | rfl
          · rw [if_pos rfl]
          · rw [if_neg (by decide)]
        have ho : f_X2_handTo (29 + 4 * u) (zupd w1 1 8 (nI 0)) = some W := by
          rw [f_X2_handTo, cpyok 60 60 (by decide) (by decide), zg_t, zlet_e, zlet_e, zcopy, zset_ne _ _ (show 120 ≠ 29 + 4 * u + 1 by omega), zupd_ne _ _ _ (show 120 ≠ 1 by decide), px.2.2.1, hW, zcopy, show 29 + 4 * u + 1 = 30 + 4 * u by omega]
        rw [X0, j_X11_text_44, x1, zb2_s, zlet_e, if_pos (by decide), to, zb_s, ho, zb_s]
      have fxW : FX w W := fun k hk => by
        rw [eW k (by omega) (by omega)]
        exact F0 k hk
      obtain ⟨w2, y1, y2⟩ := Mtext_ok (w := W) h (by rw [fxW 129 (by omega)]) u2
      rcases y2 with ⟨_, _, m1, g, m2, m3⟩ | ⟨no, _⟩
      · refine OK_town hR X1 fxW ?_ m1 y1 m2
        refine RT_text r0 u2 len60 g4 m3 (fun k k1 k2 k3 => eW k k2 k3) (by rw [hW, zupd_eq, upd_eq]) (fun k hk => ?_)
        rw [hW, zupd_ne _ _ _ (by omega), zcopy, zset_eq, clamp_nI (by omega), clamp_nI (by omega)]
        unfold va_cpy
        rw [if_pos (by omega), zupd_ne _ _ _ (show 122 ≠ 1 by decide)]
        have := px.2.2.2.2.2.2.1 k hk
        simpa using this
      · exact absurd ⟨ok, ez⟩ no
    · have X1 : f_X11_text (nI u) w = some (mI 10 - nI (ps (ttp (w 129)) (ttn (w 129)) u 100 0 0 0).2.1, zupd w1 1 8 (nI 0)) := by
        have le : (ps (ttp (w 129)) (ttn (w 129)) u 100 0 0 0).2.1 ≤ ttn (w 129) := by
          by_cases ok : (ps (ttp (w 129)) (ttn (w 129)) u 100 0 0 0).1 = true
          · exact (pgA.1 ok).2.1
          · exact (pgA.2 (by simpa using ok)).2
        rw [X0, j_X11_text_44, x1, zb2_s, zlet_e, if_neg (by rw [lt_nI _ (by decide), tnI (by omega)]; omega)]
      obtain ⟨w2, y1, y2⟩ := Mtext_ok (w := zupd w1 1 8 (nI 0)) h (by rw [F0 129 (by omega)]) u2
      rcases y2 with ⟨ok, ez, _⟩ | ⟨_, m1, m2⟩
      · exact absurd ⟨ok, ez⟩ no
      · exact OK_town hR X1 F0 r0 m1 y1 m2
  · refine OK_err hR (k := 1) (by decide) (by decide) ?_ (fun w1 e => ?_)
    · rw [f_X11_text]
      by_cases b : a.toInt < 0
      · rw [if_pos (by rw [lt_nI _ (by decide)]; omega), j_X11_text_9, zb2_eta]
      · rw [if_neg (by rw [lt_nI _ (by decide)]; omega), if_neg (by rw [lt_nI _ (by decide)]; omega), j_X11_text_9, zb2_eta]
    · rw [f_X12_text, in_k _ (by decide) (by decide), zb_s, if_pos (by rw [bP_0]; omega), zb2_eta]
end TX
