theorem nI_dec {d : Nat} (h : 1 ≤ d) (hd : d < 2 ^ 31) : nI d + mI 1 = nI (d - 1) := by
  apply Int32.toInt_inj.mp
  rw [tadd (by rw [tmI (by decide), tnI (by omega)]; omega) (by rw [tmI (by decide), tnI (by omega)]; omega), tmI (by decide), tnI (by omega), tnI (by omega)]
  omega
theorem nI_sub {a b : Nat} (h : b ≤ a) (ha : a < 2 ^ 31) : nI a - nI b = nI (a - b) := by
  apply Int32.toInt_inj.mp
  rw [tsub (by rw [tnI (by omega), tnI (by omega)]; omega) (by rw [tnI (by omega), tnI (by omega)]; omega), tnI (by omega), tnI (by omega), tnI (by omega)]
  omega
theorem div_m1 (a : Int32) : a / mI 1 = -a := by
  apply Int32.toInt_inj.mp
  rw [Int32.toInt_div, Int32.toInt_neg, tmI (by decide)]
  simp
theorem rem_m1 (a : Int32) : a - a / mI 1 * mI 1 = nI 0 := by
  rw [div_m1]
  apply Int32.toInt_inj.mp
  rw [Int32.toInt_sub, Int32.toInt_mul, Int32.toInt_neg, tmI (by decide), tnI (by decide)]
  have := toInt_rng a
  simp only [Int.bmod]
  omega
/-- two numbers joined by a sign -/
def jv (c a b : Int32) : Int32 := (f_X12_joined c a b).getD 0
theorem z0g {b : Int32} (h : ¬ b = nI 0) : decide (¬ b = 0) = true := decide_eq_true h
theorem jv_M {c : Nat} (hc : c ∈ tops) (a b : Int32) : f_X12_joined (nI c) a b = some (jv (nI c) a b) := by
  have : (f_X12_joined (nI c) a b).isSome := by
    simp only [tops, List.mem_cons, List.not_mem_nil, or_false] at hc
    rcases hc with rfl | rfl | rfl | rfl | rfl | rfl | rfl | rfl | rfl | rfl
    all_goals
      rw [f_X12_joined]
      simp (disch := omega) only [zb_s, zb2_s, zlet_e, zg_t, bP_0, bP_t0, in_k, isLetter_spec, XisLetter_spec, lt_nI, nI_lt2, eq_nI, tnI, tsub_k, tadd_k, if_pos, if_neg, zld_k, zsto_k, ztld_k, clamp_nI, zin_nI, zb2_eta, ↓reduceIte, nI_add, pk_mul, pk_sub, j_X12_joined_163, j_X12_joined_226]
      try rfl
    · split
      · rfl
      · rename_i h
        split
        · rfl
        · rw [z0g (fun e => h (by rw [e]; decide))]; rfl
    · split
      · rfl
      · rename_i h
        split
        · rfl
        · rw [z0g (fun e => h (by rw [e]; decide))]; rfl
    all_goals repeat (first | rfl | split)
  unfold jv
  obtain ⟨r, hr⟩ := Option.isSome_iff_exists.mp this
  rw [hr]
  rfl
theorem jv_X {c : Nat} (hc : c ∈ tops) (a b : Int32) : f_X6_joined (nI c) a b = some (jv (nI c) a b) := by
  rw [← jv_M hc]
  simp only [tops, List.mem_cons, List.not_mem_nil, or_false] at hc
  rcases hc with rfl | rfl | rfl | rfl | rfl | rfl | rfl | rfl | rfl | rfl
  all_goals
    rw [f_X6_joined, f_X12_joined]
    simp (disch := omega) only [zb_s, zb2_s, zlet_e, zg_t, bP_0, bP_t0, in_k, isLetter_spec, XisLetter_spec, lt_nI, nI_lt2, eq_nI, tnI, tsub_k, tadd_k, if_pos, if_neg, zld_k, zsto_k, ztld_k, clamp_nI, zin_nI, zb2_eta, ↓reduceIte, nI_add, pk_mul, pk_sub, j_X12_joined_163, j_X12_joined_226, j_X6_joined_211]
    try rfl
  · split
    · rfl
    · rename_i h
      split
      · rename_i h2
        rw [z0g (fun e => h (by rw [e]; decide)), h2, div_m1]
        rfl
      · rfl
  · split
    · rfl
    · rename_i h
      split
      · rename_i h2
        rw [z0g (fun e => h (by rw [e]; decide)), h2, rem_m1]
        rfl
      · rfl
/-- the stack after k steps of a text -/
def tsk (f e : Nat → Int32) : Nat → Nat → Int32
  | 0 => fun _ => 0
  | k + 1 => if f (2 * k) = nI 0 then upd (tsk f e k) (tdep f k) (f (2 * k + 1))
    else if f (2 * k) = nI 1 then upd (tsk f e k) (tdep f k) (e (f (2 * k + 1)).toNatClampNeg)
    else if f (2 * k) = nI 2 then upd (tsk f e k) (tdep f k - 1) (if tsk f e k (tdep f k - 1) = nI 0 then nI 1 else nI 0)
    else upd (tsk f e k) (tdep f k - 2) (jv (f (2 * k + 1)) (tsk f e k (tdep f k - 2)) (tsk f e k (tdep f k - 1)))
theorem tdep_le (f : Nat → Int32) : ∀ k, tdep f k ≤ k
  | 0 => Nat.le_refl _
  | k + 1 => by
    have := tdep_le f k
    rw [tdep]
    split
    · omega
    · split <;> omega
theorem mI_ne {a b : Nat} (h : a ≠ b) (ha : a < 2 ^ 31) (hb : b < 2 ^ 31) : ¬ mI a = mI b := fun e => by
  have := congrArg Int32.toInt e
  rw [tmI (by omega), tmI (by omega)] at this
  omega
theorem tops_c {c : Nat} (h : c ∈ tops) : 37 ≤ c ∧ c ≤ 124 ∧ -(mI c) = nI c := by
  simp only [tops, List.mem_cons, List.not_mem_nil, or_false] at h
  rcases h with rfl | rfl | rfl | rfl | rfl | rfl | rfl | rfl | rfl | rfl <;> exact ⟨by decide, by decide, by decide⟩
theorem Xworth_loop (K : Nat → Int32 → zW → Option (Int32 × zW)) {u c O : Nat} {f g e : Nat → Int32} (hu : u < 2) (h : textOk u c f g) : ∀ (n k : Nat) (w : zW), k ≤ c → w O 3 = nI c → (∀ j, j < c → w (O + 1) j = g j) → (∀ i, i < tnames u → w (O + 3) i = e (tname u i)) → (∀ j, j < tdep f k → w (O + 2) j = tsk f e k j) → c - k < n → ∃ A, (∀ j, j < tdep f c → A j = tsk f e c j) ∧ l_X6_worth_35 K n O (nI (tdep f k)) (nI k) w = K O (nI (tdep f c)) (zset w (O + 2) A) := by
  obtain ⟨c60, hst, h1⟩ := h
  intro n
  induction n with
  | zero => intro k w _ _ _ _ _ h; omega
  | succ n ih =>
    intro k w hk hc hg he hs hn
    rw [l_X6_worth_35.eq_2, hc]
    by_cases ek : k < c
    · have dk := tdep_le f k
      obtain ⟨so, so2, so3⟩ := hst k ek
      have nx : ∀ (p : Nat) (v : Int32), upd (tsk f e k) p v = tsk f e (k + 1) → (∀ j, j < tdep f (k + 1) → j = p ∨ j < tdep f k) → ∃ A, (∀ j, j < tdep f c → A j = tsk f e c j) ∧ l_X6_worth_35 K n O (nI (tdep f (k + 1))) (nI (k + 1)) (zupd w (O + 2) p v) = K O (nI (tdep f c)) (zset w (O + 2) A) := fun p v hp hp2 => by
        obtain ⟨A, a1, a2⟩ := ih (k + 1) (zupd w (O + 2) p v) (by omega) (by rw [zupd_ne _ _ _ (by omega)]; exact hc) (fun j hj => by rw [zupd_ne _ _ _ (by omega)]; exact hg j hj) (fun i hi => by rw [zupd_ne _ _ _ (by omega)]; exact he i hi) (fun j hj => by
          rw [zupd_eq, ← hp]
          by_cases ej : j = p
          · rw [ej, upd_eq, upd_eq]
          · rw [upd_ne _ _ ej, upd_ne _ _ ej]
            exact hs j (by have := hp2 j hj; omega)) (by omega)
        rw [zset_zupd] at a2
        exact ⟨A, a1, a2⟩
      rw [if_pos (by rw [lt_nI _ (by omega), tnI (by omega)]; omega), zld_k _ _ _ _ _ (by omega) (by decide), hg k ek]
      rcases so with ⟨w0, v, hv, ev, es⟩ | ⟨w1, i, hi, ev, es⟩ | ⟨w2, es⟩ | ⟨w3, o, ho, ev, es⟩
      · have td : tdep f (k + 1) = tdep f k + 1 := by rw [tdep, if_pos (Or.inl w0)]
        have ts : upd (tsk f e k) (tdep f k) (nI v) = tsk f e (k + 1) := by rw [tsk, if_pos w0, ev]
        obtain ⟨A, a1, a2⟩ := nx _ _ ts (fun j hj => by omega)
        refine ⟨A, a1, ?_⟩
        rw [es, if_neg (by rw [lt_mI _ (by decide), tnI (by omega)]; omega), if_pos (by rw [lt_nI _ (by decide), tnI (by omega)]; omega), if_neg (by rw [lt_nI _ (by decide), tnI (by omega)]; omega), j_X6_worth_92, zsto_k _ _ _ _ _ _ (by omega) (by decide), zlet_e, zlet_e, nI_add, nI_add, ← td]
        exact a2
      · have nw0 : ¬ f (2 * k) = nI 0 := by rw [w1]; decide
        have td : tdep f (k + 1) = tdep f k + 1 := by rw [tdep, if_pos (Or.inr w1)]
        have ht : tname u i < 2 ^ 31 := by
          have : u = 0 ∨ u = 1 := by omega
          rcases this with rfl | rfl
          · have : i = 0 ∨ i = 1 ∨ i = 2 ∨ i = 3 := by simp only [tnames] at hi; omega
            rcases this with rfl | rfl | rfl | rfl <;> decide
          · have : i = 0 ∨ i = 1 ∨ i = 2 := by simp only [tnames] at hi; omega
            rcases this with rfl | rfl | rfl <;> decide
        have i4 : i < 4 := by
          have : u = 0 ∨ u = 1 := by omega
          rcases this with rfl | rfl <;> simp only [tnames] at hi <;> omega
        have ts : upd (tsk f e k) (tdep f k) (e (tname u i)) = tsk f e (k + 1) := by rw [tsk, if_neg nw0, if_pos w1, ev, clamp_nI ht]
        obtain ⟨A, a1, a2⟩ := nx _ _ ts (fun j hj => by omega)
        refine ⟨A, a1, ?_⟩
        have em : mI 1 - mI (1 + i) = nI i := by
          have : i = 0 ∨ i = 1 ∨ i = 2 ∨ i = 3 := by omega
          rcases this with rfl | rfl | rfl | rfl <;> decide
        rw [es, if_neg (by rw [lt_mI _ (by decide), tmI (by omega)]; omega), if_pos (by rw [lt_nI _ (by decide), tnI (by omega)]; omega), if_pos (by rw [lt_nI _ (by decide), tmI (by omega)]; omega), em, zld_k _ _ _ _ _ i4 (by decide), he i hi, j_X6_worth_92, zsto_k _ _ _ _ _ _ (by omega) (by decide), zlet_e, zlet_e, nI_add, nI_add, ← td]
        exact a2
      · have nw0 : ¬ f (2 * k) = nI 0 := by rw [w2]; decide
        have nw1 : ¬ f (2 * k) = nI 1 := by rw [w2]; decide
        have d1 := so2 w2
        have td : tdep f (k + 1) = tdep f k := by rw [tdep, if_neg (by rintro (q | q); exact nw0 q; exact nw1 q), if_pos w2]
        have ts : upd (tsk f e k) (tdep f k - 1) (if tsk f e k (tdep f k - 1) = nI 0 then nI 1 else nI 0) = tsk f e (k + 1) := by rw [tsk, if_neg nw0, if_neg nw1, if_pos w2]
        obtain ⟨A, a1, a2⟩ := nx _ _ ts (fun j hj => by omega)
        refine ⟨A, a1, ?_⟩
        rw [td] at a2
        rw [es, if_pos (by rw [lt_mI _ (by decide), tmI (by decide)]; decide), j_X6_worth_99, if_pos rfl, if_neg (by rw [lt_nI _ (by decide), tnI (by omega)]; omega), nI_sub d1 (by omega), zld_k _ _ _ _ _ (by omega) (by decide), hs _ (by omega)]
        by_cases q : tsk f e k (tdep f k - 1) = nI 0
        · rw [if_pos q] at a2
          rw [if_pos q, j_X6_worth_137, zsto_k _ _ _ _ _ _ (by omega) (by decide), zlet_e, nI_add]
          exact a2
        · rw [if_neg q] at a2
          rw [if_neg q, j_X6_worth_137, zsto_k _ _ _ _ _ _ (by omega) (by decide), zlet_e, nI_add]
          exact a2
      · have nw0 : ¬ f (2 * k) = nI 0 := by rw [w3]; decide
        have nw1 : ¬ f (2 * k) = nI 1 := by rw [w3]; decide
        have nw2 : ¬ f (2 * k) = nI 2 := by rw [w3]; decide
        have d2 := so3 w3
        obtain ⟨o1, o2, o3⟩ := tops_c ho
        have td : tdep f (k + 1) = tdep f k - 1 := by rw [tdep, if_neg (by rintro (q | q); exact nw0 q; exact nw1 q), if_neg nw2]
        have ts : upd (tsk f e k) (tdep f k - 2) (jv (nI o) (tsk f e k (tdep f k - 2)) (tsk f e k (tdep f k - 1))) = tsk f e (k + 1) := by rw [tsk, if_neg nw0, if_neg nw1, if_neg nw2, ev]
        obtain ⟨A, a1, a2⟩ := nx _ _ ts (fun j hj => by omega)
        refine ⟨A, a1, ?_⟩
        rw [td] at a2
        rw [es, if_pos (by rw [lt_mI _ (by decide), tmI (by omega)]; omega), j_X6_worth_99, if_neg (by rw [eq_mI _ (by decide), tmI (by omega)]; omega), j_X6_worth_141, if_pos (by rw [lt_mI _ (by decide), tmI (by omega)]; omega), if_neg (by rw [lt_nI _ (by decide), tnI (by omega)]; omega), nI_sub d2 (by omega), nI_sub (show 1 ≤ tdep f k by omega) (by omega), zld_k _ _ _ _ _ (by omega) (by decide), zld_k _ _ _ _ _ (by omega) (by decide), hs _ (by omega), hs _ (by omega), o3, jv_X ho, zb_s, zsto_k _ _ _ _ _ _ (by omega) (by decide), nI_dec (by omega) (by omega), zlet_e, zlet_e, nI_add]
        exact a2
    · have : k = c := by omega
      subst this
      rw [if_neg (by rw [lt_nI _ (by omega), tnI (by omega)]; omega)]
      exact ⟨w (O + 2), hs, by rw [zset_self]⟩
theorem Mworth_loop (K : zW → Option (Int32 × zW)) {u c : Nat} {s g e : Nat → Int32} (hu : u < 2) (hc : s (294 + 125 * u) = nI c) (h : textOk u c (fun k => s (295 + 125 * u + k)) g) : ∀ (n k : Nat) (w : zW), k ≤ c → w 129 = s → (∀ i, i < tnames u → w 133 (tname u i) = e (tname u i)) → (∀ j, j < tdep (fun k => s (295 + 125 * u + k)) k → w 134 j = tsk (fun k => s (295 + 125 * u + k)) e k j) → c - k < n → ∃ A, (∀ j, j < tdep (fun k => s (295 + 125 * u + k)) c → A j = tsk (fun k => s (295 + 125 * u + k)) e c j) ∧ l_X12_worked_14 K n (nI (294 + 125 * u)) (nI (tdep (fun k => s (295 + 125 * u + k)) k)) (nI k) w = K (zset w 134 A) := by
  obtain ⟨f, hf⟩ : ∃ f : Nat → Int32, f = fun k => s (295 + 125 * u + k) := ⟨_, rfl⟩
  rw [← hf] at h ⊢
  obtain ⟨c60, hst, h1⟩ := h
  intro n
  induction n with
  | zero => intro k w _ _ _ _ h; omega
  | succ n ih =>
    intro k w hk hw he hs hn
    rw [l_X12_worked_14.eq_2, zld_k _ _ _ _ _ (by omega) (by decide), hw, hc]
    by_cases ek : k < c
    · have dk := tdep_le f k
      obtain ⟨so, so2, so3⟩ := hst k ek
      have nx : ∀ (p : Nat) (v : Int32), upd (tsk f e k) p v = tsk f e (k + 1) → (∀ j, j < tdep f (k + 1) → j = p ∨ j < tdep f k) → ∃ A, (∀ j, j < tdep f c → A j = tsk f e c j) ∧ l_X12_worked_14 K n (nI (294 + 125 * u)) (nI (tdep f (k + 1))) (nI (k + 1)) (zupd w 134 p v) = K (zset w 134 A) := fun p v hp hp2 => by
        obtain ⟨A, a1, a2⟩ := ih (k + 1) (zupd w 134 p v) (by omega) (by rw [zupd_ne _ _ _ (by decide)]; exact hw) (fun i hi => by rw [zupd_ne _ _ _ (by decide)]; exact he i hi) (fun j hj => by
          rw [zupd_eq, ← hp]
          by_cases ej : j = p
          · rw [ej, upd_eq, upd_eq]
          · rw [upd_ne _ _ ej, upd_ne _ _ ej]
            exact hs j (by have := hp2 j hj; omega)) (by omega)
        rw [zset_zupd] at a2
        exact ⟨A, a1, a2⟩
      have f0 : s (294 + 125 * u + 1 + 2 * k) = f (2 * k) := by rw [hf]; exact congrArg s (by omega)
      have f1 : s (294 + 125 * u + 2 + 2 * k) = f (2 * k + 1) := by rw [hf]; exact congrArg s (by omega)
      rw [if_pos (by rw [lt_nI _ (by omega), tnI (by omega)]; omega), nI_add, pk_mul, nI_add, zld_k _ _ _ _ _ (by omega) (by decide), nI_add, nI_add, zld_k _ _ _ _ _ (by omega) (by decide), hw, f0, f1]
      rcases so with ⟨w0, v, hv, ev, es⟩ | ⟨w1, i, hi, ev, es⟩ | ⟨w2, es⟩ | ⟨w3, o, ho, ev, es⟩
      · have td : tdep f (k + 1) = tdep f k + 1 := by rw [tdep, if_pos (Or.inl w0)]
        have ts : upd (tsk f e k) (tdep f k) (nI v) = tsk f e (k + 1) := by rw [tsk, if_pos w0, ev]
        obtain ⟨A, a1, a2⟩ := nx _ _ ts (fun j hj => by omega)
        refine ⟨A, a1, ?_⟩
        rw [if_pos w0, j_X12_worked_66, if_pos w0, j_X12_worked_88, zsto_k _ _ _ _ _ _ (by omega) (by decide), zlet_e, zlet_e, nI_add, nI_add, ← td, ev]
        exact a2
      · have nw0 : ¬ f (2 * k) = nI 0 := by rw [w1]; decide
        have td : tdep f (k + 1) = tdep f k + 1 := by rw [tdep, if_pos (Or.inr w1)]
        have ht : tname u i < 128 := by
          have : u = 0 ∨ u = 1 := by omega
          rcases this with rfl | rfl
          · have : i = 0 ∨ i = 1 ∨ i = 2 ∨ i = 3 := by simp only [tnames] at hi; omega
            rcases this with rfl | rfl | rfl | rfl <;> decide
          · have : i = 0 ∨ i = 1 ∨ i = 2 := by simp only [tnames] at hi; omega
            rcases this with rfl | rfl | rfl <;> decide
        have ts : upd (tsk f e k) (tdep f k) (e (tname u i)) = tsk f e (k + 1) := by rw [tsk, if_neg nw0, if_pos w1, ev, clamp_nI (by omega)]
        obtain ⟨A, a1, a2⟩ := nx _ _ ts (fun j hj => by omega)
        refine ⟨A, a1, ?_⟩
        rw [if_neg nw0, if_pos w1, j_X12_worked_66, if_neg nw0, ev, zld_k _ _ _ _ _ ht (by decide), he i hi, j_X12_worked_88, zsto_k _ _ _ _ _ _ (by omega) (by decide), zlet_e, zlet_e, nI_add, nI_add, ← td]
        exact a2
      · have nw0 : ¬ f (2 * k) = nI 0 := by rw [w2]; decide
        have nw1 : ¬ f (2 * k) = nI 1 := by rw [w2]; decide
        have d1 := so2 w2
        have td : tdep f (k + 1) = tdep f k := by rw [tdep, if_neg (by rintro (q | q); exact nw0 q; exact nw1 q), if_pos w2]
        have ts : upd (tsk f e k) (tdep f k - 1) (if tsk f e k (tdep f k - 1) = nI 0 then nI 1 else nI 0) = tsk f e (k + 1) := by rw [tsk, if_neg nw0, if_neg nw1, if_pos w2]
        obtain ⟨A, a1, a2⟩ := nx _ _ ts (fun j hj => by omega)
        refine ⟨A, a1, ?_⟩
        rw [td] at a2
        rw [if_neg nw0, if_neg nw1, if_pos w2, nI_sub d1 (by omega), zld_k _ _ _ _ _ (by omega) (by decide), hs _ (by omega)]
        by_cases q : tsk f e k (tdep f k - 1) = nI 0
        · rw [if_pos q] at a2
          rw [if_pos q, j_X12_worked_124, zsto_k _ _ _ _ _ _ (by omega) (by decide), zlet_e, nI_add]
          exact a2
        · rw [if_neg q] at a2
          rw [if_neg q, j_X12_worked_124, zsto_k _ _ _ _ _ _ (by omega) (by decide), zlet_e, nI_add]
          exact a2
      · have nw0 : ¬ f (2 * k) = nI 0 := by rw [w3]; decide
        have nw1 : ¬ f (2 * k) = nI 1 := by rw [w3]; decide
        have nw2 : ¬ f (2 * k) = nI 2 := by rw [w3]; decide
        have d2 := so3 w3
        have td : tdep f (k + 1) = tdep f k - 1 := by rw [tdep, if_neg (by rintro (q | q); exact nw0 q; exact nw1 q), if_neg nw2]
        have ts : upd (tsk f e k) (tdep f k - 2) (jv (nI o) (tsk f e k (tdep f k - 2)) (tsk f e k (tdep f k - 1))) = tsk f e (k + 1) := by rw [tsk, if_neg nw0, if_neg nw1, if_neg nw2, ev]
        obtain ⟨A, a1, a2⟩ := nx _ _ ts (fun j hj => by omega)
        refine ⟨A, a1, ?_⟩
        rw [td] at a2
        rw [if_neg nw0, if_neg nw1, if_neg nw2, nI_dec (by omega) (by omega), zlet_e, nI_sub (show 1 ≤ tdep f k - 1 by omega) (by omega), show tdep f k - 1 - 1 = tdep f k - 2 by omega, zld_k _ _ _ _ _ (by omega) (by decide), zld_k _ _ _ _ _ (by omega) (by decide), hs _ (by omega), hs _ (by omega), ev, jv_M ho, zb_s, zsto_k _ _ _ _ _ _ (by omega) (by decide), zlet_e, nI_add]
        exact a2
    · have : k = c := by omega
      subst this
      rw [if_neg (by rw [lt_nI _ (by omega), tnI (by omega)]; omega)]
      exact ⟨w 134, hs, by rw [zset_self]⟩
/-- what a told text is worth -/
def tval (s : Nat → Int32) (u : Nat) (e : Nat → Int32) : Int32 := tsk (fun k => s (295 + 125 * u + k)) e (s (294 + 125 * u)).toInt.toNat 0
theorem Xworth_ok {w : zW} {s e : Nat → Int32} (h : RT w 1 s) {u : Nat} (hu : u < 2) (ht : 0 < (s (294 + 125 * u)).toInt) (a1 a2 a3 a4 : Int32) (he1 : a1 = e (tname u 0)) (he2 : a2 = e (tname u 1)) (he3 : a3 = e (tname u 2)) (he4 : u = 0 → a4 = e (tname u 3)) : ∃ w1, f_X6_worth (29 + 4 * u) a1 a2 a3 a4 w = some (tval s u e, w1) ∧ ∀ j, j ≠ 31 + 4 * u → j ≠ 32 + 4 * u → w1 j = w j := by
  have h8 := h.2.2.2.2.2.2.2 u hu
  unfold Rtex1 at h8
  rw [show 1 + 28 + 4 * u = 29 + 4 * u by omega, show 1 + 29 + 4 * u = 29 + 4 * u + 1 by omega] at h8
  obtain ⟨c, hc, ec, tc⟩ := of_toInt (s (294 + 125 * u)) (by omega)
  obtain ⟨e3, ok⟩ := h8
  have ok' := ok
  rw [tc, Int.toNat_natCast] at ok'
  obtain ⟨W, hW⟩ : ∃ W, W = zupd (zupd (zupd (zupd w (29 + 4 * u + 3) 0 a1) (29 + 4 * u + 3) 1 a2) (29 + 4 * u + 3) 2 a3) (29 + 4 * u + 3) 3 a4 := ⟨_, rfl⟩
  have eW : ∀ k, k ≠ 29 + 4 * u + 3 → W k = w k := fun k hk => by rw [hW, zupd_ne _ _ _ hk, zupd_ne _ _ _ hk, zupd_ne _ _ _ hk, zupd_ne _ _ _ hk]
  obtain ⟨A, x1, x2⟩ := Xworth_loop (fun k196_a0 k196_a5 w15 =>
    if nI 0 < k196_a5 then
      zld w15 (k196_a0 + 2) 60 (k196_a5 - (nI 1)) fun x102 =>
      some (x102, w15)
    else
      some (nI 0, w15)) (O := 29 + 4 * u) (e := e) hu ok' zfuel 0 W (by omega) (by rw [eW _ (by omega), e3, ec]) (fun j _ => by rw [eW _ (by omega)]) (fun i hi => by
      rw [hW, zupd_eq, zupd_eq, zupd_eq, zupd_eq]
      have : u = 0 ∨ u = 1 := by omega
      rcases this with rfl | rfl
      · have : i = 0 ∨ i = 1 ∨ i = 2 ∨ i = 3 := by simp only [tnames] at hi; omega
        rcases this with rfl | rfl | rfl | rfl
        · rw [upd_ne _ _ (by decide), upd_ne _ _ (by decide), upd_ne _ _ (by decide), upd_eq]; exact he1
        · rw [upd_ne _ _ (by decide), upd_ne _ _ (by decide), upd_eq]; exact he2
        · rw [upd_ne _ _ (by decide), upd_eq]; exact he3
        · rw [upd_eq]; exact he4 rfl
      · have : i = 0 ∨ i = 1 ∨ i = 2 := by simp only [tnames] at hi; omega
        rcases this with rfl | rfl | rfl
        · rw [upd_ne _ _ (by decide), upd_ne _ _ (by decide), upd_ne _ _ (by decide), upd_eq]; exact he1
        · rw [upd_ne _ _ (by decide), upd_ne _ _ (by decide), upd_eq]; exact he2
        · rw [upd_ne _ _ (by decide), upd_eq]; exact he3) (fun j hj => by simp only [tdep] at hj; omega) (by unfold zfuel; have := ok'.1; omega)
  have d1 := ok'.2.2 (by omega)
  refine ⟨zset W (29 + 4 * u + 2) A, ?_, fun j j1 j2 => by rw [zset_ne _ _ (by omega), eW j (by omega)]⟩
  rw [f_X6_worth, zlet_e, zlet_e, zlet_e, zlet_e, ← hW, show nI 0 = nI (tdep (fun k => s (295 + 125 * u + k)) 0) from rfl]
  refine x2.trans ?_
  rw [d1, if_pos (by rw [nI_lt2 _ (by decide), tnI (by decide)]; decide), nI_sub (by decide) (by decide), zld_k _ _ _ _ _ (by decide) (by decide), zset_eq, x1 _ (by omega), tval, tc, Int.toNat_natCast]
theorem Mworth_ok {w : zW} {s e : Nat → Int32} {wx : zW} (h : RT wx 1 s) (hs : w 129 = s) {u : Nat} (hu : u < 2) (ht : 0 < (s (294 + 125 * u)).toInt) (he : ∀ i, i < tnames u → w 133 (tname u i) = e (tname u i)) : ∃ w1, f_X12_worked (nI u) w = some (tval s u e, w1) ∧ ∀ j, j ≠ 134 → w1 j = w j := by
  have h8 := h.2.2.2.2.2.2.2 u hu
  obtain ⟨c, hc, ec, tc⟩ := of_toInt (s (294 + 125 * u)) (by omega)
  obtain ⟨e3, ok⟩ := h8
  have ok' := ok
  rw [tc, Int.toNat_natCast] at ok'
  obtain ⟨A, x1, x2⟩ := Mworth_loop (fun w11 => some (w11 134 0, w11)) (e := e) hu ec ok' zfuel 0 w (by omega) hs he (fun j hj => by simp only [tdep] at hj; omega) (by unfold zfuel; have := ok'.1; omega)
  have d1 := ok'.2.2 (by omega)
  refine ⟨zset w 134 A, ?_, fun j j1 => zset_ne _ _ j1⟩
  rw [f_X12_worked, pk_mul, nI_add, zlet_e]
  refine x2.trans ?_
  rw [zset_eq, x1 _ (by omega), tval, tc, Int.toNat_natCast]
