theorem toInt_bv (x : Int32) : x.toInt = x.toBitVec.toInt := rfl
theorem shl_toInt (a s : Int32) (k : Nat) (hs : (s.toBitVec.smod 32).toNat = k) : (a <<< s).toInt = (a.toInt * 2 ^ k).bmod (2 ^ 32) := by
  have h := pk_shl a s k hs
  have h2 : a.toInt = (a.toBitVec.toNat : Int).bmod (2 ^ 32) := by rw [toInt_bv, BitVec.toInt_eq_toNat_bmod]
  rw [toInt_bv, BitVec.toInt_eq_toNat_bmod, h, h2]
  rw [Int.natCast_emod, Int.natCast_mul, Int.natCast_pow, Int.natCast_pow]
  have e : ∀ y : Int, (y % 4294967296).bmod 4294967296 = y.bmod 4294967296 := fun y => by
    simp only [Int.bmod]
    omega
  simp [e]
theorem nar8 (a : Int32) : (a <<< ((nI 32 - nI 8) &&& 31)) >>> ((nI 32 - nI 8) &&& 31) = a.toInt8.toInt32 := by
  have e : (nI 32 - nI 8) &&& 31 = 24 := by decide
  rw [e]
  apply Int32.toInt_inj.mp
  rw [pk_shr _ _ 24 (by decide), shl_toInt _ _ 24 (by decide), Int8.toInt_toInt32, Int32.toInt_toInt8, Int.shiftRight_eq_div_pow]
  simp only [Int.bmod, show ((2 ^ 32 : Nat) : Int) = 4294967296 from rfl, show ((2 ^ 24 : Nat) : Int) = 16777216 from rfl, show ((2 ^ 16 : Nat) : Int) = 65536 from rfl, show ((2 ^ 8 : Nat) : Int) = 256 from rfl, show ((2 ^ 0 : Nat) : Int) = 1 from rfl, show (2 : Int) ^ 24 = 16777216 from rfl, show (2 : Int) ^ 16 = 65536 from rfl, show (2 : Int) ^ 0 = 1 from rfl]
  omega
theorem nar16 (a : Int32) : (a <<< ((nI 32 - nI 16) &&& 31)) >>> ((nI 32 - nI 16) &&& 31) = a.toInt16.toInt32 := by
  have e : (nI 32 - nI 16) &&& 31 = 16 := by decide
  rw [e]
  apply Int32.toInt_inj.mp
  rw [pk_shr _ _ 16 (by decide), shl_toInt _ _ 16 (by decide), Int16.toInt_toInt32, Int32.toInt_toInt16, Int.shiftRight_eq_div_pow]
  simp only [Int.bmod, show ((2 ^ 32 : Nat) : Int) = 4294967296 from rfl, show ((2 ^ 24 : Nat) : Int) = 16777216 from rfl, show ((2 ^ 16 : Nat) : Int) = 65536 from rfl, show ((2 ^ 8 : Nat) : Int) = 256 from rfl, show ((2 ^ 0 : Nat) : Int) = 1 from rfl, show (2 : Int) ^ 24 = 16777216 from rfl, show (2 : Int) ^ 16 = 65536 from rfl, show (2 : Int) ^ 0 = 1 from rfl]
  omega
theorem nar32 (a : Int32) : (a <<< ((nI 32 - nI 32) &&& 31)) >>> ((nI 32 - nI 32) &&& 31) = a := by
  have e : (nI 32 - nI 32) &&& 31 = 0 := by decide
  rw [e]
  apply Int32.toInt_inj.mp
  rw [pk_shr _ _ 0 (by decide), shl_toInt _ _ 0 (by decide), Int.shiftRight_eq_div_pow]
  have := toInt_rng a
  simp only [Int.bmod, show ((2 ^ 32 : Nat) : Int) = 4294967296 from rfl, show ((2 ^ 24 : Nat) : Int) = 16777216 from rfl, show ((2 ^ 16 : Nat) : Int) = 65536 from rfl, show ((2 ^ 8 : Nat) : Int) = 256 from rfl, show ((2 ^ 0 : Nat) : Int) = 1 from rfl, show (2 : Int) ^ 24 = 16777216 from rfl, show (2 : Int) ^ 16 = 65536 from rfl, show (2 : Int) ^ 0 = 1 from rfl]
  omega
theorem OK_err2 {w : zW} {k : Nat} {x m : zW → Option (Int32 × zW)} (hR : Rel w) (h1 : 1 ≤ k) (h6 : k ≤ 6) (hx : x w = f_X11_error (nI k) w) (hm : ∀ w1 : zW, (∀ j, j ≠ 127 → w1 j = w j) → m w1 = f_X12_error (nI k) w1) : OK2 x m w := by
  obtain ⟨r, w1, w2, a, b, c, d⟩ := err_ok hR h1 h6
  refine ⟨r, w1, w2, hx.trans a, (hm w1 ?_).trans c, d⟩
  intro j hj
  rw [f_X11_error, zld_k _ _ _ _ _ (by omega) (by decide), zsto_k _ _ _ _ _ _ (by omega) (by decide)] at a
  rw [← (Prod.mk.inj (Option.some.inj a)).2]
  exact zupd_ne _ _ _ hj
theorem Rel_she {w w2 : zW} (hR : Rel w) (h : ∀ k, ¬ (104 ≤ k ∧ k ≤ 111) → ¬ (140 ≤ k ∧ k ≤ 143) → w2 k = w k) (hs : Rsheet w2) : Rel w2 := by
  obtain ⟨r1, r2, r3, r4, r5, r6⟩ := hR
  refine ⟨?_, ?_, hs, ?_, ?_, ?_⟩
  · rw [h 129 (by omega) (by omega)]
    exact RT_congr (fun k _ _ => h k (by omega) (by omega)) r1
  · rw [h 128 (by omega) (by omega), h 130 (by omega) (by omega)]
    exact fun hi => RT_congr (fun k _ _ => h k (by omega) (by omega)) (r2 hi)
  · unfold Rerr
    rw [h 127 (by omega) (by omega), h 131 (by omega) (by omega)]
    exact r4
  · unfold Rtra
    rw [h 125 (by omega) (by omega), h 126 (by omega) (by omega), h 128 (by omega) (by omega), h 139 (by omega) (by omega)]
    exact r5
  · rw [h 0 (by omega) (by omega), h 128 (by omega) (by omega)]
    exact r6
theorem isSheet_spec (a : Int32) : f_X12_isSheet a = some (bP (0 ≤ a.toInt ∧ a.toInt ≤ 3)) := by
  rw [f_X12_isSheet, in_k _ (by decide) (by decide), zb_s, zbool_bP, zg_t]
  rfl
theorem XisSheet_spec (a : Int32) : f_X11_isSheet a = some (bP (0 ≤ a.toInt ∧ a.toInt ≤ 3)) := by
  simp only [f_X11_isSheet, lt_nI a (show 0 < 2 ^ 31 by decide), lt_nI a (show 4 < 2 ^ 31 by decide)]
  split
  · rw [bP_f (by omega)]
  · split
    · rw [bP_t (by omega)]
    · rw [bP_f (by omega)]
theorem sheet_loop (K : zW → Option (Int32 × zW)) (i : Nat) (hi : i < 4) : ∀ (n k : Nat) (w : zW), k ≤ 24 → 24 - k < n → l_X12_sheet_90 K n (nI i) (nI k) w = K (zset w 142 (frow (w 142) (24 * i + k) (24 * i + 24) (nI 0))) := by
  intro n
  induction n with
  | zero => intro k w _ h; omega
  | succ n ih =>
    intro k w hk h
    rw [l_X12_sheet_90.eq_2]
    by_cases e : k < 24
    · simp (disch := omega) only [zb_s, zb2_s, zlet_e, zg_t, bP_0, bP_t0, in_k, isLetter_spec, XisLetter_spec, lt_nI, nI_lt2, eq_nI, tnI, tsub_k, tadd_k, if_pos, if_neg, zld_k, zsto_k, ztld_k, clamp_nI, zin_nI, zb2_eta, ↓reduceIte, nI_add, pk_mul, pk_sub]
      rw [ih (k + 1) _ (by omega) (by omega), zset_zupd, zupd_eq, show 24 * i + (k + 1) = 24 * i + k + 1 by omega, frow_step _ _ (by omega)]
    · simp (disch := omega) only [zb_s, zb2_s, zlet_e, zg_t, bP_0, bP_t0, in_k, isLetter_spec, XisLetter_spec, lt_nI, nI_lt2, eq_nI, tnI, tsub_k, tadd_k, if_pos, if_neg, zld_k, zsto_k, ztld_k, clamp_nI, zin_nI, zb2_eta, ↓reduceIte, nI_add, pk_mul, pk_sub]
      rw [frow_end _ _ (by omega), zset_self]
/-- a sheet is laid anew: n numbers, all 0 -/
def sheX (w : zW) (i : Nat) (b n : Int32) : zW := zset (zupd (zupd w (104 + 2 * i) 1 b) (104 + 2 * i) 2 n) (105 + 2 * i) (frow (w (105 + 2 * i)) 0 24 (nI 0))
def sheM (w : zW) (i : Nat) (b n : Int32) : zW := zset (zupd (zupd w 140 i b) 141 i n) 142 (frow (w 142) (24 * i) (24 * i + 24) (nI 0))
theorem sheX_spec (w : zW) (i : Nat) (b n : Int32) : f_X4_begin (104 + 2 * i) b n w = some (sheX w i b n) := by
  rw [f_X4_begin, zlet_e, zlet_e, fill_spec _ _ _ _ (by decide), zb_s, sheX, show 104 + 2 * i + 1 = 105 + 2 * i by omega, zupd_ne _ _ _ (show 105 + 2 * i ≠ 104 + 2 * i by omega), zupd_ne _ _ _ (show 105 + 2 * i ≠ 104 + 2 * i by omega)]
theorem she_ok {w : zW} (hR : Rel w) {i b n : Nat} (hi : i < 4) (hb : b = 0 ∨ b = 8 ∨ b = 16 ∨ b = 32) (hn : n ≤ 24) : Rel (sheM (sheX w i (nI b) (nI n)) i (nI b) (nI n)) := by
  refine Rel_she hR (fun k h1 h2 => ?_) ?_
  · rw [sheM, zset_ne _ _ (by omega), zupd_ne _ _ _ (by omega), zupd_ne _ _ _ (by omega), sheX, zset_ne _ _ (by omega), zupd_ne _ _ _ (by omega), zupd_ne _ _ _ (by omega)]
  · intro j hj
    have q := hR.2.2.1 j hj
    unfold Rshe1 at q ⊢
    have e140 : sheM (sheX w i (nI b) (nI n)) i (nI b) (nI n) 140 = upd (w 140) i (nI b) := by
      rw [sheM, zset_ne _ _ (by omega), zupd_ne _ _ _ (by omega), zupd_eq, sheX, zset_ne _ _ (by omega), zupd_ne _ _ _ (by omega), zupd_ne _ _ _ (by omega)]
    have e141 : sheM (sheX w i (nI b) (nI n)) i (nI b) (nI n) 141 = upd (w 141) i (nI n) := by
      rw [sheM, zset_ne _ _ (by omega), zupd_eq, zupd_ne _ _ _ (by omega), sheX, zset_ne _ _ (by omega), zupd_ne _ _ _ (by omega), zupd_ne _ _ _ (by omega)]
    have e142 : sheM (sheX w i (nI b) (nI n)) i (nI b) (nI n) 142 = frow (w 142) (24 * i) (24 * i + 24) (nI 0) := by
      rw [sheM, zset_eq, sheX, zset_ne _ _ (by omega), zupd_ne _ _ _ (by omega), zupd_ne _ _ _ (by omega)]
    have eX : ∀ k, k < 128 → sheM (sheX w i (nI b) (nI n)) i (nI b) (nI n) k = sheX w i (nI b) (nI n) k := fun k hk => by
      rw [sheM, zset_ne _ _ (by omega), zupd_ne _ _ _ (by omega), zupd_ne _ _ _ (by omega)]
    rw [e140, e141, e142, eX _ (by omega), eX _ (by omega)]
    by_cases e : j = i
    · subst e
      have z1 : sheX w j (nI b) (nI n) (104 + 2 * j) = upd (upd (w (104 + 2 * j)) 1 (nI b)) 2 (nI n) := by
        rw [sheX, zset_ne _ _ (by omega), zupd_eq, zupd_eq]
      have z2 : sheX w j (nI b) (nI n) (105 + 2 * j) = frow (w (105 + 2 * j)) 0 24 (nI 0) := by rw [sheX, zset_eq]
      rw [z1, z2]
      simp (disch := omega) only [zb_s, zb2_s, zlet_e, zg_t, bP_0, bP_t0, in_k, isLetter_spec, XisLetter_spec, lt_nI, nI_lt2, eq_nI, tnI, tsub_k, tadd_k, if_pos, if_neg, zld_k, zsto_k, ztld_k, clamp_nI, zin_nI, zb2_eta, ↓reduceIte, nI_add, pk_mul, pk_sub, upd_eq, upd_ne]
      refine ⟨trivial, by omega, trivial, by omega, by omega, fun k hk => ?_⟩
      rw [frow_in (by omega), frow_in (by omega)]
    · have z1 : sheX w i (nI b) (nI n) (104 + 2 * j) = w (104 + 2 * j) := by
        rw [sheX, zset_ne _ _ (by omega), zupd_ne _ _ _ (by omega), zupd_ne _ _ _ (by omega)]
      have z2 : sheX w i (nI b) (nI n) (105 + 2 * j) = w (105 + 2 * j) := by
        rw [sheX, zset_ne _ _ (by omega), zupd_ne _ _ _ (by omega), zupd_ne _ _ _ (by omega)]
      rw [z1, z2, upd_ne _ _ e, upd_ne _ _ e]
      obtain ⟨q1, q2, q3, q4, q5, q6⟩ := q
      refine ⟨q1, q2, q3, q4, q5, fun k hk => ?_⟩
      rw [frow_out (by omega)]
      exact q6 k hk
theorem op_sheet {w : zW} (hR : Rel w) (a b c : Int32) : OK2 (f_X11_sheet a b c) (f_X12_sheet a b c) w := by
  by_cases ha : 0 ≤ a.toInt ∧ a.toInt ≤ 3
  · obtain ⟨i, hi, rfl, ei⟩ := of_toInt a ha.1
    have sl := fun (K : zW → Option (Int32 × zW)) (X : zW) => sheet_loop K i (by omega) zfuel 0 X (by omega) (by unfold zfuel; omega)
    by_cases b0 : b.toInt = 0
    · have hb : b = nI 0 := (eq_nI b (by decide)).mpr b0
      subst hb
      refine ⟨nI 1, sheX w i (nI 0) (nI 0), sheM (sheX w i (nI 0) (nI 0)) i (nI 0) (nI 0), ?_, ?_, she_ok hR (by omega) (by omega) (by omega)⟩
      · rw [f_X11_sheet]
        simp (disch := omega) only [zb_s, zb2_s, zlet_e, zg_t, bP_0, bP_t0, in_k, isLetter_spec, XisLetter_spec, lt_nI, nI_lt2, eq_nI, tnI, tsub_k, tadd_k, if_pos, if_neg, zld_k, zsto_k, ztld_k, clamp_nI, zin_nI, zb2_eta, ↓reduceIte, nI_add, pk_mul, pk_sub, XisSheet_spec, j_X11_sheet_35, sheX_spec]
      · rw [f_X12_sheet]
        simp (disch := omega) only [zb_s, zb2_s, zlet_e, zg_t, bP_0, bP_t0, in_k, isLetter_spec, XisLetter_spec, lt_nI, nI_lt2, eq_nI, tnI, tsub_k, tadd_k, if_pos, if_neg, zld_k, zsto_k, ztld_k, clamp_nI, zin_nI, zb2_eta, ↓reduceIte, nI_add, pk_mul, pk_sub, isSheet_spec, j_X12_sheet_35, j_X12_sheet_49, j_X12_sheet_65, j_X12_sheet_86, sl]
        rw [sheM, zupd_ne _ _ _ (by omega), zupd_ne _ _ _ (by omega), Nat.add_zero]
    · by_cases hb : b.toInt = 8 ∨ b.toInt = 16 ∨ b.toInt = 32
      · obtain ⟨v, hv, rfl, ev⟩ := of_toInt b (by omega)
        have hv3 : v = 8 ∨ v = 16 ∨ v = 32 := by omega
        by_cases c0 : c.toInt < 0
        · refine OK_err2 hR (k := 3) (by decide) (by decide) ?_ (fun w1 e => ?_)
          · rw [f_X11_sheet]
            rcases hv3 with rfl | rfl | rfl
            · simp (disch := omega) only [zb_s, zb2_s, zlet_e, zg_t, bP_0, bP_t0, in_k, isLetter_spec, XisLetter_spec, lt_nI, nI_lt2, eq_nI, tnI, tsub_k, tadd_k, if_pos, if_neg, zld_k, zsto_k, ztld_k, clamp_nI, zin_nI, zb2_eta, ↓reduceIte, nI_add, pk_mul, pk_sub, XisSheet_spec, j_X11_sheet_35]
            · simp (disch := omega) only [zb_s, zb2_s, zlet_e, zg_t, bP_0, bP_t0, in_k, isLetter_spec, XisLetter_spec, lt_nI, nI_lt2, eq_nI, tnI, tsub_k, tadd_k, if_pos, if_neg, zld_k, zsto_k, ztld_k, clamp_nI, zin_nI, zb2_eta, ↓reduceIte, nI_add, pk_mul, pk_sub, XisSheet_spec, j_X11_sheet_35]
            · simp (disch := omega) only [zb_s, zb2_s, zlet_e, zg_t, bP_0, bP_t0, in_k, isLetter_spec, XisLetter_spec, lt_nI, nI_lt2, eq_nI, tnI, tsub_k, tadd_k, if_pos, if_neg, zld_k, zsto_k, ztld_k, clamp_nI, zin_nI, zb2_eta, ↓reduceIte, nI_add, pk_mul, pk_sub, XisSheet_spec, j_X11_sheet_35]
          · rw [f_X12_sheet]
            rcases hv3 with rfl | rfl | rfl
            · simp (disch := omega) only [zb_s, zb2_s, zlet_e, zg_t, bP_0, bP_t0, in_k, isLetter_spec, XisLetter_spec, lt_nI, nI_lt2, eq_nI, tnI, tsub_k, tadd_k, if_pos, if_neg, zld_k, zsto_k, ztld_k, clamp_nI, zin_nI, zb2_eta, ↓reduceIte, nI_add, pk_mul, pk_sub, isSheet_spec, j_X12_sheet_35]
            · simp (disch := omega) only [zb_s, zb2_s, zlet_e, zg_t, bP_0, bP_t0, in_k, isLetter_spec, XisLetter_spec, lt_nI, nI_lt2, eq_nI, tnI, tsub_k, tadd_k, if_pos, if_neg, zld_k, zsto_k, ztld_k, clamp_nI, zin_nI, zb2_eta, ↓reduceIte, nI_add, pk_mul, pk_sub, isSheet_spec, j_X12_sheet_35]
            · simp (disch := omega) only [zb_s, zb2_s, zlet_e, zg_t, bP_0, bP_t0, in_k, isLetter_spec, XisLetter_spec, lt_nI, nI_lt2, eq_nI, tnI, tsub_k, tadd_k, if_pos, if_neg, zld_k, zsto_k, ztld_k, clamp_nI, zin_nI, zb2_eta, ↓reduceIte, nI_add, pk_mul, pk_sub, isSheet_spec, j_X12_sheet_35]
        · by_cases c24 : 24 < c.toInt
          · refine OK_err2 hR (k := 1) (by decide) (by decide) ?_ (fun w1 e => ?_)
            · rw [f_X11_sheet]
              rcases hv3 with rfl | rfl | rfl
              · simp (disch := omega) only [zb_s, zb2_s, zlet_e, zg_t, bP_0, bP_t0, in_k, isLetter_spec, XisLetter_spec, lt_nI, nI_lt2, eq_nI, tnI, tsub_k, tadd_k, if_pos, if_neg, zld_k, zsto_k, ztld_k, clamp_nI, zin_nI, zb2_eta, ↓reduceIte, nI_add, pk_mul, pk_sub, XisSheet_spec, j_X11_sheet_35]
              · simp (disch := omega) only [zb_s, zb2_s, zlet_e, zg_t, bP_0, bP_t0, in_k, isLetter_spec, XisLetter_spec, lt_nI, nI_lt2, eq_nI, tnI, tsub_k, tadd_k, if_pos, if_neg, zld_k, zsto_k, ztld_k, clamp_nI, zin_nI, zb2_eta, ↓reduceIte, nI_add, pk_mul, pk_sub, XisSheet_spec, j_X11_sheet_35]
              · simp (disch := omega) only [zb_s, zb2_s, zlet_e, zg_t, bP_0, bP_t0, in_k, isLetter_spec, XisLetter_spec, lt_nI, nI_lt2, eq_nI, tnI, tsub_k, tadd_k, if_pos, if_neg, zld_k, zsto_k, ztld_k, clamp_nI, zin_nI, zb2_eta, ↓reduceIte, nI_add, pk_mul, pk_sub, XisSheet_spec, j_X11_sheet_35]
            · rw [f_X12_sheet]
              rcases hv3 with rfl | rfl | rfl
              · simp (disch := omega) only [zb_s, zb2_s, zlet_e, zg_t, bP_0, bP_t0, in_k, isLetter_spec, XisLetter_spec, lt_nI, nI_lt2, eq_nI, tnI, tsub_k, tadd_k, if_pos, if_neg, zld_k, zsto_k, ztld_k, clamp_nI, zin_nI, zb2_eta, ↓reduceIte, nI_add, pk_mul, pk_sub, isSheet_spec, j_X12_sheet_35, j_X12_sheet_49]
              · simp (disch := omega) only [zb_s, zb2_s, zlet_e, zg_t, bP_0, bP_t0, in_k, isLetter_spec, XisLetter_spec, lt_nI, nI_lt2, eq_nI, tnI, tsub_k, tadd_k, if_pos, if_neg, zld_k, zsto_k, ztld_k, clamp_nI, zin_nI, zb2_eta, ↓reduceIte, nI_add, pk_mul, pk_sub, isSheet_spec, j_X12_sheet_35, j_X12_sheet_49]
              · simp (disch := omega) only [zb_s, zb2_s, zlet_e, zg_t, bP_0, bP_t0, in_k, isLetter_spec, XisLetter_spec, lt_nI, nI_lt2, eq_nI, tnI, tsub_k, tadd_k, if_pos, if_neg, zld_k, zsto_k, ztld_k, clamp_nI, zin_nI, zb2_eta, ↓reduceIte, nI_add, pk_mul, pk_sub, isSheet_spec, j_X12_sheet_35, j_X12_sheet_49]
          · obtain ⟨n, hn, rfl, en⟩ := of_toInt c (by omega)
            refine ⟨nI 1, sheX w i (nI v) (nI n), sheM (sheX w i (nI v) (nI n)) i (nI v) (nI n), ?_, ?_, she_ok hR (by omega) (by omega) (by omega)⟩
            · rw [f_X11_sheet]
              rcases hv3 with rfl | rfl | rfl
              · simp (disch := omega) only [zb_s, zb2_s, zlet_e, zg_t, bP_0, bP_t0, in_k, isLetter_spec, XisLetter_spec, lt_nI, nI_lt2, eq_nI, tnI, tsub_k, tadd_k, if_pos, if_neg, zld_k, zsto_k, ztld_k, clamp_nI, zin_nI, zb2_eta, ↓reduceIte, nI_add, pk_mul, pk_sub, XisSheet_spec, j_X11_sheet_35, sheX_spec]
              · simp (disch := omega) only [zb_s, zb2_s, zlet_e, zg_t, bP_0, bP_t0, in_k, isLetter_spec, XisLetter_spec, lt_nI, nI_lt2, eq_nI, tnI, tsub_k, tadd_k, if_pos, if_neg, zld_k, zsto_k, ztld_k, clamp_nI, zin_nI, zb2_eta, ↓reduceIte, nI_add, pk_mul, pk_sub, XisSheet_spec, j_X11_sheet_35, sheX_spec]
              · simp (disch := omega) only [zb_s, zb2_s, zlet_e, zg_t, bP_0, bP_t0, in_k, isLetter_spec, XisLetter_spec, lt_nI, nI_lt2, eq_nI, tnI, tsub_k, tadd_k, if_pos, if_neg, zld_k, zsto_k, ztld_k, clamp_nI, zin_nI, zb2_eta, ↓reduceIte, nI_add, pk_mul, pk_sub, XisSheet_spec, j_X11_sheet_35, sheX_spec]
            · rw [f_X12_sheet]
              rcases hv3 with rfl | rfl | rfl
              · simp (disch := omega) only [zb_s, zb2_s, zlet_e, zg_t, bP_0, bP_t0, in_k, isLetter_spec, XisLetter_spec, lt_nI, nI_lt2, eq_nI, tnI, tsub_k, tadd_k, if_pos, if_neg, zld_k, zsto_k, ztld_k, clamp_nI, zin_nI, zb2_eta, ↓reduceIte, nI_add, pk_mul, pk_sub, isSheet_spec, j_X12_sheet_35, j_X12_sheet_49, j_X12_sheet_65, j_X12_sheet_86, sl]
                rw [sheM, zupd_ne _ _ _ (by omega), zupd_ne _ _ _ (by omega), Nat.add_zero]
              · simp (disch := omega) only [zb_s, zb2_s, zlet_e, zg_t, bP_0, bP_t0, in_k, isLetter_spec, XisLetter_spec, lt_nI, nI_lt2, eq_nI, tnI, tsub_k, tadd_k, if_pos, if_neg, zld_k, zsto_k, ztld_k, clamp_nI, zin_nI, zb2_eta, ↓reduceIte, nI_add, pk_mul, pk_sub, isSheet_spec, j_X12_sheet_35, j_X12_sheet_49, j_X12_sheet_65, j_X12_sheet_86, sl]
                rw [sheM, zupd_ne _ _ _ (by omega), zupd_ne _ _ _ (by omega), Nat.add_zero]
              · simp (disch := omega) only [zb_s, zb2_s, zlet_e, zg_t, bP_0, bP_t0, in_k, isLetter_spec, XisLetter_spec, lt_nI, nI_lt2, eq_nI, tnI, tsub_k, tadd_k, if_pos, if_neg, zld_k, zsto_k, ztld_k, clamp_nI, zin_nI, zb2_eta, ↓reduceIte, nI_add, pk_mul, pk_sub, isSheet_spec, j_X12_sheet_35, j_X12_sheet_49, j_X12_sheet_65, j_X12_sheet_86, sl]
                rw [sheM, zupd_ne _ _ _ (by omega), zupd_ne _ _ _ (by omega), Nat.add_zero]
      · refine OK_err2 hR (k := 1) (by decide) (by decide) ?_ (fun w1 e => ?_)
        · rw [f_X11_sheet]
          simp (disch := omega) only [zb_s, zb2_s, zlet_e, zg_t, bP_0, bP_t0, in_k, isLetter_spec, XisLetter_spec, lt_nI, nI_lt2, eq_nI, tnI, tsub_k, tadd_k, if_pos, if_neg, zld_k, zsto_k, ztld_k, clamp_nI, zin_nI, zb2_eta, ↓reduceIte, nI_add, pk_mul, pk_sub, XisSheet_spec, j_X11_sheet_29]
        · rw [f_X12_sheet]
          simp (disch := omega) only [zb_s, zb2_s, zlet_e, zg_t, bP_0, bP_t0, in_k, isLetter_spec, XisLetter_spec, lt_nI, nI_lt2, eq_nI, tnI, tsub_k, tadd_k, if_pos, if_neg, zld_k, zsto_k, ztld_k, clamp_nI, zin_nI, zb2_eta, ↓reduceIte, nI_add, pk_mul, pk_sub, isSheet_spec, j_X12_sheet_29]
  · refine OK_err2 hR (k := 1) (by decide) (by decide) ?_ (fun w1 e => ?_)
    · rw [f_X11_sheet]
      simp (disch := omega) only [zb_s, zb2_s, zlet_e, zg_t, bP_0, bP_t0, in_k, isLetter_spec, XisLetter_spec, lt_nI, nI_lt2, eq_nI, tnI, tsub_k, tadd_k, if_pos, if_neg, zld_k, zsto_k, ztld_k, clamp_nI, zin_nI, zb2_eta, ↓reduceIte, nI_add, pk_mul, pk_sub, XisSheet_spec, j_X11_sheet_29]
    · rw [f_X12_sheet]
      simp (disch := omega) only [zb_s, zb2_s, zlet_e, zg_t, bP_0, bP_t0, in_k, isLetter_spec, XisLetter_spec, lt_nI, nI_lt2, eq_nI, tnI, tsub_k, tadd_k, if_pos, if_neg, zld_k, zsto_k, ztld_k, clamp_nI, zin_nI, zb2_eta, ↓reduceIte, nI_add, pk_mul, pk_sub, isSheet_spec, j_X12_sheet_29]
/-- a number of a sheet becomes another one -/
theorem shn_ok {w : zW} (hR : Rel w) {i k : Nat} (hi : i < 4) (hk : k < 24) (v : Int32) : Rel (zupd (zupd w (105 + 2 * i) k v) 142 (24 * i + k) v) := by
  refine Rel_she hR (fun j h1 h2 => ?_) ?_
  · rw [zupd_ne _ _ _ (by omega), zupd_ne _ _ _ (by omega)]
  · intro j hj
    have q := hR.2.2.1 j hj
    unfold Rshe1 at q ⊢
    obtain ⟨q1, q2, q3, q4, q5, q6⟩ := q
    rw [zupd_ne _ _ _ (by omega), zupd_ne _ _ _ (by omega), zupd_ne _ _ _ (by omega), zupd_ne _ _ _ (by omega), zupd_ne _ _ _ (by omega), zupd_ne _ _ _ (by omega)]
    refine ⟨q1, q2, q3, q4, q5, fun p hp => ?_⟩
    rw [zupd_eq, zupd_ne _ _ _ (show 105 + 2 * j ≠ 142 by omega), zupd_ne _ _ _ (show 142 ≠ 105 + 2 * i by omega)]
    by_cases e : j = i
    · subst e
      rw [zupd_eq]
      by_cases ep : p = k
      · subst ep
        rw [upd_eq, upd_eq]
      · rw [upd_ne _ _ ep, upd_ne _ _ (by omega)]
        exact q6 p hp
    · rw [zupd_ne _ _ _ (by omega), upd_ne _ _ (by omega)]
      exact q6 p hp
theorem op_put {w : zW} (hR : Rel w) (a b c : Int32) : OK2 (f_X11_put a b c) (f_X12_put a b c) w := by
  by_cases ha : 0 ≤ a.toInt ∧ a.toInt ≤ 3
  · obtain ⟨i, hi, rfl, ei⟩ := of_toInt a ha.1
    obtain ⟨q1, q2, q3, q4, q5, q6⟩ := hR.2.2.1 i (by omega)
    by_cases h0 : (w 140 i).toInt = 0
    · refine OK_err2 hR (k := 2) (by decide) (by decide) ?_ (fun w1 e => ?_)
      · rw [f_X11_put]
        simp (disch := omega) only [zb_s, zb2_s, zlet_e, zg_t, bP_0, bP_t0, in_k, isLetter_spec, XisLetter_spec, lt_nI, nI_lt2, eq_nI, tnI, tsub_k, tadd_k, if_pos, if_neg, zld_k, zsto_k, ztld_k, clamp_nI, zin_nI, zb2_eta, ↓reduceIte, nI_add, pk_mul, pk_sub, XisSheet_spec, f_X4_isMissing, q1]
      · rw [f_X12_put]
        simp (disch := omega) only [zb_s, zb2_s, zlet_e, zg_t, bP_0, bP_t0, in_k, isLetter_spec, XisLetter_spec, lt_nI, nI_lt2, eq_nI, tnI, tsub_k, tadd_k, if_pos, if_neg, zld_k, zsto_k, ztld_k, clamp_nI, zin_nI, zb2_eta, ↓reduceIte, nI_add, pk_mul, pk_sub, isSheet_spec, e 140 (by omega)]
    · obtain ⟨bi, hbi, ebi, etb⟩ := of_toInt (w 140 i) (by omega)
      have hv3 : bi = 8 ∨ bi = 16 ∨ bi = 32 := by omega
      have em : (w 141 i - nI 1).toInt = (w 141 i).toInt - 1 := tsub_k (by decide) (by omega)
      by_cases hb : 0 ≤ b.toInt ∧ b.toInt < (w 141 i).toInt
      · obtain ⟨k, hk, rfl, ek⟩ := of_toInt b hb.1
        obtain ⟨V, hV⟩ : ∃ V, V = (if bi = 8 then c.toInt8.toInt32 else if bi = 16 then c.toInt16.toInt32 else c) := ⟨_, rfl⟩
        refine ⟨nI 1, zupd w (105 + 2 * i) k V, zupd (zupd w (105 + 2 * i) k V) 142 (24 * i + k) V, ?_, ?_, shn_ok hR (by omega) (by omega) V⟩
        · rw [f_X11_put]
          rcases hv3 with rfl | rfl | rfl
          · simp (disch := omega) only [zb_s, zb2_s, zlet_e, zg_t, bP_0, bP_t0, in_k, isLetter_spec, XisLetter_spec, lt_nI, nI_lt2, eq_nI, tnI, tsub_k, tadd_k, if_pos, if_neg, zld_k, zsto_k, ztld_k, clamp_nI, zin_nI, zb2_eta, ↓reduceIte, nI_add, pk_mul, pk_sub, XisSheet_spec, f_X4_isMissing, q1, ebi, q3, Int32.lt_iff_toInt_lt, f_X4_write, j_X4_write_34, show 104 + 2 * i + 1 = 105 + 2 * i by omega, hV]
          · simp (disch := omega) only [zb_s, zb2_s, zlet_e, zg_t, bP_0, bP_t0, in_k, isLetter_spec, XisLetter_spec, lt_nI, nI_lt2, eq_nI, tnI, tsub_k, tadd_k, if_pos, if_neg, zld_k, zsto_k, ztld_k, clamp_nI, zin_nI, zb2_eta, ↓reduceIte, nI_add, pk_mul, pk_sub, XisSheet_spec, f_X4_isMissing, q1, ebi, q3, Int32.lt_iff_toInt_lt, f_X4_write, j_X4_write_34, show 104 + 2 * i + 1 = 105 + 2 * i by omega, hV]
          · simp (disch := omega) only [zb_s, zb2_s, zlet_e, zg_t, bP_0, bP_t0, in_k, isLetter_spec, XisLetter_spec, lt_nI, nI_lt2, eq_nI, tnI, tsub_k, tadd_k, if_pos, if_neg, zld_k, zsto_k, ztld_k, clamp_nI, zin_nI, zb2_eta, ↓reduceIte, nI_add, pk_mul, pk_sub, XisSheet_spec, f_X4_isMissing, q1, ebi, q3, Int32.lt_iff_toInt_lt, f_X4_write, j_X4_write_34, show 104 + 2 * i + 1 = 105 + 2 * i by omega, hV]
        · have e140 : zupd w (105 + 2 * i) k V 140 = w 140 := zupd_ne _ _ _ (by omega)
          have e141 : zupd w (105 + 2 * i) k V 141 = w 141 := zupd_ne _ _ _ (by omega)
          rw [f_X12_put, isSheet_spec, zb_s, if_neg (by rw [bP_0]; omega), zld_k _ _ _ _ _ (by omega) (by decide), e140, ebi, if_neg (by rw [eq_nI _ (by decide), tnI (by omega)]; omega), zld_k _ _ _ _ _ (by omega) (by decide), e141, in_spec, zb_s, em, tnI (by decide), if_neg (by rw [bP_0]; omega), zld_k _ _ _ _ _ (by omega) (by decide), e140, ebi, zlet_e]
          have eV : (c <<< ((nI 32 - nI bi) &&& 31)) >>> ((nI 32 - nI bi) &&& 31) = V := by
            rw [hV]
            rcases hv3 with rfl | rfl | rfl
            · rw [if_pos rfl]; exact nar8 c
            · rw [if_neg (by decide), if_pos rfl]; exact nar16 c
            · rw [if_neg (by decide), if_neg (by decide)]; exact nar32 c
          rw [eV, pk_mul, nI_add, zsto_k _ _ _ _ _ _ (by omega) (by decide)]
      · refine OK_err2 hR (k := 1) (by decide) (by decide) ?_ (fun w1 e => ?_)
        · rw [f_X11_put]
          by_cases hn : b.toInt < 0
          · simp (disch := omega) only [zb_s, zb2_s, zlet_e, zg_t, bP_0, bP_t0, in_k, isLetter_spec, XisLetter_spec, lt_nI, nI_lt2, eq_nI, tnI, tsub_k, tadd_k, if_pos, if_neg, zld_k, zsto_k, ztld_k, clamp_nI, zin_nI, zb2_eta, ↓reduceIte, nI_add, pk_mul, pk_sub, XisSheet_spec, f_X4_isMissing, q1, j_X11_put_48]
          · simp (disch := omega) only [zb_s, zb2_s, zlet_e, zg_t, bP_0, bP_t0, in_k, isLetter_spec, XisLetter_spec, lt_nI, nI_lt2, eq_nI, tnI, tsub_k, tadd_k, if_pos, if_neg, zld_k, zsto_k, ztld_k, clamp_nI, zin_nI, zb2_eta, ↓reduceIte, nI_add, pk_mul, pk_sub, XisSheet_spec, f_X4_isMissing, q1, q3, Int32.lt_iff_toInt_lt, j_X11_put_48]
        · rw [f_X12_put, isSheet_spec, zb_s, if_neg (by rw [bP_0]; omega), zld_k _ _ _ _ _ (by omega) (by decide), e 140 (by omega), ebi, if_neg (by rw [eq_nI _ (by decide), tnI (by omega)]; omega), zld_k _ _ _ _ _ (by omega) (by decide), e 141 (by omega), in_spec, zb_s, em, tnI (by decide), if_pos (by rw [bP_0]; omega), zb2_eta]
  · refine OK_err2 hR (k := 1) (by decide) (by decide) ?_ (fun w1 e => ?_)
    · rw [f_X11_put]
      simp (disch := omega) only [zb_s, zb2_s, zlet_e, zg_t, bP_0, bP_t0, in_k, isLetter_spec, XisLetter_spec, lt_nI, nI_lt2, eq_nI, tnI, tsub_k, tadd_k, if_pos, if_neg, zld_k, zsto_k, ztld_k, clamp_nI, zin_nI, zb2_eta, ↓reduceIte, nI_add, pk_mul, pk_sub, XisSheet_spec]
    · rw [f_X12_put]
      simp (disch := omega) only [zb_s, zb2_s, zlet_e, zg_t, bP_0, bP_t0, in_k, isLetter_spec, XisLetter_spec, lt_nI, nI_lt2, eq_nI, tnI, tsub_k, tadd_k, if_pos, if_neg, zld_k, zsto_k, ztld_k, clamp_nI, zin_nI, zb2_eta, ↓reduceIte, nI_add, pk_mul, pk_sub, isSheet_spec]
