section MV
variable {s : Nat → Int32} {i K : Nat} {m : Int32}
/-- the reference's speaker -/
def MH (s : Nat → Int32) (i : Nat) (w : zW) (c : Nat) (f : Nat → Int32) (p : Int32) : Prop := w 128 21 = nI c ∧ w 139 = f ∧ w 128 23 = p ∧ w 128 22 = nI i ∧ w 129 = s
def MF (w w1 : zW) : Prop := (∀ j, j ≠ 128 → j ≠ 139 → w1 j = w j) ∧ w1 128 2 = w 128 2
theorem MF_tr : ∀ a b c, MF a b → MF b c → MF a c := fun _ _ _ h h' => ⟨fun j h1 h2 => (h'.1 j h1 h2).trans (h.1 j h1 h2), h'.2.trans h.2⟩
theorem MF_rf : ∀ a, MF a a := fun _ => ⟨fun _ _ _ => rfl, rfl⟩
theorem Mnote_ok {b : Nat} : ∀ w c f, MH s i w c f (nI 0) → c < 30 → ∃ w1, f_X12_begins (nI b) w = some w1 ∧ MF w w1 ∧ MH s i w1 (c + 1) (upd f c (nI b)) (nI 0) := by
  intro w c f ⟨h1, h2, h3, h4, h5⟩ hc
  have g : ∀ j, j ≠ 21 → zupd (zupd w 139 c (nI b)) 128 21 (nI (c + 1)) 128 j = w 128 j := fun j hj => by rw [zupd_eq, upd_ne _ _ hj, zupd_ne _ _ _ (by decide)]
  refine ⟨zupd (zupd w 139 c (nI b)) 128 21 (nI (c + 1)), ?_, ⟨fun j j1 j2 => by rw [zupd_ne _ _ _ j1, zupd_ne _ _ _ j2], g 2 (by decide)⟩, by rw [zupd_eq, upd_eq], by rw [zupd_ne _ _ _ (by decide), zupd_eq, h2], (g 23 (by decide)).trans h3, (g 22 (by decide)).trans h4, by rw [zupd_ne _ _ _ (by decide), zupd_ne _ _ _ (by decide)]; exact h5⟩
  rw [f_X12_begins, h1, if_pos (by rw [lt_nI _ (by decide), tnI (by omega)]; omega), zsto_k _ _ _ _ _ _ (by omega) (by decide), zupd_ne _ _ _ (show 128 ≠ 139 by decide), h1, nI_add, zlet_e]
theorem MR0f (d : Nat) (a b : Int32) (w : zW) : F_X12_readsBy (d + 1) 0 a b w = b_X12_readsBy (F_X12_readsBy d) a b w := rfl
theorem MS0f (d : Nat) (a b : Int32) (w : zW) : F_X12_saysBy (d + 1) 0 a b w = b_X12_saysBy (F_X12_saysBy d) a b w := rfl
theorem MF0f (d : Nat) (a b : Int32) (w : zW) : F_X12_fallsBy (d + 1) 0 a b w = b_X12_fallsBy (F_X12_fallsBy d) a b w := rfl
theorem MM0f (d : Nat) (a b : Int32) (w : zW) : F_X12_mendsBy (d + 1) 0 a b w = b_X12_mendsBy (F_X12_mendsBy d) a b w := rfl
theorem above_k : ∀ q, q < 7 → f_X12_above (nI q) = some (nI (upq q)) := by decide +kernel
theorem MRa (d : Nat) (x : Int32) : EE (MH s i) MF (fun w => F_X12_readsBy (d + 1) 0 (nI 0) x w) (x + nI i) [10] (nI 0) :=
  EE_note MF_tr Mnote_ok (fun w c f _ => by rw [MR0f, b_X12_readsBy, if_pos rfl]) (EE_ret MF_rf fun w c f h => by rw [h.2.2.2.1])
theorem MRb (d : Nat) (x : Int32) : EE (MH s i) MF (fun w => F_X12_readsBy (d + 2) 0 (nI 1) x w) (x + nI i - nI 6) [20, 10] (nI 0) :=
  EE_note MF_tr Mnote_ok (fun w c f _ => by rw [MR0f, b_X12_readsBy, if_neg (by decide), if_pos rfl]) (EE_map (fun w c f _ => by rw [above_k 1 (by decide), zb_s]; rfl) (MRa d x) fun w c f h => rfl)
theorem MRu (d q : Nat) (x : Int32) (hq : q = 2 ∨ q = 3 ∨ q = 5) : ∀ w c f, MH s i w c f (nI 0) → F_X12_readsBy (d + 1) 0 (nI q) x w = F_X12_readsBy d 0 (nI (upq q)) x w := fun w c f _ => by
  rcases hq with rfl | rfl | rfl
  · rw [MR0f, b_X12_readsBy, if_neg (by decide), if_neg (by decide), if_pos rfl, above_k 2 (by decide), zb_s, zb2_eta]
  · rw [MR0f, b_X12_readsBy, if_neg (by decide), if_neg (by decide), if_neg (by decide), if_pos rfl, above_k 3 (by decide), zb_s, zb2_eta]
  · rw [MR0f, b_X12_readsBy, if_neg (by decide), if_neg (by decide), if_neg (by decide), if_neg (by decide), if_neg (by decide), if_pos rfl, above_k 5 (by decide), zb_s, zb2_eta]
theorem MR (d : Nat) {q : Nat} (x : Int32) (hq : q < 7) : EE (MH s i) MF (fun w => F_X12_readsBy (d + 3) 0 (nI q) x w) (rV (nI i) q x) (rL q) (nI 0) := by
  rcases q7 hq with rfl | rfl | rfl | rfl | rfl | rfl | rfl
  · exact MRa (d + 2) x
  · exact MRb (d + 1) x
  · exact EE_to (MRu (d + 2) 2 x (by omega)) (MRa (d + 1) x)
  · exact EE_to (MRu (d + 2) 3 x (by omega)) (MRa (d + 1) x)
  · exact EE_note MF_tr Mnote_ok (fun w c f _ => by rw [MR0f, b_X12_readsBy, if_neg (by decide), if_neg (by decide), if_neg (by decide), if_neg (by decide), if_pos rfl]) (EE_map (fun w c f _ => by rw [above_k 4 (by decide), zb_s]; rfl) (MRb d x) fun w c f h => rfl)
  · exact EE_to (MRu (d + 2) 5 x (by omega)) (EE_to (MRu (d + 1) 3 x (by omega)) (MRa d x))
  · exact EE_note MF_tr Mnote_ok (fun w c f _ => by rw [MR0f, b_X12_readsBy, if_neg (by decide), if_neg (by decide), if_neg (by decide), if_neg (by decide), if_neg (by decide), if_neg (by decide), if_pos rfl]; rfl) (EE_ret MF_rf fun w c f h => rfl)
theorem MK_k {w : zW} {c : Nat} {f : Nat → Int32} {p : Int32} (h : MH s i w c f p) (hi : i < 6) (hK : s (8 + 27 * i) = nI K) (hm : s (9 + 27 * i) = m) : f_X12_kindNow w = some (nI K) ∧ f_X12_mNow w = some m := by
  constructor
  · rw [f_X12_kindNow, h.2.2.2.1, its_k h.2.2.2.2 hi (by decide), zb_s, Nat.add_zero, hK]
  · rw [f_X12_mNow, h.2.2.2.1, its_k h.2.2.2.2 hi (by decide), zb_s, show 8 + 27 * i + 1 = 9 + 27 * i by omega, hm]
theorem MSa (d : Nat) (x : Int32) (hi : i < 6) (hK7 : K < 7) (hK : s (8 + 27 * i) = nI K) : EE (MH s i) MF (fun w => F_X12_saysBy (d + 1) 0 (nI 0) x w) (rV (nI i) K x * nI 2) (11 :: rL K) (nI 0) :=
  EE_note MF_tr Mnote_ok (fun w c f _ => by rw [MS0f, b_X12_saysBy, if_pos rfl]) (EE_map (act2 := fun w => F_X12_readsBy 100 0 (nI K) x w) (fun w c f h => by rw [(MK_k h hi hK rfl).1, zb_s]; rfl) (MR 97 x hK7) fun w c f h => rfl)
theorem MSu (d q : Nat) (x : Int32) (hq : q = 1 ∨ q = 3 ∨ q = 4) : ∀ w c f, MH s i w c f (nI 0) → F_X12_saysBy (d + 1) 0 (nI q) x w = F_X12_saysBy d 0 (nI (upq q)) x w := fun w c f _ => by
  rcases hq with rfl | rfl | rfl
  · rw [MS0f, b_X12_saysBy, if_neg (by decide), if_pos rfl, above_k 1 (by decide), zb_s, zb2_eta]
  · rw [MS0f, b_X12_saysBy, if_neg (by decide), if_neg (by decide), if_neg (by decide), if_pos rfl, above_k 3 (by decide), zb_s, zb2_eta]
  · rw [MS0f, b_X12_saysBy, if_neg (by decide), if_neg (by decide), if_neg (by decide), if_neg (by decide), if_pos rfl, above_k 4 (by decide), zb_s, zb2_eta]
theorem neg_k (x : Int32) : nI 0 - x = -x := by
  rw [show nI 0 = (0 : Int32) from rfl, Int32.zero_sub]
theorem MS (d : Nat) {q : Nat} (x : Int32) (hi : i < 6) (hK7 : K < 7) (hK : s (8 + 27 * i) = nI K) (hm : s (9 + 27 * i) = m) (hq : q < 7) : EE (MH s i) MF (fun w => F_X12_saysBy (d + 3) 0 (nI q) x w) (sV (nI i) m K q x) (sL K q) (nI 0) := by
  rcases q7 hq with rfl | rfl | rfl | rfl | rfl | rfl | rfl
  · exact MSa (d + 2) x hi hK7 hK
  · exact EE_to (MSu (d + 2) 1 x (by omega)) (MSa (d + 1) x hi hK7 hK)
  · exact EE_note MF_tr Mnote_ok (fun w c f _ => by rw [MS0f, b_X12_saysBy, if_neg (by decide), if_neg (by decide), if_pos rfl]) (EE_map (fun w c f _ => by rw [above_k 2 (by decide), zb_s]; rfl) (MSa (d + 1) x hi hK7 hK) fun w c f h => by rw [neg_k]; rfl)
  · exact EE_to (MSu (d + 2) 3 x (by omega)) (MSa (d + 1) x hi hK7 hK)
  · exact EE_to (MSu (d + 2) 4 x (by omega)) (EE_to (MSu (d + 1) 1 x (by omega)) (MSa d x hi hK7 hK))
  · exact EE_note MF_tr Mnote_ok (fun w c f _ => by rw [MS0f, b_X12_saysBy, if_neg (by decide), if_neg (by decide), if_neg (by decide), if_neg (by decide), if_neg (by decide), if_pos rfl]) (EE_map (fun w c f _ => by rw [above_k 5 (by decide), zb_s]; rfl) (EE_to (MSu (d + 1) 3 (x + nI 1) (by omega)) (MSa d (x + nI 1) hi hK7 hK)) fun w c f h => rfl)
  · exact EE_note MF_tr Mnote_ok (fun w c f _ => by rw [MS0f, b_X12_saysBy, if_neg (by decide), if_neg (by decide), if_neg (by decide), if_neg (by decide), if_neg (by decide), if_neg (by decide), if_pos rfl]) (EE_map (fun w c f _ => by rw [above_k 6 (by decide), zb_s]; rfl) (MSa (d + 1) x hi hK7 hK) fun w c f h => by rw [(MK_k h hi hK hm).2, zb_s]; rfl)
theorem MFa (d : Nat) (x : Int32) (hi : i < 6) (hK7 : K < 7) (hK : s (8 + 27 * i) = nI K) (hm : s (9 + 27 * i) = m) : EE (MH s i) MF (fun w => F_X12_fallsBy (d + 1) 0 (nI 0) x w) (sV (nI i) m K K x - m) (12 :: sL K K) (nI 0) :=
  EE_note MF_tr Mnote_ok (fun w c f _ => by rw [MF0f, b_X12_fallsBy, if_pos rfl]) (EE_map (act2 := fun w => F_X12_saysBy 100 0 (nI K) x w) (fun w c f h => by rw [(MK_k h hi hK rfl).1, zb_s]; rfl) (MS 97 x hi hK7 hK hm hK7) fun w c f h => by rw [(MK_k h hi hK hm).2, zb_s])
theorem MFu (d q : Nat) (x : Int32) (hq : q = 1 ∨ q = 2 ∨ q = 5 ∨ q = 6) : ∀ w c f, MH s i w c f (nI 0) → F_X12_fallsBy (d + 1) 0 (nI q) x w = F_X12_fallsBy d 0 (nI (upq q)) x w := fun w c f _ => by
  rcases hq with rfl | rfl | rfl | rfl
  · rw [MF0f, b_X12_fallsBy, if_neg (by decide), if_pos rfl, above_k 1 (by decide), zb_s, zb2_eta]
  · rw [MF0f, b_X12_fallsBy, if_neg (by decide), if_neg (by decide), if_pos rfl, above_k 2 (by decide), zb_s, zb2_eta]
  · rw [MF0f, b_X12_fallsBy, if_neg (by decide), if_neg (by decide), if_neg (by decide), if_neg (by decide), if_neg (by decide), above_k 5 (by decide), zb_s, zb2_eta]
  · rw [MF0f, b_X12_fallsBy, if_neg (by decide), if_neg (by decide), if_neg (by decide), if_neg (by decide), if_neg (by decide), above_k 6 (by decide), zb_s, zb2_eta]
theorem MFc (d : Nat) (x : Int32) (hi : i < 6) (hK7 : K < 7) (hK : s (8 + 27 * i) = nI K) (hm : s (9 + 27 * i) = m) : EE (MH s i) MF (fun w => F_X12_fallsBy (d + 2) 0 (nI 3) x w) (sV (nI i) m K K (x / nI 2) - m) (40 :: 12 :: sL K K) (nI 0) :=
  EE_note MF_tr Mnote_ok (fun w c f _ => by rw [MF0f, b_X12_fallsBy, if_neg (by decide), if_neg (by decide), if_neg (by decide), if_pos rfl]) (EE_map (fun w c f _ => by rw [above_k 3 (by decide), zb_s]; rfl) (MFa d (x / nI 2) hi hK7 hK hm) fun w c f h => rfl)
theorem MFF (d : Nat) {q : Nat} (x : Int32) (hi : i < 6) (hK7 : K < 7) (hK : s (8 + 27 * i) = nI K) (hm : s (9 + 27 * i) = m) (hq : q < 7) : EE (MH s i) MF (fun w => F_X12_fallsBy (d + 3) 0 (nI q) x w) (fV (nI i) m K q x) (fL K q) (nI 0) := by
  rcases q7 hq with rfl | rfl | rfl | rfl | rfl | rfl | rfl
  · exact MFa (d + 2) x hi hK7 hK hm
  · exact EE_to (MFu (d + 2) 1 x (by omega)) (MFa (d + 1) x hi hK7 hK hm)
  · exact EE_to (MFu (d + 2) 2 x (by omega)) (MFa (d + 1) x hi hK7 hK hm)
  · exact MFc (d + 1) x hi hK7 hK hm
  · exact EE_note MF_tr Mnote_ok (fun w c f _ => by rw [MF0f, b_X12_fallsBy, if_neg (by decide), if_neg (by decide), if_neg (by decide), if_neg (by decide), if_pos rfl]) (EE_map (fun w c f _ => by rw [above_k 4 (by decide), zb_s]; rfl) (EE_to (MFu (d + 1) 1 x (by omega)) (MFa d x hi hK7 hK hm)) fun w c f h => by rw [h.2.2.2.1]; rfl)
  · exact EE_to (MFu (d + 2) 5 x (by omega)) (MFc d x hi hK7 hK hm)
  · exact EE_to (MFu (d + 2) 6 x (by omega)) (MFa (d + 1) x hi hK7 hK hm)
theorem M54_ok (F : Nat → Int32 → Int32 → zW → Option (Int32 × zW)) (x y : Int32) (hy : ¬ y = nI 0) : EE (MH s i) MF (fun w => j_X12_mendsBy_54 F x y (nI 0) w) (x / y) [] (nI 0) := by
  intro w c f hw _
  obtain ⟨h1, h2, h3, h4, h5⟩ := hw
  have g : ∀ j, j ≠ 23 → zupd w 128 23 (nI 0) 128 j = w 128 j := fun j hj => by rw [zupd_eq, upd_ne _ _ hj]
  refine ⟨zupd w 128 23 (nI 0), ?_, ⟨fun j j1 _ => zupd_ne _ _ _ j1, g 2 (by decide)⟩, (g 21 (by decide)).trans h1, by rw [zupd_ne _ _ _ (by decide)]; exact h2, by rw [zupd_eq, upd_eq], (g 22 (by decide)).trans h4, by rw [zupd_ne _ _ _ (by decide)]; exact h5⟩
  show j_X12_mendsBy_54 F x y (nI 0) w = _
  rw [j_X12_mendsBy_54, show zbool (nI 0) = true by decide, zg_t, zlet_e, if_neg hy]
  by_cases e : y = mI 1
  · rw [if_pos e, e, div_m1]
  · rw [if_neg e, decide_eq_true (show ¬ y = 0 from hy), zg_t]
theorem M54_0 (F : Nat → Int32 → Int32 → zW → Option (Int32 × zW)) (x y : Int32) (hy : y = nI 0) : EE (MH s i) MF (fun w => j_X12_mendsBy_54 F x y (nI 1) w) (nI 0) [] (nI 1) := by
  intro w c f hw _
  obtain ⟨h1, h2, h3, h4, h5⟩ := hw
  have g : ∀ j, j ≠ 23 → zupd w 128 23 (nI 1) 128 j = w 128 j := fun j hj => by rw [zupd_eq, upd_ne _ _ hj]
  refine ⟨zupd w 128 23 (nI 1), ?_, ⟨fun j j1 _ => zupd_ne _ _ _ j1, g 2 (by decide)⟩, (g 21 (by decide)).trans h1, by rw [zupd_ne _ _ _ (by decide)]; exact h2, by rw [zupd_eq, upd_eq], (g 22 (by decide)).trans h4, by rw [zupd_ne _ _ _ (by decide)]; exact h5⟩
  show j_X12_mendsBy_54 F x y (nI 1) w = _
  rw [j_X12_mendsBy_54, show zbool (nI 1) = true by decide, zg_t, zlet_e, if_pos hy]
theorem MMu (d q : Nat) (x : Int32) (hq : q = 2 ∨ q = 3 ∨ q = 4 ∨ q = 5 ∨ q = 6) : ∀ w c f, MH s i w c f (nI 0) → F_X12_mendsBy (d + 1) 0 (nI q) x w = F_X12_mendsBy d 0 (nI (upq q)) x w := fun w c f _ => by
  rcases hq with rfl | rfl | rfl | rfl | rfl
  · rw [MM0f, b_X12_mendsBy, if_neg (by decide), if_neg (by decide), above_k 2 (by decide), zb_s, zb2_eta]
  · rw [MM0f, b_X12_mendsBy, if_neg (by decide), if_neg (by decide), above_k 3 (by decide), zb_s, zb2_eta]
  · rw [MM0f, b_X12_mendsBy, if_neg (by decide), if_neg (by decide), above_k 4 (by decide), zb_s, zb2_eta]
  · rw [MM0f, b_X12_mendsBy, if_neg (by decide), if_neg (by decide), above_k 5 (by decide), zb_s, zb2_eta]
  · rw [MM0f, b_X12_mendsBy, if_neg (by decide), if_neg (by decide), above_k 6 (by decide), zb_s, zb2_eta]
theorem MMa (d : Nat) (x : Int32) (hi : i < 6) (hK : s (8 + 27 * i) = nI K) (hm : s (9 + 27 * i) = m) (hp : ¬ m - nI i = nI 0) : EE (MH s i) MF (fun w => F_X12_mendsBy (d + 1) 0 (nI 0) x w) (x / (m - nI i)) [13] (nI 0) :=
  EE_note MF_tr Mnote_ok (fun w c f _ => by rw [MM0f, b_X12_mendsBy, if_pos rfl]) (EE_to (fun w c f h => by rw [(MK_k h hi hK hm).2, zb_s, h.2.2.2.1, zlet_e, if_neg hp]) (M54_ok (F_X12_mendsBy d) x (m - nI i) hp))
theorem MMb (d : Nat) (x : Int32) (hi : i < 6) (hK7 : K < 7) (hK : s (8 + 27 * i) = nI K) (hm : s (9 + 27 * i) = m) (hp : ¬ m - nI i = nI 0) : EE (MH s i) MF (fun w => F_X12_mendsBy (d + 2) 0 (nI 1) x w) (x / (m - nI i) + sV (nI i) m K K (nI 1)) (21 :: ([13] ++ sL K K)) (nI 0) :=
  EE_note MF_tr Mnote_ok (fun w c f _ => by rw [MM0f, b_X12_mendsBy, if_neg (by decide), if_pos rfl]) (EE_seq (act3 := fun w => F_X12_saysBy 100 0 (nI K) (nI 1) w) MF_tr (fun x12 w3 => if (w3 128 23) = nI 0 then zb (f_X12_kindNow w3) fun x15 => zb2 (f_X12_saysBy x15 (nI 1) w3) fun x17 w4 => some (x12 + x17, w4) else some (nI 0, w3)) (MMa d x hi hK hm hp) (MS 97 (nI 1) hi hK7 hK hm hK7) (fun w c f _ => by rw [above_k 1 (by decide), zb_s]; rfl) (fun w c f h => by rw [if_pos h.2.2.1, (MK_k h hi hK rfl).1, zb_s]; rfl))
theorem MM (d : Nat) {q : Nat} (x : Int32) (hi : i < 6) (hK7 : K < 7) (hK : s (8 + 27 * i) = nI K) (hm : s (9 + 27 * i) = m) (hp : ¬ m - nI i = nI 0) (hq : q < 7) : EE (MH s i) MF (fun w => F_X12_mendsBy (d + 3) 0 (nI q) x w) (mV (nI i) m K q x) (mL K q) (nI 0) := by
  rcases q7 hq with rfl | rfl | rfl | rfl | rfl | rfl | rfl
  · exact MMa (d + 2) x hi hK hm hp
  · exact MMb (d + 1) x hi hK7 hK hm hp
  · exact EE_to (MMu (d + 2) 2 x (by omega)) (MMa (d + 1) x hi hK hm hp)
  · exact EE_to (MMu (d + 2) 3 x (by omega)) (MMa (d + 1) x hi hK hm hp)
  · exact EE_to (MMu (d + 2) 4 x (by omega)) (MMb d x hi hK7 hK hm hp)
  · exact EE_to (MMu (d + 2) 5 x (by omega)) (EE_to (MMu (d + 1) 3 x (by omega)) (MMa d x hi hK hm hp))
  · exact EE_to (MMu (d + 2) 6 x (by omega)) (MMa (d + 1) x hi hK hm hp)
theorem MPa (d : Nat) (x : Int32) (hi : i < 6) (hK : s (8 + 27 * i) = nI K) (hm : s (9 + 27 * i) = m) (hp : m - nI i = nI 0) : EE (MH s i) MF (fun w => F_X12_mendsBy (d + 1) 0 (nI 0) x w) (nI 0) [13] (nI 1) :=
  EE_note MF_tr Mnote_ok (fun w c f _ => by rw [MM0f, b_X12_mendsBy, if_pos rfl]) (EE_to (fun w c f h => by rw [(MK_k h hi hK hm).2, zb_s, h.2.2.2.1, zlet_e, if_pos hp]) (M54_0 (F_X12_mendsBy d) x (m - nI i) hp))
theorem MPb (d : Nat) (x : Int32) (hi : i < 6) (hK : s (8 + 27 * i) = nI K) (hm : s (9 + 27 * i) = m) (hp : m - nI i = nI 0) : EE (MH s i) MF (fun w => F_X12_mendsBy (d + 2) 0 (nI 1) x w) (nI 0) [21, 13] (nI 1) :=
  EE_note MF_tr Mnote_ok (fun w c f _ => by rw [MM0f, b_X12_mendsBy, if_neg (by decide), if_pos rfl]) (EE_map (fun w c f _ => by rw [above_k 1 (by decide), zb_s]; rfl) (MPa d x hi hK hm hp) (fun w c f h => by rw [if_neg (by rw [h.2.2.1]; decide)]))
theorem MP (d : Nat) {q : Nat} (x : Int32) (hi : i < 6) (hK : s (8 + 27 * i) = nI K) (hm : s (9 + 27 * i) = m) (hp : m - nI i = nI 0) (hq : q < 7) : EE (MH s i) MF (fun w => F_X12_mendsBy (d + 3) 0 (nI q) x w) (nI 0) (mP q) (nI 1) := by
  rcases q7 hq with rfl | rfl | rfl | rfl | rfl | rfl | rfl
  · exact MPa (d + 2) x hi hK hm hp
  · exact MPb (d + 1) x hi hK hm hp
  · exact EE_to (MMu (d + 2) 2 x (by omega)) (MPa (d + 1) x hi hK hm hp)
  · exact EE_to (MMu (d + 2) 3 x (by omega)) (MPa (d + 1) x hi hK hm hp)
  · exact EE_to (MMu (d + 2) 4 x (by omega)) (MPb d x hi hK hm hp)
  · exact EE_to (MMu (d + 2) 5 x (by omega)) (EE_to (MMu (d + 1) 3 x (by omega)) (MPa d x hi hK hm hp))
  · exact EE_to (MMu (d + 2) 6 x (by omega)) (MPa (d + 1) x hi hK hm hp)
end MV
theorem Rel_voice {w w2 : zW} {c : Nat} (hR : Rel w) (h : ∀ j, j ≠ 125 → j ≠ 126 → j ≠ 128 → j ≠ 139 → w2 j = w j) (h2 : w2 128 2 = w 128 2) (hc : c ≤ 30) (e1 : w2 125 1 = nI c) (e2 : w2 128 21 = nI c) (e3 : ∀ j, j < c → w2 126 j = w2 139 j) : Rel w2 := by
  obtain ⟨r1, r2, r3, r4, r5, r6⟩ := hR
  refine ⟨?_, ?_, ?_, ?_, ?_, ?_⟩
  · rw [h 129 (by decide) (by decide) (by decide) (by decide)]
    exact RT_congr (fun k _ _ => h k (by omega) (by omega) (by omega) (by omega)) r1
  · rw [h2, h 130 (by decide) (by decide) (by decide) (by decide)]
    exact fun hi => RT_congr (fun k _ _ => h k (by omega) (by omega) (by omega) (by omega)) (r2 hi)
  · intro i hi
    have := r3 i hi
    unfold Rshe1 at this ⊢
    rw [h (104 + 2 * i) (by omega) (by omega) (by omega) (by omega), h (105 + 2 * i) (by omega) (by omega) (by omega) (by omega), h 140 (by decide) (by decide) (by decide) (by decide), h 141 (by decide) (by decide) (by decide) (by decide), h 142 (by decide) (by decide) (by decide) (by decide)]
    exact this
  · intro k k1 k2
    rw [h 127 (by decide) (by decide) (by decide) (by decide), h 131 (by decide) (by decide) (by decide) (by decide)]
    exact r4 k k1 k2
  · refine ⟨by rw [e1, e2], by rw [e2, tnI (by omega)]; omega, by rw [e2, tnI (by omega)]; omega, fun k hk => e3 k (by rw [e2, tnI (by omega)] at hk; omega)⟩
  · rw [h 0 (by decide) (by decide) (by decide) (by decide), h2]
    exact r6
theorem nts_in : ∀ (L : List Nat) (f g : Nat → Int32) (c j : Nat), (j < c → f j = g j) → j < c + L.length → nts f c L j = nts g c L j
  | [], f, g, c, j, h, hj => h (by simpa using hj)
  | b :: L, f, g, c, j, h, hj => by
    rw [nts, nts]
    rw [List.length_cons] at hj
    refine nts_in L _ _ _ _ (fun hl => ?_) (by omega)
    by_cases e : j = c
    · rw [e, upd_eq, upd_eq]
    · rw [upd_ne _ _ e, upd_ne _ _ e]
      exact h (by omega)
theorem Xerr6 (w : zW) : f_X11_error (nI 6) w = some (mI 1000000 - nI 6, zupd w 127 6 (w 127 6 + nI 1)) := by
  rw [f_X11_error, zld_k _ _ _ _ _ (by omega) (by decide), zsto_k _ _ _ _ _ _ (by omega) (by decide)]
theorem Merr6 (w : zW) : f_X12_error (nI 6) w = some (mI 1000000 - nI 6, zupd w 131 6 (w 131 6 + nI 1)) := by
  rw [f_X12_error, zld_k _ _ _ _ _ (by omega) (by decide), zsto_k _ _ _ _ _ _ (by omega) (by decide)]
theorem Rel_e6 {w : zW} (hR : Rel w) : Rel (zupd (zupd w 127 6 (w 127 6 + nI 1)) 131 6 (w 131 6 + nI 1)) := by
  obtain ⟨r, w1, w2, a1, a2, a3, a4⟩ := err_ok hR (k := 6) (by decide) (by decide)
  rw [Xerr6] at a1
  rw [Merr6] at a3
  have e1 := (Prod.mk.inj (Option.some.inj a1)).2
  have e3 := (Prod.mk.inj (Option.some.inj a3)).2
  rw [← e3, ← e1, zupd_ne w _ _ (show 131 ≠ 127 by decide)] at a4
  exact a4
/-- a voice of both sides, as one: what is answered, noted, and left -/
theorem OK_voice {w wa : zW} {x m : zW → Option (Int32 × zW)} {v p : Int32} {L : List Nat} (hR : Rel w) (hL : L.length ≤ 30) (h1 : ∀ j, j ≠ 125 → j ≠ 126 → wa j = w j) (a1 : wa 125 1 = nI L.length) (a2 : wa 126 = nts (w 126) 0 L) (hx : x w = if p = nI 0 then some (v, wa) else f_X11_error (nI 6) wa) (hm : ∀ u : zW, u 129 = w 129 → ∃ u1, MF u u1 ∧ u1 128 21 = nI L.length ∧ u1 139 = nts (u 139) 0 L ∧ m u = if p = nI 0 then some (v, u1) else f_X12_error (nI 6) u1) : OK2 x m w := by
  by_cases hp : p = nI 0
  · rw [if_pos hp] at hx
    obtain ⟨u1, b1, b2, b3, b4⟩ := hm wa (h1 129 (by decide) (by decide))
    rw [if_pos hp] at b4
    refine ⟨v, wa, u1, hx, b4, Rel_voice (c := L.length) hR (fun j c1 c2 c3 c4 => (b1.1 j c3 c4).trans (h1 j c1 c2)) ?_ hL ?_ b2 ?_⟩
    · rw [b1.2, h1 128 (by decide) (by decide)]
    · rw [b1.1 125 (by decide) (by decide), a1]
    · intro j hj
      rw [b1.1 126 (by decide) (by decide), a2, b3]
      exact nts_in L _ _ _ _ (fun h => by omega) (by omega)
  · rw [if_neg hp, Xerr6] at hx
    obtain ⟨u1, b1, b2, b3, b4⟩ := hm (zupd wa 127 6 (wa 127 6 + nI 1)) (by rw [zupd_ne _ _ _ (by decide)]; exact h1 129 (by decide) (by decide))
    rw [if_neg hp, Merr6] at b4
    have g : ∀ j, j ≠ 127 → zupd wa 127 6 (wa 127 6 + nI 1) j = wa j := fun j hj => zupd_ne _ _ _ hj
    refine ⟨_, _, _, hx, b4, Rel_voice (c := L.length) (Rel_e6 hR) (fun j c1 c2 c3 c4 => ?_) ?_ hL ?_ ?_ ?_⟩
    · by_cases e : j = 131
      · subst e
        rw [zupd_eq, zupd_eq, b1.1 131 (by decide) (by decide), g 131 (by decide), h1 131 (by decide) (by decide), zupd_ne w _ _ (show 131 ≠ 127 by decide)]
      · rw [zupd_ne _ _ _ e, zupd_ne _ _ _ e, b1.1 j c3 c4]
        by_cases e7 : j = 127
        · subst e7
          rw [zupd_eq, zupd_eq, h1 127 (by decide) (by decide)]
        · rw [g j e7, zupd_ne _ _ _ e7, h1 j c1 c2]
    · rw [zupd_ne _ _ _ (by decide), b1.2, g 128 (by decide), h1 128 (by decide) (by decide), zupd_ne _ _ _ (by decide), zupd_ne _ _ _ (by decide)]
    · rw [zupd_ne _ _ _ (by decide), b1.1 125 (by decide) (by decide), g 125 (by decide), a1]
    · rw [zupd_ne _ _ _ (by decide)]
      exact b2
    · intro j hj
      rw [zupd_ne _ _ _ (show 126 ≠ 131 by decide), zupd_ne _ _ _ (show 139 ≠ 131 by decide), b1.1 126 (by decide) (by decide), g 126 (by decide), a2, b3]
      exact nts_in L _ _ _ _ (fun h => by omega) (by omega)
def mact (v : Nat) (q x : Int32) : zW → Option (Int32 × zW) := if v = 0 then F_X12_readsBy 100 0 q x else if v = 1 then F_X12_saysBy 100 0 q x else if v = 2 then F_X12_fallsBy 100 0 q x else F_X12_mendsBy 100 0 q x
theorem v_len : ∀ K, K < 7 → (rL K).length ≤ 30 ∧ (sL K K).length ≤ 30 ∧ (fL K K).length ≤ 30 ∧ (mL K K).length ≤ 30 ∧ (mP K).length ≤ 30 := by decide +kernel
theorem voices {s : Nat → Int32} {i K v : Nat} {m : Int32} (x : Int32) (hi : i < 6) (hK7 : K < 7) (hK : s (8 + 27 * i) = nI K) (hm : s (9 + 27 * i) = m) (hv : v < 4) : ∃ val L p, L.length ≤ 30 ∧ EE (VH K m (nI i)) VF (fun w => F_X5_speak 100 0 (nI v) (nI K) x (nI 0) w) val L p ∧ EE (MH s i) MF (mact v (nI K) x) val L p := by
  obtain ⟨l1, l2, l3, l4, l5⟩ := v_len K hK7
  have four : v = 0 ∨ v = 1 ∨ v = 2 ∨ v = 3 := by omega
  rcases four with rfl | rfl | rfl | rfl
  · exact ⟨_, _, _, l1, XR 94 x hK7 (by decide), MR 97 x hK7⟩
  · exact ⟨_, _, _, l2, XS 90 x hK7 hK7 (by decide), MS 97 x hi hK7 hK hm hK7⟩
  · exact ⟨_, _, _, l3, XF 86 x hK7 hK7 (by decide), MFF 97 x hi hK7 hK hm hK7⟩
  · by_cases h : m - nI i = nI 0
    · exact ⟨_, _, _, l5, XP 96 x hK7 (by decide) h, MP 97 x hi hK hm h hK7⟩
    · exact ⟨_, _, _, l4, XM 88 x hK7 hK7 (by decide) h, MM 97 x hi hK7 hK hm h hK7⟩
theorem op_voice {w : zW} (hR : Rel w) (a b x : Int32) : OK2 (f_X11_voice a b x) (f_X12_voice a b x) w := by
  have h := hR.1
  have h6 := h.2.1.1.2
  by_cases ha : (0 ≤ a.toInt ∧ a.toInt < (w 129 0).toInt) ∧ 0 ≤ b.toInt ∧ b.toInt ≤ 3
  · obtain ⟨i, hi, rfl, ei⟩ := of_toInt a ha.1.1
    obtain ⟨v, hv, rfl, ev⟩ := of_toInt b ha.2.1
    have hi' : (i : Int) < (w 129 0).toInt := by omega
    have q := h.2.2.1 i hi'
    unfold Rwal1 at q
    rw [show 1 + 39 + 2 * i = 40 + 2 * i by omega] at q
    obtain ⟨K, hK, eK, tK⟩ := nn_nI h.1 (8 + 27 * i) (by omega) (by omega)
    have K7 : K < 7 := by omega
    obtain ⟨val, L, p, hL, vx, vm⟩ := voices x (show i < 6 by omega) K7 eK rfl (show v < 4 by omega)
    obtain ⟨W, hW⟩ : ∃ W, W = zupd (zupd (zupd (zupd (zupd w 125 3 (nI K)) 125 4 (w 129 (9 + 27 * i))) 125 5 (nI i)) 125 1 (nI 0)) 125 2 (nI 0) := ⟨_, rfl⟩
    have eW : ∀ j, j ≠ 125 → W j = w j := fun j hj => by rw [hW, zupd_ne _ _ _ hj, zupd_ne _ _ _ hj, zupd_ne _ _ _ hj, zupd_ne _ _ _ hj, zupd_ne _ _ _ hj]
    have vh : VH K (w 129 (9 + 27 * i)) (nI i) W 0 (w 126) (nI 0) := by
      refine ⟨?_, eW 126 (by decide), ?_, ?_, ?_, ?_⟩
      · rw [hW, zupd_eq, upd_ne _ _ (by decide), zupd_eq, upd_eq]
      · rw [hW, zupd_eq, upd_eq]
      · rw [hW, zupd_eq, upd_ne _ _ (by decide), zupd_eq, upd_ne _ _ (by decide), zupd_eq, upd_ne _ _ (by decide), zupd_eq, upd_ne _ _ (by decide), zupd_eq, upd_eq]
      · rw [hW, zupd_eq, upd_ne _ _ (by decide), zupd_eq, upd_ne _ _ (by decide), zupd_eq, upd_ne _ _ (by decide), zupd_eq, upd_eq]
      · rw [hW, zupd_eq, upd_ne _ _ (by decide), zupd_eq, upd_ne _ _ (by decide), zupd_eq, upd_eq]
    obtain ⟨wa, x1, x2, x3⟩ := vx W 0 _ vh (by omega)
    rw [Nat.zero_add] at x3
    refine OK_voice (p := p) (v := val) (wa := wa) hR hL (fun j j1 j2 => (x2 j j1 j2).trans (eW j j1)) x3.1 x3.2.1 ?_ (fun u e => ?_)
    · have an : f_X5_answer (40 + 2 * i) (nI i) (nI v) x w = some (val, wa) := by
        rw [f_X5_answer, q.1.1, eK, zlet_e, zupd_ne w _ _ (show 40 + 2 * i ≠ 125 by omega), q.2.1.1, zlet_e, zlet_e, zlet_e, zlet_e, ← hW, vh.2.2.2.1, f_X5_speak]
        exact (congrArg (fun o => zb2 o fun x2 w6 => some (x2, w6)) x1)
      rw [f_X11_voice, hasWall_spec h, zb_s, if_neg (by rw [bP_0]; omega), if_neg (by rw [lt_nI _ (by decide)]; omega), if_pos (by rw [lt_nI _ (by decide)]; omega), zin_nI (by omega) (by decide), zg_t, clamp_nI (by omega), an, zb2_s, x3.2.2.1, zb2_eta]
    · obtain ⟨U, hU⟩ : ∃ U, U = zupd (zupd (zupd u 128 21 (nI 0)) 128 22 (nI i)) 128 23 (nI 0) := ⟨_, rfl⟩
      have eU : ∀ j, j ≠ 128 → U j = u j := fun j hj => by rw [hU, zupd_ne _ _ _ hj, zupd_ne _ _ _ hj, zupd_ne _ _ _ hj]
      have mh : MH (w 129) i U 0 (u 139) (nI 0) := by
        refine ⟨?_, eU 139 (by decide), ?_, ?_, (eU 129 (by decide)).trans e⟩
        · rw [hU, zupd_eq, upd_ne _ _ (by decide), zupd_eq, upd_ne _ _ (by decide), zupd_eq, upd_eq]
        · rw [hU, zupd_eq, upd_eq]
        · rw [hU, zupd_eq, upd_ne _ _ (by decide), zupd_eq, upd_eq]
      have m2 : U 128 2 = u 128 2 := by rw [hU, zupd_eq, upd_ne _ _ (by decide), zupd_eq, upd_ne _ _ (by decide), zupd_eq, upd_ne _ _ (by decide)]
      obtain ⟨u1, y1, y2, y3⟩ := vm U 0 _ mh (by omega)
      rw [Nat.zero_add] at y3
      refine ⟨u1, ⟨fun j j1 j2 => (y2.1 j j1 j2).trans (eU j j1), y2.2.trans m2⟩, y3.1, y3.2.1, ?_⟩
      have fin : j_X12_voice_95 val u1 = if p = nI 0 then some (val, u1) else f_X12_error (nI 6) u1 := by
        rw [j_X12_voice_95, y3.2.2.1, zb2_eta]
      rw [f_X12_voice, isWall_spec e h.1 h6, zb_s, if_neg (by rw [bP_0]; omega), in_k _ (by decide) (by decide), zb_s, if_neg (by rw [bP_0]; omega), zlet_e, zlet_e, zlet_e, ← hU, (MK_k mh (by omega) eK rfl).1, zb_s]
      have four : v = 0 ∨ v = 1 ∨ v = 2 ∨ v = 3 := by omega
      rcases four with rfl | rfl | rfl | rfl
      · rw [if_pos rfl, f_X12_readsBy, show F_X12_readsBy 100 0 (nI K) x U = some (val, u1) from y1, zb2_s, fin]
      · rw [if_neg (by decide), if_pos rfl, f_X12_saysBy, show F_X12_saysBy 100 0 (nI K) x U = some (val, u1) from y1, zb2_s, fin]
      · rw [if_neg (by decide), if_neg (by decide), if_pos rfl, f_X12_fallsBy, show F_X12_fallsBy 100 0 (nI K) x U = some (val, u1) from y1, zb2_s, fin]
      · rw [if_neg (by decide), if_neg (by decide), if_neg (by decide), f_X12_mendsBy, show F_X12_mendsBy 100 0 (nI K) x U = some (val, u1) from y1, zb2_s, fin]
  · refine OK_err hR (k := 1) (by decide) (by decide) ?_ (fun w1 e => ?_)
    · rw [f_X11_voice, hasWall_spec h, zb_s]
      by_cases hw : 0 ≤ a.toInt ∧ a.toInt < (w 129 0).toInt
      · rw [if_neg (by rw [bP_0]; omega)]
        by_cases b0 : b.toInt < 0
        · rw [if_pos (by rw [lt_nI _ (by decide)]; omega), j_X11_voice_20, zb2_eta]
        · rw [if_neg (by rw [lt_nI _ (by decide)]; omega), if_neg (by rw [lt_nI _ (by decide)]; omega), j_X11_voice_20, zb2_eta]
      · rw [if_pos (by rw [bP_0]; exact hw), j_X11_voice_20, zb2_eta]
    · rw [f_X12_voice, isWall_spec e h.1 h6, zb_s]
      by_cases hw : 0 ≤ a.toInt ∧ a.toInt < (w 129 0).toInt
      · rw [if_neg (by rw [bP_0]; omega), in_k _ (by decide) (by decide), zb_s, if_pos (by rw [bP_0]; omega), j_X12_voice_17, zb2_eta]
      · rw [if_pos (by rw [bP_0]; exact hw), j_X12_voice_17, zb2_eta]
