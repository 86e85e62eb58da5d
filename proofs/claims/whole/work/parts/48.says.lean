theorem op_says {w : zW} (hR : Rel w) (a b : Int32) : OK2 (f_X11_says a b) (f_X12_says a b) w := by
  have h := hR.1
  have h6 := h.2.1.1.2
  by_cases hx : (0 ≤ a.toInt ∧ a.toInt < (w 129 0).toInt) ∧ -1 ≤ b.toInt
  · obtain ⟨i, hi, rfl, ei⟩ := of_toInt a hx.1.1
    have hi' : (i : Int) < (w 129 0).toInt := by omega
    have n48 := rowN_le h hi'
    obtain ⟨wa, x1, x2, x3⟩ := Xspell_own h hi'
    obtain ⟨wb, y1, y2, y3⟩ := Xfind_ok (RT_SX h (SR.SX x2)) x3 n48
    have sx := SX.trans (SR.SX x2) y2
    have e9 : wb 129 = w 129 := sx 129 (by omega)
    have X0 : f_X11_says (nI i) b w = (if bP (0 < Bw (w 129) (rowF (w 129) i) (rowN (w 129) i) 0 0) = nI 0 then f_X11_error (nI 2) wb else if b = mI 1 then some (wb 112 3, wb) else if b < wb 112 3 then (zld wb 115 48 b fun x14 => some (x14, wb)) else f_X11_error (nI 1) wb) := by
      rw [f_X11_says, hasWall_spec h, zb_s, if_neg (by rw [bP_0]; omega), if_neg (by rw [lt_mI _ (by decide)]; omega), zin_nI (by omega) (by decide), zg_t, clamp_nI (by omega), x1, zb_s, y1, zb2_s, zb2_eta, zb2_eta]
    have M0 : ∀ u : zW, u 129 = w 129 → ∃ u1, SM u u1 ∧ RM u1 (rowN (w 129) i) (rowF (w 129) i) ∧ (1 ≤ rowN (w 129) i → WM (w 129) (rowF (w 129) i) (rowN (w 129) i) 0 u1) ∧ f_X12_says (nI i) b u = (if bP (0 < Bw (w 129) (rowF (w 129) i) (rowN (w 129) i) 0 0) = nI 0 then f_X12_error (nI 2) u1 else zb (f_X12_findSaid u1) fun w2 => if b = mI 1 then some (w2 128 15, w2) else if b < w2 128 15 then (zld w2 137 48 b fun x13 => some (x13, w2)) else zb2 (f_X12_error (nI 1) w2) fun x12 w3 => some (x12, w3)) := fun u hu => by
      obtain ⟨u1, z1, z2, z3, z4, _⟩ := Mdoes_ok (w := u) h hu hi'
      refine ⟨u1, z2, z3, z4, ?_⟩
      rw [f_X12_says, isWall_spec hu h.1 h6, zb_s, if_neg (by rw [bP_0]; omega), if_neg (by rw [lt_mI _ (by decide)]; omega), z1, zb2_s, zb2_eta]
    by_cases B : 0 < Bw (w 129) (rowF (w 129) i) (rowN (w 129) i) 0 0
    · obtain ⟨m, m1, m2, m3, m4⟩ := y3 B
      have n1 : 1 ≤ rowN (w 129) i := by
        by_cases z : 1 ≤ rowN (w 129) i
        · exact z
        · have n0 : rowN (w 129) i = 0 := by omega
          rw [n0, Bw_end] at B
          exact absurd B (by decide)
      rw [if_neg (by rw [bP_0]; exact fun z => z B), m3] at X0
      have M1 : ∀ u : zW, u 129 = w 129 → ∃ u2, SM u u2 ∧ u2 128 15 = nI m ∧ (∀ t, t < m → u2 137 t = nI (swd (w 129) (rowF (w 129) i) (rowN (w 129) i) t)) ∧ f_X12_says (nI i) b u = (if b = mI 1 then some (u2 128 15, u2) else if b < u2 128 15 then (zld u2 137 48 b fun x13 => some (x13, u2)) else f_X12_error (nI 1) u2) := fun u hu => by
        obtain ⟨u1, z1, z2, z3, z4⟩ := M0 u hu
        obtain ⟨u2, m', q1, q2, q3, q4, q5, q6⟩ := Msaid_ok (w := u1) h (by rw [z1.1 129 (by decide) (by decide) (by decide)]; exact hu) z2 n48 (z3 n1) B
        have em : m' = m := sEnd_eq q3 m1
        subst em
        refine ⟨u2, SM.trans z1 q2, q5, q6, ?_⟩
        rw [z4, if_neg (by rw [bP_0]; exact fun z => z B), q1, zb_s, zb2_eta]
      by_cases b1 : b = mI 1
      · obtain ⟨u2, z1, z2, z3, z4⟩ := M1 wb e9
        rw [if_pos b1] at X0
        rw [if_pos b1, z2] at z4
        exact OK_ask hR X0 sx z4 z1
      · have b0 : 0 ≤ b.toInt := by
          rw [eq_mI _ (by decide)] at b1
          omega
        rw [if_neg b1] at X0
        obtain ⟨t, ht, rfl, et⟩ := of_toInt b b0
        by_cases bm : t < m
        · obtain ⟨u2, z1, z2, z3, z4⟩ := M1 wb e9
          rw [if_pos (by rw [lt_nI _ (by omega), tnI (by omega)]; omega), zld_k _ _ _ _ _ (by omega) (by decide), m4 t bm] at X0
          rw [if_neg b1, z2, if_pos (by rw [lt_nI _ (by omega), tnI (by omega)]; omega), zld_k _ _ _ _ _ (by omega) (by decide), z3 t bm] at z4
          exact OK_ask hR X0 sx z4 z1
        · rw [if_neg (by rw [lt_nI _ (by omega), tnI (by omega)]; omega)] at X0
          refine OK_askE hR (k := 1) (by decide) (by decide) X0 sx (fun u hu => ?_)
          obtain ⟨u2, z1, z2, z3, z4⟩ := M1 u ((hu 129 (by decide)).trans e9)
          rw [if_neg b1, z2, if_neg (by rw [lt_nI _ (by omega), tnI (by omega)]; omega)] at z4
          exact ⟨u2, z4, z1⟩
    · rw [if_pos (by rw [bP_0]; exact B)] at X0
      refine OK_askE hR (k := 2) (by decide) (by decide) X0 sx (fun u hu => ?_)
      obtain ⟨u1, z1, z2, z3, z4⟩ := M0 u ((hu 129 (by decide)).trans e9)
      rw [if_pos (by rw [bP_0]; exact B)] at z4
      exact ⟨u1, z4, z1⟩
  · refine OK_err hR (k := 1) (by decide) (by decide) ?_ (fun w1 e => ?_)
    · rw [f_X11_says, hasWall_spec h, zb_s]
      by_cases ha : 0 ≤ a.toInt ∧ a.toInt < (w 129 0).toInt
      · rw [if_neg (by rw [bP_0]; omega), if_pos (by rw [lt_mI _ (by decide)]; omega), j_X11_says_16, zb2_eta]
      · rw [if_pos (by rw [bP_0]; exact ha), j_X11_says_16, zb2_eta]
    · rw [f_X12_says, isWall_spec e h.1 h6, zb_s]
      by_cases ha : 0 ≤ a.toInt ∧ a.toInt < (w 129 0).toInt
      · rw [if_neg (by rw [bP_0]; omega), if_pos (by rw [lt_mI _ (by decide)]; omega), j_X12_says_13, zb2_eta]
      · rw [if_pos (by rw [bP_0]; exact ha), j_X12_says_13, zb2_eta]
