section PMl
variable {t : Nat → Nat} {z u : Nat} {s : Nat → Int32}
theorem Mlook_bt {w : zW} {a dep : Nat} {o : pO} (ht : tok t z) (hs : sok t z s) (h : PM s z u w a dep o) : f_X12_look w = some (bt t z a) := Mlook_at ht hs h
theorem bt_at {a : Nat} (h : a < z) : bt t z a = nI (t a) := if_pos h
def MLv (t : Nat → Nat) (z u : Nat) (s : Nat → Int32) (D d : Nat) : Prop := ∀ (r dep a : Nat) (o : pO) (w : zW), r ≤ 4 → dep ≤ 5 → need r dep ≤ d → PM s z u w a dep o → ∃ w1, F_X12_whole D r w = some (bI (ps t z u d r dep a).1, w1) ∧ MOut s z u w dep o (ps t z u d r dep a) w1
/-- what stands below the levels, by its rank r -/
def MOp (t : Nat → Nat) (z u : Nat) (s : Nat → Int32) (D d r : Nat) : Prop := ∀ (dep a : Nat) (o : pO) (w : zW), dep ≤ 5 → need r dep ≤ d → PM s z u w a dep o → ∃ w1, F_X12_whole D 5 w = some (bI (ps t z u d r dep a).1, w1) ∧ MOut s z u w dep o (ps t z u d r dep a) w1
theorem MLv_ok {D d : Nat} (ht : tok t z) (hu : u < 2) (hs : sok t z s) (h1 : MLv t z u s D d) (h5 : MOp t z u s D d 5) : MLv t z u s (D + 1) (d + 1) := by
  intro r dep a o w hr hd hn h
  have z60 := ht.1
  have az := h.2.2.2.2.2.2.1
  have r5 : r = 0 ∨ r = 1 ∨ r = 2 ∨ r = 3 ∨ r = 4 := by omega
  rw [ps, if_pos (by omega)]
  have hG : ∀ r', ∀ x, x ≤ z → pg z u x (ps t z u d r' dep x) := fun r' x hx => ps_ok hu d r' dep x hx
  rcases r5 with rfl | rfl | rfl | rfl | rfl
  · rw [MW0f, b_X12_whole]
    refine Mlev_all (L := fun m w => l_X12_whole_9 (F_X12_whole D) (fun w12 => some (nI 0, w12)) (fun w22 => some (nI 1, w22)) m w) (FF := F_X12_whole D 1) (r := 0) ht (by decide) (hG 1) (fun m w a o h c => ?_) (fun m w a o h c1 c2 => ?_) (fun a o w h => h1 1 dep a o w (by decide) hd (by unfold need at hn ⊢; omega) h) h
    · show l_X12_whole_9 _ _ _ (m + 1) w = _
      rw [l_X12_whole_9.eq_2, Mlook_bt ht hs h, zb_s, if_neg (fun q => c ⟨((bt_eq ht (by decide)).mp q).1, (rk_0 _).mpr ((bt_eq ht (by decide)).mp q).2⟩)]
    · have e := (rk_0 _).mp c2
      show l_X12_whole_9 _ _ _ (m + 1) w = _
      rw [l_X12_whole_9.eq_2, Mlook_bt ht hs h, zb_s, if_pos ((bt_eq ht (by decide)).mpr ⟨c1, e⟩), h.1, nI_add, zlet_e, e]
  · rw [MW1f, b_X12_both]
    refine Mlev_all (L := fun m w => l_X12_both_9 (F_X12_whole D) (fun w12 => some (nI 0, w12)) (fun w22 => some (nI 1, w22)) m w) (FF := F_X12_whole D 2) (r := 1) ht (by decide) (hG 2) (fun m w a o h c => ?_) (fun m w a o h c1 c2 => ?_) (fun a o w h => h1 2 dep a o w (by decide) hd (by unfold need at hn ⊢; omega) h) h
    · show l_X12_both_9 _ _ _ (m + 1) w = _
      rw [l_X12_both_9.eq_2, Mlook_bt ht hs h, zb_s, if_neg (fun q => by
        obtain ⟨q1, q2⟩ := (bt_eq ht (by decide)).mp q
        exact c ⟨q1, ((rk_all _ (ht.2 a q1)).2.1).mpr q2⟩)]
    · have e := ((rk_all _ (ht.2 a c1)).2.1).mp c2
      show l_X12_both_9 _ _ _ (m + 1) w = _
      rw [l_X12_both_9.eq_2, Mlook_bt ht hs h, zb_s, if_pos ((bt_eq ht (by decide)).mpr ⟨c1, e⟩), h.1, nI_add, zlet_e, e]
  · have hF : ∀ a o w, PM s z u w a dep o → ∃ w1, F_X12_whole D 3 w = some (bI (ps t z u d 3 dep a).1, w1) ∧ MOut s z u w dep o (ps t z u d 3 dep a) w1 := fun a o w h => h1 3 dep a o w (by decide) hd (by unfold need at hn ⊢; omega) h
    obtain ⟨w1, x1, x2, x3, x4⟩ := hF a o w h
    have pgA := hG 3 a az
    rw [MW2f, b_X12_compared, x1, zb2_s]
    unfold pthen
    by_cases ok : (ps t z u d 3 dep a).1 = true
    · obtain ⟨g1, g2, g3, g4⟩ := pgA.1 ok
      have px := x3 ok
      rw [ok, show bI true = nI 1 from rfl, if_neg (by decide), if_pos rfl]
      dsimp only
      rw [Mlook_bt ht hs px, zb_s, pl]
      by_cases c : (ps t z u d 3 dep a).2.1 < z ∧ rkN (t (ps t z u d 3 dep a).2.1) = 2
      · have b3 := ((rk_all _ (ht.2 _ c.1)).2.2.1).mp c.2
        have go : ∃ w1', j_X12_compared_34 (F_X12_whole D) (bt t z (ps t z u d 3 dep a).2.1) w1 = some (bI (padd (ps t z u d 3 dep a).2.2 (pthen (ps t z u d 3 dep ((ps t z u d 3 dep a).2.1 + 1)) (fun a1 o1 => if 2 = 2 then (true, a1, o1 ++ [(3, t (ps t z u d 3 dep a).2.1)]) else padd (o1 ++ [(3, t (ps t z u d 3 dep a).2.1)]) (pl t z 2 (fun x => ps t z u d (2 + 1) dep x) 60 a1)))).1, w1') ∧ MOut s z u w dep o (padd (ps t z u d 3 dep a).2.2 (pthen (ps t z u d 3 dep ((ps t z u d 3 dep a).2.1 + 1)) (fun a1 o1 => if 2 = 2 then (true, a1, o1 ++ [(3, t (ps t z u d 3 dep a).2.1)]) else padd (o1 ++ [(3, t (ps t z u d 3 dep a).2.1)]) (pl t z 2 (fun x => ps t z u d (2 + 1) dep x) 60 a1)))) w1' := by
          obtain ⟨p1, p2⟩ := px.inc c.1
          obtain ⟨w2, y1, y2, y3, y4⟩ := hF _ _ _ p1
          have pgB := hG 3 ((ps t z u d 3 dep a).2.1 + 1) c.1
          rw [j_X12_compared_34, px.1, nI_add, zlet_e, y1, zb2_s]
          unfold pthen
          by_cases ok2 : (ps t z u d 3 dep ((ps t z u d 3 dep a).2.1 + 1)).1 = true
          · obtain ⟨k1, k2, k3, k4⟩ := pgB.1 ok2
            obtain ⟨w3, v1, v2, v3⟩ := Mlay_at (x := (3, t (ps t z u d 3 dep a).2.1)) z60 (y3 ok2) (by rw [List.length_append, List.length_append]; have := h.2.2.2.2.2.2.2; omega)
            rw [ok2, show bI true = nI 1 from rfl, if_neg (by decide), if_pos rfl]
            dsimp only
            rw [if_pos rfl, bt_at c.1, show nI (t (ps t z u d 3 dep a).2.1) = nI (mvO u (3, t (ps t z u d 3 dep a).2.1)) from rfl, show nI 3 = nI ((3, t (ps t z u d 3 dep a).2.1) : Nat × Nat).1 from rfl, v1, zb_s]
            refine ⟨w3, rfl, MQf.trans (MQf.trans (MQf.trans x2 p2) y2) v2, fun _ => ?_, fun q => absurd q (by simp [padd])⟩
            rw [List.append_assoc, List.append_assoc] at v3
            exact v3
          · have nok : (ps t z u d 3 dep ((ps t z u d 3 dep a).2.1 + 1)).1 = false := by simpa using ok2
            rw [nok, show bI false = nI 0 from rfl, if_pos rfl, if_neg (by decide)]
            exact ⟨w2, rfl, MQf.trans (MQf.trans x2 p2) y2, fun q => absurd q (by simp [padd]), fun _ => y4 nok⟩
        rw [if_pos c]
        rcases b3 with e | e | e
        · rw [if_pos ((bt_eq ht (by decide)).mpr ⟨c.1, e⟩)]
          exact go
        · rw [if_neg (fun q => by have := ((bt_eq ht (by decide)).mp q).2; omega), if_pos ((bt_eq ht (by decide)).mpr ⟨c.1, e⟩)]
          exact go
        · rw [if_neg (fun q => by have := ((bt_eq ht (by decide)).mp q).2; omega), if_neg (fun q => by have := ((bt_eq ht (by decide)).mp q).2; omega), if_pos ((bt_eq ht (by decide)).mpr ⟨c.1, e⟩)]
          exact go
      · have no : ∀ k, k = 60 ∨ k = 61 ∨ k = 62 → ¬ bt t z (ps t z u d 3 dep a).2.1 = nI k := fun k hk q => by
          obtain ⟨q1, q2⟩ := (bt_eq ht (by omega)).mp q
          exact c ⟨q1, ((rk_all _ (ht.2 _ q1)).2.2.1).mpr (by omega)⟩
        rw [if_neg (no 60 (by decide)), if_neg (no 61 (by decide)), if_neg (no 62 (by decide)), if_neg c]
        refine ⟨w1, rfl, x2, fun _ => ?_, fun q => absurd q (by simp [padd])⟩
        show PM s z u w1 (ps t z u d 3 dep a).2.1 dep (o ++ ((ps t z u d 3 dep a).2.2 ++ []))
        rw [List.append_nil]
        exact px
    · have nok : (ps t z u d 3 dep a).1 = false := by simpa using ok
      rw [nok, show bI false = nI 0 from rfl, if_pos rfl, if_neg (by decide)]
      exact ⟨w1, rfl, x2, fun q => absurd q (by simp), fun _ => x4 nok⟩
  · rw [MW3f, b_X12_sum]
    refine Mlev_all (L := fun m w => l_X12_sum_9 (F_X12_whole D) (fun w12 => some (nI 0, w12)) (fun w22 => some (nI 1, w22)) m w) (FF := F_X12_whole D 4) (r := 3) ht (by decide) (hG 4) (fun m w a o h c => ?_) (fun m w a o h c1 c2 => ?_) (fun a o w h => h1 4 dep a o w (by decide) hd (by unfold need at hn ⊢; omega) h) h
    · have no : ∀ k, k = 43 ∨ k = 45 → ¬ bt t z a = nI k := fun k hk q => by
        obtain ⟨q1, q2⟩ := (bt_eq ht (by omega)).mp q
        exact c ⟨q1, ((rk_all _ (ht.2 _ q1)).2.2.2.1).mpr (by omega)⟩
      show l_X12_sum_9 _ _ _ (m + 1) w = _
      rw [l_X12_sum_9.eq_2, Mlook_bt ht hs h, zb_s, if_neg (no 43 (by decide)), zb_s, if_neg (no 45 (by decide))]
    · have b3 := ((rk_all _ (ht.2 _ c1)).2.2.2.1).mp c2
      have go : j_X12_sum_27 (F_X12_whole D) (l_X12_sum_9 (F_X12_whole D) (fun w12 => some (nI 0, w12)) (fun w22 => some (nI 1, w22)) m) (fun w12 => some (nI 0, w12)) (fun w22 => some (nI 1, w22)) w = zb2 (F_X12_whole D 4 (zupd w 128 4 (nI (a + 1)))) fun x w2 => if x = nI 0 then some (nI 0, w2) else zb (f_X12_lays (nI 3) (nI (t a)) w2) fun w3 => l_X12_sum_9 (F_X12_whole D) (fun w12 => some (nI 0, w12)) (fun w22 => some (nI 1, w22)) m w3 := by
        rw [j_X12_sum_27, Mlook_bt ht hs h, zb_s, h.1, nI_add, zlet_e, bt_at c1]
      show l_X12_sum_9 _ _ _ (m + 1) w = _
      rw [l_X12_sum_9.eq_2, Mlook_bt ht hs h, zb_s]
      rcases b3 with e | e
      · rw [if_pos ((bt_eq ht (by decide)).mpr ⟨c1, e⟩)]
        exact go
      · rw [if_neg (fun q => by have := ((bt_eq ht (by decide)).mp q).2; omega), zb_s, if_pos ((bt_eq ht (by decide)).mpr ⟨c1, e⟩)]
        exact go
  · rw [MW4f, b_X12_product]
    refine Mlev_all (L := fun m w => l_X12_product_9 (F_X12_whole D) (fun w12 => some (nI 0, w12)) (fun w22 => some (nI 1, w22)) m w) (FF := F_X12_whole D 5) (r := 4) ht (by decide) (hG 5) (fun m w a o h c => ?_) (fun m w a o h c1 c2 => ?_) (fun a o w h => h5 dep a o w hd (by unfold need at hn ⊢; omega) h) h
    · have no : ∀ k, k = 42 ∨ k = 47 ∨ k = 37 → ¬ bt t z a = nI k := fun k hk q => by
        obtain ⟨q1, q2⟩ := (bt_eq ht (by omega)).mp q
        exact c ⟨q1, ((rk_all _ (ht.2 _ q1)).2.2.2.2).mpr (by omega)⟩
      show l_X12_product_9 _ _ _ (m + 1) w = _
      rw [l_X12_product_9.eq_2, Mlook_bt ht hs h, zb_s, if_neg (no 42 (by decide)), zb_s, if_neg (no 47 (by decide)), zb_s, if_neg (no 37 (by decide))]
    · have b3 := ((rk_all _ (ht.2 _ c1)).2.2.2.2).mp c2
      have go : j_X12_product_36 (F_X12_whole D) (l_X12_product_9 (F_X12_whole D) (fun w12 => some (nI 0, w12)) (fun w22 => some (nI 1, w22)) m) (fun w12 => some (nI 0, w12)) (fun w22 => some (nI 1, w22)) w = zb2 (F_X12_whole D 5 (zupd w 128 4 (nI (a + 1)))) fun x w2 => if x = nI 0 then some (nI 0, w2) else zb (f_X12_lays (nI 3) (nI (t a)) w2) fun w3 => l_X12_product_9 (F_X12_whole D) (fun w12 => some (nI 0, w12)) (fun w22 => some (nI 1, w22)) m w3 := by
        rw [j_X12_product_36, Mlook_bt ht hs h, zb_s, h.1, nI_add, zlet_e, bt_at c1]
      show l_X12_product_9 _ _ _ (m + 1) w = _
      rw [l_X12_product_9.eq_2, Mlook_bt ht hs h, zb_s]
      rcases b3 with e | e | e
      · rw [if_pos ((bt_eq ht (by decide)).mpr ⟨c1, e⟩)]
        exact go
      · rw [if_neg (fun q => by have := ((bt_eq ht (by decide)).mp q).2; omega), zb_s, if_pos ((bt_eq ht (by decide)).mpr ⟨c1, e⟩)]
        exact go
      · rw [if_neg (fun q => by have := ((bt_eq ht (by decide)).mp q).2; omega), zb_s, if_neg (fun q => by have := ((bt_eq ht (by decide)).mp q).2; omega), zb_s, if_pos ((bt_eq ht (by decide)).mpr ⟨c1, e⟩)]
        exact go
theorem name_k (hu : u < 2) {w : zW} (h7 : w 128 7 = nI u) {b : Nat} (hb : b < 256) : f_X12_isName (nI b) w = some (if nmN u b < 9 then nI 1 else nI 0) := by
  unfold f_X12_isName nmN j_X12_isName_33 j_X12_isName_53
  rw [h7]
  simp only [c_k hb (show 108 < 256 by decide), c_k hb (show 105 < 256 by decide), c_k hb (show 110 < 256 by decide), c_k hb (show 109 < 256 by decide), c_k hb (show 115 < 256 by decide), c_k hb (show 104 < 256 by decide), c_k (show u < 256 by omega) (show 0 < 256 by decide)]
  have u2 : u = 0 ∨ u = 1 := by omega
  by_cases a1 : b = 108
  · rw [if_pos a1, if_pos a1, if_pos (by decide)]
  · rw [if_neg a1, if_neg a1]
    rcases u2 with rfl | rfl
    · rw [if_pos rfl, if_pos rfl]
      by_cases a2 : b = 105
      · rw [if_pos a2, if_pos a2, if_pos (by decide)]
      · rw [if_neg a2, if_neg a2]
        by_cases a3 : b = 110
        · rw [if_pos a3, if_pos a3, if_pos (by decide)]
        · rw [if_neg a3, if_neg a3]
          by_cases a4 : b = 109
          · rw [if_pos a4, if_pos a4, if_pos (by decide)]
          · rw [if_neg a4, if_neg a4, if_neg (by decide)]
    · rw [if_neg (show ¬ (1 : Nat) = 0 by decide), if_neg (show ¬ (1 : Nat) = 0 by decide)]
      by_cases a2 : b = 115
      · rw [if_pos a2, if_pos a2, if_pos (by decide)]
      · rw [if_neg a2, if_neg a2]
        by_cases a3 : b = 104
        · rw [if_pos a3, if_pos a3, if_pos (by decide)]
        · rw [if_neg a3, if_neg a3, if_neg (by decide)]
theorem name_m (hu : u < 2) {w : zW} (h7 : w 128 7 = nI u) : f_X12_isName (mI 1) w = some (nI 0) := by
  unfold f_X12_isName
  rw [if_neg (mI_nI (by decide)), if_neg (mI_nI (by decide)), if_neg (mI_nI (by decide)), if_neg (mI_nI (by decide)), if_neg (mI_nI (by decide)), if_neg (mI_nI (by decide))]
  split <;> rfl
theorem Mnum_loop (F : Nat → zW → Option (Int32 × zW)) {dep : Nat} (ht : tok t z) (hs : sok t z s) : ∀ (n m a v : Nat) (o : pO) (w : zW), PM s z u w a dep o → n ≤ 4 → (v + 1) * 10 ^ n ≤ 10000 → n < m → ∃ w1, l_X12_one_46 F (fun k94_a2 w19 => j_X12_one_94 F k94_a2 w19) m (nI v) (nI (4 - n)) w = j_X12_one_94 F (nI (dg t z n a v).2) w1 ∧ MQf w w1 ∧ PM s z u w1 (dg t z n a v).1 dep o := by
  intro n
  induction n with
  | zero =>
    intro m a v o w h _ _ hm
    cases m with
    | zero => omega
    | succ m =>
      rw [l_X12_one_46.eq_2, if_neg (by decide), dg]
      exact ⟨w, rfl, MQf.refl w, h⟩
  | succ n ih =>
    intro m a v o w h hn hv hm
    cases m with
    | zero => omega
    | succ m =>
      rw [l_X12_one_46.eq_2, if_pos (by rw [lt_nI _ (by decide), tnI (by omega)]; omega), Mlook_bt ht hs h, zb_s, in_k _ (by decide) (by decide), zb_s, dg]
      by_cases az : a < z
      · have b256 := ht.2 a az
        rw [bt_at az]
        by_cases d : 48 ≤ t a ∧ t a ≤ 57
        · obtain ⟨p1, p2⟩ := h.inc az
          have v4 : v + 1 ≤ (v + 1) * 10 ^ (n + 1) := Nat.le_mul_of_pos_right _ (Nat.pow_pos (by decide))
          have hv2 : (10 * v + t a - 48 + 1) * 10 ^ n ≤ 10000 := by
            refine Nat.le_trans (Nat.mul_le_mul_right (10 ^ n) (show 10 * v + t a - 48 + 1 ≤ (v + 1) * 10 by omega)) ?_
            rw [Nat.mul_assoc, Nat.mul_comm 10 (10 ^ n), ← Nat.pow_succ]
            exact hv
          obtain ⟨w1, x1, x2, x3⟩ := ih m (a + 1) (10 * v + t a - 48) o _ p1 (by omega) hv2 (by omega)
          rw [if_neg (by rw [bP_0, tnI (by omega)]; omega), if_pos (show a < z ∧ 48 ≤ t a ∧ t a ≤ 57 from ⟨az, d⟩)]
          refine ⟨w1, ?_, MQf.trans p2 x2, x3⟩
          rw [zb_s, pk_mul, nI_add, nI_sub (by omega) (by omega), zlet_e, h.1, nI_add, zlet_e, nI_add, zlet_e, show 4 - (n + 1) + 1 = 4 - n by omega]
          exact x1
        · rw [if_pos (by rw [bP_0, tnI (by omega)]; omega), if_neg (fun q => d q.2)]
          exact ⟨w, rfl, MQf.refl w, h⟩
      · rw [show bt t z a = mI 1 from if_neg az, if_pos (by rw [bP_0, tmI (by decide)]; omega), if_neg (fun q => az q.1)]
        exact ⟨w, rfl, MQf.refl w, h⟩
theorem Mopen {w : zW} {a dep : Nat} {o : pO} (h : PM s z u w a dep o) (hd : dep ≤ 5) (ha : a < z) : (dep < 5 → ∃ w1, f_X12_opens w = some (nI 1, w1) ∧ MQf w w1 ∧ PM s z u w1 (a + 1) (dep + 1) o) ∧ (¬ dep < 5 → f_X12_opens w = some (nI 0, w)) := by
  rw [f_X12_opens, h.2.1]
  refine ⟨fun c => ?_, fun c => ?_⟩
  · obtain ⟨p1, p2⟩ := h.dp (dep + 1)
    obtain ⟨q1, q2⟩ := p1.inc ha
    rw [if_neg (by rw [eq_nI _ (by decide), tnI (by omega)]; omega), nI_add, zlet_e, p1.1, nI_add, zlet_e]
    exact ⟨_, rfl, MQf.trans p2 q2, q1⟩
  · rw [if_pos (by rw [show dep = 5 by omega])]
theorem MOp_ok {D d : Nat} (ht : tok t z) (hu : u < 2) (hs : sok t z s) (h1 : MLv t z u s D d) (h6 : MOp t z u s D d 6) : MOp t z u s (D + 1) (d + 1) 6 := by
  intro dep a o w hd hn h
  have z60 := ht.1
  have az := h.2.2.2.2.2.2.1
  have ol := h.2.2.2.2.2.2.2
  have h7 := h.2.2.2.1
  have pgA := ps_ok (t := t) (z := z) hu (d + 1) 6 dep a az
  rw [MW5f, b_X12_one, Mlook_bt ht hs h, zb_s]
  rw [ps, if_neg (show ¬ (6 : Nat) < 5 by decide), if_neg (show ¬ (6 : Nat) = 5 by decide)] at pgA ⊢
  have fail : ∃ w1, (some (nI 0, w) : Option (Int32 × zW)) = some (bI ((false, a, []) : pR).1, w1) ∧ MOut s z u w dep o (false, a, []) w1 := ⟨w, rfl, MQf.refl w, fun q => absurd q (by simp), fun _ => h.dead⟩
  by_cases c : a < z
  · have b256 := ht.2 a c
    rw [if_pos c] at pgA ⊢
    rw [bt_at c, name_k hu h7 b256, zb_s]
    by_cases nc : nmN u (t a) < 9
    · have nd : ¬ (48 ≤ t a ∧ t a ≤ 57) := by
        obtain ⟨n1, n2⟩ := nm_ok hu nc
        have n4 : nmN u (t a) < 4 := by
          have : tnames u ≤ 4 := by unfold tnames; split <;> omega
          omega
        have u2 : u = 0 ∨ u = 1 := by omega
        have k4 : nmN u (t a) = 0 ∨ nmN u (t a) = 1 ∨ nmN u (t a) = 2 ∨ nmN u (t a) = 3 := by omega
        rcases u2 with rfl | rfl <;> rcases k4 with k | k | k | k <;> rw [k] at n1 n2 <;> simp only [tname, tnames] at n1 n2 <;> omega
      obtain ⟨p1, p2⟩ := h.inc c
      obtain ⟨w2, y1, y2, y3⟩ := Mlay_at (x := (1, nmN u (t a))) z60 p1 (by omega)
      rw [if_pos nc, if_neg (show ¬ nI 1 = nI 0 by decide), if_neg nd, if_pos nc, h.1, nI_add, zlet_e]
      refine ⟨w2, ?_, MQf.trans p2 y2, fun _ => y3, fun q => absurd q (by simp)⟩
      have e : t a = mvO u (1, nmN u (t a)) := (nm_ok hu nc).2
      rw [show f_X12_lays (nI 1) (nI (t a)) (zupd w 128 4 (nI (a + 1))) = some w2 by rw [← y1, ← e], zb_s]
      rfl
    · rw [if_neg nc, if_pos rfl, in_k _ (by decide) (by decide), zb_s]
      by_cases dc : 48 ≤ t a ∧ t a ≤ 57
      · rw [if_pos dc] at pgA ⊢
        rw [if_neg (show ¬ bP (((48 : Nat) : Int) ≤ (nI (t a)).toInt ∧ (nI (t a)).toInt ≤ ((57 : Nat) : Int)) = nI 0 by rw [bP_0, tnI (by omega)]; omega)]
        obtain ⟨g1, g2, g3, g4⟩ := pgA.1 rfl
        obtain ⟨w1, x1, x2, x3⟩ := Mnum_loop (F_X12_whole D) ht hs 4 zfuel a 0 o w h (by decide) (by decide) (by unfold zfuel; omega)
        obtain ⟨w2, y1, y2, y3⟩ := Mlay_at (x := (0, (dg t z 4 a 0).2)) z60 x3 (by
          have : a + 1 ≤ (dg t z 4 a 0).1 := g3
          omega)
        refine ⟨w2, ?_, MQf.trans x2 y2, fun _ => y3, fun q => absurd q (by simp)⟩
        rw [show l_X12_one_46 (F_X12_whole D) (fun k94_a2 w19 => j_X12_one_94 (F_X12_whole D) k94_a2 w19) zfuel (nI 0) (nI 0) w = _ from x1, j_X12_one_94, show f_X12_lays (nI 0) (nI (dg t z 4 a 0).2) w1 = some w2 from y1, zb_s]
        rfl
      · rw [if_neg dc, if_neg nc]
        rw [if_pos (show bP (((48 : Nat) : Int) ≤ (nI (t a)).toInt ∧ (nI (t a)).toInt ≤ ((57 : Nat) : Int)) = nI 0 by rw [bP_0, tnI (by omega)]; omega)]
        by_cases c3 : t a = 33
        · rw [if_pos (show nI (t a) = nI 33 by rw [c3])]
          obtain ⟨op1, op2⟩ := Mopen h hd c
          by_cases d5 : dep < 5
          · obtain ⟨wa, o1, o2, o3⟩ := op1 d5
            obtain ⟨w1, x1, x2, x3, x4⟩ := h6 (dep + 1) (a + 1) o wa (by omega) (by unfold need at hn ⊢; omega) o3
            have pgB := ps_ok (t := t) (z := z) hu d 6 (dep + 1) (a + 1) c
            rw [o1, zb2_s, if_neg (show ¬ nI 1 = nI 0 by decide), x1, zb2_s, if_pos (show t a = 33 ∧ dep < 5 from ⟨c3, d5⟩)]
            unfold pthen
            by_cases ok : (ps t z u d 6 (dep + 1) (a + 1)).1 = true
            · obtain ⟨g1, g2, g3, g4⟩ := pgB.1 ok
              have px := x3 ok
              obtain ⟨q1, q2⟩ := px.dp dep
              obtain ⟨w2, y1, y2, y3⟩ := Mlay_at (x := (2, 0)) z60 q1 (by rw [List.length_append]; omega)
              rw [ok, show bI true = nI 1 from rfl, if_neg (show ¬ nI 1 = nI 0 by decide), px.2.1, nI_sub (by omega) (by omega), show dep + 1 - 1 = dep by omega, zlet_e, if_pos rfl, show f_X12_lays (nI 2) (nI 0) (zupd w1 128 5 (nI dep)) = some w2 from y1, zb_s]
              rw [List.append_assoc] at y3
              exact ⟨w2, rfl, MQf.trans (MQf.trans (MQf.trans o2 x2) q2) y2, fun _ => y3, fun q => absurd q (by simp)⟩
            · have nok : (ps t z u d 6 (dep + 1) (a + 1)).1 = false := by simpa using ok
              rw [nok, show bI false = nI 0 from rfl, if_pos rfl, if_neg (by decide)]
              exact ⟨w1, rfl, MQf.trans o2 x2, fun q => absurd q (by simp), fun _ => x4 nok⟩
          · rw [op2 d5, zb2_s, if_pos rfl, if_neg (fun q => d5 q.2), if_neg (fun q => d5 q.2)]
            exact fail
        · rw [if_neg (show ¬ nI (t a) = nI 33 by rw [eq_nI _ (by decide), tnI (by omega)]; omega), if_neg (show ¬ (t a = 33 ∧ dep < 5) from fun q => c3 q.1)]
          by_cases c4 : t a = 40
          · rw [if_pos (show nI (t a) = nI 40 by rw [c4])]
            obtain ⟨op1, op2⟩ := Mopen h hd c
            by_cases d5 : dep < 5
            · obtain ⟨wa, o1, o2, o3⟩ := op1 d5
              obtain ⟨w1, x1, x2, x3, x4⟩ := h1 0 (dep + 1) (a + 1) o wa (by omega) (by omega) (by unfold need at hn ⊢; omega) o3
              have pgB := ps_ok (t := t) (z := z) hu d 0 (dep + 1) (a + 1) c
              rw [o1, zb2_s, if_neg (show ¬ nI 1 = nI 0 by decide), x1, zb2_s, if_pos (show t a = 40 ∧ dep < 5 from ⟨c4, d5⟩)]
              unfold pthen
              by_cases ok : (ps t z u d 0 (dep + 1) (a + 1)).1 = true
              · obtain ⟨g1, g2, g3, g4⟩ := pgB.1 ok
                have px := x3 ok
                rw [ok, show bI true = nI 1 from rfl, if_neg (show ¬ nI 1 = nI 0 by decide), if_pos rfl, Mlook_bt ht hs px, zb_s]
                dsimp only
                by_cases c5 : (ps t z u d 0 (dep + 1) (a + 1)).2.1 < z ∧ t (ps t z u d 0 (dep + 1) (a + 1)).2.1 = 41
                · obtain ⟨r1, r2⟩ := px.inc c5.1
                  obtain ⟨q1, q2⟩ := r1.dp dep
                  rw [if_pos ((bt_eq ht (by decide)).mpr c5), if_pos c5, px.1, nI_add, zlet_e, r1.2.1, nI_sub (by omega) (by omega), show dep + 1 - 1 = dep by omega, zlet_e]
                  exact ⟨_, rfl, MQf.trans (MQf.trans (MQf.trans o2 x2) r2) q2, fun _ => q1, fun q => absurd q (by simp)⟩
                · rw [if_neg (fun q => c5 ((bt_eq ht (by decide)).mp q)), if_neg c5]
                  exact ⟨w1, rfl, MQf.trans o2 x2, fun q => absurd q (by simp), fun _ => px.dead⟩
              · have nok : (ps t z u d 0 (dep + 1) (a + 1)).1 = false := by simpa using ok
                rw [nok, show bI false = nI 0 from rfl, if_pos rfl, if_neg (by decide)]
                exact ⟨w1, rfl, MQf.trans o2 x2, fun q => absurd q (by simp), fun _ => x4 nok⟩
            · rw [op2 d5, zb2_s, if_pos rfl, if_neg (fun q => d5 q.2)]
              exact fail
          · rw [if_neg (show ¬ nI (t a) = nI 40 by rw [eq_nI _ (by decide), tnI (by omega)]; omega), if_neg (show ¬ (t a = 40 ∧ dep < 5) from fun q => c4 q.1)]
            exact fail
  · rw [if_neg c]
    rw [show bt t z a = mI 1 from if_neg c, name_m hu h7, zb_s, if_pos rfl, in_k _ (by decide) (by decide), zb_s, if_pos (by rw [bP_0, tmI (by decide)]; omega), if_neg (mI_nI (by decide)), if_neg (mI_nI (by decide))]
    exact fail
theorem M_parse (ht : tok t z) (hu : u < 2) (hs : sok t z s) : ∀ d, ∀ D, d ≤ D → MLv t z u s D d ∧ MOp t z u s D d 6 ∧ MOp t z u s D d 5
  | 0, D, _ => ⟨fun r dep a o w hr _ hn => by unfold need at hn; omega, fun dep a o w _ hn => by unfold need at hn; omega, fun dep a o w _ hn => by unfold need at hn; omega⟩
  | d + 1, D, hD => by
    obtain ⟨D', rfl⟩ : ∃ D', D = D' + 1 := ⟨D - 1, by omega⟩
    obtain ⟨h1, h2, h3⟩ := M_parse ht hu hs d D' (by omega)
    obtain ⟨_, g2, _⟩ := M_parse ht hu hs d (D' + 1) (by omega)
    refine ⟨MLv_ok ht hu hs h1 h3, MOp_ok ht hu hs h1 h2, fun dep a o w hd hn h => ?_⟩
    rw [ps, if_neg (show ¬ (5 : Nat) < 5 by decide), if_pos rfl]
    exact g2 dep a o w hd (by unfold need at hn ⊢; omega) h
end PMl
