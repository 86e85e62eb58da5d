def nts : (Nat → Int32) → Nat → List Nat → (Nat → Int32)
  | f, _, [] => f
  | f, c, b :: L => nts (upd f c (nI b)) (c + 1) L
/-- an act answers v, notes the bodies L, and leaves p in the mark for a split -/
def EE (H : zW → Nat → (Nat → Int32) → Int32 → Prop) (Fr : zW → zW → Prop) (act : zW → Option (Int32 × zW)) (v : Int32) (L : List Nat) (p : Int32) : Prop := ∀ w c f, H w c f (nI 0) → c + L.length ≤ 30 → ∃ w1, act w = some (v, w1) ∧ Fr w w1 ∧ H w1 (c + L.length) (nts f c L) p
section EV
variable {H : zW → Nat → (Nat → Int32) → Int32 → Prop} {Fr : zW → zW → Prop} {act act2 : zW → Option (Int32 × zW)} {v v' : Int32} {L : List Nat} {p : Int32}
theorem EE_note {note : zW → Option zW} {b : Nat} (tr : ∀ a b c, Fr a b → Fr b c → Fr a c) (hn : ∀ w c f, H w c f (nI 0) → c < 30 → ∃ w1, note w = some w1 ∧ Fr w w1 ∧ H w1 (c + 1) (upd f c (nI b)) (nI 0)) (e : ∀ w c f, H w c f (nI 0) → act w = zb (note w) act2) (h : EE H Fr act2 v L p) : EE H Fr act v (b :: L) p := by
  intro w c f hw hl
  rw [List.length_cons] at hl
  obtain ⟨w1, x1, x2, x3⟩ := hn w c f hw (by omega)
  obtain ⟨w2, y1, y2, y3⟩ := h w1 (c + 1) _ x3 (by omega)
  refine ⟨w2, ?_, tr _ _ _ x2 y2, ?_⟩
  · rw [e w c f hw, x1, zb_s]
    exact y1
  · rw [List.length_cons, show c + (L.length + 1) = c + 1 + L.length by omega]
    exact y3
theorem EE_map {g : Int32 → zW → Option (Int32 × zW)} (e : ∀ w c f, H w c f (nI 0) → act w = zb2 (act2 w) g) (h : EE H Fr act2 v L p) (hg : ∀ w c f, H w c f p → g v w = some (v', w)) : EE H Fr act v' L p := by
  intro w c f hw hl
  obtain ⟨w1, x1, x2, x3⟩ := h w c f hw hl
  refine ⟨w1, ?_, x2, x3⟩
  rw [e w c f hw, x1, zb2_s, hg w1 _ _ x3]
theorem EE_to (e : ∀ w c f, H w c f (nI 0) → act w = act2 w) (h : EE H Fr act2 v L p) : EE H Fr act v L p := by
  intro w c f hw hl
  rw [e w c f hw]
  exact h w c f hw hl
theorem EE_ret (rf : ∀ a, Fr a a) (e : ∀ w c f, H w c f (nI 0) → act w = some (v, w)) : EE H Fr act v [] (nI 0) := by
  intro w c f hw _
  exact ⟨w, e w c f hw, rf w, hw⟩
theorem nts_app : ∀ (L M : List Nat) (f : Nat → Int32) (c : Nat), nts f c (L ++ M) = nts (nts f c L) (c + L.length) M
  | [], M, f, c => rfl
  | b :: L, M, f, c => by
    rw [List.cons_append, nts, nts, nts_app L M, List.length_cons, show c + 1 + L.length = c + (L.length + 1) by omega]
/-- one act behind another -/
theorem EE_seq {M : List Nat} {act3 : zW → Option (Int32 × zW)} {v1 v2 : Int32} (tr : ∀ a b c, Fr a b → Fr b c → Fr a c) (k : Int32 → zW → Option (Int32 × zW)) (h1 : EE H Fr act2 v1 L (nI 0)) (h2 : EE H Fr act3 v2 M p) (e : ∀ w c f, H w c f (nI 0) → act w = zb2 (act2 w) k) (e2 : ∀ w c f, H w c f (nI 0) → k v1 w = zb2 (act3 w) fun y w6 => some (v1 + y, w6)) : EE H Fr act (v1 + v2) (L ++ M) p := by
  intro w c f hw hl
  rw [List.length_append] at hl
  obtain ⟨w1, x1, x2, x3⟩ := h1 w c f hw (by omega)
  obtain ⟨w2, y1, y2, y3⟩ := h2 w1 _ _ x3 (by omega)
  refine ⟨w2, ?_, tr _ _ _ x2 y2, ?_⟩
  · rw [e w c f hw, x1, zb2_s, e2 w1 _ _ x3, y1, zb2_s]
  · rw [List.length_append, nts_app, ← Nat.add_assoc]
    exact y3
end EV
def rV (k : Int32) : Nat → Int32 → Int32
  | 1, x => x + k - nI 6
  | 4, x => (x + k - nI 6) * nI 3
  | 6, _ => nI 8
  | _, x => x + k
def rL : Nat → List Nat
  | 1 => [20, 10]
  | 4 => [50, 20, 10]
  | 6 => [70]
  | _ => [10]
def sV (k m : Int32) (K : Nat) : Nat → Int32 → Int32
  | 2, x => -(rV k K x * nI 2)
  | 5, x => rV k K (x + nI 1) * nI 2
  | 6, x => rV k K x * nI 2 + m
  | _, x => rV k K x * nI 2
def sL (K : Nat) : Nat → List Nat
  | 2 => 30 :: 11 :: rL K
  | 5 => 60 :: 11 :: rL K
  | 6 => 71 :: 11 :: rL K
  | _ => 11 :: rL K
def fV (k m : Int32) (K : Nat) : Nat → Int32 → Int32
  | 3, x => sV k m K K (x / nI 2) - m
  | 4, x => (sV k m K K x - m) ^^^ k
  | 5, x => sV k m K K (x / nI 2) - m
  | _, x => sV k m K K x - m
def fL (K : Nat) : Nat → List Nat
  | 3 => 40 :: 12 :: sL K K
  | 4 => 51 :: 12 :: sL K K
  | 5 => 40 :: 12 :: sL K K
  | _ => 12 :: sL K K
def mV (k m : Int32) (K : Nat) : Nat → Int32 → Int32
  | 1, x => x / (m - k) + sV k m K K (nI 1)
  | 4, x => x / (m - k) + sV k m K K (nI 1)
  | _, x => x / (m - k)
def mL (K : Nat) : Nat → List Nat
  | 1 => 21 :: ([13] ++ sL K K)
  | 4 => 21 :: ([13] ++ sL K K)
  | _ => [13]
def mP : Nat → List Nat
  | 1 => [21, 13]
  | 4 => [21, 13]
  | _ => [13]
theorem q7 {q : Nat} (h : q < 7) : q = 0 ∨ q = 1 ∨ q = 2 ∨ q = 3 ∨ q = 4 ∨ q = 5 ∨ q = 6 := by omega
def t3 (v q : Nat) : Nat := [10, 20, 0, 0, 50, 0, 70, 11, 0, 30, 0, 0, 60, 71, 12, 0, 0, 40, 51, 0, 0, 13, 21, 0, 0, 0, 0, 0].getD (v * 7 + q) 0
def upq : Nat → Nat
  | 4 => 1
  | 5 => 3
  | _ => 0
def hol (v q : Nat) : Nat := if t3 v q ≠ 0 then q else if t3 v (upq q) ≠ 0 then upq q else 0
theorem t3_k : ∀ v, v < 4 → ∀ q, q < 7 → ztab 3 (v * 7 + q) = nI (t3 v q) ∧ t3 v q < 100 := by decide +kernel
theorem t3_0 : ∀ v, v < 4 → t3 v 0 ≠ 0 := by decide +kernel
theorem up_k : ∀ q, q < 7 → q ≠ 0 → ztab 0 q = nI (upq q) := by decide +kernel
theorem up_7 : ∀ q, q < 7 → upq q < 7 ∧ (upq q ≠ 0 → upq (upq q) = 0) := by decide +kernel
/-- the class's speaker: count and trace, mark, and whose words they are -/
def VH (K : Nat) (m k : Int32) (w : zW) (c : Nat) (f : Nat → Int32) (p : Int32) : Prop := w 125 1 = nI c ∧ w 126 = f ∧ w 125 2 = p ∧ w 125 3 = nI K ∧ w 125 4 = m ∧ w 125 5 = k
def VF (w w1 : zW) : Prop := ∀ j, j ≠ 125 → j ≠ 126 → w1 j = w j
theorem VF_tr : ∀ a b c, VF a b → VF b c → VF a c := fun _ _ _ h h' j h1 h2 => (h' j h1 h2).trans (h j h1 h2)
theorem VF_rf : ∀ a, VF a a := fun _ _ _ _ => rfl
theorem Xnote_ok {K : Nat} {m k : Int32} {b : Nat} : ∀ w c f, VH K m k w c f (nI 0) → c < 30 → ∃ w1, f_X5_note (nI b) w = some w1 ∧ VF w w1 ∧ VH K m k w1 (c + 1) (upd f c (nI b)) (nI 0) := by
  intro w c f ⟨h1, h2, h3, h4, h5, h6⟩ hc
  refine ⟨zupd (zupd w 126 c (nI b)) 125 1 (nI (c + 1)), ?_, fun j j1 j2 => by rw [zupd_ne _ _ _ j1, zupd_ne _ _ _ j2], ?_⟩
  · rw [f_X5_note, h1, if_pos (by rw [lt_nI _ (by decide), tnI (by omega)]; omega), zsto_k _ _ _ _ _ _ (by omega) (by decide), zupd_ne _ _ _ (show 125 ≠ 126 by decide), h1, nI_add, zlet_e]
  · have g : ∀ j, j ≠ 1 → zupd (zupd w 126 c (nI b)) 125 1 (nI (c + 1)) 125 j = w 125 j := fun j hj => by rw [zupd_eq, upd_ne _ _ hj, zupd_ne _ _ _ (by decide)]
    refine ⟨by rw [zupd_eq, upd_eq], by rw [zupd_ne _ _ _ (by decide), zupd_eq, h2], (g 2 (by decide)).trans h3, (g 3 (by decide)).trans h4, (g 4 (by decide)).trans h5, (g 5 (by decide)).trans h6⟩
theorem FX0 (d : Nat) (a b c e : Int32) (w : zW) : F_X5_speak (d + 1) 0 a b c e w = b_X5_speak (F_X5_speak d) a b c e w := rfl
theorem FX1 (d : Nat) (a b c e : Int32) (w : zW) : F_X5_speak (d + 1) 1 a b c e w = b_X5_sound (F_X5_speak d) a b c e w := rfl
theorem spk_hit (F : Nat → Int32 → Int32 → Int32 → Int32 → zW → Option (Int32 × zW)) (K52 : Int32 → Int32 → Int32 → Int32 → zW → Option (Int32 × zW)) (K90 : zW → Option (Int32 × zW)) (n : Nat) {v q j : Nat} (x dp : Int32) (w : zW) (hv : v < 4) (hq : q < 7) (hj : j < 7) (ht : t3 v q ≠ 0) : l_X5_speak_22 F K52 K90 (n + 1) (nI v) x dp (nI q) (nI j) w = K52 x dp (nI q) (nI (t3 v q)) w := by
  obtain ⟨t1, t2⟩ := t3_k v hv q hq
  rw [l_X5_speak_22.eq_2, if_pos (by rw [lt_nI _ (by decide), tnI (by omega)]; omega), if_neg (by rw [lt_nI _ (by decide), tnI (by omega)]; omega), pk_mul, nI_add, ztld_k _ _ _ _ (by omega) (by decide), t1, if_neg (by rw [eq_nI _ (by decide), tnI (by omega)]; omega)]
theorem spk_miss (F : Nat → Int32 → Int32 → Int32 → Int32 → zW → Option (Int32 × zW)) (K52 : Int32 → Int32 → Int32 → Int32 → zW → Option (Int32 × zW)) (K90 : zW → Option (Int32 × zW)) (n : Nat) {v q j : Nat} (x dp : Int32) (w : zW) (hv : v < 4) (hq : q < 7) (hj : j < 7) (ht : t3 v q = 0) : l_X5_speak_22 F K52 K90 (n + 1) (nI v) x dp (nI q) (nI j) w = l_X5_speak_22 F K52 K90 n (nI v) x dp (nI (upq q)) (nI (j + 1)) w := by
  obtain ⟨t1, t2⟩ := t3_k v hv q hq
  have q0 : q ≠ 0 := fun e => t3_0 v hv (by rw [e] at ht; exact ht)
  rw [l_X5_speak_22.eq_2, if_pos (by rw [lt_nI _ (by decide), tnI (by omega)]; omega), if_neg (by rw [lt_nI _ (by decide), tnI (by omega)]; omega), pk_mul, nI_add, ztld_k _ _ _ _ (by omega) (by decide), t1, ht, if_pos rfl, ztld_k _ _ _ _ hq (by decide), up_k q hq q0, nI_add, zlet_e]
theorem spk_loop (F : Nat → Int32 → Int32 → Int32 → Int32 → zW → Option (Int32 × zW)) (K52 : Int32 → Int32 → Int32 → Int32 → zW → Option (Int32 × zW)) (K90 : zW → Option (Int32 × zW)) {v q : Nat} (x dp : Int32) (w : zW) (hv : v < 4) (hq : q < 7) : l_X5_speak_22 F K52 K90 zfuel (nI v) x dp (nI q) (nI 0) w = K52 x dp (nI (hol v q)) (nI (t3 v (hol v q))) w := by
  obtain ⟨u1, u2⟩ := up_7 q hq
  rw [show zfuel = 999997 + 1 + 1 + 1 from rfl]
  unfold hol
  by_cases a : t3 v q = 0
  · rw [spk_miss F K52 K90 _ x dp w hv hq (by decide) a, if_neg (fun h => h a)]
    by_cases b : t3 v (upq q) = 0
    · have n0 : upq q ≠ 0 := fun e => t3_0 v hv (by rw [e] at b; exact b)
      rw [spk_miss F K52 K90 _ x dp w hv u1 (by decide) b, if_neg (fun h => h b), u2 n0, spk_hit F K52 K90 _ x dp w hv (by decide) (by decide) (t3_0 v hv)]
    · rw [spk_hit F K52 K90 _ x dp w hv u1 (by decide) b, if_pos b]
  · rw [spk_hit F K52 K90 _ x dp w hv hq (by decide) a, if_pos a]
theorem spk {K : Nat} {m k : Int32} (d : Nat) {v q b : Nat} {a : Int32} (x : Int32) {dp : Nat} (hv : v < 4) (hq : q < 7) (hd : dp ≤ 30) (hb : t3 v (hol v q) = b) (h7 : hol v q < 7) (ha : ztab 0 (hol v q) = a) : ∀ w c f, VH K m k w c f (nI 0) → F_X5_speak (d + 2) 0 (nI v) (nI q) x (nI dp) w = zb (f_X5_note (nI b) w) fun w12 => b_X5_sound (F_X5_speak d) (nI b) a x (nI (dp + 1)) w12 := by
  intro w c f h
  rw [FX0, b_X5_speak, if_pos h.2.2.1, if_neg (by rw [nI_lt2 _ (by decide), tnI (by omega)]; omega), spk_loop _ _ _ _ _ _ hv hq, hb]
  simp only [ztld_k _ _ _ _ h7 (show 7 < 2 ^ 31 by decide), ha, nI_add, zb2_eta, FX1]
theorem snd_10 (F : Nat → Int32 → Int32 → Int32 → Int32 → zW → Option (Int32 × zW)) (a x dp : Int32) (w : zW) : b_X5_sound F (nI 10) a x dp w = (some (x + (w 125 5), w)) := by
  rw [b_X5_sound, if_pos rfl]
theorem snd_11 (F : Nat → Int32 → Int32 → Int32 → Int32 → zW → Option (Int32 × zW)) (a x dp : Int32) (w : zW) : b_X5_sound F (nI 11) a x dp w = (zb2 (F 0 (nI 0) (w 125 3) x dp w) fun x4 w1 => some (x4 * (nI 2), w1)) := by
  rw [b_X5_sound, if_neg (by decide), if_pos rfl]
theorem snd_12 (F : Nat → Int32 → Int32 → Int32 → Int32 → zW → Option (Int32 × zW)) (a x dp : Int32) (w : zW) : b_X5_sound F (nI 12) a x dp w = (zb2 (F 0 (nI 1) (w 125 3) x dp w) fun x7 w2 => some (x7 - (w2 125 4), w2)) := by
  rw [b_X5_sound, if_neg (by decide), if_neg (by decide), if_pos rfl]
theorem snd_13 (F : Nat → Int32 → Int32 → Int32 → Int32 → zW → Option (Int32 × zW)) (a x dp : Int32) (w : zW) : b_X5_sound F (nI 13) a x dp w = (zb2 (f_X5_quotient x ((w 125 4) - (w 125 5)) w) fun x10 w3 => some (x10, w3)) := by
  rw [b_X5_sound, if_neg (by decide), if_neg (by decide), if_neg (by decide), if_pos rfl]
theorem snd_20 (F : Nat → Int32 → Int32 → Int32 → Int32 → zW → Option (Int32 × zW)) (a x dp : Int32) (w : zW) : b_X5_sound F (nI 20) a x dp w = (zb2 (F 0 (nI 0) a x dp w) fun x13 w4 => some (x13 - (nI 6), w4)) := by
  rw [b_X5_sound, if_neg (by decide), if_neg (by decide), if_neg (by decide), if_neg (by decide), if_pos rfl]
theorem snd_21 (F : Nat → Int32 → Int32 → Int32 → Int32 → zW → Option (Int32 × zW)) (a x dp : Int32) (w : zW) : b_X5_sound F (nI 21) a x dp w = (zb2 (F 0 (nI 3) a x dp w) fun x16 w5 => zb2 (F 0 (nI 1) (w5 125 3) (nI 1) dp w5) fun x18 w6 => some (x16 + x18, w6)) := by
  rw [b_X5_sound, if_neg (by decide), if_neg (by decide), if_neg (by decide), if_neg (by decide), if_neg (by decide), if_pos rfl]
theorem snd_30 (F : Nat → Int32 → Int32 → Int32 → Int32 → zW → Option (Int32 × zW)) (a x dp : Int32) (w : zW) : b_X5_sound F (nI 30) a x dp w = (zb2 (F 0 (nI 1) a x dp w) fun x21 w7 => some (-x21, w7)) := by
  rw [b_X5_sound, if_neg (by decide), if_neg (by decide), if_neg (by decide), if_neg (by decide), if_neg (by decide), if_neg (by decide), if_pos rfl]
theorem snd_40 (F : Nat → Int32 → Int32 → Int32 → Int32 → zW → Option (Int32 × zW)) (a x dp : Int32) (w : zW) : b_X5_sound F (nI 40) a x dp w = (zb2 (F 0 (nI 2) a (x / (nI 2)) dp w) fun x24 w8 => some (x24, w8)) := by
  rw [b_X5_sound, if_neg (by decide), if_neg (by decide), if_neg (by decide), if_neg (by decide), if_neg (by decide), if_neg (by decide), if_neg (by decide), if_pos rfl]
theorem snd_50 (F : Nat → Int32 → Int32 → Int32 → Int32 → zW → Option (Int32 × zW)) (a x dp : Int32) (w : zW) : b_X5_sound F (nI 50) a x dp w = (zb2 (F 0 (nI 0) a x dp w) fun x27 w9 => some (x27 * (nI 3), w9)) := by
  rw [b_X5_sound, if_neg (by decide), if_neg (by decide), if_neg (by decide), if_neg (by decide), if_neg (by decide), if_neg (by decide), if_neg (by decide), if_neg (by decide), if_pos rfl]
theorem snd_51 (F : Nat → Int32 → Int32 → Int32 → Int32 → zW → Option (Int32 × zW)) (a x dp : Int32) (w : zW) : b_X5_sound F (nI 51) a x dp w = (zb2 (F 0 (nI 2) a x dp w) fun x30 w10 => some (x30 ^^^ (w10 125 5), w10)) := by
  rw [b_X5_sound, if_neg (by decide), if_neg (by decide), if_neg (by decide), if_neg (by decide), if_neg (by decide), if_neg (by decide), if_neg (by decide), if_neg (by decide), if_neg (by decide), if_pos rfl]
theorem snd_60 (F : Nat → Int32 → Int32 → Int32 → Int32 → zW → Option (Int32 × zW)) (a x dp : Int32) (w : zW) : b_X5_sound F (nI 60) a x dp w = (zb2 (F 0 (nI 1) a (x + (nI 1)) dp w) fun x33 w11 => some (x33, w11)) := by
  rw [b_X5_sound, if_neg (by decide), if_neg (by decide), if_neg (by decide), if_neg (by decide), if_neg (by decide), if_neg (by decide), if_neg (by decide), if_neg (by decide), if_neg (by decide), if_neg (by decide), if_pos rfl]
theorem snd_70 (F : Nat → Int32 → Int32 → Int32 → Int32 → zW → Option (Int32 × zW)) (a x dp : Int32) (w : zW) : b_X5_sound F (nI 70) a x dp w = (some (nI 8, w)) := by
  rw [b_X5_sound, if_neg (by decide), if_neg (by decide), if_neg (by decide), if_neg (by decide), if_neg (by decide), if_neg (by decide), if_neg (by decide), if_neg (by decide), if_neg (by decide), if_neg (by decide), if_neg (by decide), if_pos rfl]
theorem snd_71 (F : Nat → Int32 → Int32 → Int32 → Int32 → zW → Option (Int32 × zW)) (a x dp : Int32) (w : zW) : b_X5_sound F (nI 71) a x dp w = (zb2 (F 0 (nI 1) a x dp w) fun x37 w12 => some (x37 + (w12 125 4), w12)) := by
  rw [b_X5_sound, if_neg (by decide), if_neg (by decide), if_neg (by decide), if_neg (by decide), if_neg (by decide), if_neg (by decide), if_neg (by decide), if_neg (by decide), if_neg (by decide), if_neg (by decide), if_neg (by decide), if_neg (by decide), if_pos rfl]
section XV
variable {K : Nat} {m k : Int32}
theorem XR0 (d : Nat) {q : Nat} (x : Int32) {dp : Nat} (hq : q < 7) (h0 : hol 0 q = 0) (hd : dp ≤ 30) : EE (VH K m k) VF (fun w => F_X5_speak (d + 2) 0 (nI 0) (nI q) x (nI dp) w) (x + k) [10] (nI 0) :=
  EE_note VF_tr Xnote_ok (spk d x (by decide) hq hd (b := 10) (a := mI 1) (by rw [h0]; rfl) (by rw [h0]; decide) (by rw [h0]; rfl)) (EE_ret VF_rf fun w c f h => by rw [snd_10, h.2.2.2.2.2])
theorem XR1 (d : Nat) (x : Int32) {dp : Nat} (hd : dp + 1 ≤ 30) : EE (VH K m k) VF (fun w => F_X5_speak (d + 4) 0 (nI 0) (nI 1) x (nI dp) w) (x + k - nI 6) [20, 10] (nI 0) :=
  EE_note VF_tr Xnote_ok (spk (d + 2) x (by decide) (by decide) (by omega) (b := 20) (a := nI 0) (by decide) (by decide) (by decide)) (EE_map (fun w c f _ => snd_20 _ _ _ _ w) (XR0 d x (by decide) (by decide) hd) fun w c f h => rfl)
theorem XR4 (d : Nat) (x : Int32) {dp : Nat} (hd : dp + 2 ≤ 30) : EE (VH K m k) VF (fun w => F_X5_speak (d + 6) 0 (nI 0) (nI 4) x (nI dp) w) ((x + k - nI 6) * nI 3) [50, 20, 10] (nI 0) :=
  EE_note VF_tr Xnote_ok (spk (d + 4) x (by decide) (by decide) (by omega) (b := 50) (a := nI 1) (by decide) (by decide) (by decide)) (EE_map (fun w c f _ => snd_50 _ _ _ _ w) (XR1 d x hd) fun w c f h => rfl)
theorem XR6 (d : Nat) (x : Int32) {dp : Nat} (hd : dp ≤ 30) : EE (VH K m k) VF (fun w => F_X5_speak (d + 2) 0 (nI 0) (nI 6) x (nI dp) w) (nI 8) [70] (nI 0) :=
  EE_note VF_tr Xnote_ok (spk d x (by decide) (by decide) hd (b := 70) (a := nI 0) (by decide) (by decide) (by decide)) (EE_ret VF_rf fun w c f h => snd_70 _ _ _ _ w)
theorem XR (d : Nat) {q : Nat} (x : Int32) {dp : Nat} (hq : q < 7) (hd : dp + 2 ≤ 30) : EE (VH K m k) VF (fun w => F_X5_speak (d + 6) 0 (nI 0) (nI q) x (nI dp) w) (rV k q x) (rL q) (nI 0) := by
  rcases q7 hq with rfl | rfl | rfl | rfl | rfl | rfl | rfl
  · exact XR0 (d + 4) x (by decide) (by decide) (by omega)
  · exact XR1 (d + 2) x (by omega)
  · exact XR0 (d + 4) x (by decide) (by decide) (by omega)
  · exact XR0 (d + 4) x (by decide) (by decide) (by omega)
  · exact XR4 d x hd
  · exact XR0 (d + 4) x (by decide) (by decide) (by omega)
  · exact XR6 (d + 4) x (by omega)
theorem XS0 (d : Nat) {q : Nat} (x : Int32) {dp : Nat} (hK : K < 7) (hq : q < 7) (h0 : hol 1 q = 0) (hd : dp + 3 ≤ 30) : EE (VH K m k) VF (fun w => F_X5_speak (d + 8) 0 (nI 1) (nI q) x (nI dp) w) (rV k K x * nI 2) (11 :: rL K) (nI 0) :=
  EE_note VF_tr Xnote_ok (spk (d + 6) x (by decide) hq (by omega) (b := 11) (a := mI 1) (by rw [h0]; rfl) (by rw [h0]; decide) (by rw [h0]; rfl)) (EE_map (fun w c f h => by rw [snd_11, h.2.2.2.1]) (XR d x hK (by omega)) fun w c f h => rfl)
theorem XS (d : Nat) {q : Nat} (x : Int32) {dp : Nat} (hK : K < 7) (hq : q < 7) (hd : dp + 4 ≤ 30) : EE (VH K m k) VF (fun w => F_X5_speak (d + 10) 0 (nI 1) (nI q) x (nI dp) w) (sV k m K q x) (sL K q) (nI 0) := by
  rcases q7 hq with rfl | rfl | rfl | rfl | rfl | rfl | rfl
  · exact XS0 (d + 2) x hK (by decide) (by decide) (by omega)
  · exact XS0 (d + 2) x hK (by decide) (by decide) (by omega)
  · exact EE_note VF_tr Xnote_ok (spk (d + 8) x (by decide) (by decide) (by omega) (b := 30) (a := nI 0) (by decide) (by decide) (by decide)) (EE_map (fun w c f _ => snd_30 _ _ _ _ w) (XS0 d x hK (by decide) (by decide) (by omega)) fun w c f h => rfl)
  · exact XS0 (d + 2) x hK (by decide) (by decide) (by omega)
  · exact XS0 (d + 2) x hK (by decide) (by decide) (by omega)
  · exact EE_note VF_tr Xnote_ok (spk (d + 8) x (by decide) (by decide) (by omega) (b := 60) (a := nI 3) (by decide) (by decide) (by decide)) (EE_map (fun w c f _ => snd_60 _ _ _ _ w) (XS0 d (x + nI 1) hK (by decide) (by decide) (by omega)) fun w c f h => rfl)
  · exact EE_note VF_tr Xnote_ok (spk (d + 8) x (by decide) (by decide) (by omega) (b := 71) (a := nI 0) (by decide) (by decide) (by decide)) (EE_map (fun w c f _ => snd_71 _ _ _ _ w) (XS0 d x hK (by decide) (by decide) (by omega)) fun w c f h => by rw [h.2.2.2.2.1]; rfl)
theorem XF0 (d : Nat) {q : Nat} (x : Int32) {dp : Nat} (hK : K < 7) (hq : q < 7) (h0 : hol 2 q = 0) (hd : dp + 5 ≤ 30) : EE (VH K m k) VF (fun w => F_X5_speak (d + 12) 0 (nI 2) (nI q) x (nI dp) w) (sV k m K K x - m) (12 :: sL K K) (nI 0) :=
  EE_note VF_tr Xnote_ok (spk (d + 10) x (by decide) hq (by omega) (b := 12) (a := mI 1) (by rw [h0]; rfl) (by rw [h0]; decide) (by rw [h0]; rfl)) (EE_map (fun w c f h => by rw [snd_12, h.2.2.2.1]) (XS d x hK hK (by omega)) fun w c f h => by rw [h.2.2.2.2.1])
theorem XF3 (d : Nat) {q : Nat} (x : Int32) {dp : Nat} (hK : K < 7) (hq : q < 7) (h3 : hol 2 q = 3) (hd : dp + 6 ≤ 30) : EE (VH K m k) VF (fun w => F_X5_speak (d + 14) 0 (nI 2) (nI q) x (nI dp) w) (sV k m K K (x / nI 2) - m) (40 :: 12 :: sL K K) (nI 0) :=
  EE_note VF_tr Xnote_ok (spk (d + 12) x (by decide) hq (by omega) (b := 40) (a := nI 0) (by rw [h3]; rfl) (by rw [h3]; decide) (by rw [h3]; rfl)) (EE_map (fun w c f _ => snd_40 _ _ _ _ w) (XF0 d (x / nI 2) hK (by decide) (by decide) (by omega)) fun w c f h => rfl)
theorem XF (d : Nat) {q : Nat} (x : Int32) {dp : Nat} (hK : K < 7) (hq : q < 7) (hd : dp + 6 ≤ 30) : EE (VH K m k) VF (fun w => F_X5_speak (d + 14) 0 (nI 2) (nI q) x (nI dp) w) (fV k m K q x) (fL K q) (nI 0) := by
  rcases q7 hq with rfl | rfl | rfl | rfl | rfl | rfl | rfl
  · exact XF0 (d + 2) x hK (by decide) (by decide) (by omega)
  · exact XF0 (d + 2) x hK (by decide) (by decide) (by omega)
  · exact XF0 (d + 2) x hK (by decide) (by decide) (by omega)
  · exact XF3 d x hK (by decide) (by decide) hd
  · exact EE_note VF_tr Xnote_ok (spk (d + 12) x (by decide) (by decide) (by omega) (b := 51) (a := nI 1) (by decide) (by decide) (by decide)) (EE_map (fun w c f _ => snd_51 _ _ _ _ w) (XF0 d x hK (by decide) (by decide) (by omega)) fun w c f h => by rw [h.2.2.2.2.2]; rfl)
  · exact XF3 d x hK (by decide) (by decide) hd
  · exact XF0 (d + 2) x hK (by decide) (by decide) (by omega)
/-- a share that can be made, and one that can't -/
theorem XQ (x : Int32) (h : ¬ m - k = nI 0) : EE (VH K m k) VF (fun w => f_X5_quotient x (m - k) w) (x / (m - k)) [] (nI 0) := by
  refine EE_ret VF_rf fun w c f _ => ?_
  rw [f_X5_quotient, if_neg h, decide_eq_true (show ¬ m - k = 0 from h), zg_t]
theorem XQ0 (x : Int32) (h : m - k = nI 0) : EE (VH K m k) VF (fun w => f_X5_quotient x (m - k) w) (nI 0) [] (nI 1) := by
  intro w c f hw _
  obtain ⟨h1, h2, h3, h4, h5, h6⟩ := hw
  have g : ∀ j, j ≠ 2 → zupd w 125 2 (nI 1) 125 j = w 125 j := fun j hj => by rw [zupd_eq, upd_ne _ _ hj]
  refine ⟨zupd w 125 2 (nI 1), ?_, fun j j1 _ => zupd_ne _ _ _ j1, (g 1 (by decide)).trans h1, by rw [zupd_ne _ _ _ (by decide)]; exact h2, by rw [zupd_eq, upd_eq], (g 3 (by decide)).trans h4, (g 4 (by decide)).trans h5, (g 5 (by decide)).trans h6⟩
  show f_X5_quotient x (m - k) w = _
  rw [f_X5_quotient, if_pos h, zlet_e]
theorem XM0 (d : Nat) {q : Nat} (x : Int32) {dp : Nat} (hq : q < 7) (h0 : hol 3 q = 0) (hd : dp ≤ 30) (h : ¬ m - k = nI 0) : EE (VH K m k) VF (fun w => F_X5_speak (d + 2) 0 (nI 3) (nI q) x (nI dp) w) (x / (m - k)) [13] (nI 0) :=
  EE_note VF_tr Xnote_ok (spk d x (by decide) hq hd (b := 13) (a := mI 1) (by rw [h0]; rfl) (by rw [h0]; decide) (by rw [h0]; rfl)) (EE_map (fun w c f h => by rw [snd_13, h.2.2.2.2.1, h.2.2.2.2.2]) (XQ x h) fun w c f h => rfl)
theorem XM1 (d : Nat) {q : Nat} (x : Int32) {dp : Nat} (hK : K < 7) (hq : q < 7) (h1 : hol 3 q = 1) (hd : dp + 5 ≤ 30) (h : ¬ m - k = nI 0) : EE (VH K m k) VF (fun w => F_X5_speak (d + 12) 0 (nI 3) (nI q) x (nI dp) w) (x / (m - k) + sV k m K K (nI 1)) (21 :: ([13] ++ sL K K)) (nI 0) :=
  EE_note VF_tr Xnote_ok (spk (d + 10) x (by decide) hq (by omega) (b := 21) (a := nI 0) (by rw [h1]; rfl) (by rw [h1]; decide) (by rw [h1]; rfl)) (EE_seq VF_tr (fun x16 w5 => zb2 (F_X5_speak (d + 10) 0 (nI 1) (w5 125 3) (nI 1) (nI (dp + 1)) w5) fun x18 w6 => some (x16 + x18, w6)) (XM0 (d + 8) x (by decide) (by decide) (by omega) h) (XS d (nI 1) hK hK (by omega)) (fun w c f _ => snd_21 _ _ _ _ w) (fun w c f h => by rw [h.2.2.2.1]))
theorem XM (d : Nat) {q : Nat} (x : Int32) {dp : Nat} (hK : K < 7) (hq : q < 7) (hd : dp + 5 ≤ 30) (h : ¬ m - k = nI 0) : EE (VH K m k) VF (fun w => F_X5_speak (d + 12) 0 (nI 3) (nI q) x (nI dp) w) (mV k m K q x) (mL K q) (nI 0) := by
  rcases q7 hq with rfl | rfl | rfl | rfl | rfl | rfl | rfl
  · exact XM0 (d + 10) x (by decide) (by decide) (by omega) h
  · exact XM1 d x hK (by decide) (by decide) hd h
  · exact XM0 (d + 10) x (by decide) (by decide) (by omega) h
  · exact XM0 (d + 10) x (by decide) (by decide) (by omega) h
  · exact XM1 d x hK (by decide) (by decide) hd h
  · exact XM0 (d + 10) x (by decide) (by decide) (by omega) h
  · exact XM0 (d + 10) x (by decide) (by decide) (by omega) h
theorem XP0 (d : Nat) {q : Nat} (x : Int32) {dp : Nat} (hq : q < 7) (h0 : hol 3 q = 0) (hd : dp ≤ 30) (h : m - k = nI 0) : EE (VH K m k) VF (fun w => F_X5_speak (d + 2) 0 (nI 3) (nI q) x (nI dp) w) (nI 0) [13] (nI 1) :=
  EE_note VF_tr Xnote_ok (spk d x (by decide) hq hd (b := 13) (a := mI 1) (by rw [h0]; rfl) (by rw [h0]; decide) (by rw [h0]; rfl)) (EE_map (fun w c f h => by rw [snd_13, h.2.2.2.2.1, h.2.2.2.2.2]) (XQ0 x h) fun w c f h => rfl)
theorem XP1 (d : Nat) {q : Nat} (x : Int32) {dp : Nat} (hq : q < 7) (h1 : hol 3 q = 1) (hd : dp + 1 ≤ 30) (h : m - k = nI 0) : EE (VH K m k) VF (fun w => F_X5_speak (d + 4) 0 (nI 3) (nI q) x (nI dp) w) (nI 0 + nI 0) [21, 13] (nI 1) :=
  EE_note VF_tr Xnote_ok (spk (d + 2) x (by decide) hq (by omega) (b := 21) (a := nI 0) (by rw [h1]; rfl) (by rw [h1]; decide) (by rw [h1]; rfl)) (EE_map (fun w c f _ => snd_21 _ _ _ _ w) (XP0 d x (by decide) (by decide) hd h) fun w c f h => by rw [show d + 2 = d + 1 + 1 from rfl, FX0, b_X5_speak, if_neg (by rw [h.2.2.1]; decide), zb2_s])
theorem XP (d : Nat) {q : Nat} (x : Int32) {dp : Nat} (hq : q < 7) (hd : dp + 1 ≤ 30) (h : m - k = nI 0) : EE (VH K m k) VF (fun w => F_X5_speak (d + 4) 0 (nI 3) (nI q) x (nI dp) w) (nI 0) (mP q) (nI 1) := by
  rcases q7 hq with rfl | rfl | rfl | rfl | rfl | rfl | rfl
  · exact XP0 (d + 2) x (by decide) (by decide) (by omega) h
  · exact XP1 d x (by decide) (by decide) hd h
  · exact XP0 (d + 2) x (by decide) (by decide) (by omega) h
  · exact XP0 (d + 2) x (by decide) (by decide) (by omega) h
  · exact XP1 d x (by decide) (by decide) hd h
  · exact XP0 (d + 2) x (by decide) (by decide) (by omega) h
  · exact XP0 (d + 2) x (by decide) (by decide) (by omega) h
end XV
