/-- how many of the lowest k bits are set -/
def pc (x : Nat) : Nat → Nat
  | 0 => 0
  | k + 1 => x % 2 + pc (x / 2) k
theorem pc_0 : ∀ k, pc 0 k = 0
  | 0 => rfl
  | k + 1 => by rw [pc, Nat.zero_div, pc_0 k]
theorem and_low : ∀ (k x : Nat), 0 < x → x < 2 ^ k → pc (x &&& (x - 1)) k + 1 = pc x k
  | 0, x, h, hx => by omega
  | k + 1, x, h, hx => by
    rw [pc, pc, Nat.and_div_two]
    have m2 : (x &&& (x - 1)) % 2 = x % 2 * ((x - 1) % 2) := by
      have := Nat.and_mod_two_pow (a := x) (b := x - 1) (n := 1)
      rw [Nat.pow_one] at this
      rw [this]
      have a : x % 2 = 0 ∨ x % 2 = 1 := by omega
      have b : (x - 1) % 2 = 0 ∨ (x - 1) % 2 = 1 := by omega
      rcases a with a | a <;> rcases b with b | b <;> rw [a, b] <;> rfl
    rw [m2]
    by_cases e : x % 2 = 1
    · have d : (x - 1) / 2 = x / 2 := by omega
      have z : (x - 1) % 2 = 0 := by omega
      rw [d, z, Nat.and_self, e]
      omega
    · have d : (x - 1) / 2 = x / 2 - 1 := by omega
      have e0 : x % 2 = 0 := by omega
      have := and_low k (x / 2) (by omega) (by rw [Nat.pow_succ] at hx; omega)
      rw [d, e0]
      omega
theorem nI_and (a b : Nat) : nI a &&& nI b = nI (a &&& b) := by
  apply Int32.toBitVec_inj.mp
  show BitVec.ofNat 32 a &&& BitVec.ofNat 32 b = BitVec.ofNat 32 (a &&& b)
  exact BitVec.ofNat_and.symm
theorem nI_or (a b : Nat) : nI a ||| nI b = nI (a ||| b) := by
  apply Int32.toBitVec_inj.mp
  show BitVec.ofNat 32 a ||| BitVec.ofNat 32 b = BitVec.ofNat 32 (a ||| b)
  exact BitVec.ofNat_or.symm
theorem pc_le : ∀ k x, pc x k ≤ k
  | 0, _ => Nat.le_refl _
  | k + 1, x => by
    have := pc_le k (x / 2)
    rw [pc]
    omega
theorem pc_pos : ∀ k x, x < 2 ^ k → 0 < x → 0 < pc x k
  | 0, x, h, h0 => by omega
  | k + 1, x, h, h0 => by
    rw [pc]
    by_cases e : x % 2 = 1
    · omega
    · have := pc_pos k (x / 2) (by rw [Nat.pow_succ] at h; omega) (by omega)
      omega
theorem bits_loop : ∀ (m a v : Nat), v < 2 ^ 27 → a + pc v 27 ≤ 27 → pc v 27 < m → l_X12_bitsOf_4 (fun k20_a1 => some k20_a1) m (nI a) (nI v) = some (nI (a + pc v 27)) := by
  intro m
  induction m with
  | zero => intro a v _ _ h; omega
  | succ m ih =>
    intro a v hv ha hm
    rw [l_X12_bitsOf_4.eq_2]
    by_cases e : v = 0
    · rw [e, if_pos rfl, pc_0]
      rfl
    · have l := and_low 27 v (by omega) hv
      have b : v &&& (v - 1) ≤ v := Nat.and_le_left
      rw [if_neg (by rw [eq_nI _ (by decide), tnI (by omega)]; omega), nI_add, zlet_e, nI_sub (by omega) (by omega), nI_and, zlet_e, ih (a + 1) _ (by omega) (by omega) (by omega)]
      rw [show a + 1 + pc (v &&& (v - 1)) 27 = a + pc v 27 by omega]
theorem bitsOf_ok {v : Nat} (hv : v < 2 ^ 27) : f_X12_bitsOf (nI v) = some (nI (pc v 27)) := by
  have := pc_le 27 v
  rw [f_X12_bitsOf, bits_loop zfuel 0 v hv (by omega) (by unfold zfuel; omega), Nat.zero_add]
theorem nI_ushr {v k d : Nat} (hk : ((nI k).toUInt32 &&& Int32.toUInt32 31) = UInt32.ofNat k) (hk2 : k < 32) (hd : d = 2 ^ k) (hv : v < 2 ^ 32) : ((nI v).toUInt32 >>> ((nI k).toUInt32 &&& Int32.toUInt32 31)).toInt32 = nI (v / d) := by
  rw [hk]
  apply Int32.toBitVec_inj.mp
  show (BitVec.ofNat 32 v) >>> ((BitVec.ofNat 32 k) % 32) = BitVec.ofNat 32 (v / d)
  apply BitVec.eq_of_toNat_eq
  rw [BitVec.ushiftRight_eq', BitVec.toNat_ushiftRight, BitVec.toNat_umod, BitVec.toNat_ofNat, BitVec.toNat_ofNat, BitVec.toNat_ofNat, Nat.mod_eq_of_lt hv, Nat.mod_eq_of_lt (show k < 2 ^ 32 by omega), show (32 : BitVec 32).toNat = 32 from rfl, Nat.mod_eq_of_lt hk2, Nat.shiftRight_eq_div_pow, hd, Nat.mod_eq_of_lt (Nat.lt_of_le_of_lt (Nat.div_le_self _ _) hv)]
theorem and8 {a b c d : Nat} (ha : a < 256) (hc : c < 256) : (a + 256 * b) &&& (c + 256 * d) = (a &&& c) + 256 * (b &&& d) := by
  have m := Nat.and_mod_two_pow (a := a + 256 * b) (b := c + 256 * d) (n := 8)
  have v := Nat.shiftRight_and_distrib (a := a + 256 * b) (b := c + 256 * d) (i := 8)
  rw [Nat.shiftRight_eq_div_pow, Nat.shiftRight_eq_div_pow, Nat.shiftRight_eq_div_pow] at v
  rw [show (a + 256 * b) % 2 ^ 8 = a by omega, show (c + 256 * d) % 2 ^ 8 = c by omega] at m
  rw [show (a + 256 * b) / 2 ^ 8 = b by omega, show (c + 256 * d) / 2 ^ 8 = d by omega] at v
  rw [← m, ← v]
  omega
theorem sw_a : ∀ b, b < 256 → ∀ t, t < 2 → (b / 2 + 128 * t) &&& 85 = (b / 2) &&& 85 := by decide +kernel
theorem sw_b : ∀ y, y < 256 → ∀ t, t < 4 → (y / 4 + 64 * t) &&& 51 = (y / 4) &&& 51 := by decide +kernel
theorem sw_c : ∀ b, b < 256 → ((b / 2) &&& 85) ≤ b ∧ (((b - ((b / 2) &&& 85)) &&& 51) + (((b - ((b / 2) &&& 85)) / 4) &&& 51)) ≤ 68 := by decide +kernel
/-- one byte's steps of the count -/
def sA (b : Nat) : Nat := b - ((b / 2) &&& 85)
def sB (b : Nat) : Nat := (sA b &&& 51) + ((sA b / 4) &&& 51)
theorem sw_1 : ∀ b, b < 256 → ((b / 2) &&& 85) ≤ b ∧ sA b < 256 ∧ sB b ≤ 68 ∧ sB b % 16 ≤ 4 ∧ pc b 8 ≤ 8 := by decide +kernel
theorem sw_d : ∀ b, b < 256 → ∀ t, t < 5 → (sB b + (sB b / 16 + 16 * t)) &&& 15 = pc b 8 := by decide +kernel
theorem pc_split : ∀ (k m a b : Nat), a < 2 ^ k → pc (a + 2 ^ k * b) (k + m) = pc a k + pc b m
  | 0, m, a, b, h => by
    have : a = 0 := by omega
    subst this
    rw [Nat.zero_add, Nat.zero_add, Nat.pow_zero, Nat.one_mul, pc, Nat.zero_add]
  | k + 1, m, a, b, h => by
    have e : 2 ^ (k + 1) * b = 2 * (2 ^ k * b) := by rw [Nat.pow_succ, Nat.mul_comm (2 ^ k) 2, Nat.mul_assoc]
    have q := pc_split k m (a / 2) b (by rw [Nat.pow_succ] at h; omega)
    rw [show k + 1 + m = (k + m) + 1 by omega, pc, pc, e, show (a + 2 * (2 ^ k * b)) % 2 = a % 2 by omega, show (a + 2 * (2 ^ k * b)) / 2 = a / 2 + 2 ^ k * b by omega, q]
    omega
theorem pc_4 {a b c d : Nat} (ha : a < 256) (hb : b < 256) (hc : c < 256) (hd : d < 8) : pc (a + 256 * (b + 256 * (c + 256 * d))) 27 = pc a 8 + (pc b 8 + (pc c 8 + pc d 3)) := by
  have h1 := pc_split 8 19 a (b + 256 * (c + 256 * d)) (by omega)
  have h2 := pc_split 8 11 b (c + 256 * d) (by omega)
  have h3 := pc_split 8 3 c d (by omega)
  rw [show (2 : Nat) ^ 8 = 256 by decide] at h1 h2 h3
  rw [show 27 = 8 + 19 by omega, h1, show 19 = 8 + 11 by omega, h2, show 11 = 8 + 3 by omega, h3]
theorem pc_38 : ∀ d, d < 8 → pc d 3 = pc d 8 := by decide +kernel
theorem and32 {a b c d e : Nat} (ha : a < 256) (hb : b < 256) (hc : c < 256) (hd : d < 256) (he : e < 256) : (a + 256 * (b + 256 * (c + 256 * d))) &&& (e + 256 * (e + 256 * (e + 256 * e))) = (a &&& e) + 256 * ((b &&& e) + 256 * ((c &&& e) + 256 * (d &&& e))) := by
  rw [and8 ha he, and8 hb he, and8 hc he]
theorem fin4 {a b c d : Nat} (ha : a ≤ 8) (hb : b ≤ 8) (hc : c ≤ 8) (hd : d ≤ 8) : (a + 256 * (b + 256 * (c + 256 * d)) + (a + 256 * (b + 256 * (c + 256 * d))) / 256 + (a + 256 * (b + 256 * (c + 256 * d)) + (a + 256 * (b + 256 * (c + 256 * d))) / 256) / 65536) % 2 ^ 6 = a + (b + (c + d)) := by
  have h1 : (a + 256 * (b + 256 * (c + 256 * d))) / 256 = b + 256 * (c + 256 * d) := by omega
  rw [h1]
  have h2 : (a + 256 * (b + 256 * (c + 256 * d)) + (b + 256 * (c + 256 * d))) / 65536 = (c + d) + 256 * d := by omega
  rw [h2]
  omega
theorem bitCount_ok {v : Nat} (hv : v < 2 ^ 27) : f_J6_bitCount_0f7a4 (nI v) = some (nI (pc v 27)) := by
  obtain ⟨a, ha, b, hb, c, hc, d, hd, rfl⟩ : ∃ a, a < 256 ∧ ∃ b, b < 256 ∧ ∃ c, c < 256 ∧ ∃ d, d < 8 ∧ v = a + 256 * (b + 256 * (c + 256 * d)) := ⟨v % 256, by omega, v / 256 % 256, by omega, v / 65536 % 256, by omega, v / 16777216, by omega, by omega⟩
  have sa := sw_1 a ha
  have sb := sw_1 b hb
  have sc := sw_1 c hc
  have sd := sw_1 d (by omega)
  have u1 : ((nI (a + 256 * (b + 256 * (c + 256 * d)))).toUInt32 >>> ((nI 1).toUInt32 &&& Int32.toUInt32 31)).toInt32 = nI ((a / 2 + 128 * (b % 2)) + 256 * ((b / 2 + 128 * (c % 2)) + 256 * ((c / 2 + 128 * (d % 2)) + 256 * (d / 2)))) := by
    rw [nI_ushr (k := 1) (d := 2) (by decide) (by decide) (by decide) (by omega)]
    congr 1
    omega
  have m1 : nI ((a / 2 + 128 * (b % 2)) + 256 * ((b / 2 + 128 * (c % 2)) + 256 * ((c / 2 + 128 * (d % 2)) + 256 * (d / 2)))) &&& nI 1431655765 = nI (((a / 2) &&& 85) + 256 * (((b / 2) &&& 85) + 256 * (((c / 2) &&& 85) + 256 * ((d / 2) &&& 85)))) := by
    rw [nI_and, show 1431655765 = 85 + 256 * (85 + 256 * (85 + 256 * 85)) by decide, and32 (by omega) (by omega) (by omega) (by omega) (by decide), sw_a a ha _ (by omega), sw_a b hb _ (by omega), sw_a c hc _ (by omega)]
  have x1 : nI (a + 256 * (b + 256 * (c + 256 * d))) - nI (((a / 2) &&& 85) + 256 * (((b / 2) &&& 85) + 256 * (((c / 2) &&& 85) + 256 * ((d / 2) &&& 85)))) = nI (sA a + 256 * (sA b + 256 * (sA c + 256 * sA d))) := by
    rw [nI_sub (by omega) (by omega)]
    congr 1
    unfold sA
    omega
  have u2 : ((nI (sA a + 256 * (sA b + 256 * (sA c + 256 * sA d)))).toUInt32 >>> ((nI 2).toUInt32 &&& Int32.toUInt32 31)).toInt32 = nI ((sA a / 4 + 64 * (sA b % 4)) + 256 * ((sA b / 4 + 64 * (sA c % 4)) + 256 * ((sA c / 4 + 64 * (sA d % 4)) + 256 * (sA d / 4)))) := by
    rw [nI_ushr (k := 2) (d := 4) (by decide) (by decide) (by decide) (by omega)]
    congr 1
    omega
  have m2 : nI ((sA a / 4 + 64 * (sA b % 4)) + 256 * ((sA b / 4 + 64 * (sA c % 4)) + 256 * ((sA c / 4 + 64 * (sA d % 4)) + 256 * (sA d / 4)))) &&& nI 858993459 = nI (((sA a / 4) &&& 51) + 256 * (((sA b / 4) &&& 51) + 256 * (((sA c / 4) &&& 51) + 256 * ((sA d / 4) &&& 51)))) := by
    rw [nI_and, show 858993459 = 51 + 256 * (51 + 256 * (51 + 256 * 51)) by decide, and32 (by omega) (by omega) (by omega) (by omega) (by decide), sw_b _ sa.2.1 _ (by omega), sw_b _ sb.2.1 _ (by omega), sw_b _ sc.2.1 _ (by omega)]
  have m3 : nI (sA a + 256 * (sA b + 256 * (sA c + 256 * sA d))) &&& nI 858993459 = nI ((sA a &&& 51) + 256 * ((sA b &&& 51) + 256 * ((sA c &&& 51) + 256 * (sA d &&& 51)))) := by
    rw [nI_and, show 858993459 = 51 + 256 * (51 + 256 * (51 + 256 * 51)) by decide, and32 (by omega) (by omega) (by omega) (by omega) (by decide)]
  have x2 : nI ((sA a &&& 51) + 256 * ((sA b &&& 51) + 256 * ((sA c &&& 51) + 256 * (sA d &&& 51)))) + nI (((sA a / 4) &&& 51) + 256 * (((sA b / 4) &&& 51) + 256 * (((sA c / 4) &&& 51) + 256 * ((sA d / 4) &&& 51)))) = nI (sB a + 256 * (sB b + 256 * (sB c + 256 * sB d))) := by
    rw [nI_add]
    congr 1
    unfold sB
    omega
  have u3 : ((nI (sB a + 256 * (sB b + 256 * (sB c + 256 * sB d)))).toUInt32 >>> ((nI 4).toUInt32 &&& Int32.toUInt32 31)).toInt32 = nI ((sB a / 16 + 16 * (sB b % 16)) + 256 * ((sB b / 16 + 16 * (sB c % 16)) + 256 * ((sB c / 16 + 16 * (sB d % 16)) + 256 * (sB d / 16)))) := by
    rw [nI_ushr (k := 4) (d := 16) (by decide) (by decide) (by decide) (by omega)]
    congr 1
    omega
  have m4 : nI ((sB a + (sB a / 16 + 16 * (sB b % 16))) + 256 * ((sB b + (sB b / 16 + 16 * (sB c % 16))) + 256 * ((sB c + (sB c / 16 + 16 * (sB d % 16))) + 256 * (sB d + (sB d / 16 + 16 * 0))))) &&& nI 252645135 = nI (pc a 8 + 256 * (pc b 8 + 256 * (pc c 8 + 256 * pc d 8))) := by
    rw [nI_and, show 252645135 = 15 + 256 * (15 + 256 * (15 + 256 * 15)) by decide, and32 (by omega) (by omega) (by omega) (by omega) (by decide), sw_d a ha _ (by omega), sw_d b hb _ (by omega), sw_d c hc _ (by omega), sw_d d (by omega) _ (by omega)]
  have x3 : nI (sB a + 256 * (sB b + 256 * (sB c + 256 * sB d))) + nI ((sB a / 16 + 16 * (sB b % 16)) + 256 * ((sB b / 16 + 16 * (sB c % 16)) + 256 * ((sB c / 16 + 16 * (sB d % 16)) + 256 * (sB d / 16)))) = nI ((sB a + (sB a / 16 + 16 * (sB b % 16))) + 256 * ((sB b + (sB b / 16 + 16 * (sB c % 16))) + 256 * ((sB c + (sB c / 16 + 16 * (sB d % 16))) + 256 * (sB d + (sB d / 16 + 16 * 0))))) := by
    rw [nI_add]
    congr 1
    omega
  rw [f_J6_bitCount_0f7a4, u1, m1, x1, zlet_e, u2, m2, m3, x2, zlet_e, u3, x3, m4, zlet_e, nI_ushr (k := 8) (d := 256) (by decide) (by decide) (by decide) (by omega), nI_add, zlet_e, nI_ushr (k := 16) (d := 65536) (by decide) (by decide) (by decide) (by omega), nI_add, zlet_e, nI_and, pc_4 ha hb hc hd, pc_38 d hd]
  congr 2
  rw [show 63 = 2 ^ 6 - 1 by decide, Nat.and_two_pow_sub_one_eq_mod, fin4 sa.2.2.2.2 sb.2.2.2.2 sc.2.2.2.2 sd.2.2.2.2]
theorem shl_k : ∀ k, k < 27 → (nI 1 <<< (nI k &&& 31)) = nI (2 ^ k) := by decide +kernel
theorem oth_bits : ∀ (m k x : Nat) (a1 a2 a3 : Int32) (u u1 : zW) (r : Int32), k ≤ 27 → x < 2 ^ 27 → l_X11_othersAt_21 (fun k60_a4 w11 => some (k60_a4, w11)) m a1 a2 a3 (nI x) (nI k) u = some (r, u1) → ∃ v, v < 2 ^ 27 ∧ r = nI v := by
  intro m
  induction m with
  | zero => intro k x a1 a2 a3 u u1 r _ _ h; rw [l_X11_othersAt_21.eq_1] at h; cases h
  | succ m ih =>
    intro k x a1 a2 a3 u u1 r hk hx h
    rw [l_X11_othersAt_21.eq_2] at h
    by_cases e : 26 < k
    · rw [if_pos (by rw [nI_lt2 _ (by decide), tnI (by omega)]; omega)] at h
      exact ⟨x, hx, (Prod.mk.inj (Option.some.inj h)).1.symm⟩
    · rw [if_neg (by rw [nI_lt2 _ (by decide), tnI (by omega)]; omega)] at h
      by_cases eb : nI k = a3
      · rw [if_pos eb, nI_add, zlet_e] at h
        exact ih (k + 1) x _ _ _ _ _ _ (by omega) hx h
      · rw [if_neg eb] at h
        obtain ⟨x5, w1, hx5, h⟩ := zb2_some h
        by_cases q : x5 = nI 0
        · rw [if_pos q, nI_add, zlet_e] at h
          exact ih (k + 1) x _ _ _ _ _ _ (by omega) hx h
        · rw [if_neg q, shl_k k (by omega), nI_or, nI_add, zlet_e, zlet_e] at h
          exact ih (k + 1) _ _ _ _ _ _ _ (by omega) (Nat.or_lt_two_pow hx (Nat.pow_lt_pow_right (by decide) (by omega))) h
theorem oth_ok {wx : zW} {s : Nat → Int32} (h : RT wx 1 s) {i j : Nat} (hi : (i : Int) < (s 0).toInt) (hj : j < wln s i) : ∃ v, v < 2 ^ 27 ∧ (∀ u, RT u 1 s → ∃ u1, f_X11_othersAt (nI i) (nI j) u = some (nI v, u1) ∧ SX u u1) ∧ ∀ w : zW, w 129 = s → ∃ w1, f_X12_othersAt (nI i) (nI j) w = some (nI v, w1) ∧ SM w w1 := by
  obtain ⟨r, x1, x2⟩ := others_ok h hi hj
  obtain ⟨u1, y1, _⟩ := x1 wx h
  have h6 := h.2.1.1.2
  have wl := wln_le h hi
  have y2 := y1
  rw [f_X11_othersAt, zin_nI (by omega) (by decide), zg_t, clamp_nI (by omega), zld_k _ _ _ _ _ (by omega) (by decide)] at y2
  obtain ⟨v, hv, rfl⟩ := oth_bits zfuel 1 0 _ _ _ _ _ _ (by decide) (by decide) y2
  exact ⟨v, hv, x1, x2⟩
/-- the bricks that may be others, up to a place, when f tells the sets -/
def stv (f : Nat → Nat) (s : Nat → Int32) (i : Nat) : Nat → Nat
  | 0 => 0
  | k + 1 => if wbk s i k = nI 0 then stv f s i k else stv f s i k + pc (f k) 27
theorem Xsteps_loop {s : Nat → Int32} {i : Nat} {f : Nat → Nat} (hi : (i : Int) < (s 0).toInt) (hf : ∀ j, j < wln s i → f j < 2 ^ 27 ∧ ∀ u, RT u 1 s → ∃ u1, f_X11_othersAt (nI i) (nI j) u = some (nI (f j), u1) ∧ SX u u1) : ∀ (m k : Nat) (w : zW), RT w 1 s → k ≤ wln s i → wln s i - k < m → ∃ w1, l_X11_steps_32 (fun k70_a3 w11 => some (k70_a3, w11)) m (nI i) (40 + 2 * i) (nI (stv f s i k)) (nI k) w = some (nI (stv f s i (wln s i)), w1) ∧ SX w w1 := by
  intro m
  induction m with
  | zero => intro k w _ _ h; omega
  | succ m ih =>
    intro k w h hk hm
    have wl := wln_le h hi
    have q := h.2.2.1 i hi
    unfold Rwal1 at q
    rw [show 1 + 39 + 2 * i = 40 + 2 * i by omega, show 1 + 40 + 2 * i = 40 + 2 * i + 1 by omega] at q
    rw [l_X11_steps_32.eq_2, q.2.2.1.1, wl.2]
    by_cases e : k < wln s i
    · have qb : w (40 + 2 * i + 1) k = wbk s i k := (q.2.2.2 k (by rw [wl.2, tnI (by omega)]; omega)).1
      rw [if_pos (by rw [lt_nI _ (by omega), tnI (by omega)]; omega), zld_k _ _ _ _ _ (by omega) (by decide), qb]
      by_cases e0 : wbk s i k = nI 0
      · obtain ⟨w1, x1, x2⟩ := ih (k + 1) w h (by omega) (by omega)
        rw [stv, if_pos e0] at x1
        refine ⟨w1, ?_, x2⟩
        rw [if_pos e0, zlet_e, nI_add]
        exact x1
      · obtain ⟨hv, hx⟩ := hf k e
        obtain ⟨wa, y1, y2⟩ := hx w h
        obtain ⟨w1, x1, x2⟩ := ih (k + 1) wa (RT_SX h y2) (by omega) (by omega)
        rw [stv, if_neg e0] at x1
        refine ⟨w1, ?_, SX.trans y2 x2⟩
        rw [if_neg e0, y1, zb2_s, bitCount_ok hv, zb_s, zlet_e, nI_add, nI_add, zlet_e]
        exact x1
    · have : k = wln s i := by omega
      subst this
      rw [if_neg (by rw [lt_nI _ (by omega), tnI (by omega)]; omega)]
      exact ⟨w, rfl, SX.refl w⟩
theorem Msteps_loop {wx : zW} {s : Nat → Int32} {i : Nat} {f : Nat → Nat} (h : RT wx 1 s) (hi : (i : Int) < (s 0).toInt) (hf : ∀ j, j < wln s i → f j < 2 ^ 27 ∧ ∀ w : zW, w 129 = s → ∃ w1, f_X12_othersAt (nI i) (nI j) w = some (nI (f j), w1) ∧ SM w w1) : ∀ (m k : Nat) (w : zW), w 129 = s → k ≤ wln s i → wln s i - k < m → ∃ w1, l_X12_steps_18 (fun k64_a2 w11 => some (k64_a2, w11)) m (nI i) (nI (stv f s i k)) (nI k) w = some (nI (stv f s i (wln s i)), w1) ∧ SM w w1 := by
  have h6 := h.2.1.1.2
  have wl := wln_le h hi
  intro m
  induction m with
  | zero => intro k w _ _ h; omega
  | succ m ih =>
    intro k w hw hk hm
    rw [l_X12_steps_18.eq_2, its_k hw (by omega) (by decide), show 8 + 27 * i + 2 = 10 + 27 * i by omega, wl.2, zb_s]
    by_cases e : k < wln s i
    · have hgk : s (11 + 27 * i + k) = wbk s i k := rfl
      have rg := wbk_rng h hi k e
      rw [if_pos (by rw [lt_nI _ (by omega), tnI (by omega)]; omega), at_k, zb_s, zld_k _ _ _ _ _ (by omega) (by decide), hw, hgk]
      by_cases e0 : wbk s i k = nI 0
      · obtain ⟨w1, x1, x2⟩ := ih (k + 1) w hw (by omega) (by omega)
        rw [stv, if_pos e0] at x1
        refine ⟨w1, ?_, x2⟩
        rw [if_neg (by rw [e0]; decide), j_X12_steps_56, nI_add, Nat.add_zero, zlet_e, nI_add, zlet_e]
        exact x1
      · have e0' := e0
        rw [eq_nI _ (by decide)] at e0'
        obtain ⟨hv, hx⟩ := hf k e
        obtain ⟨wa, y1, y2⟩ := hx w hw
        obtain ⟨w1, x1, x2⟩ := ih (k + 1) wa (by rw [y2.1 129 (by decide) (by decide) (by decide)]; exact hw) (by omega) (by omega)
        rw [stv, if_neg e0] at x1
        refine ⟨w1, ?_, SM.trans y2 x2⟩
        rw [if_pos (by rw [nI_lt2 _ (by decide)]; omega), y1, zb2_s, bitsOf_ok hv, zb_s, j_X12_steps_56, nI_add, zlet_e, nI_add, zlet_e]
        exact x1
    · have : k = wln s i := by omega
      subst this
      rw [if_neg (by rw [lt_nI _ (by omega), tnI (by omega)]; omega)]
      exact ⟨w, rfl, SM.refl w⟩
theorem op_steps {w : zW} (hR : Rel w) (a : Int32) : OK2 (f_X11_steps a) (f_X12_steps a) w := by
  have h := hR.1
  have h6 := h.2.1.1.2
  by_cases ha : 0 ≤ a.toInt ∧ a.toInt < (w 129 0).toInt
  · obtain ⟨i, hi, rfl, ei⟩ := of_toInt a ha.1
    have hi' : (i : Int) < (w 129 0).toInt := by omega
    have wl := wln_le h hi'
    obtain ⟨f, hf⟩ : ∃ f : Nat → Nat, ∀ j, j < wln (w 129) i → f j < 2 ^ 27 ∧ (∀ u, RT u 1 (w 129) → ∃ u1, f_X11_othersAt (nI i) (nI j) u = some (nI (f j), u1) ∧ SX u u1) ∧ ∀ w2 : zW, w2 129 = w 129 → ∃ w1, f_X12_othersAt (nI i) (nI j) w2 = some (nI (f j), w1) ∧ SM w2 w1 := by
      refine Classical.axiomOfChoice (r := fun j v => j < wln (w 129) i → v < 2 ^ 27 ∧ (∀ u, RT u 1 (w 129) → ∃ u1, f_X11_othersAt (nI i) (nI j) u = some (nI v, u1) ∧ SX u u1) ∧ ∀ w2 : zW, w2 129 = w 129 → ∃ w1, f_X12_othersAt (nI i) (nI j) w2 = some (nI v, w1) ∧ SM w2 w1) fun j => ?_
      by_cases hj : j < wln (w 129) i
      · obtain ⟨v, hv⟩ := oth_ok h hi' hj
        exact ⟨v, fun _ => hv⟩
      · exact ⟨0, fun q => absurd q hj⟩
    obtain ⟨u1, y1, y2⟩ := Xsteps_loop hi' (fun j hj => ⟨(hf j hj).1, (hf j hj).2.1⟩) zfuel 0 w h (by omega) (by unfold zfuel; omega)
    obtain ⟨w1, z1, z2⟩ := Msteps_loop h hi' (fun j hj => ⟨(hf j hj).1, (hf j hj).2.2⟩) zfuel 0 u1 (y2 129 (by omega)) (by omega) (by unfold zfuel; omega)
    refine OK_ask hR (wa := u1) (w2 := w1) (r := nI (stv f (w 129) i (wln (w 129) i))) ?_ y2 ?_ z2
    · rw [f_X11_steps, hasWall_spec h, zb_s, if_neg (by rw [bP_0]; omega), zin_nI (by omega) (by decide), zg_t, clamp_nI (by omega)]
      exact y1
    · rw [f_X12_steps, isWall_spec (y2 129 (by omega)) h.1 h6, zb_s, if_neg (by rw [bP_0]; omega)]
      exact z1
  · refine OK_err hR (k := 1) (by decide) (by decide) ?_ (fun w1 e => ?_)
    · rw [f_X11_steps, hasWall_spec h, zb_s, if_pos (by rw [bP_0]; exact ha), zb2_eta]
    · rw [f_X12_steps, isWall_spec e h.1 h6, zb_s, if_pos (by rw [bP_0]; exact ha), zb2_eta]
