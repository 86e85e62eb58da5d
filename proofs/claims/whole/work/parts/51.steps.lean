/-- how many of the lowest k bits are set -/
def pc (x : Nat) : Nat → Nat
  | 0 => 0
  | k + 1 => x % 2 + pc (x / 2) k
theorem pc_0 : ∀ k, pc 0 k = 0
  | 0 => rfl
  | k + 1 => by rw [pc, Nat.zero_div, pc_0 k]
theorem and_low : ∀ (k x : Nat), 0 < x → x < 2 ^ k → pc (x &&& (x - 1)) k + 1 = pc x k
  | 0, x, h, hx => by omega
  | k + 1, x, h, hx => by
    rw [pc, pc, Nat.and_div_two]
    have m2 : (x &&& (x - 1)) % 2 = x % 2 * ((x - 1) % 2) := by
      have := Nat.and_mod_two_pow (a := x) (b := x - 1) (n := 1)
      rw [Nat.pow_one] at this
      rw [this]
      have a : x % 2 = 0 ∨ x % 2 = 1 := by omega
      have b : (x - 1) % 2 = 0 ∨ (x - 1) % 2 = 1 := by omega
      rcases a with a | a <;> rcases b with b | b <;> rw [a, b] <;> rfl
    rw [m2]
    by_cases e : x % 2 = 1
    · have d : (x - 1) / 2 = x / 2 := by omega
      have z : (x - 1) % 2 = 0 := by omega
      rw [d, z, Nat.and_self, e]
      omega
    · have d : (x - 1) / 2 = x / 2 - 1 := by omega
      have e0 : x % 2 = 0 := by omega
      have := and_low k (x / 2) (by omega) (by rw [Nat.pow_succ] at hx; omega)
      rw [d, e0]
      omega
theorem nI_and (a b : Nat) : nI a &&& nI b = nI (a &&& b) := by
  apply Int32.toBitVec_inj.mp
  show BitVec.ofNat 32 a &&& BitVec.ofNat 32 b = BitVec.ofNat 32 (a &&& b)
  exact BitVec.ofNat_and.symm
theorem nI_or (a b : Nat) : nI a ||| nI b = nI (a ||| b) := by
  apply Int32.toBitVec_inj.mp
  show BitVec.ofNat 32 a ||| BitVec.ofNat 32 b = BitVec.ofNat 32 (a ||| b)
  exact BitVec.ofNat_or.symm
theorem pc_le : ∀ k x, pc x k ≤ k
  | 0, _ => Nat.le_refl _
  | k + 1, x => by
    have := pc_le k (x / 2)
    rw [pc]
    omega
theorem pc_pos : ∀ k x, x < 2 ^ k → 0 < x → 0 < pc x k
  | 0, x, h, h0 => by omega
  | k + 1, x, h, h0 => by
    rw [pc]
    by_cases e : x % 2 = 1
    · omega
    · have := pc_pos k (x / 2) (by rw [Nat.pow_succ] at h; omega) (by omega)
      omega
theorem bits_loop : ∀ (m a v : Nat), v < 2 ^ 27 → a + pc v 27 ≤ 27 → pc v 27 < m → l_X12_bitsOf_4 (fun k20_a1 => some k20_a1) m (nI a) (nI v) = some (nI (a + pc v 27)) := by
  intro m
  induction m with
  | zero => intro a v _ _ h; omega
  | succ m ih =>
    intro a v hv ha hm
    rw [l_X12_bitsOf_4.eq_2]
    by_cases e : v = 0
    · rw [e, if_pos rfl, pc_0]
      rfl
    · have l := and_low 27 v (by omega) hv
      have b : v &&& (v - 1) ≤ v := Nat.and_le_left
      rw [if_neg (by rw [eq_nI _ (by decide), tnI (by omega)]; omega), nI_add, zlet_e, nI_sub (by omega) (by omega), nI_and, zlet_e, ih (a + 1) _ (by omega) (by omega) (by omega)]
      rw [show a + 1 + pc (v &&& (v - 1)) 27 = a + pc v 27 by omega]
theorem bitsOf_ok {v : Nat} (hv : v < 2 ^ 27) : f_X12_bitsOf (nI v) = some (nI (pc v 27)) := by
  have := pc_le 27 v
  rw [f_X12_bitsOf, bits_loop zfuel 0 v hv (by omega) (by unfold zfuel; omega), Nat.zero_add]
theorem nI_ushr {v k d : Nat} (hk : ((nI k).toUInt32 &&& Int32.toUInt32 31) = UInt32.ofNat k) (hk2 : k < 32) (hd : d = 2 ^ k) (hv : v < 2 ^ 32) : ((nI v).toUInt32 >>> ((nI k).toUInt32 &&& Int32.toUInt32 31)).toInt32 = nI (v / d) := by
  rw [hk]
  apply Int32.toBitVec_inj.mp
  show (BitVec.ofNat 32 v) >>> ((BitVec.ofNat 32 k) % 32) = BitVec.ofNat 32 (v / d)
  apply BitVec.eq_of_toNat_eq
  rw [BitVec.ushiftRight_eq', BitVec.toNat_ushiftRight, BitVec.toNat_umod, BitVec.toNat_ofNat, BitVec.toNat_ofNat, BitVec.toNat_ofNat, Nat.mod_eq_of_lt hv, Nat.mod_eq_of_lt (show k < 2 ^ 32 by omega), show (32 : BitVec 32).toNat = 32 from rfl, Nat.mod_eq_of_lt hk2, Nat.shiftRight_eq_div_pow, hd, Nat.mod_eq_of_lt (Nat.lt_of_le_of_lt (Nat.div_le_self _ _) hv)]
theorem and8 {a b c d : Nat} (ha : a < 256) (hc : c < 256) : (a + 256 * b) &&& (c + 256 * d) = (a &&& c) + 256 * (b &&& d) := by
  have m := Nat.and_mod_two_pow (a := a + 256 * b) (b := c + 256 * d) (n := 8)
  have v := Nat.shiftRight_and_distrib (a := a + 256 * b) (b := c + 256 * d) (i := 8)
  rw [Nat.shiftRight_eq_div_pow, Nat.shiftRight_eq_div_pow, Nat.shiftRight_eq_div_pow] at v
  rw [show (a + 256 * b) % 2 ^ 8 = a by omega, show (c + 256 * d) % 2 ^ 8 = c by omega] at m
  rw [show (a + 256 * b) / 2 ^ 8 = b by omega, show (c + 256 * d) / 2 ^ 8 = d by omega] at v
  rw [← m, ← v]
  omega
theorem sw_a : ∀ b, b < 256 → ∀ t, t < 2 → (b / 2 + 128 * t) &&& 85 = (b / 2) &&& 85 := by decide +kernel
theorem sw_b : ∀ y, y < 256 → ∀ t, t < 4 → (y / 4 + 64 * t) &&& 51 = (y / 4) &&& 51 := by decide +kernel
theorem sw_c : ∀ b, b < 256 → ((b / 2) &&& 85) ≤ b ∧ (((b - ((b / 2) &&& 85)) &&& 51) + (((b - ((b / 2) &&& 85)) / 4) &&& 51)) ≤ 68 := by decide +kernel
