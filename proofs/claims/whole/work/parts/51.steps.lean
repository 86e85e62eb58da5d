/-- how many of the lowest k bits are set -/
def pc (x : Nat) : Nat → Nat
  | 0 => 0
  | k + 1 => x % 2 + pc (x / 2) k
theorem pc_0 : ∀ k, pc 0 k = 0
  | 0 => rfl
  | k + 1 => by rw [pc, Nat.zero_div, pc_0 k]
theorem and_low : ∀ (k x : Nat), 0 < x → x < 2 ^ k → pc (x &&& (x - 1)) k + 1 = pc x k
  | 0, x, h, hx => by omega
  | k + 1, x, h, hx => by
    rw [pc, pc, Nat.and_div_two]
    have m2 : (x &&& (x - 1)) % 2 = x % 2 * ((x - 1) % 2) := by
      have := Nat.and_mod_two_pow (a := x) (b := x - 1) (n := 1)
      rw [Nat.pow_one] at this
      rw [this]
      have a : x % 2 = 0 ∨ x % 2 = 1 := by omega
      have b : (x - 1) % 2 = 0 ∨ (x - 1) % 2 = 1 := by omega
      rcases a with a | a <;> rcases b with b | b <;> rw [a, b] <;> rfl
    rw [m2]
    by_cases e : x % 2 = 1
    · have d : (x - 1) / 2 = x / 2 := by omega
      have z : (x - 1) % 2 = 0 := by omega
      rw [d, z, Nat.and_self, e]
      omega
    · have d : (x - 1) / 2 = x / 2 - 1 := by omega
      have e0 : x % 2 = 0 := by omega
      have := and_low k (x / 2) (by omega) (by rw [Nat.pow_succ] at hx; omega)
      rw [d, e0]
      omega
