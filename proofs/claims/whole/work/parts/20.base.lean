theorem lt_nI (a : Int32) {k : Nat} (hk : k < 2 ^ 31) : a < nI k ↔ a.toInt < (k : Int) := by rw [Int32.lt_iff_toInt_lt, nI_toInt hk]
theorem nI_lt2 (a : Int32) {k : Nat} (hk : k < 2 ^ 31) : nI k < a ↔ (k : Int) < a.toInt := by rw [Int32.lt_iff_toInt_lt, nI_toInt hk]
theorem eq_nI (a : Int32) {k : Nat} (hk : k < 2 ^ 31) : a = nI k ↔ a.toInt = (k : Int) := by rw [← nI_toInt hk]; exact Int32.toInt_inj.symm
theorem toInt_rng (a : Int32) : -2147483648 ≤ a.toInt ∧ a.toInt < 2147483648 := ⟨Int32.le_toInt a, Int32.toInt_lt a⟩
theorem of_toInt (a : Int32) (h : 0 ≤ a.toInt) : ∃ k : Nat, k < 2 ^ 31 ∧ a = nI k ∧ a.toInt = k := by
  have h2 := toInt_rng a
  refine ⟨a.toInt.toNat, by omega, ?_, by omega⟩
  rw [eq_nI a (by omega)]
  omega
theorem zin_iff {a : Int32} {n : Nat} : zin a n = true ↔ 0 ≤ a.toInt ∧ a.toInt < n := by
  rw [← vp_in_iff]
  exact ⟨zin_vp, fun h => decide_eq_true h⟩
theorem zin_nI {k n : Nat} (h : k < n) (hn : n < 2 ^ 31) : zin (nI k) n = true := zink k n h hn
theorem clamp_nI {k : Nat} (h : k < 2 ^ 31) : (nI k).toNatClampNeg = k := nI_clamp h
theorem zb_s {α β : Type} (a : α) (f : α → Option β) : zb (some a) f = f a := rfl
theorem zb_n {α β : Type} (f : α → Option β) : zb none f = none := rfl
theorem zb2_s {α β γ : Type} (a : α) (b : β) (f : α → β → Option γ) : zb2 (some (a, b)) f = f a b := rfl
theorem zlet_e {α β : Type} (a : α) (f : α → β) : zlet a f = f a := rfl
theorem zg_t {β : Type} (x : Option β) : zguard true x = x := rfl
theorem zld_k {β : Type} (w : zW) (k n i : Nat) (f : Int32 → Option β) (h : i < n) (hn : n < 2 ^ 31) : zld w k n (nI i) f = f (w k i) := by
  rw [zld, if_pos (zink i n h hn), nI_clamp (by omega)]
theorem zsto_k {β : Type} (w : zW) (k n i : Nat) (v : Int32) (f : zW → Option β) (h : i < n) (hn : n < 2 ^ 31) : zsto w k n (nI i) v f = f (zupd w k i v) := by
  rw [zsto, if_pos (zink i n h hn), nI_clamp (by omega)]
theorem ztld_k {β : Type} (t n i : Nat) (f : Int32 → Option β) (h : i < n) (hn : n < 2 ^ 31) : ztld t n (nI i) f = f (ztab t i) := by
  rw [ztld, if_pos (zink i n h hn), nI_clamp (by omega)]
def bP (p : Prop) [Decidable p] : Int32 := if p then nI 1 else nI 0
theorem bP_0 (p : Prop) [Decidable p] : (bP p = nI 0) ↔ ¬ p := by
  unfold bP
  split
  · exact ⟨fun h => absurd h (by decide), fun h => absurd ‹p› h⟩
  · exact ⟨fun _ => ‹¬ p›, fun _ => rfl⟩
theorem zbool_bP (p : Prop) [Decidable p] : zbool (bP p) = true := by
  unfold bP
  split <;> decide
theorem bP_t {p : Prop} [Decidable p] (h : p) : bP p = nI 1 := if_pos h
theorem bP_f {p : Prop} [Decidable p] (h : ¬ p) : bP p = nI 0 := if_neg h
theorem tadd {a b : Int32} (h1 : -2147483648 ≤ a.toInt + b.toInt) (h2 : a.toInt + b.toInt < 2147483648) : (a + b).toInt = a.toInt + b.toInt := by
  rw [Int32.toInt_add]
  simp only [Int.bmod]
  split <;> omega
theorem tsub {a b : Int32} (h1 : -2147483648 ≤ a.toInt - b.toInt) (h2 : a.toInt - b.toInt < 2147483648) : (a - b).toInt = a.toInt - b.toInt := by
  rw [Int32.toInt_sub]
  simp only [Int.bmod]
  split <;> omega
theorem tnI {k : Nat} (h : k < 2 ^ 31) : (nI k).toInt = k := nI_toInt h
theorem in_spec (a b c : Int32) : f_X12_in a b c = some (bP (b.toInt ≤ a.toInt ∧ a.toInt ≤ c.toInt)) := by
  unfold f_X12_in
  split
  · rename_i h
    rw [Int32.lt_iff_toInt_lt] at h
    rw [bP_f (by omega)]
  · rename_i h
    rw [Int32.lt_iff_toInt_lt] at h
    split
    · rename_i h2
      rw [Int32.lt_iff_toInt_lt] at h2
      rw [bP_f (by omega)]
    · rename_i h2
      rw [Int32.lt_iff_toInt_lt] at h2
      rw [bP_t (by omega)]
theorem zset_eq (w : zW) (k : Nat) (f : Nat → Int32) : zset w k f k = f := by simp [zset]
theorem zset_ne (w : zW) {k j : Nat} (f : Nat → Int32) (h : j ≠ k) : zset w k f j = w j := by simp [zset, h]
theorem zupd_eq (w : zW) (k i : Nat) (v : Int32) : zupd w k i v k = upd (w k) i v := by simp [zupd, zset]
theorem zupd_ne (w : zW) {k j : Nat} (i : Nat) (v : Int32) (h : j ≠ k) : zupd w k i v j = w j := by simp [zupd, zset, h]
theorem upd_eq (f : Nat → Int32) (k : Nat) (v : Int32) : upd f k v k = v := by simp [upd]
theorem upd_ne (f : Nat → Int32) {k j : Nat} (v : Int32) (h : j ≠ k) : upd f k v j = f j := by simp [upd, h]
theorem isLetter_spec (a : Int32) : f_X12_isLetter a = some (bP (1 ≤ a.toInt ∧ a.toInt ≤ 26)) := by
  rw [f_X12_isLetter, in_spec, zb_s, zbool_bP, zg_t]
  rfl
theorem XisLetter_spec (a : Int32) : f_X11_isLetter a = some (bP (1 ≤ a.toInt ∧ a.toInt ≤ 26)) := by
  simp only [f_X11_isLetter, lt_nI a (show 1 < 2 ^ 31 by decide), nI_lt2 a (show 26 < 2 ^ 31 by decide)]
  split
  · rw [bP_f (by omega)]
  · split
    · rw [bP_f (by omega)]
    · rw [bP_t (by omega)]
