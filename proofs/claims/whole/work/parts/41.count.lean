theorem sm_0 {g : Nat → Nat} : ∀ k, (∀ i, i < k → g i = 0) → sm g k = 0
  | 0, _ => rfl
  | k + 1, h => by
    rw [sm, sm_0 k (fun i hi => h i (by omega)), h k (by omega)]
theorem sm_split (g : Nat → Nat) {j : Nat} : ∀ k, j < k → sm (fun i => if j ≤ i then g i else 0) k = g j + sm (fun i => if j + 1 ≤ i then g i else 0) k
  | 0, h => by omega
  | k + 1, h => by
    rw [sm, sm]
    by_cases e : j = k
    · subst e
      rw [sm_0 j (fun i hi => if_neg (by omega)), sm_0 j (fun i hi => if_neg (by omega)), if_pos (Nat.le_refl _), if_neg (by omega)]
      omega
    · have := sm_split g k (show j < k by omega)
      rw [this, if_pos (by omega), if_pos (by omega)]
      omega
section CT
/-- a place and a state that words reach from the beginning -/
def Rk (s f : Nat → Int32) (n : Nat) : Nat → Nat → Nat → Prop
  | 0, p, q => p = 0 ∧ q = 0
  | k + 1, p, q => Rk s f n k p q ∨ ∃ p0 q0 j, Rk s f n k p0 q0 ∧ j < wcn s ∧ ed s f n p0 q0 j = true ∧ p = p0 + wle s j ∧ q = aft (wso s j)
def Rch (s f : Nat → Int32) (n p q : Nat) : Prop := ∃ k, Rk s f n k p q
theorem Rch0 (s f : Nat → Int32) (n : Nat) : Rch s f n 0 0 := ⟨0, rfl, rfl⟩
theorem Rch_step {s f : Nat → Int32} {n p q j : Nat} (h : Rch s f n p q) (hj : j < wcn s) (he : ed s f n p q j = true) : Rch s f n (p + wle s j) (aft (wso s j)) := by
  obtain ⟨k, hk⟩ := h
  exact ⟨k + 1, Or.inr ⟨p, q, j, hk, hj, he, rfl, rfl⟩⟩
/-- a set of places and states that holds the beginning and goes on with every word holds all that is reached -/
theorem Rch_min {s f : Nat → Int32} {n : Nat} {P : Nat → Nat → Prop} (h0 : P 0 0) (hs : ∀ p q j, p ≤ n → q < 5 → P p q → j < wcn s → ed s f n p q j = true → P (p + wle s j) (aft (wso s j))) (h5 : ∀ j, j < wcn s → wso s j < 5) : ∀ k p q, Rk s f n k p q → p ≤ n ∧ q < 5 ∧ P p q
  | 0, p, q, h => by
    obtain ⟨rfl, rfl⟩ := h
    exact ⟨by omega, by omega, h0⟩
  | k + 1, p, q, h => by
    rcases h with h | ⟨p0, q0, j, h, hj, he, rfl, rfl⟩
    · exact Rch_min h0 hs h5 k p q h
    · obtain ⟨a, b, c⟩ := Rch_min h0 hs h5 k p0 q0 h
      exact ⟨((ed_iff ..).mp he).2.1, (aft_k _ (h5 j hj)).2, hs p0 q0 j a b c hj he⟩
def rs (s f : Nat → Int32) (n p q j : Nat) : Nat := sm (fun i => if j ≤ i then bs s f n p q i else 0) (wcn s)
theorem rs_step (s f : Nat → Int32) (n p q : Nat) {j : Nat} (hj : j < wcn s) : rs s f n p q j = bs s f n p q j + rs s f n p q (j + 1) := sm_split _ _ hj
theorem rs_0 (s f : Nat → Int32) (n p q : Nat) : rs s f n p q 0 = sm (bs s f n p q) (wcn s) := sm_congr _ (fun j _ => if_pos (Nat.zero_le j))
theorem rs_end (s f : Nat → Int32) (n p q : Nat) : rs s f n p q (wcn s) = 0 := sm_0 _ (fun j hj => if_neg (by omega))
/-- the ways of the rows after p -/
def TT (s f : Nat → Int32) (n : Nat) (C : Nat → Nat → Nat) : Nat → Nat → Nat
  | 0, _ => 0
  | d + 1, p => sm (fun q => C (p + 1) q * Bw s f n (p + 1) q) 5 + TT s f n C d (p + 1)
theorem TT_congr {s f : Nat → Int32} {n : Nat} {C C' : Nat → Nat → Nat} : ∀ d p, (∀ p' q, p < p' → C' p' q = C p' q) → TT s f n C' d p = TT s f n C d p
  | 0, _, _ => rfl
  | d + 1, p, h => by
    rw [TT, TT, TT_congr d (p + 1) (fun p' q hp => h p' q (by omega)), sm_congr 5 (fun q _ => by rw [h (p + 1) q (by omega)])]
def cadd (C : Nat → Nat → Nat) (p0 q0 X : Nat) : Nat → Nat → Nat := fun p q => if p = p0 ∧ q = q0 then C p q + X else C p q
theorem sm5_add {B C : Nat → Nat} {q0 X : Nat} (h : q0 < 5) : sm (fun q => (if q = q0 then C q + X else C q) * B q) 5 = sm (fun q => C q * B q) 5 + X * B q0 := by
  have : q0 = 0 ∨ q0 = 1 ∨ q0 = 2 ∨ q0 = 3 ∨ q0 = 4 := by omega
  rcases this with rfl | rfl | rfl | rfl | rfl <;> simp [sm, Nat.add_mul] <;> omega
theorem TT_add {s f : Nat → Int32} {n : Nat} {C : Nat → Nat → Nat} {p0 q0 X : Nat} (hq : q0 < 5) : ∀ d p, p < p0 → p0 ≤ p + d → TT s f n (cadd C p0 q0 X) d p = TT s f n C d p + X * Bw s f n p0 q0
  | 0, p, h1, h2 => by omega
  | d + 1, p, h1, h2 => by
    rw [TT, TT]
    by_cases e : p0 = p + 1
    · subst e
      rw [TT_congr (C := C) d (p + 1) (fun p' q hp => by unfold cadd; rw [if_neg (by omega)])]
      have := sm5_add (B := Bw s f n (p + 1)) (C := C (p + 1)) (X := X) hq
      have e2 : (fun q => cadd C (p + 1) q0 X (p + 1) q * Bw s f n (p + 1) q) = fun q => (if q = q0 then C (p + 1) q + X else C (p + 1) q) * Bw s f n (p + 1) q := funext fun q => by
        unfold cadd
        by_cases e3 : q = q0
        · rw [if_pos ⟨rfl, e3⟩, if_pos e3]
        · rw [if_neg (fun a => e3 a.2), if_neg e3]
      rw [e2, this]
      omega
    · rw [TT_add hq d (p + 1) (by omega) (by omega)]
      have e2 : (fun q => cadd C p0 q0 X (p + 1) q * Bw s f n (p + 1) q) = fun q => C (p + 1) q * Bw s f n (p + 1) q := funext fun q => by
        unfold cadd
        rw [if_neg (by omega)]
      rw [e2]
      omega
/-- what flows along word j from place p -/
def flow (s : Nat → Int32) (C : Nat → Nat → Nat) (p j : Nat) : Nat := sm (fun q => if bhd q (wso s j) then C p q else 0) 5
/-- what holds of the class's counts: places before p done, and words before j at p -/
def CI (s f : Nat → Int32) (n : Nat) (C : Nat → Nat → Nat) (p j : Nat) : Prop := 0 < C 0 0 ∧ (∀ p' q', p' ≤ n → q' < 5 → 0 < C p' q' → Rch s f n p' q') ∧ ∀ p0 q0 i, (p0 < p ∨ (p0 = p ∧ i < j)) → q0 < 5 → i < wcn s → 0 < C p0 q0 → ed s f n p0 q0 i = true → 0 < C (p0 + wle s i) (aft (wso s i))
def CS (s f : Nat → Int32) (n : Nat) (C : Nat → Nat → Nat) (p j : Nat) : Prop := TT s f n C (n - p) p + sm (fun q => C p q * rs s f n p q j) 5 = Bw s f n 0 0
theorem CS_step {s f : Nat → Int32} {n : Nat} {C : Nat → Nat → Nat} {p j : Nat} (h5 : wso s j < 5) (hl : 1 ≤ wle s j) (hp : p < n) (hj : j < wcn s) (h : CS s f n C p j) : CS s f n (if p + wle s j ≤ n ∧ unl s f j p = 0 then cadd C (p + wle s j) (aft (wso s j)) (flow s C p j) else C) p (j + 1) := by
  unfold CS at h ⊢
  have er : ∀ q, rs s f n p q j = bs s f n p q j + rs s f n p q (j + 1) := fun q => rs_step s f n p q hj
  by_cases e : p + wle s j ≤ n ∧ unl s f j p = 0
  · rw [if_pos e]
    have ec : ∀ q, cadd C (p + wle s j) (aft (wso s j)) (flow s C p j) p q = C p q := fun q => by
      unfold cadd
      rw [if_neg (by omega)]
    have eb : ∀ q, bs s f n p q j = if bhd q (wso s j) then Bw s f n (p + wle s j) (aft (wso s j)) else 0 := fun q => by
      unfold bs
      by_cases b : bhd q (wso s j) = true
      · rw [if_pos ((ed_iff ..).mpr ⟨b, e⟩), if_pos b]
      · rw [if_neg (fun a => b ((ed_iff ..).mp a).1), if_neg b]
    rw [TT_add (aft_k _ h5).2 _ _ (by omega) (by omega)]
    simp only [ec]
    rw [← h]
    simp only [er, eb]
    unfold flow
    generalize Bw s f n (p + wle s j) (aft (wso s j)) = B
    have five : wso s j = 0 ∨ wso s j = 1 ∨ wso s j = 2 ∨ wso s j = 3 ∨ wso s j = 4 := by omega
    rcases five with e5 | e5 | e5 | e5 | e5 <;> rw [e5] <;> simp [sm, bhd, Nat.mul_add, Nat.add_mul] <;> omega
  · rw [if_neg e, ← h]
    have eb : ∀ q, bs s f n p q j = 0 := fun q => if_neg (fun a => e ((ed_iff ..).mp a).2)
    simp only [er, eb, Nat.zero_add]
theorem flow_pos {s : Nat → Int32} {C : Nat → Nat → Nat} {p j : Nat} : 0 < flow s C p j ↔ ∃ q, q < 5 ∧ bhd q (wso s j) = true ∧ 0 < C p q := by
  have g : ∀ k, 0 < sm (fun q => if bhd q (wso s j) then C p q else 0) k ↔ ∃ q, q < k ∧ bhd q (wso s j) = true ∧ 0 < C p q := fun k => by
    induction k with
    | zero => exact ⟨fun h => by simp [sm] at h, fun ⟨q, hq, _⟩ => by omega⟩
    | succ k ih =>
      rw [sm]
      constructor
      · intro h
        by_cases a : 0 < sm (fun q => if bhd q (wso s j) then C p q else 0) k
        · obtain ⟨q, q1, q2, q3⟩ := ih.mp a
          exact ⟨q, by omega, q2, q3⟩
        · by_cases b : bhd k (wso s j) = true
          · rw [if_pos b] at h
            exact ⟨k, by omega, b, by omega⟩
          · rw [if_neg b] at h
            omega
      · intro ⟨q, q1, q2, q3⟩
        by_cases e : q = k
        · subst e
          rw [if_pos q2]
          omega
        · have := ih.mpr ⟨q, by omega, q2, q3⟩
          omega
  exact g 5
theorem CI_step {s f : Nat → Int32} {n : Nat} {C : Nat → Nat → Nat} {p j : Nat} (hl : 1 ≤ wle s j) (hj : j < wcn s) (h : CI s f n C p j) (hp : p < n) : CI s f n (if p + wle s j ≤ n ∧ unl s f j p = 0 then cadd C (p + wle s j) (aft (wso s j)) (flow s C p j) else C) p (j + 1) := by
  obtain ⟨h1, h2, h3⟩ := h
  by_cases e : p + wle s j ≤ n ∧ unl s f j p = 0
  · rw [if_pos e]
    have mono : ∀ p' q', C p' q' ≤ cadd C (p + wle s j) (aft (wso s j)) (flow s C p j) p' q' := fun p' q' => by
      unfold cadd
      split <;> omega
    have low : ∀ p' q', p' ≤ p → cadd C (p + wle s j) (aft (wso s j)) (flow s C p j) p' q' = C p' q' := fun p' q' hp' => by
      unfold cadd
      rw [if_neg (by omega)]
    refine ⟨Nat.lt_of_lt_of_le h1 (mono _ _), fun p' q' hp' hq' hc => ?_, fun p0 q0 i hi hq0 hiw hc he => ?_⟩
    · by_cases ec : 0 < C p' q'
      · exact h2 p' q' hp' hq' ec
      · unfold cadd at hc
        by_cases ep : p' = p + wle s j ∧ q' = aft (wso s j)
        · rw [if_pos ep] at hc
          obtain ⟨q, q1, q2, q3⟩ := flow_pos.mp (show 0 < flow s C p j by omega)
          rw [ep.1, ep.2]
          exact Rch_step (h2 p q (by omega) q1 q3) hj ((ed_iff ..).mpr ⟨q2, e⟩)
        · rw [if_neg ep] at hc
          exact absurd hc ec
    · rw [low p0 q0 (by omega)] at hc
      by_cases en : p0 = p ∧ i = j
      · obtain ⟨rfl, rfl⟩ := en
        have : 0 < flow s C p0 i := flow_pos.mpr ⟨q0, hq0, ((ed_iff ..).mp he).1, hc⟩
        unfold cadd
        rw [if_pos ⟨rfl, rfl⟩]
        omega
      · exact Nat.lt_of_lt_of_le (h3 p0 q0 i (by omega) hq0 hiw hc he) (mono _ _)
  · rw [if_neg e]
    refine ⟨h1, h2, fun p0 q0 i hi hq0 hiw hc he => ?_⟩
    by_cases en : p0 = p ∧ i = j
    · obtain ⟨rfl, rfl⟩ := en
      exact absurd ((ed_iff ..).mp he).2 e
    · exact h3 p0 q0 i (by omega) hq0 hiw hc he
end CT
