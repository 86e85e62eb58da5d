abbrev pO : Type := List (Nat × Nat)
abbrev pR : Type := Bool × Nat × pO
def rkN (b : Nat) : Nat := if b = 37 ∨ b = 42 ∨ b = 47 then 4 else if b = 38 then 1 else if b = 43 ∨ b = 45 then 3 else if b = 60 ∨ b = 61 ∨ b = 62 then 2 else if b = 124 then 0 else 9
def nmN (u b : Nat) : Nat := if b = 108 then 0 else if u = 0 then (if b = 105 then 1 else if b = 110 then 2 else if b = 109 then 3 else 9) else if b = 115 then 1 else if b = 104 then 2 else 9
theorem rk_tops {b : Nat} (h : rkN b < 9) : b ∈ tops := by
  unfold rkN at h
  unfold tops
  simp only [List.mem_cons, List.not_mem_nil, or_false]
  by_cases a1 : b = 37 ∨ b = 42 ∨ b = 47
  · omega
  · by_cases a2 : b = 38
    · omega
    · by_cases a3 : b = 43 ∨ b = 45
      · omega
      · by_cases a4 : b = 60 ∨ b = 61 ∨ b = 62
        · omega
        · by_cases a5 : b = 124
          · omega
          · rw [if_neg a1, if_neg a2, if_neg a3, if_neg a4, if_neg a5] at h
            omega
theorem nm_ok {u b : Nat} (hu : u < 2) (h : nmN u b < 9) : nmN u b < tnames u ∧ b = tname u (nmN u b) := by
  unfold nmN at h ⊢
  have u2 : u = 0 ∨ u = 1 := by omega
  by_cases a1 : b = 108
  · rw [if_pos a1]
    rcases u2 with rfl | rfl <;> exact ⟨by decide, a1⟩
  · rw [if_neg a1] at h ⊢
    rcases u2 with rfl | rfl
    · rw [if_pos rfl] at h ⊢
      by_cases a2 : b = 105
      · rw [if_pos a2]
        exact ⟨by decide, a2⟩
      · rw [if_neg a2] at h ⊢
        by_cases a3 : b = 110
        · rw [if_pos a3]
          exact ⟨by decide, a3⟩
        · rw [if_neg a3] at h ⊢
          by_cases a4 : b = 109
          · rw [if_pos a4]
            exact ⟨by decide, a4⟩
          · rw [if_neg a4] at h
            omega
    · rw [if_neg (by decide)] at h ⊢
      by_cases a2 : b = 115
      · rw [if_pos a2]
        exact ⟨by decide, a2⟩
      · rw [if_neg a2] at h ⊢
        by_cases a3 : b = 104
        · rw [if_pos a3]
          exact ⟨by decide, a3⟩
        · rw [if_neg a3] at h
          omega
/-- digits from a place on, n at most: the place behind and the number -/
def dg (t : Nat → Nat) (z : Nat) : Nat → Nat → Nat → Nat × Nat
  | 0, a, v => (a, v)
  | n + 1, a, v => if a < z ∧ 48 ≤ t a ∧ t a ≤ 57 then dg t z n (a + 1) (10 * v + t a - 48) else (a, v)
theorem dg_ok (t : Nat → Nat) (z : Nat) : ∀ n a v, a ≤ z → a ≤ (dg t z n a v).1 ∧ (dg t z n a v).1 ≤ z ∧ (dg t z n a v).2 < (v + 1) * 10 ^ n
  | 0, a, v, h => by
    rw [dg]
    exact ⟨Nat.le_refl _, h, by omega⟩
  | n + 1, a, v, h => by
    rw [dg]
    by_cases c : a < z ∧ 48 ≤ t a ∧ t a ≤ 57
    · obtain ⟨i1, i2, i3⟩ := dg_ok t z n (a + 1) (10 * v + t a - 48) (by omega)
      rw [if_pos c]
      refine ⟨by omega, i2, Nat.lt_of_lt_of_le i3 ?_⟩
      rw [Nat.pow_succ, Nat.mul_comm (10 ^ n) 10, ← Nat.mul_assoc]
      exact Nat.mul_le_mul_right _ (by omega)
    · rw [if_neg c]
      refine ⟨Nat.le_refl _, h, ?_⟩
      have : 0 < 10 ^ (n + 1) := Nat.pow_pos (by decide)
      exact Nat.lt_of_lt_of_le (Nat.lt_succ_self v) (Nat.le_mul_of_pos_right _ this)
def pthen (p : pR) (k : Nat → pO → pR) : pR := if p.1 = true then k p.2.1 p.2.2 else (false, p.2.1, [])
def padd (o : pO) (q : pR) : pR := (q.1, q.2.1, o ++ q.2.2)
/-- what follows the first part of a level: operators of its rank -/
def pl (t : Nat → Nat) (z r : Nat) (F : Nat → pR) : Nat → Nat → pR
  | 0, a => (true, a, [])
  | n + 1, a => if a < z ∧ rkN (t a) = r then pthen (F (a + 1)) (fun a1 o1 => if r = 2 then (true, a1, o1 ++ [(3, t a)]) else padd (o1 ++ [(3, t a)]) (pl t z r F n a1)) else (true, a, [])
/-- the tape from a place on, by rank: 5 and 6 are what stands below the levels -/
def ps (t : Nat → Nat) (z u : Nat) : Nat → Nat → Nat → Nat → pR
  | 0, _, _, a => (false, a, [])
  | d + 1, r, dep, a =>
    if r < 5 then pthen (ps t z u d (r + 1) dep a) (fun a1 o1 => padd o1 (pl t z r (fun x => ps t z u d (r + 1) dep x) 61 a1))
    else if r = 5 then ps t z u d 6 dep a
    else if a < z then
      if 48 ≤ t a ∧ t a ≤ 57 then (true, (dg t z 4 a 0).1, [(0, (dg t z 4 a 0).2)])
      else if nmN u (t a) < 9 then (true, a + 1, [(1, nmN u (t a))])
      else if t a = 33 ∧ dep < 5 then pthen (ps t z u d 6 (dep + 1) (a + 1)) (fun a1 o1 => (true, a1, o1 ++ [(2, 0)]))
      else if t a = 40 ∧ dep < 5 then pthen (ps t z u d 0 (dep + 1) (a + 1)) (fun a1 o1 => if a1 < z ∧ t a1 = 41 then (true, a1 + 1, o1) else (false, a1, []))
      else (false, a, [])
    else (false, a, [])
def run : Nat → pO → Option Nat
  | e, [] => some e
  | e, x :: o => if x.1 ≤ 1 then run (e + 1) o else if x.1 = 2 then (if 1 ≤ e then run e o else none) else if 2 ≤ e then run (e - 1) o else none
theorem run_app : ∀ (a b : pO) (e e' : Nat), run e a = some e' → run e (a ++ b) = run e' b
  | [], b, e, e', h => by
    rw [run] at h
    rw [List.nil_append, Option.some.inj h]
  | x :: a, b, e, e', h => by
    rw [List.cons_append, run]
    rw [run] at h
    by_cases c : x.1 ≤ 1
    · rw [if_pos c] at h ⊢
      exact run_app a b _ _ h
    · rw [if_neg c] at h ⊢
      by_cases c2 : x.1 = 2
      · rw [if_pos c2] at h ⊢
        by_cases c3 : 1 ≤ e
        · rw [if_pos c3] at h ⊢
          exact run_app a b _ _ h
        · rw [if_neg c3] at h
          cases h
      · rw [if_neg c2] at h ⊢
        by_cases c3 : 2 ≤ e
        · rw [if_pos c3] at h ⊢
          exact run_app a b _ _ h
        · rw [if_neg c3] at h
          cases h
def okst (u : Nat) (x : Nat × Nat) : Prop := (x.1 = 0 ∧ x.2 ≤ 9999) ∨ (x.1 = 1 ∧ x.2 < tnames u) ∨ (x.1 = 2 ∧ x.2 = 0) ∨ (x.1 = 3 ∧ x.2 ∈ tops)
/-- steps that leave one number more -/
def val1 (u : Nat) (o : pO) : Prop := (∀ x, x ∈ o → okst u x) ∧ ∀ e, run e o = some (e + 1)
/-- steps that leave a number where one was -/
def val0 (u : Nat) (o : pO) : Prop := (∀ x, x ∈ o → okst u x) ∧ ∀ e, 1 ≤ e → run e o = some e
def pg (z u a : Nat) (p : pR) : Prop := (p.1 = true → a < p.2.1 ∧ p.2.1 ≤ z ∧ a + p.2.2.length ≤ p.2.1 ∧ val1 u p.2.2) ∧ (p.1 = false → a ≤ p.2.1 ∧ p.2.1 ≤ z)
def pg0 (z u a : Nat) (p : pR) : Prop := (p.1 = true → a ≤ p.2.1 ∧ p.2.1 ≤ z ∧ a + p.2.2.length ≤ p.2.1 ∧ val0 u p.2.2) ∧ (p.1 = false → a ≤ p.2.1 ∧ p.2.1 ≤ z)
theorem val0_nil (u : Nat) : val0 u [] := ⟨fun x h => by simp at h, fun e _ => rfl⟩
theorem val1_one {u : Nat} {x : Nat × Nat} (h : okst u x) (h1 : x.1 ≤ 1) : val1 u [x] := by
  refine ⟨fun y hy => ?_, fun e => ?_⟩
  · rw [List.mem_singleton] at hy
    rw [hy]
    exact h
  · rw [run, if_pos h1, run]
theorem val1_app {u : Nat} {a b : pO} (h1 : val1 u a) (h2 : val0 u b) : val1 u (a ++ b) := by
  refine ⟨fun x hx => ?_, fun e => ?_⟩
  · rcases List.mem_append.mp hx with h | h
    · exact h1.1 x h
    · exact h2.1 x h
  · rw [run_app a b e (e + 1) (h1.2 e), h2.2 (e + 1) (by omega)]
theorem val0_app {u : Nat} {a b : pO} (h1 : val0 u a) (h2 : val0 u b) : val0 u (a ++ b) := by
  refine ⟨fun x hx => ?_, fun e he => ?_⟩
  · rcases List.mem_append.mp hx with h | h
    · exact h1.1 x h
    · exact h2.1 x h
  · rw [run_app a b e e (h1.2 e he), h2.2 e he]
theorem val0_sign {u b : Nat} {a : pO} (h1 : val1 u a) (hb : b ∈ tops) : val0 u (a ++ [(3, b)]) := by
  refine ⟨fun x hx => ?_, fun e he => ?_⟩
  · rcases List.mem_append.mp hx with h | h
    · exact h1.1 x h
    · rw [List.mem_singleton] at h
      rw [h]
      exact Or.inr (Or.inr (Or.inr ⟨rfl, hb⟩))
  · rw [run_app a _ e (e + 1) (h1.2 e), run, if_neg (show ¬ (3 : Nat) ≤ 1 by decide), if_neg (show ¬ (3 : Nat) = 2 by decide), if_pos (by omega), run, Nat.add_sub_cancel]
theorem val1_not {u : Nat} {a : pO} (h1 : val1 u a) : val1 u (a ++ [(2, 0)]) := by
  refine ⟨fun x hx => ?_, fun e => ?_⟩
  · rcases List.mem_append.mp hx with h | h
    · exact h1.1 x h
    · rw [List.mem_singleton] at h
      rw [h]
      exact Or.inr (Or.inr (Or.inl ⟨rfl, rfl⟩))
  · rw [run_app a _ e (e + 1) (h1.2 e), run, if_neg (show ¬ (2 : Nat) ≤ 1 by decide), if_pos rfl, if_pos (by omega), run]
theorem pg_then {z u a b : Nat} {p : pR} {k : Nat → pO → pR} (hp : pg z u b p) (hb : a ≤ b) (hk : ∀ a1 o1, b < a1 → a1 ≤ z → b + o1.length ≤ a1 → val1 u o1 → pg z u a (k a1 o1)) : pg z u a (pthen p k) := by
  unfold pthen
  by_cases c : p.1 = true
  · rw [if_pos c]
    obtain ⟨h1, h2, h3, h4⟩ := hp.1 c
    exact hk _ _ h1 h2 h3 h4
  · rw [if_neg c]
    have := hp.2 (by simpa using c)
    exact ⟨fun h => absurd h (by simp), fun _ => ⟨Nat.le_trans hb this.1, this.2⟩⟩
theorem pg0_then {z u a b : Nat} {p : pR} {k : Nat → pO → pR} (hp : pg z u b p) (hb : a ≤ b) (hk : ∀ a1 o1, b < a1 → a1 ≤ z → b + o1.length ≤ a1 → val1 u o1 → pg0 z u a (k a1 o1)) : pg0 z u a (pthen p k) := by
  unfold pthen
  by_cases c : p.1 = true
  · rw [if_pos c]
    obtain ⟨h1, h2, h3, h4⟩ := hp.1 c
    exact hk _ _ h1 h2 h3 h4
  · rw [if_neg c]
    have := hp.2 (by simpa using c)
    exact ⟨fun h => absurd h (by simp), fun _ => ⟨Nat.le_trans hb this.1, this.2⟩⟩
theorem pl_ok {t : Nat → Nat} {z u r : Nat} {F : Nat → pR} (hF : ∀ a, a ≤ z → pg z u a (F a)) (hr : r < 9) : ∀ n a, a ≤ z → pg0 z u a (pl t z r F n a)
  | 0, a, h => by
    rw [pl]
    exact ⟨fun _ => ⟨Nat.le_refl _, h, by simp, val0_nil u⟩, fun _ => ⟨Nat.le_refl _, h⟩⟩
  | n + 1, a, h => by
    rw [pl]
    by_cases c : a < z ∧ rkN (t a) = r
    · have tp := rk_tops (b := t a) (by omega)
      rw [if_pos c]
      refine pg0_then (hF (a + 1) (by omega)) (by omega) fun a1 o1 h1 h2 h3 h4 => ?_
      by_cases r2 : r = 2
      · rw [if_pos r2]
        exact ⟨fun _ => ⟨by show a ≤ a1; omega, h2, by show a + (o1 ++ [(3, t a)]).length ≤ a1; rw [List.length_append, List.length_singleton]; omega, val0_sign h4 tp⟩, fun f => absurd f (by simp)⟩
      · rw [if_neg r2]
        have ih := pl_ok (t := t) hF hr n a1 h2
        refine ⟨fun q => ?_, fun q => ?_⟩
        · obtain ⟨i1, i2, i3, i4⟩ := ih.1 q
          refine ⟨by show a ≤ (pl t z r F n a1).2.1; omega, i2, ?_, val0_app (val0_sign h4 tp) i4⟩
          show a + ((o1 ++ [(3, t a)]) ++ (pl t z r F n a1).2.2).length ≤ (pl t z r F n a1).2.1
          rw [List.length_append, List.length_append, List.length_singleton]
          omega
        · obtain ⟨i1, i2⟩ := ih.2 q
          exact ⟨by show a ≤ (pl t z r F n a1).2.1; omega, i2⟩
    · rw [if_neg c]
      exact ⟨fun _ => ⟨Nat.le_refl _, h, by simp, val0_nil u⟩, fun _ => ⟨Nat.le_refl _, h⟩⟩
theorem pg_fail {z u a a1 : Nat} {o : pO} (h1 : a ≤ a1) (h2 : a1 ≤ z) : pg z u a (false, a1, o) := ⟨fun h => absurd h (by simp), fun _ => ⟨h1, h2⟩⟩
theorem ps_ok {t : Nat → Nat} {z u : Nat} (hu : u < 2) : ∀ d r dep a, a ≤ z → pg z u a (ps t z u d r dep a)
  | 0, r, dep, a, h => by
    rw [ps]
    exact pg_fail (Nat.le_refl _) h
  | d + 1, r, dep, a, h => by
    rw [ps]
    by_cases r5 : r < 5
    · rw [if_pos r5]
      refine pg_then (ps_ok hu d (r + 1) dep a h) (Nat.le_refl _) fun a1 o1 h1 h2 h3 h4 => ?_
      have ih := pl_ok (t := t) (r := r) (F := fun x => ps t z u d (r + 1) dep x) (fun x hx => ps_ok hu d (r + 1) dep x hx) (by omega) 61 a1 h2
      refine ⟨fun q => ?_, fun q => ?_⟩
      · obtain ⟨i1, i2, i3, i4⟩ := ih.1 q
        refine ⟨Nat.lt_of_lt_of_le h1 i1, i2, ?_, val1_app h4 i4⟩
        unfold padd
        show a + (o1 ++ (pl t z r (fun x => ps t z u d (r + 1) dep x) 61 a1).2.2).length ≤ (pl t z r (fun x => ps t z u d (r + 1) dep x) 61 a1).2.1
        rw [List.length_append]
        omega
      · obtain ⟨i1, i2⟩ := ih.2 q
        exact ⟨Nat.le_trans (Nat.le_of_lt h1) i1, i2⟩
    · rw [if_neg r5]
      by_cases r6 : r = 5
      · rw [if_pos r6]
        exact ps_ok hu d 6 dep a h
      · rw [if_neg r6]
        by_cases az : a < z
        · rw [if_pos az]
          by_cases c1 : 48 ≤ t a ∧ t a ≤ 57
          · obtain ⟨i1, i2, i3⟩ := dg_ok t z 3 (a + 1) (10 * 0 + t a - 48) (by omega)
            have e : dg t z 4 a 0 = dg t z 3 (a + 1) (10 * 0 + t a - 48) := by rw [dg, if_pos ⟨az, c1⟩]
            obtain ⟨_, _, j3⟩ := dg_ok t z 4 a 0 h
            rw [if_pos c1]
            refine ⟨fun _ => ⟨?_, ?_, ?_, val1_one (Or.inl ⟨rfl, ?_⟩) (Nat.zero_le _)⟩, fun f => absurd f (by simp)⟩
            · show a < (dg t z 4 a 0).1
              rw [e]
              omega
            · show (dg t z 4 a 0).1 ≤ z
              rw [e]
              exact i2
            · show a + 1 ≤ (dg t z 4 a 0).1
              rw [e]
              exact i1
            · show (dg t z 4 a 0).2 ≤ 9999
              omega
          · rw [if_neg c1]
            by_cases c2 : nmN u (t a) < 9
            · rw [if_pos c2]
              exact ⟨fun _ => ⟨Nat.lt_succ_self a, az, Nat.le_refl _, val1_one (Or.inr (Or.inl ⟨rfl, (nm_ok hu c2).1⟩)) (Nat.le_refl _)⟩, fun f => absurd f (by simp)⟩
            · rw [if_neg c2]
              by_cases c3 : t a = 33 ∧ dep < 5
              · rw [if_pos c3]
                refine pg_then (ps_ok hu d 6 (dep + 1) (a + 1) az) (by omega) fun a1 o1 h1 h2 h3 h4 => ⟨fun _ => ⟨by show a < a1; omega, h2, ?_, val1_not h4⟩, fun f => absurd f (by simp)⟩
                show a + (o1 ++ [(2, 0)]).length ≤ a1
                rw [List.length_append, List.length_singleton]
                omega
              · rw [if_neg c3]
                by_cases c4 : t a = 40 ∧ dep < 5
                · rw [if_pos c4]
                  refine pg_then (ps_ok hu d 0 (dep + 1) (a + 1) az) (by omega) fun a1 o1 h1 h2 h3 h4 => ?_
                  by_cases c5 : a1 < z ∧ t a1 = 41
                  · rw [if_pos c5]
                    exact ⟨fun _ => ⟨by show a < a1 + 1; omega, c5.1, by show a + o1.length ≤ a1 + 1; omega, h4⟩, fun f => absurd f (by simp)⟩
                  · rw [if_neg c5]
                    exact pg_fail (by omega) h2
                · rw [if_neg c4]
                  exact pg_fail (Nat.le_refl _) h
        · rw [if_neg az]
          exact pg_fail (Nat.le_refl _) h
