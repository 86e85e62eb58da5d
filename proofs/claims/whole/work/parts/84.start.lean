def lw_f0 : Nat → Int32 := fun _ => nI 0
def lw_fT : Nat → Int32 := fun i => ([nI 0, nI 0, nI 0, nI 0, nI 0, nI 0, nI 0, nI 0, nI 0, nI 0, nI 0, nI 100, nI 1] : List Int32).getD i (nI 0)
def lw_fR : Nat → Int32 := upd (upd (fun _ => nI 0) 6 (nI 1)) 3 (nI 100)
def lw_w0L : List (Nat → Int32) := [lw_f0, lw_fT, lw_f0, lw_f0, lw_f0, lw_f0, lw_f0, lw_f0, lw_f0, lw_f0, lw_f0, lw_f0, lw_f0, lw_f0, lw_f0, lw_f0, lw_f0, lw_f0, lw_f0, lw_f0, lw_f0, lw_f0, lw_f0, lw_f0, lw_f0, lw_f0, lw_f0, lw_f0, lw_f0, lw_f0, lw_f0, lw_f0, lw_f0, lw_f0, lw_f0, lw_f0, lw_f0, lw_f0, lw_f0, lw_f0, lw_f0, lw_f0, lw_f0, lw_f0, lw_f0, lw_f0, lw_f0, lw_f0, lw_f0, lw_f0, lw_f0, lw_f0, lw_fT, lw_f0, lw_f0, lw_f0, lw_f0, lw_f0, lw_f0, lw_f0, lw_f0, lw_f0, lw_f0, lw_f0, lw_f0, lw_f0, lw_f0, lw_f0, lw_f0, lw_f0, lw_f0, lw_f0, lw_f0, lw_f0, lw_f0, lw_f0, lw_f0, lw_f0, lw_f0, lw_f0, lw_f0, lw_f0, lw_f0, lw_f0, lw_f0, lw_f0, lw_f0, lw_f0, lw_f0, lw_f0, lw_f0, lw_f0, lw_f0, lw_f0, lw_f0, lw_f0, lw_f0, lw_f0, lw_f0, lw_f0, lw_f0, lw_f0, lw_f0, lw_f0, lw_f0, lw_f0, lw_f0, lw_f0, lw_f0, lw_f0, lw_f0, lw_f0, lw_f0, lw_f0, lw_f0, lw_f0, lw_f0, lw_f0, lw_f0, lw_f0, lw_f0, lw_f0, lw_f0, lw_f0, lw_f0, lw_f0, lw_f0, lw_f0, lw_f0, lw_fR, lw_f0, lw_f0, lw_f0, lw_f0, lw_f0, lw_f0, lw_f0, lw_f0, lw_f0, lw_f0, lw_f0, lw_f0, lw_f0, lw_f0]
def lw_w0 : zW := fun k => lw_w0L.getD k lw_f0
theorem lw_rel0 : Rel lw_w0 := by
  have z0 : ∀ i : Nat, i ≠ 3 → i ≠ 6 → lw_w0 129 i = nI 0 := fun i h3 h6 => by
    show lw_fR i = nI 0
    rw [lw_fR, upd_ne _ _ h3, upd_ne _ _ h6]
  have v0 : (nI 0).toInt = 0 := by decide
  refine ⟨⟨fun p hp h6 => ?_, ?_, fun i hi => ?_, fun i hi => ?_, fun l h1 h2 => ?_, fun k hk => ?_, fun k hk => ?_, fun u hu => ?_⟩, fun h => absurd (rfl : lw_w0 128 2 = nI 0) h, fun i hi => ?_, ?_, ?_, rfl⟩
  · by_cases h3 : p = 3
    · subst h3
      decide +kernel
    · rw [z0 p h3 h6, v0]
      exact Int.le_refl 0
  · unfold Rcnt
    decide +kernel
  · rw [z0 0 (by decide) (by decide), v0] at hi
    omega
  · rw [z0 1 (by decide) (by decide), v0] at hi
    omega
  · exact (by decide +kernel : ∀ l : Nat, l < 27 → lw_w0 (1 + 37) l = lw_w0 129 (266 + l) ∧ (lw_w0 129 (266 + l)).toInt ≤ 99) l (by omega)
  · rw [z0 4 (by decide) (by decide), v0] at hk
    omega
  · rw [z0 5 (by decide) (by decide), v0] at hk
    omega
  · have e := z0 (294 + 125 * u) (by omega) (by omega)
    refine ⟨?_, ?_⟩
    · rw [e]
      exact (by decide +kernel : ∀ u : Nat, u < 2 → lw_w0 (1 + 28 + 4 * u) 3 = nI 0) u hu
    · rw [e, v0]
      exact ⟨by decide, fun k hk => absurd hk (Nat.not_lt_zero k), fun h => absurd h (Nat.lt_irrefl 0)⟩
  · have e1 : lw_w0 140 i = nI 0 := (by decide +kernel : ∀ i : Nat, i < 4 → lw_w0 140 i = nI 0) i hi
    have e2 : lw_w0 141 i = nI 0 := (by decide +kernel : ∀ i : Nat, i < 4 → lw_w0 141 i = nI 0) i hi
    refine ⟨?_, ?_, ?_, ?_, ?_, fun k hk => ?_⟩
    · rw [e1]
      exact (by decide +kernel : ∀ i : Nat, i < 4 → lw_w0 (104 + 2 * i) 1 = nI 0) i hi
    · rw [e1]
      exact Or.inl v0
    · rw [e2]
      exact (by decide +kernel : ∀ i : Nat, i < 4 → lw_w0 (104 + 2 * i) 2 = nI 0) i hi
    · rw [e2, v0]
      exact Int.le_refl 0
    · rw [e2, v0]
      decide
    · rw [e2, v0] at hk
      omega
  · intro k h1 h2
    exact (by decide +kernel : ∀ k : Nat, k < 7 → lw_w0 127 k = lw_w0 131 k) k (by omega)
  · have e : lw_w0 128 21 = nI 0 := rfl
    refine ⟨rfl, ?_, ?_, fun k hk => ?_⟩
    · rw [e, v0]
      exact Int.le_refl 0
    · rw [e, v0]
      decide
    · rw [e, v0] at hk
      omega
def lw_G (G : zG) (α β : Nat → Nat) : zG := (G.1, (fun k => if k < 128 then α k else β (k - 128)), G.2.2)
theorem lw_up {P : Nat → Prop} (n : Nat) (h : ∀ k, k < n → P k) (h1 : P n) : ∀ k, k < n + 1 → P k := fun k hk => by
  rcases Nat.lt_or_ge k n with q | q
  · exact h k q
  · rw [show k = n by omega]
    exact h1
def lw_ck (G : zG) (ws : va_W) (k : Nat) : Prop := ∃ e : va_E, ws[k]? = some (zα G k, e) ∧ ∀ H : Heap, va_at (zD G) zclasses (zα G k, e) H → va_at (zD G) zclasses (zα G k, zcell G (lw_w0 k) k) H
theorem lw_ckA {G : zG} {ws : va_W} {k t N : Nat} {f g : Nat → Option Nat} (h : ws[k]? = some (zα G k, .inl (zcl G t, N, .inr (.inr (.inr (.inr f)))))) (hc : zcell G (lw_w0 k) k = .inl (zcl G t, N, .inr (.inr (.inr (.inr g))))) (hfg : ∀ i, i < N → f i = g i) : lw_ck G ws k := by
  refine ⟨_, h, fun H hH => ?_⟩
  rw [hc]
  have hcell : vp_cell (zcl G t) (N, .inr (.inr (.inr (.inr f)))) = vp_cell (zcl G t) (N, .inr (.inr (.inr (.inr g)))) := by
    rw [vp_cell_q, vp_cell_q]
    unfold arrV
    congr 1
    apply Array.ext
    · simp
    · intro j h1 h2
      have : j < N := by simpa using h1
      simp [hfg j this]
  show H[zα G k]? = some (vp_cell (zcl G t) (N, .inr (.inr (.inr (.inr g)))))
  rw [← hcell]
  exact hH
theorem lw_ckE {G : zG} {ws : va_W} {k : Nat} {e : va_E} (h : ws[k]? = some (zα G k, e)) (hc : zcell G (lw_w0 k) k = e) : lw_ck G ws k := ⟨e, h, fun H hH => by rw [hc]; exact hH⟩
theorem lw_ck0 (G : zG) (α β : Nat → Nat) : lw_ck (lw_G G α β) (([] ++ kw11 G α) ++ kw12 G β) 0 := lw_ckE rfl (zcell_o _ _ (rfl : shp 0 = (11, 0)) (by decide))
theorem lw_ck1 (G : zG) (α β : Nat → Nat) : lw_ck (lw_G G α β) (([] ++ kw11 G α) ++ kw12 G β) 1 := lw_ckE rfl (zcell_o _ _ (rfl : shp 1 = (8, 0)) (by decide))
theorem lw_ck2 (G : zG) (α β : Nat → Nat) : lw_ck (lw_G G α β) (([] ++ kw11 G α) ++ kw12 G β) 2 := lw_ckA (t := 1) (N := 6) rfl (zcell_a _ _ (rfl : shp 2 = (21, 6)) (by decide)) (fun i hi => by rcases (show i = 0 ∨ i = 1 ∨ i = 2 ∨ i = 3 ∨ i = 4 ∨ i = 5 by omega) with rfl | rfl | rfl | rfl | rfl | rfl <;> rfl)
theorem lw_ck3 (G : zG) (α β : Nat → Nat) : lw_ck (lw_G G α β) (([] ++ kw11 G α) ++ kw12 G β) 3 := lw_ckE rfl (zcell_o _ _ (rfl : shp 3 = (7, 0)) (by decide))
theorem lw_ck4 (G : zG) (α β : Nat → Nat) : lw_ck (lw_G G α β) (([] ++ kw11 G α) ++ kw12 G β) 4 := lw_ckA (t := 2) (N := 12) rfl (zcell_a _ _ (rfl : shp 4 = (22, 12)) (by decide)) (fun i hi => by rcases (show i = 0 ∨ i = 1 ∨ i = 2 ∨ i = 3 ∨ i = 4 ∨ i = 5 ∨ i = 6 ∨ i = 7 ∨ i = 8 ∨ i = 9 ∨ i = 10 ∨ i = 11 by omega) with rfl | rfl | rfl | rfl | rfl | rfl | rfl | rfl | rfl | rfl | rfl | rfl <;> rfl)
theorem lw_ck5 (G : zG) (α β : Nat → Nat) : lw_ck (lw_G G α β) (([] ++ kw11 G α) ++ kw12 G β) 5 := lw_ckE rfl (zcell_o _ _ (rfl : shp 5 = (10, 0)) (by decide))
theorem lw_ck6 (G : zG) (α β : Nat → Nat) : lw_ck (lw_G G α β) (([] ++ kw11 G α) ++ kw12 G β) 6 := lw_ckE rfl (zcell_i _ _ (rfl : shp 6 = (20, 6)))
theorem lw_ck7 (G : zG) (α β : Nat → Nat) : lw_ck (lw_G G α β) (([] ++ kw11 G α) ++ kw12 G β) 7 := lw_ckE rfl (zcell_o _ _ (rfl : shp 7 = (10, 0)) (by decide))
theorem lw_ck8 (G : zG) (α β : Nat → Nat) : lw_ck (lw_G G α β) (([] ++ kw11 G α) ++ kw12 G β) 8 := lw_ckE rfl (zcell_i _ _ (rfl : shp 8 = (20, 6)))
theorem lw_ck9 (G : zG) (α β : Nat → Nat) : lw_ck (lw_G G α β) (([] ++ kw11 G α) ++ kw12 G β) 9 := lw_ckE rfl (zcell_o _ _ (rfl : shp 9 = (10, 0)) (by decide))
theorem lw_ck10 (G : zG) (α β : Nat → Nat) : lw_ck (lw_G G α β) (([] ++ kw11 G α) ++ kw12 G β) 10 := lw_ckE rfl (zcell_i _ _ (rfl : shp 10 = (20, 6)))
theorem lw_ck11 (G : zG) (α β : Nat → Nat) : lw_ck (lw_G G α β) (([] ++ kw11 G α) ++ kw12 G β) 11 := lw_ckE rfl (zcell_o _ _ (rfl : shp 11 = (10, 0)) (by decide))
theorem lw_ck12 (G : zG) (α β : Nat → Nat) : lw_ck (lw_G G α β) (([] ++ kw11 G α) ++ kw12 G β) 12 := lw_ckE rfl (zcell_i _ _ (rfl : shp 12 = (20, 6)))
theorem lw_ck13 (G : zG) (α β : Nat → Nat) : lw_ck (lw_G G α β) (([] ++ kw11 G α) ++ kw12 G β) 13 := lw_ckE rfl (zcell_o _ _ (rfl : shp 13 = (10, 0)) (by decide))
theorem lw_ck14 (G : zG) (α β : Nat → Nat) : lw_ck (lw_G G α β) (([] ++ kw11 G α) ++ kw12 G β) 14 := lw_ckE rfl (zcell_i _ _ (rfl : shp 14 = (20, 6)))
theorem lw_ck15 (G : zG) (α β : Nat → Nat) : lw_ck (lw_G G α β) (([] ++ kw11 G α) ++ kw12 G β) 15 := lw_ckE rfl (zcell_o _ _ (rfl : shp 15 = (10, 0)) (by decide))
theorem lw_ck16 (G : zG) (α β : Nat → Nat) : lw_ck (lw_G G α β) (([] ++ kw11 G α) ++ kw12 G β) 16 := lw_ckE rfl (zcell_i _ _ (rfl : shp 16 = (20, 6)))
theorem lw_ck17 (G : zG) (α β : Nat → Nat) : lw_ck (lw_G G α β) (([] ++ kw11 G α) ++ kw12 G β) 17 := lw_ckE rfl (zcell_o _ _ (rfl : shp 17 = (10, 0)) (by decide))
theorem lw_ck18 (G : zG) (α β : Nat → Nat) : lw_ck (lw_G G α β) (([] ++ kw11 G α) ++ kw12 G β) 18 := lw_ckE rfl (zcell_i _ _ (rfl : shp 18 = (20, 6)))
theorem lw_ck19 (G : zG) (α β : Nat → Nat) : lw_ck (lw_G G α β) (([] ++ kw11 G α) ++ kw12 G β) 19 := lw_ckE rfl (zcell_o _ _ (rfl : shp 19 = (10, 0)) (by decide))
theorem lw_ck20 (G : zG) (α β : Nat → Nat) : lw_ck (lw_G G α β) (([] ++ kw11 G α) ++ kw12 G β) 20 := lw_ckE rfl (zcell_i _ _ (rfl : shp 20 = (20, 6)))
theorem lw_ck21 (G : zG) (α β : Nat → Nat) : lw_ck (lw_G G α β) (([] ++ kw11 G α) ++ kw12 G β) 21 := lw_ckE rfl (zcell_o _ _ (rfl : shp 21 = (10, 0)) (by decide))
theorem lw_ck22 (G : zG) (α β : Nat → Nat) : lw_ck (lw_G G α β) (([] ++ kw11 G α) ++ kw12 G β) 22 := lw_ckE rfl (zcell_i _ _ (rfl : shp 22 = (20, 6)))
theorem lw_ck23 (G : zG) (α β : Nat → Nat) : lw_ck (lw_G G α β) (([] ++ kw11 G α) ++ kw12 G β) 23 := lw_ckE rfl (zcell_o _ _ (rfl : shp 23 = (10, 0)) (by decide))
theorem lw_ck24 (G : zG) (α β : Nat → Nat) : lw_ck (lw_G G α β) (([] ++ kw11 G α) ++ kw12 G β) 24 := lw_ckE rfl (zcell_i _ _ (rfl : shp 24 = (20, 6)))
theorem lw_ck25 (G : zG) (α β : Nat → Nat) : lw_ck (lw_G G α β) (([] ++ kw11 G α) ++ kw12 G β) 25 := lw_ckE rfl (zcell_o _ _ (rfl : shp 25 = (10, 0)) (by decide))
theorem lw_ck26 (G : zG) (α β : Nat → Nat) : lw_ck (lw_G G α β) (([] ++ kw11 G α) ++ kw12 G β) 26 := lw_ckE rfl (zcell_i _ _ (rfl : shp 26 = (20, 6)))
theorem lw_ck27 (G : zG) (α β : Nat → Nat) : lw_ck (lw_G G α β) (([] ++ kw11 G α) ++ kw12 G β) 27 := lw_ckE rfl (zcell_o _ _ (rfl : shp 27 = (10, 0)) (by decide))
theorem lw_ck28 (G : zG) (α β : Nat → Nat) : lw_ck (lw_G G α β) (([] ++ kw11 G α) ++ kw12 G β) 28 := lw_ckE rfl (zcell_i _ _ (rfl : shp 28 = (20, 6)))
theorem lw_ck29 (G : zG) (α β : Nat → Nat) : lw_ck (lw_G G α β) (([] ++ kw11 G α) ++ kw12 G β) 29 := lw_ckE rfl (zcell_o _ _ (rfl : shp 29 = (6, 0)) (by decide))
theorem lw_ck30 (G : zG) (α β : Nat → Nat) : lw_ck (lw_G G α β) (([] ++ kw11 G α) ++ kw12 G β) 30 := lw_ckE rfl (zcell_i _ _ (rfl : shp 30 = (20, 60)))
theorem lw_ck31 (G : zG) (α β : Nat → Nat) : lw_ck (lw_G G α β) (([] ++ kw11 G α) ++ kw12 G β) 31 := lw_ckE rfl (zcell_i _ _ (rfl : shp 31 = (20, 60)))
theorem lw_ck32 (G : zG) (α β : Nat → Nat) : lw_ck (lw_G G α β) (([] ++ kw11 G α) ++ kw12 G β) 32 := lw_ckE rfl (zcell_i _ _ (rfl : shp 32 = (20, 4)))
theorem lw_ck33 (G : zG) (α β : Nat → Nat) : lw_ck (lw_G G α β) (([] ++ kw11 G α) ++ kw12 G β) 33 := lw_ckE rfl (zcell_o _ _ (rfl : shp 33 = (6, 0)) (by decide))
theorem lw_ck34 (G : zG) (α β : Nat → Nat) : lw_ck (lw_G G α β) (([] ++ kw11 G α) ++ kw12 G β) 34 := lw_ckE rfl (zcell_i _ _ (rfl : shp 34 = (20, 60)))
theorem lw_ck35 (G : zG) (α β : Nat → Nat) : lw_ck (lw_G G α β) (([] ++ kw11 G α) ++ kw12 G β) 35 := lw_ckE rfl (zcell_i _ _ (rfl : shp 35 = (20, 60)))
theorem lw_ck36 (G : zG) (α β : Nat → Nat) : lw_ck (lw_G G α β) (([] ++ kw11 G α) ++ kw12 G β) 36 := lw_ckE rfl (zcell_i _ _ (rfl : shp 36 = (20, 4)))
theorem lw_ck37 (G : zG) (α β : Nat → Nat) : lw_ck (lw_G G α β) (([] ++ kw11 G α) ++ kw12 G β) 37 := lw_ckE rfl (zcell_i _ _ (rfl : shp 37 = (20, 60)))
theorem lw_ck38 (G : zG) (α β : Nat → Nat) : lw_ck (lw_G G α β) (([] ++ kw11 G α) ++ kw12 G β) 38 := lw_ckE rfl (zcell_i _ _ (rfl : shp 38 = (20, 27)))
theorem lw_ck39 (G : zG) (α β : Nat → Nat) : lw_ck (lw_G G α β) (([] ++ kw11 G α) ++ kw12 G β) 39 := lw_ckE rfl (zcell_i _ _ (rfl : shp 39 = (20, 24)))
theorem lw_ck40 (G : zG) (α β : Nat → Nat) : lw_ck (lw_G G α β) (([] ++ kw11 G α) ++ kw12 G β) 40 := lw_ckE rfl (zcell_o _ _ (rfl : shp 40 = (9, 0)) (by decide))
theorem lw_ck41 (G : zG) (α β : Nat → Nat) : lw_ck (lw_G G α β) (([] ++ kw11 G α) ++ kw12 G β) 41 := lw_ckE rfl (zcell_i _ _ (rfl : shp 41 = (20, 24)))
theorem lw_ck42 (G : zG) (α β : Nat → Nat) : lw_ck (lw_G G α β) (([] ++ kw11 G α) ++ kw12 G β) 42 := lw_ckE rfl (zcell_o _ _ (rfl : shp 42 = (9, 0)) (by decide))
theorem lw_ck43 (G : zG) (α β : Nat → Nat) : lw_ck (lw_G G α β) (([] ++ kw11 G α) ++ kw12 G β) 43 := lw_ckE rfl (zcell_i _ _ (rfl : shp 43 = (20, 24)))
theorem lw_ck44 (G : zG) (α β : Nat → Nat) : lw_ck (lw_G G α β) (([] ++ kw11 G α) ++ kw12 G β) 44 := lw_ckE rfl (zcell_o _ _ (rfl : shp 44 = (9, 0)) (by decide))
theorem lw_ck45 (G : zG) (α β : Nat → Nat) : lw_ck (lw_G G α β) (([] ++ kw11 G α) ++ kw12 G β) 45 := lw_ckE rfl (zcell_i _ _ (rfl : shp 45 = (20, 24)))
theorem lw_ck46 (G : zG) (α β : Nat → Nat) : lw_ck (lw_G G α β) (([] ++ kw11 G α) ++ kw12 G β) 46 := lw_ckE rfl (zcell_o _ _ (rfl : shp 46 = (9, 0)) (by decide))
theorem lw_ck47 (G : zG) (α β : Nat → Nat) : lw_ck (lw_G G α β) (([] ++ kw11 G α) ++ kw12 G β) 47 := lw_ckE rfl (zcell_i _ _ (rfl : shp 47 = (20, 24)))
theorem lw_ck48 (G : zG) (α β : Nat → Nat) : lw_ck (lw_G G α β) (([] ++ kw11 G α) ++ kw12 G β) 48 := lw_ckE rfl (zcell_o _ _ (rfl : shp 48 = (9, 0)) (by decide))
theorem lw_ck49 (G : zG) (α β : Nat → Nat) : lw_ck (lw_G G α β) (([] ++ kw11 G α) ++ kw12 G β) 49 := lw_ckE rfl (zcell_i _ _ (rfl : shp 49 = (20, 24)))
theorem lw_ck50 (G : zG) (α β : Nat → Nat) : lw_ck (lw_G G α β) (([] ++ kw11 G α) ++ kw12 G β) 50 := lw_ckE rfl (zcell_o _ _ (rfl : shp 50 = (9, 0)) (by decide))
theorem lw_ck51 (G : zG) (α β : Nat → Nat) : lw_ck (lw_G G α β) (([] ++ kw11 G α) ++ kw12 G β) 51 := lw_ckE rfl (zcell_i _ _ (rfl : shp 51 = (20, 24)))
theorem lw_ck52 (G : zG) (α β : Nat → Nat) : lw_ck (lw_G G α β) (([] ++ kw11 G α) ++ kw12 G β) 52 := lw_ckE rfl (zcell_o _ _ (rfl : shp 52 = (8, 0)) (by decide))
theorem lw_ck53 (G : zG) (α β : Nat → Nat) : lw_ck (lw_G G α β) (([] ++ kw11 G α) ++ kw12 G β) 53 := lw_ckA (t := 1) (N := 6) rfl (zcell_a _ _ (rfl : shp 53 = (21, 6)) (by decide)) (fun i hi => by rcases (show i = 0 ∨ i = 1 ∨ i = 2 ∨ i = 3 ∨ i = 4 ∨ i = 5 by omega) with rfl | rfl | rfl | rfl | rfl | rfl <;> rfl)
theorem lw_ck54 (G : zG) (α β : Nat → Nat) : lw_ck (lw_G G α β) (([] ++ kw11 G α) ++ kw12 G β) 54 := lw_ckE rfl (zcell_o _ _ (rfl : shp 54 = (7, 0)) (by decide))
theorem lw_ck55 (G : zG) (α β : Nat → Nat) : lw_ck (lw_G G α β) (([] ++ kw11 G α) ++ kw12 G β) 55 := lw_ckA (t := 2) (N := 12) rfl (zcell_a _ _ (rfl : shp 55 = (22, 12)) (by decide)) (fun i hi => by rcases (show i = 0 ∨ i = 1 ∨ i = 2 ∨ i = 3 ∨ i = 4 ∨ i = 5 ∨ i = 6 ∨ i = 7 ∨ i = 8 ∨ i = 9 ∨ i = 10 ∨ i = 11 by omega) with rfl | rfl | rfl | rfl | rfl | rfl | rfl | rfl | rfl | rfl | rfl | rfl <;> rfl)
theorem lw_ck56 (G : zG) (α β : Nat → Nat) : lw_ck (lw_G G α β) (([] ++ kw11 G α) ++ kw12 G β) 56 := lw_ckE rfl (zcell_o _ _ (rfl : shp 56 = (10, 0)) (by decide))
theorem lw_ck57 (G : zG) (α β : Nat → Nat) : lw_ck (lw_G G α β) (([] ++ kw11 G α) ++ kw12 G β) 57 := lw_ckE rfl (zcell_i _ _ (rfl : shp 57 = (20, 6)))
theorem lw_ck58 (G : zG) (α β : Nat → Nat) : lw_ck (lw_G G α β) (([] ++ kw11 G α) ++ kw12 G β) 58 := lw_ckE rfl (zcell_o _ _ (rfl : shp 58 = (10, 0)) (by decide))
theorem lw_ck59 (G : zG) (α β : Nat → Nat) : lw_ck (lw_G G α β) (([] ++ kw11 G α) ++ kw12 G β) 59 := lw_ckE rfl (zcell_i _ _ (rfl : shp 59 = (20, 6)))
theorem lw_ck60 (G : zG) (α β : Nat → Nat) : lw_ck (lw_G G α β) (([] ++ kw11 G α) ++ kw12 G β) 60 := lw_ckE rfl (zcell_o _ _ (rfl : shp 60 = (10, 0)) (by decide))
theorem lw_ck61 (G : zG) (α β : Nat → Nat) : lw_ck (lw_G G α β) (([] ++ kw11 G α) ++ kw12 G β) 61 := lw_ckE rfl (zcell_i _ _ (rfl : shp 61 = (20, 6)))
theorem lw_ck62 (G : zG) (α β : Nat → Nat) : lw_ck (lw_G G α β) (([] ++ kw11 G α) ++ kw12 G β) 62 := lw_ckE rfl (zcell_o _ _ (rfl : shp 62 = (10, 0)) (by decide))
theorem lw_ck63 (G : zG) (α β : Nat → Nat) : lw_ck (lw_G G α β) (([] ++ kw11 G α) ++ kw12 G β) 63 := lw_ckE rfl (zcell_i _ _ (rfl : shp 63 = (20, 6)))
theorem lw_ck64 (G : zG) (α β : Nat → Nat) : lw_ck (lw_G G α β) (([] ++ kw11 G α) ++ kw12 G β) 64 := lw_ckE rfl (zcell_o _ _ (rfl : shp 64 = (10, 0)) (by decide))
theorem lw_ck65 (G : zG) (α β : Nat → Nat) : lw_ck (lw_G G α β) (([] ++ kw11 G α) ++ kw12 G β) 65 := lw_ckE rfl (zcell_i _ _ (rfl : shp 65 = (20, 6)))
theorem lw_ck66 (G : zG) (α β : Nat → Nat) : lw_ck (lw_G G α β) (([] ++ kw11 G α) ++ kw12 G β) 66 := lw_ckE rfl (zcell_o _ _ (rfl : shp 66 = (10, 0)) (by decide))
theorem lw_ck67 (G : zG) (α β : Nat → Nat) : lw_ck (lw_G G α β) (([] ++ kw11 G α) ++ kw12 G β) 67 := lw_ckE rfl (zcell_i _ _ (rfl : shp 67 = (20, 6)))
theorem lw_ck68 (G : zG) (α β : Nat → Nat) : lw_ck (lw_G G α β) (([] ++ kw11 G α) ++ kw12 G β) 68 := lw_ckE rfl (zcell_o _ _ (rfl : shp 68 = (10, 0)) (by decide))
theorem lw_ck69 (G : zG) (α β : Nat → Nat) : lw_ck (lw_G G α β) (([] ++ kw11 G α) ++ kw12 G β) 69 := lw_ckE rfl (zcell_i _ _ (rfl : shp 69 = (20, 6)))
theorem lw_ck70 (G : zG) (α β : Nat → Nat) : lw_ck (lw_G G α β) (([] ++ kw11 G α) ++ kw12 G β) 70 := lw_ckE rfl (zcell_o _ _ (rfl : shp 70 = (10, 0)) (by decide))
theorem lw_ck71 (G : zG) (α β : Nat → Nat) : lw_ck (lw_G G α β) (([] ++ kw11 G α) ++ kw12 G β) 71 := lw_ckE rfl (zcell_i _ _ (rfl : shp 71 = (20, 6)))
theorem lw_ck72 (G : zG) (α β : Nat → Nat) : lw_ck (lw_G G α β) (([] ++ kw11 G α) ++ kw12 G β) 72 := lw_ckE rfl (zcell_o _ _ (rfl : shp 72 = (10, 0)) (by decide))
theorem lw_ck73 (G : zG) (α β : Nat → Nat) : lw_ck (lw_G G α β) (([] ++ kw11 G α) ++ kw12 G β) 73 := lw_ckE rfl (zcell_i _ _ (rfl : shp 73 = (20, 6)))
theorem lw_ck74 (G : zG) (α β : Nat → Nat) : lw_ck (lw_G G α β) (([] ++ kw11 G α) ++ kw12 G β) 74 := lw_ckE rfl (zcell_o _ _ (rfl : shp 74 = (10, 0)) (by decide))
theorem lw_ck75 (G : zG) (α β : Nat → Nat) : lw_ck (lw_G G α β) (([] ++ kw11 G α) ++ kw12 G β) 75 := lw_ckE rfl (zcell_i _ _ (rfl : shp 75 = (20, 6)))
theorem lw_ck76 (G : zG) (α β : Nat → Nat) : lw_ck (lw_G G α β) (([] ++ kw11 G α) ++ kw12 G β) 76 := lw_ckE rfl (zcell_o _ _ (rfl : shp 76 = (10, 0)) (by decide))
theorem lw_ck77 (G : zG) (α β : Nat → Nat) : lw_ck (lw_G G α β) (([] ++ kw11 G α) ++ kw12 G β) 77 := lw_ckE rfl (zcell_i _ _ (rfl : shp 77 = (20, 6)))
theorem lw_ck78 (G : zG) (α β : Nat → Nat) : lw_ck (lw_G G α β) (([] ++ kw11 G α) ++ kw12 G β) 78 := lw_ckE rfl (zcell_o _ _ (rfl : shp 78 = (10, 0)) (by decide))
theorem lw_ck79 (G : zG) (α β : Nat → Nat) : lw_ck (lw_G G α β) (([] ++ kw11 G α) ++ kw12 G β) 79 := lw_ckE rfl (zcell_i _ _ (rfl : shp 79 = (20, 6)))
theorem lw_ck80 (G : zG) (α β : Nat → Nat) : lw_ck (lw_G G α β) (([] ++ kw11 G α) ++ kw12 G β) 80 := lw_ckE rfl (zcell_o _ _ (rfl : shp 80 = (6, 0)) (by decide))
theorem lw_ck81 (G : zG) (α β : Nat → Nat) : lw_ck (lw_G G α β) (([] ++ kw11 G α) ++ kw12 G β) 81 := lw_ckE rfl (zcell_i _ _ (rfl : shp 81 = (20, 60)))
theorem lw_ck82 (G : zG) (α β : Nat → Nat) : lw_ck (lw_G G α β) (([] ++ kw11 G α) ++ kw12 G β) 82 := lw_ckE rfl (zcell_i _ _ (rfl : shp 82 = (20, 60)))
theorem lw_ck83 (G : zG) (α β : Nat → Nat) : lw_ck (lw_G G α β) (([] ++ kw11 G α) ++ kw12 G β) 83 := lw_ckE rfl (zcell_i _ _ (rfl : shp 83 = (20, 4)))
theorem lw_ck84 (G : zG) (α β : Nat → Nat) : lw_ck (lw_G G α β) (([] ++ kw11 G α) ++ kw12 G β) 84 := lw_ckE rfl (zcell_o _ _ (rfl : shp 84 = (6, 0)) (by decide))
theorem lw_ck85 (G : zG) (α β : Nat → Nat) : lw_ck (lw_G G α β) (([] ++ kw11 G α) ++ kw12 G β) 85 := lw_ckE rfl (zcell_i _ _ (rfl : shp 85 = (20, 60)))
theorem lw_ck86 (G : zG) (α β : Nat → Nat) : lw_ck (lw_G G α β) (([] ++ kw11 G α) ++ kw12 G β) 86 := lw_ckE rfl (zcell_i _ _ (rfl : shp 86 = (20, 60)))
theorem lw_ck87 (G : zG) (α β : Nat → Nat) : lw_ck (lw_G G α β) (([] ++ kw11 G α) ++ kw12 G β) 87 := lw_ckE rfl (zcell_i _ _ (rfl : shp 87 = (20, 4)))
theorem lw_ck88 (G : zG) (α β : Nat → Nat) : lw_ck (lw_G G α β) (([] ++ kw11 G α) ++ kw12 G β) 88 := lw_ckE rfl (zcell_i _ _ (rfl : shp 88 = (20, 60)))
theorem lw_ck89 (G : zG) (α β : Nat → Nat) : lw_ck (lw_G G α β) (([] ++ kw11 G α) ++ kw12 G β) 89 := lw_ckE rfl (zcell_i _ _ (rfl : shp 89 = (20, 27)))
theorem lw_ck90 (G : zG) (α β : Nat → Nat) : lw_ck (lw_G G α β) (([] ++ kw11 G α) ++ kw12 G β) 90 := lw_ckE rfl (zcell_i _ _ (rfl : shp 90 = (20, 24)))
theorem lw_ck91 (G : zG) (α β : Nat → Nat) : lw_ck (lw_G G α β) (([] ++ kw11 G α) ++ kw12 G β) 91 := lw_ckE rfl (zcell_o _ _ (rfl : shp 91 = (9, 0)) (by decide))
theorem lw_ck92 (G : zG) (α β : Nat → Nat) : lw_ck (lw_G G α β) (([] ++ kw11 G α) ++ kw12 G β) 92 := lw_ckE rfl (zcell_i _ _ (rfl : shp 92 = (20, 24)))
theorem lw_ck93 (G : zG) (α β : Nat → Nat) : lw_ck (lw_G G α β) (([] ++ kw11 G α) ++ kw12 G β) 93 := lw_ckE rfl (zcell_o _ _ (rfl : shp 93 = (9, 0)) (by decide))
theorem lw_ck94 (G : zG) (α β : Nat → Nat) : lw_ck (lw_G G α β) (([] ++ kw11 G α) ++ kw12 G β) 94 := lw_ckE rfl (zcell_i _ _ (rfl : shp 94 = (20, 24)))
theorem lw_ck95 (G : zG) (α β : Nat → Nat) : lw_ck (lw_G G α β) (([] ++ kw11 G α) ++ kw12 G β) 95 := lw_ckE rfl (zcell_o _ _ (rfl : shp 95 = (9, 0)) (by decide))
theorem lw_ck96 (G : zG) (α β : Nat → Nat) : lw_ck (lw_G G α β) (([] ++ kw11 G α) ++ kw12 G β) 96 := lw_ckE rfl (zcell_i _ _ (rfl : shp 96 = (20, 24)))
theorem lw_ck97 (G : zG) (α β : Nat → Nat) : lw_ck (lw_G G α β) (([] ++ kw11 G α) ++ kw12 G β) 97 := lw_ckE rfl (zcell_o _ _ (rfl : shp 97 = (9, 0)) (by decide))
theorem lw_ck98 (G : zG) (α β : Nat → Nat) : lw_ck (lw_G G α β) (([] ++ kw11 G α) ++ kw12 G β) 98 := lw_ckE rfl (zcell_i _ _ (rfl : shp 98 = (20, 24)))
theorem lw_ck99 (G : zG) (α β : Nat → Nat) : lw_ck (lw_G G α β) (([] ++ kw11 G α) ++ kw12 G β) 99 := lw_ckE rfl (zcell_o _ _ (rfl : shp 99 = (9, 0)) (by decide))
theorem lw_ck100 (G : zG) (α β : Nat → Nat) : lw_ck (lw_G G α β) (([] ++ kw11 G α) ++ kw12 G β) 100 := lw_ckE rfl (zcell_i _ _ (rfl : shp 100 = (20, 24)))
theorem lw_ck101 (G : zG) (α β : Nat → Nat) : lw_ck (lw_G G α β) (([] ++ kw11 G α) ++ kw12 G β) 101 := lw_ckE rfl (zcell_o _ _ (rfl : shp 101 = (9, 0)) (by decide))
theorem lw_ck102 (G : zG) (α β : Nat → Nat) : lw_ck (lw_G G α β) (([] ++ kw11 G α) ++ kw12 G β) 102 := lw_ckE rfl (zcell_i _ _ (rfl : shp 102 = (20, 24)))
theorem lw_ck103 (G : zG) (α β : Nat → Nat) : lw_ck (lw_G G α β) (([] ++ kw11 G α) ++ kw12 G β) 103 := lw_ckA (t := 3) (N := 4) rfl (zcell_a _ _ (rfl : shp 103 = (23, 4)) (by decide)) (fun i hi => by rcases (show i = 0 ∨ i = 1 ∨ i = 2 ∨ i = 3 by omega) with rfl | rfl | rfl | rfl <;> rfl)
theorem lw_ck104 (G : zG) (α β : Nat → Nat) : lw_ck (lw_G G α β) (([] ++ kw11 G α) ++ kw12 G β) 104 := lw_ckE rfl (zcell_o _ _ (rfl : shp 104 = (4, 0)) (by decide))
theorem lw_ck105 (G : zG) (α β : Nat → Nat) : lw_ck (lw_G G α β) (([] ++ kw11 G α) ++ kw12 G β) 105 := lw_ckE rfl (zcell_i _ _ (rfl : shp 105 = (20, 24)))
theorem lw_ck106 (G : zG) (α β : Nat → Nat) : lw_ck (lw_G G α β) (([] ++ kw11 G α) ++ kw12 G β) 106 := lw_ckE rfl (zcell_o _ _ (rfl : shp 106 = (4, 0)) (by decide))
theorem lw_ck107 (G : zG) (α β : Nat → Nat) : lw_ck (lw_G G α β) (([] ++ kw11 G α) ++ kw12 G β) 107 := lw_ckE rfl (zcell_i _ _ (rfl : shp 107 = (20, 24)))
theorem lw_ck108 (G : zG) (α β : Nat → Nat) : lw_ck (lw_G G α β) (([] ++ kw11 G α) ++ kw12 G β) 108 := lw_ckE rfl (zcell_o _ _ (rfl : shp 108 = (4, 0)) (by decide))
theorem lw_ck109 (G : zG) (α β : Nat → Nat) : lw_ck (lw_G G α β) (([] ++ kw11 G α) ++ kw12 G β) 109 := lw_ckE rfl (zcell_i _ _ (rfl : shp 109 = (20, 24)))
theorem lw_ck110 (G : zG) (α β : Nat → Nat) : lw_ck (lw_G G α β) (([] ++ kw11 G α) ++ kw12 G β) 110 := lw_ckE rfl (zcell_o _ _ (rfl : shp 110 = (4, 0)) (by decide))
theorem lw_ck111 (G : zG) (α β : Nat → Nat) : lw_ck (lw_G G α β) (([] ++ kw11 G α) ++ kw12 G β) 111 := lw_ckE rfl (zcell_i _ _ (rfl : shp 111 = (20, 24)))
theorem lw_ck112 (G : zG) (α β : Nat → Nat) : lw_ck (lw_G G α β) (([] ++ kw11 G α) ++ kw12 G β) 112 := lw_ckE rfl (zcell_o _ _ (rfl : shp 112 = (1, 0)) (by decide))
theorem lw_ck113 (G : zG) (α β : Nat → Nat) : lw_ck (lw_G G α β) (([] ++ kw11 G α) ++ kw12 G β) 113 := lw_ckE rfl (zcell_i _ _ (rfl : shp 113 = (20, 49)))
theorem lw_ck114 (G : zG) (α β : Nat → Nat) : lw_ck (lw_G G α β) (([] ++ kw11 G α) ++ kw12 G β) 114 := lw_ckE rfl (zcell_i _ _ (rfl : shp 114 = (20, 245)))
theorem lw_ck115 (G : zG) (α β : Nat → Nat) : lw_ck (lw_G G α β) (([] ++ kw11 G α) ++ kw12 G β) 115 := lw_ckE rfl (zcell_i _ _ (rfl : shp 115 = (20, 48)))
theorem lw_ck116 (G : zG) (α β : Nat → Nat) : lw_ck (lw_G G α β) (([] ++ kw11 G α) ++ kw12 G β) 116 := lw_ckE rfl (zcell_o _ _ (rfl : shp 116 = (3, 0)) (by decide))
theorem lw_ck117 (G : zG) (α β : Nat → Nat) : lw_ck (lw_G G α β) (([] ++ kw11 G α) ++ kw12 G β) 117 := lw_ckE rfl (zcell_i _ _ (rfl : shp 117 = (20, 48)))
theorem lw_ck118 (G : zG) (α β : Nat → Nat) : lw_ck (lw_G G α β) (([] ++ kw11 G α) ++ kw12 G β) 118 := lw_ckE rfl (zcell_o _ _ (rfl : shp 118 = (9, 0)) (by decide))
theorem lw_ck119 (G : zG) (α β : Nat → Nat) : lw_ck (lw_G G α β) (([] ++ kw11 G α) ++ kw12 G β) 119 := lw_ckE rfl (zcell_i _ _ (rfl : shp 119 = (20, 24)))
theorem lw_ck120 (G : zG) (α β : Nat → Nat) : lw_ck (lw_G G α β) (([] ++ kw11 G α) ++ kw12 G β) 120 := lw_ckE rfl ((zcell_o _ _ (rfl : shp 120 = (2, 0)) (by decide)).trans (by
  have e1 : (nI 0 : Int32) = 0 := by decide
  have e2 : zsi (nI 0) = 0 := by decide
  simp only [zfs, lw_w0, lw_w0L, lw_f0, List.getD_cons_succ, List.getD_cons_zero, zstr, e1, e2, if_true]
  rfl))
theorem lw_ck121 (G : zG) (α β : Nat → Nat) : lw_ck (lw_G G α β) (([] ++ kw11 G α) ++ kw12 G β) 121 := lw_ckE rfl (zcell_i _ _ (rfl : shp 121 = (20, 60)))
theorem lw_ck122 (G : zG) (α β : Nat → Nat) : lw_ck (lw_G G α β) (([] ++ kw11 G α) ++ kw12 G β) 122 := lw_ckE rfl (zcell_i _ _ (rfl : shp 122 = (20, 60)))
theorem lw_ck123 (G : zG) (α β : Nat → Nat) : lw_ck (lw_G G α β) (([] ++ kw11 G α) ++ kw12 G β) 123 := lw_ckE rfl ((zcell_o _ _ (rfl : shp 123 = (0, 0)) (by decide)).trans (by
  have e1 : (nI 0 : Int32) = 0 := by decide
  have e2 : zsi (nI 0) = 0 := by decide
  simp only [zfs, lw_w0, lw_w0L, lw_f0, List.getD_cons_succ, List.getD_cons_zero, zstr, e1, e2, if_true]
  rfl))
theorem lw_ck124 (G : zG) (α β : Nat → Nat) : lw_ck (lw_G G α β) (([] ++ kw11 G α) ++ kw12 G β) 124 := lw_ckE rfl (zcell_i _ _ (rfl : shp 124 = (20, 27)))
theorem lw_ck125 (G : zG) (α β : Nat → Nat) : lw_ck (lw_G G α β) (([] ++ kw11 G α) ++ kw12 G β) 125 := lw_ckE rfl (zcell_o _ _ (rfl : shp 125 = (5, 0)) (by decide))
theorem lw_ck126 (G : zG) (α β : Nat → Nat) : lw_ck (lw_G G α β) (([] ++ kw11 G α) ++ kw12 G β) 126 := lw_ckE rfl (zcell_i _ _ (rfl : shp 126 = (20, 30)))
theorem lw_ck127 (G : zG) (α β : Nat → Nat) : lw_ck (lw_G G α β) (([] ++ kw11 G α) ++ kw12 G β) 127 := lw_ckE rfl (zcell_i _ _ (rfl : shp 127 = (20, 7)))
theorem lw_ck128 (G : zG) (α β : Nat → Nat) : lw_ck (lw_G G α β) (([] ++ kw11 G α) ++ kw12 G β) 128 := lw_ckE rfl (zcell_o _ _ (rfl : shp 128 = (12, 0)) (by decide))
theorem lw_ck129 (G : zG) (α β : Nat → Nat) : lw_ck (lw_G G α β) (([] ++ kw11 G α) ++ kw12 G β) 129 := lw_ckE rfl (zcell_i _ _ (rfl : shp 129 = (20, 628)))
theorem lw_ck130 (G : zG) (α β : Nat → Nat) : lw_ck (lw_G G α β) (([] ++ kw11 G α) ++ kw12 G β) 130 := lw_ckE rfl (zcell_i _ _ (rfl : shp 130 = (20, 628)))
theorem lw_ck131 (G : zG) (α β : Nat → Nat) : lw_ck (lw_G G α β) (([] ++ kw11 G α) ++ kw12 G β) 131 := lw_ckE rfl (zcell_i _ _ (rfl : shp 131 = (20, 7)))
theorem lw_ck132 (G : zG) (α β : Nat → Nat) : lw_ck (lw_G G α β) (([] ++ kw11 G α) ++ kw12 G β) 132 := lw_ckE rfl (zcell_i _ _ (rfl : shp 132 = (20, 124)))
theorem lw_ck133 (G : zG) (α β : Nat → Nat) : lw_ck (lw_G G α β) (([] ++ kw11 G α) ++ kw12 G β) 133 := lw_ckE rfl (zcell_i _ _ (rfl : shp 133 = (20, 128)))
theorem lw_ck134 (G : zG) (α β : Nat → Nat) : lw_ck (lw_G G α β) (([] ++ kw11 G α) ++ kw12 G β) 134 := lw_ckE rfl (zcell_i _ _ (rfl : shp 134 = (20, 64)))
theorem lw_ck135 (G : zG) (α β : Nat → Nat) : lw_ck (lw_G G α β) (([] ++ kw11 G α) ++ kw12 G β) 135 := lw_ckE rfl (zcell_i _ _ (rfl : shp 135 = (20, 48)))
theorem lw_ck136 (G : zG) (α β : Nat → Nat) : lw_ck (lw_G G α β) (([] ++ kw11 G α) ++ kw12 G β) 136 := lw_ckE rfl (zcell_i _ _ (rfl : shp 136 = (20, 245)))
theorem lw_ck137 (G : zG) (α β : Nat → Nat) : lw_ck (lw_G G α β) (([] ++ kw11 G α) ++ kw12 G β) 137 := lw_ckE rfl (zcell_i _ _ (rfl : shp 137 = (20, 48)))
theorem lw_ck138 (G : zG) (α β : Nat → Nat) : lw_ck (lw_G G α β) (([] ++ kw11 G α) ++ kw12 G β) 138 := lw_ckE rfl (zcell_i _ _ (rfl : shp 138 = (20, 24)))
theorem lw_ck139 (G : zG) (α β : Nat → Nat) : lw_ck (lw_G G α β) (([] ++ kw11 G α) ++ kw12 G β) 139 := lw_ckE rfl (zcell_i _ _ (rfl : shp 139 = (20, 30)))
theorem lw_ck140 (G : zG) (α β : Nat → Nat) : lw_ck (lw_G G α β) (([] ++ kw11 G α) ++ kw12 G β) 140 := lw_ckE rfl (zcell_i _ _ (rfl : shp 140 = (20, 4)))
theorem lw_ck141 (G : zG) (α β : Nat → Nat) : lw_ck (lw_G G α β) (([] ++ kw11 G α) ++ kw12 G β) 141 := lw_ckE rfl (zcell_i _ _ (rfl : shp 141 = (20, 4)))
theorem lw_ck142 (G : zG) (α β : Nat → Nat) : lw_ck (lw_G G α β) (([] ++ kw11 G α) ++ kw12 G β) 142 := lw_ckE rfl (zcell_i _ _ (rfl : shp 142 = (20, 96)))
theorem lw_ck143 (G : zG) (α β : Nat → Nat) : lw_ck (lw_G G α β) (([] ++ kw11 G α) ++ kw12 G β) 143 := lw_ckE rfl (zcell_i _ _ (rfl : shp 143 = (20, 24)))
theorem lw_cks (G : zG) (α β : Nat → Nat) : ∀ k, k < 144 → lw_ck (lw_G G α β) (([] ++ kw11 G α) ++ kw12 G β) k := by
  refine lw_up 143 ?_ (lw_ck143 G α β)
  refine lw_up 142 ?_ (lw_ck142 G α β)
  refine lw_up 141 ?_ (lw_ck141 G α β)
  refine lw_up 140 ?_ (lw_ck140 G α β)
  refine lw_up 139 ?_ (lw_ck139 G α β)
  refine lw_up 138 ?_ (lw_ck138 G α β)
  refine lw_up 137 ?_ (lw_ck137 G α β)
  refine lw_up 136 ?_ (lw_ck136 G α β)
  refine lw_up 135 ?_ (lw_ck135 G α β)
  refine lw_up 134 ?_ (lw_ck134 G α β)
  refine lw_up 133 ?_ (lw_ck133 G α β)
  refine lw_up 132 ?_ (lw_ck132 G α β)
  refine lw_up 131 ?_ (lw_ck131 G α β)
  refine lw_up 130 ?_ (lw_ck130 G α β)
  refine lw_up 129 ?_ (lw_ck129 G α β)
  refine lw_up 128 ?_ (lw_ck128 G α β)
  refine lw_up 127 ?_ (lw_ck127 G α β)
  refine lw_up 126 ?_ (lw_ck126 G α β)
  refine lw_up 125 ?_ (lw_ck125 G α β)
  refine lw_up 124 ?_ (lw_ck124 G α β)
  refine lw_up 123 ?_ (lw_ck123 G α β)
  refine lw_up 122 ?_ (lw_ck122 G α β)
  refine lw_up 121 ?_ (lw_ck121 G α β)
  refine lw_up 120 ?_ (lw_ck120 G α β)
  refine lw_up 119 ?_ (lw_ck119 G α β)
  refine lw_up 118 ?_ (lw_ck118 G α β)
  refine lw_up 117 ?_ (lw_ck117 G α β)
  refine lw_up 116 ?_ (lw_ck116 G α β)
  refine lw_up 115 ?_ (lw_ck115 G α β)
  refine lw_up 114 ?_ (lw_ck114 G α β)
  refine lw_up 113 ?_ (lw_ck113 G α β)
  refine lw_up 112 ?_ (lw_ck112 G α β)
  refine lw_up 111 ?_ (lw_ck111 G α β)
  refine lw_up 110 ?_ (lw_ck110 G α β)
  refine lw_up 109 ?_ (lw_ck109 G α β)
  refine lw_up 108 ?_ (lw_ck108 G α β)
  refine lw_up 107 ?_ (lw_ck107 G α β)
  refine lw_up 106 ?_ (lw_ck106 G α β)
  refine lw_up 105 ?_ (lw_ck105 G α β)
  refine lw_up 104 ?_ (lw_ck104 G α β)
  refine lw_up 103 ?_ (lw_ck103 G α β)
  refine lw_up 102 ?_ (lw_ck102 G α β)
  refine lw_up 101 ?_ (lw_ck101 G α β)
  refine lw_up 100 ?_ (lw_ck100 G α β)
  refine lw_up 99 ?_ (lw_ck99 G α β)
  refine lw_up 98 ?_ (lw_ck98 G α β)
  refine lw_up 97 ?_ (lw_ck97 G α β)
  refine lw_up 96 ?_ (lw_ck96 G α β)
  refine lw_up 95 ?_ (lw_ck95 G α β)
  refine lw_up 94 ?_ (lw_ck94 G α β)
  refine lw_up 93 ?_ (lw_ck93 G α β)
  refine lw_up 92 ?_ (lw_ck92 G α β)
  refine lw_up 91 ?_ (lw_ck91 G α β)
  refine lw_up 90 ?_ (lw_ck90 G α β)
  refine lw_up 89 ?_ (lw_ck89 G α β)
  refine lw_up 88 ?_ (lw_ck88 G α β)
  refine lw_up 87 ?_ (lw_ck87 G α β)
  refine lw_up 86 ?_ (lw_ck86 G α β)
  refine lw_up 85 ?_ (lw_ck85 G α β)
  refine lw_up 84 ?_ (lw_ck84 G α β)
  refine lw_up 83 ?_ (lw_ck83 G α β)
  refine lw_up 82 ?_ (lw_ck82 G α β)
  refine lw_up 81 ?_ (lw_ck81 G α β)
  refine lw_up 80 ?_ (lw_ck80 G α β)
  refine lw_up 79 ?_ (lw_ck79 G α β)
  refine lw_up 78 ?_ (lw_ck78 G α β)
  refine lw_up 77 ?_ (lw_ck77 G α β)
  refine lw_up 76 ?_ (lw_ck76 G α β)
  refine lw_up 75 ?_ (lw_ck75 G α β)
  refine lw_up 74 ?_ (lw_ck74 G α β)
  refine lw_up 73 ?_ (lw_ck73 G α β)
  refine lw_up 72 ?_ (lw_ck72 G α β)
  refine lw_up 71 ?_ (lw_ck71 G α β)
  refine lw_up 70 ?_ (lw_ck70 G α β)
  refine lw_up 69 ?_ (lw_ck69 G α β)
  refine lw_up 68 ?_ (lw_ck68 G α β)
  refine lw_up 67 ?_ (lw_ck67 G α β)
  refine lw_up 66 ?_ (lw_ck66 G α β)
  refine lw_up 65 ?_ (lw_ck65 G α β)
  refine lw_up 64 ?_ (lw_ck64 G α β)
  refine lw_up 63 ?_ (lw_ck63 G α β)
  refine lw_up 62 ?_ (lw_ck62 G α β)
  refine lw_up 61 ?_ (lw_ck61 G α β)
  refine lw_up 60 ?_ (lw_ck60 G α β)
  refine lw_up 59 ?_ (lw_ck59 G α β)
  refine lw_up 58 ?_ (lw_ck58 G α β)
  refine lw_up 57 ?_ (lw_ck57 G α β)
  refine lw_up 56 ?_ (lw_ck56 G α β)
  refine lw_up 55 ?_ (lw_ck55 G α β)
  refine lw_up 54 ?_ (lw_ck54 G α β)
  refine lw_up 53 ?_ (lw_ck53 G α β)
  refine lw_up 52 ?_ (lw_ck52 G α β)
  refine lw_up 51 ?_ (lw_ck51 G α β)
  refine lw_up 50 ?_ (lw_ck50 G α β)
  refine lw_up 49 ?_ (lw_ck49 G α β)
  refine lw_up 48 ?_ (lw_ck48 G α β)
  refine lw_up 47 ?_ (lw_ck47 G α β)
  refine lw_up 46 ?_ (lw_ck46 G α β)
  refine lw_up 45 ?_ (lw_ck45 G α β)
  refine lw_up 44 ?_ (lw_ck44 G α β)
  refine lw_up 43 ?_ (lw_ck43 G α β)
  refine lw_up 42 ?_ (lw_ck42 G α β)
  refine lw_up 41 ?_ (lw_ck41 G α β)
  refine lw_up 40 ?_ (lw_ck40 G α β)
  refine lw_up 39 ?_ (lw_ck39 G α β)
  refine lw_up 38 ?_ (lw_ck38 G α β)
  refine lw_up 37 ?_ (lw_ck37 G α β)
  refine lw_up 36 ?_ (lw_ck36 G α β)
  refine lw_up 35 ?_ (lw_ck35 G α β)
  refine lw_up 34 ?_ (lw_ck34 G α β)
  refine lw_up 33 ?_ (lw_ck33 G α β)
  refine lw_up 32 ?_ (lw_ck32 G α β)
  refine lw_up 31 ?_ (lw_ck31 G α β)
  refine lw_up 30 ?_ (lw_ck30 G α β)
  refine lw_up 29 ?_ (lw_ck29 G α β)
  refine lw_up 28 ?_ (lw_ck28 G α β)
  refine lw_up 27 ?_ (lw_ck27 G α β)
  refine lw_up 26 ?_ (lw_ck26 G α β)
  refine lw_up 25 ?_ (lw_ck25 G α β)
  refine lw_up 24 ?_ (lw_ck24 G α β)
  refine lw_up 23 ?_ (lw_ck23 G α β)
  refine lw_up 22 ?_ (lw_ck22 G α β)
  refine lw_up 21 ?_ (lw_ck21 G α β)
  refine lw_up 20 ?_ (lw_ck20 G α β)
  refine lw_up 19 ?_ (lw_ck19 G α β)
  refine lw_up 18 ?_ (lw_ck18 G α β)
  refine lw_up 17 ?_ (lw_ck17 G α β)
  refine lw_up 16 ?_ (lw_ck16 G α β)
  refine lw_up 15 ?_ (lw_ck15 G α β)
  refine lw_up 14 ?_ (lw_ck14 G α β)
  refine lw_up 13 ?_ (lw_ck13 G α β)
  refine lw_up 12 ?_ (lw_ck12 G α β)
  refine lw_up 11 ?_ (lw_ck11 G α β)
  refine lw_up 10 ?_ (lw_ck10 G α β)
  refine lw_up 9 ?_ (lw_ck9 G α β)
  refine lw_up 8 ?_ (lw_ck8 G α β)
  refine lw_up 7 ?_ (lw_ck7 G α β)
  refine lw_up 6 ?_ (lw_ck6 G α β)
  refine lw_up 5 ?_ (lw_ck5 G α β)
  refine lw_up 4 ?_ (lw_ck4 G α β)
  refine lw_up 3 ?_ (lw_ck3 G α β)
  refine lw_up 2 ?_ (lw_ck2 G α β)
  refine lw_up 1 ?_ (lw_ck1 G α β)
  refine lw_up 0 ?_ (lw_ck0 G α β)
  exact fun k h => absurd h (Nat.not_lt_zero k)
