abbrev zW : Type := Nat → Nat → Int32
def zlet {α β : Type} (a : α) (f : α → β) : β := f a
def zset (w : zW) (k : Nat) (f : Nat → Int32) : zW := fun j => if j = k then f else w j
def zupd (w : zW) (k i : Nat) (v : Int32) : zW := zset w k (upd (w k) i v)
def zin (i : Int32) (n : Nat) : Bool := decide (¬ (i < 0 ∨ n ≤ i.toNatClampNeg))
def mI (n : Nat) : Int32 := -(nI n)
def zb {α β : Type} (x : Option α) (f : α → Option β) : Option β := match x with | none => none | some a => f a
def zb2 {α β γ : Type} (x : Option (α × β)) (f : α → β → Option γ) : Option γ := match x with | none => none | some q => f q.1 q.2
def zld {β : Type} (w : zW) (k n : Nat) (i : Int32) (f : Int32 → Option β) : Option β := if zin i n = true then f (w k i.toNatClampNeg) else none
def zsto {β : Type} (w : zW) (k n : Nat) (i v : Int32) (f : zW → Option β) : Option β := if zin i n = true then f (zupd w k i.toNatClampNeg v) else none
def zguard {β : Type} (b : Bool) (x : Option β) : Option β := if b = true then x else none
def zbool (x : Int32) : Bool := decide (x = 0 ∨ x = 1)
def zcpyok (sp dp n : Int32) (n0 n1 : Nat) : Bool := decide (¬ sp < 0 ∧ ¬ dp < 0 ∧ ¬ n < 0 ∧ sp.toNatClampNeg + n.toNatClampNeg ≤ n0 ∧ dp.toNatClampNeg + n.toNatClampNeg ≤ n1)
def zcopy (w : zW) (a b : Nat) (sp dp n : Int32) : zW := zset w b (va_cpy (w a) (w b) sp.toNatClampNeg dp.toNatClampNeg n.toNatClampNeg)
def ztabL : Nat → List Int32
  | 0 => [mI 1, nI 0, nI 0, nI 0, nI 1, nI 3, nI 0]
  | 1 => [nI 1, nI 2, nI 3, nI 4, nI 0]
  | 2 => [nI 1, nI 2, nI 4, nI 12, nI 16]
  | _ => [nI 10, nI 20, nI 0, nI 0, nI 50, nI 0, nI 70, nI 11, nI 0, nI 30, nI 0, nI 0, nI 60, nI 71, nI 12, nI 0, nI 0, nI 40, nI 51, nI 0, nI 0, nI 13, nI 21, nI 0, nI 0, nI 0, nI 0, nI 0]
def ztab (t j : Nat) : Int32 := (ztabL t).getD j 0
def ztld {β : Type} (t n : Nat) (i : Int32) (f : Int32 → Option β) : Option β := if zin i n = true then f (ztab t i.toNatClampNeg) else none
theorem zin_vp {i : Int32} {n : Nat} (h : zin i n = true) : vp_in i n := (of_decide_eq_true h : ¬ (i < 0 ∨ n ≤ i.toNatClampNeg))
theorem zb_some {α β : Type} {x : Option α} {f : α → Option β} {r : β} (h : zb x f = some r) : ∃ a, x = some a ∧ f a = some r := by
  cases x with
  | none => cases h
  | some a => exact ⟨a, rfl, h⟩
theorem zb2_some {α β γ : Type} {x : Option (α × β)} {f : α → β → Option γ} {r : γ} (h : zb2 x f = some r) : ∃ a b, x = some (a, b) ∧ f a b = some r := by
  cases x with
  | none => cases h
  | some q => exact ⟨q.1, q.2, rfl, h⟩
theorem zite_some {β : Type} {b : Bool} {x : Option β} {r : β} (h : (if b = true then x else none) = some r) : b = true ∧ x = some r := by
  by_cases hb : b = true
  · rw [if_pos hb] at h; exact ⟨hb, h⟩
  · rw [if_neg hb] at h; cases h
def zNC : Nat := 144
def shpL : List (Nat × Nat) := [(11, 0), (8, 0), (21, 6), (7, 0), (22, 12), (10, 0), (20, 6), (10, 0), (20, 6), (10, 0), (20, 6), (10, 0), (20, 6), (10, 0), (20, 6), (10, 0), (20, 6), (10, 0), (20, 6), (10, 0), (20, 6), (10, 0), (20, 6), (10, 0), (20, 6), (10, 0), (20, 6), (10, 0), (20, 6), (6, 0), (20, 60), (20, 60), (20, 4), (6, 0), (20, 60), (20, 60), (20, 4), (20, 60), (20, 27), (20, 24), (9, 0), (20, 24), (9, 0), (20, 24), (9, 0), (20, 24), (9, 0), (20, 24), (9, 0), (20, 24), (9, 0), (20, 24), (8, 0), (21, 6), (7, 0), (22, 12), (10, 0), (20, 6), (10, 0), (20, 6), (10, 0), (20, 6), (10, 0), (20, 6), (10, 0), (20, 6), (10, 0), (20, 6), (10, 0), (20, 6), (10, 0), (20, 6), (10, 0), (20, 6), (10, 0), (20, 6), (10, 0), (20, 6), (10, 0), (20, 6), (6, 0), (20, 60), (20, 60), (20, 4), (6, 0), (20, 60), (20, 60), (20, 4), (20, 60), (20, 27), (20, 24), (9, 0), (20, 24), (9, 0), (20, 24), (9, 0), (20, 24), (9, 0), (20, 24), (9, 0), (20, 24), (9, 0), (20, 24), (23, 4), (4, 0), (20, 24), (4, 0), (20, 24), (4, 0), (20, 24), (4, 0), (20, 24), (1, 0), (20, 49), (20, 245), (20, 48), (3, 0), (20, 48), (9, 0), (20, 24), (2, 0), (20, 60), (20, 60), (0, 0), (20, 27), (5, 0), (20, 30), (20, 7), (12, 0), (20, 628), (20, 628), (20, 7), (20, 124), (20, 128), (20, 64), (20, 48), (20, 245), (20, 48), (20, 24), (20, 30), (20, 4), (20, 4), (20, 96), (20, 24)]
def shp (k : Nat) : Nat × Nat := shpL.getD k (99, 0)
theorem shp_lt {k t n : Nat} (h : shp k = (t, n)) (ht : t < 99) : k < zNC := by
  rcases Nat.lt_or_ge k zNC with q | q
  · exact q
  · have : shpL.length ≤ k := q
    rw [shp, List.getD_eq_getElem?_getD, List.getElem?_eq_none this] at h
    have h1 : (99 : Nat) = t := congrArg Prod.fst h
    omega
abbrev zG : Type := va_G × (Nat → Nat) × (Nat → ClassId) × (Nat → Nat) × (Nat → Nat) × (Nat → Nat)
def zD (G : zG) : va_G := G.1
def zα (G : zG) (k : Nat) : Nat := G.2.1 k
def zcl (G : zG) (k : Nat) : ClassId := G.2.2.1 k
def zsa (G : zG) (k : Nat) : Nat := G.2.2.2.1 k
def zaK (G : zG) (k : Nat) : Nat := G.2.2.2.2.1 k
def zaV (G : zG) (k : Nat) : Nat := G.2.2.2.2.2 k
def zsi (c : Int32) : Nat := if c = 1 then 1 else if c = 2 then 2 else 0
def zstr (G : zG) (c : Int32) : Nat := zaK G (zsi c)
def zslen (c : Int32) : Nat := [0, 4, 3].getD (zsi c) 0
def zsch (c : Int32) (j : Nat) : Int32 := (([[], [108, 105, 110, 109], [108, 115, 104]] : List (List Int32)).getD (zsi c) []).getD j 0
def zbld {β : Type} (c i : Int32) (f : Int32 → Option β) : Option β := if zin i (zslen c) = true then f (zsch c i.toNatClampNeg) else none
abbrev zclasses : List vw_C := [(RX0, TX0, 6), (RX1, TX1, 4), (RX2, TX2, 7), (RX3, TX3, 2), (RX4, TX4, 3), (RX5, TX5, 6), (RX6, TX6, 4), (RX7, TX7, 2), (RX8, TX8, 13), (RX9, TX9, 4), (RX10, TX10, 3), (RX11, TX11, 11), (RX12, TX12, 28)]
abbrev ztys (G : zG) : List (ClassId × FieldType) := [(zcl G 0, .int), (zcl G 1, .object RX9), (zcl G 2, .object RX10), (zcl G 3, .object RX4)]
def zstep : Nat → Nat
  | 21 => 38
  | _ => 1
def zfs (G : zG) (r : Nat → Int32) (k : Nat) : Nat → List Value
  | 0 => [.ref (zα G (k + 1)), (if r 1 = 0 then .null else .ref (zα G 3)), .int (r 2), .int (r 3), .int (r 4), .int (r 5)]
  | 1 => [.ref (zα G (k + 1)), .ref (zα G (k + 2)), .ref (zα G (k + 3)), .int (r 3)]
  | 2 => [.ref (zα G (k + 1)), .ref (zα G (k + 2)), .int (r 2), .int (r 3), .int (r 4), .int (r 5), .ref (zstr G (r 6))]
  | 3 => [.ref (zα G (k + 1)), .int (r 1)]
  | 4 => [.ref (zα G (k + 1)), .int (r 1), .int (r 2)]
  | 5 => [.ref (zα G (k + 1)), .int (r 1), .int (r 2), .int (r 3), .int (r 4), .int (r 5)]
  | 6 => [.ref (zα G (k + 1)), .ref (zα G (k + 2)), .ref (zα G (k + 3)), .int (r 3)]
  | 7 => [.ref (zα G (k + 1)), .int (r 1)]
  | 8 => [.ref (zα G (k + 1)), .ref (zα G (k + 2)), .ref (zα G (k + 28)), .ref (zα G (k + 32)), .ref (zα G (k + 36)), .ref (zα G (k + 37)), .ref (zα G (k + 38)), .int (r 7), .int (r 8), .int (r 9), .int (r 10), .int (r 11), .int (r 12)]
  | 9 => [.ref (zα G (k + 1)), .int (r 1), .int (r 2), .int (r 3)]
  | 10 => [.ref (zα G (k + 1)), .int (r 1), .int (r 2)]
  | 11 => [.ref (zα G (k + 1)), .ref (zα G (k + 52)), .ref (zα G (k + 103)), .ref (zα G (k + 112)), .ref (zα G (k + 116)), .ref (zα G (k + 118)), .ref (zα G (k + 120)), .ref (zα G (k + 123)), .ref (zα G (k + 125)), .ref (zα G (k + 127)), .int (r 10)]
  | 12 => [.ref (zα G (k + 1)), .ref (zα G (k + 2)), .int (r 2), .ref (zα G (k + 3)), .int (r 4), .int (r 5), .int (r 6), .int (r 7), .ref (zα G (k + 4)), .ref (zα G (k + 5)), .ref (zα G (k + 6)), .ref (zα G (k + 7)), .int (r 12), .ref (zα G (k + 8)), .ref (zα G (k + 9)), .int (r 15), .ref (zα G (k + 10)), .int (r 17), .int (r 18), .int (r 19), .ref (zα G (k + 11)), .int (r 21), .int (r 22), .int (r 23), .ref (zα G (k + 12)), .ref (zα G (k + 13)), .ref (zα G (k + 14)), .ref (zα G (k + 15))]
  | _ => []
def zcell (G : zG) (r : Nat → Int32) (k : Nat) : va_E := if (shp k).1 < 20 then .inr ((shp k).1, zfs G r k (shp k).1) else if (shp k).1 = 20 then .inl (zcl G 0, (shp k).2, .inl r) else .inl (zcl G ((shp k).1 - 20), (shp k).2, .inr (.inr (.inr (.inr (fun i => some (zα G (k + zstep (shp k).1 + 2 * i)))))))
def zP (G : zG) (w : zW) : va_W := (List.range zNC).map (fun k => (zα G k, zcell G (w k) k))
def zgood (G : zG) : Prop := ∀ i j : Nat, i < zNC → j < zNC → zα G i = zα G j → i = j
def zA (G : zG) : Nat → Prop := fun q => ∃ k : Nat, k < zNC ∧ q = zα G k
def zNF : List (String × Nat × String) := [(RX0, 61, "COMES_IN"), (RX0, 73, "LEADS_TO"), (RX1, 57, "LEADS_TO"), (RX1, 44, "COMES_IN"), (RX5, 40, "BODIES"), (RX5, 47, "ABOVE")]
def zNM : List (String × Nat × MethodName) := [(RX8, 96, yX11_isUnder), (RX3, 31, yX11_isLetter)]
def zS (G : zG) (A : Nat → Prop) (U : State) (H : Heap) : Prop :=
  va_Z "LetterWalls" "ABOVE" "[I" (.ref (zsa G 0)) A U H ∧ va_T .int (zsa G 0) 7 (fun j => .int (ztab 0 j)) A U H ∧ va_Z "LetterWalls" "LEADS_TO" "[I" (.ref (zsa G 1)) A U H ∧ va_T .int (zsa G 1) 5 (fun j => .int (ztab 1 j)) A U H ∧ va_Z "LetterWalls" "COMES_IN" "[I" (.ref (zsa G 2)) A U H ∧ va_T .int (zsa G 2) 5 (fun j => .int (ztab 2 j)) A U H ∧ va_Z "LetterWalls" "BODIES" "[I" (.ref (zsa G 3)) A U H ∧ va_T .int (zsa G 3) 28 (fun j => .int (ztab 3 j)) A U H ∧ va_Z "java/lang/String" "COMPACT_STRINGS" "Z" (.int 1) A U H ∧ vk_S 3 [0, 4, 3] [[], [108, 105, 110, 109], [108, 115, 104]] (zaK G) (zaV G) A U H ∧ vk_R "LetterWalls$Parser" 18 "" (zaK G 0) U ∧ vk_R "LetterWalls" 167 "linm" (zaK G 1) U ∧ vk_R "LetterWalls" 169 "lsh" (zaK G 2) U ∧ (∀ q ∈ zNF, va_Nw (.fieldLinkNest q.1 q.2.1 RX11 q.2.2 "[I" RX11) U) ∧ (∀ q ∈ zNM, va_Nw (.methodLinkNest q.1 q.2.1 q.2.2 RX11) U)
theorem zP_at (G : zG) (w : zW) {k : Nat} (h : k < zNC) : (zP G w)[k]? = some (zα G k, zcell G (w k) k) := by
  rw [zP, List.getElem?_map, List.getElem?_range h]; rfl
theorem zcell_o (G : zG) (r : Nat → Int32) {k t n : Nat} (h : shp k = (t, n)) (ht : t < 20) : zcell G r k = .inr (t, zfs G r k t) := by
  rw [zcell, h]; exact if_pos ht
theorem zcell_i (G : zG) (r : Nat → Int32) {k n : Nat} (h : shp k = (20, n)) : zcell G r k = .inl (zcl G 0, n, .inl r) := by
  rw [zcell, h]; rfl
theorem zcell_a (G : zG) (r : Nat → Int32) {k t n : Nat} (h : shp k = (t, n)) (ht : 20 < t) : zcell G r k = .inl (zcl G (t - 20), n, .inr (.inr (.inr (.inr (fun i => some (zα G (k + zstep t + 2 * i))))))) := by
  rw [zcell, h]
  show (if t < 20 then _ else if t = 20 then _ else _) = _
  rw [if_neg (by omega), if_neg (by omega)]
theorem zP_len (G : zG) (w : zW) : (zP G w).length = zNC := by simp [zP]
theorem zP_set (G : zG) (w : zW) {k : Nat} (hk : k < zNC) (f : Nat → Int32) (c : va_E) (hc : zcell G f k = c) : (zP G w).set k (zα G k, c) = zP G (zset w k f) := by
  subst hc
  apply List.ext_getElem?
  intro j
  by_cases hj : j < zNC
  · by_cases e : j = k
    · subst e
      rw [List.getElem?_set_self (by rw [zP_len]; exact hj), zP_at G _ hj]
      simp [zset]
    · rw [List.getElem?_set_ne (Ne.symm e), zP_at G _ hj, zP_at G _ hj]
      simp [zset, e]
  · rw [List.getElem?_eq_none (by rw [List.length_set, zP_len]; omega), List.getElem?_eq_none (by rw [zP_len]; omega)]
theorem zall {P : Nat → Prop} {t n : Nat} (h : ∀ k, k < zNC → shp k = (t, n) → P k) (ht : t < 99) : ∀ k, shp k = (t, n) → P k := fun k hk => h k (shp_lt hk ht) hk
theorem zallA {t n st : Nat} {q : Nat × Nat} (h : ∀ k, k < zNC → shp k = (t, n) → ∀ i, i < n → shp (k + st + 2 * i) = q) (ht : t < 99) (k : Nat) (hk : shp k = (t, n)) (i : Int32) (hi : zin i n = true) : shp (k + st + 2 * i.toNatClampNeg) = q :=
  h k (shp_lt hk ht) hk _ (Nat.not_le.mp fun e => zin_vp hi (Or.inr e))
theorem zD_of {G : zG} (hg : zgood G) {A : Nat → Prop} (hA : ∀ k : Nat, k < zNC → A (zα G k)) (w : zW) : va_D A (zP G w) := by
  refine ⟨fun i j p q hi hj e => ?_, fun k q hk => ?_⟩
  · have h1 : i < zNC := by have := (List.getElem?_eq_some_iff.mp hi).1; rwa [zP_len] at this
    have h2 : j < zNC := by have := (List.getElem?_eq_some_iff.mp hj).1; rwa [zP_len] at this
    rw [zP_at G w h1] at hi
    rw [zP_at G w h2] at hj
    cases hi; cases hj
    exact hg i j h1 h2 e
  · have h1 : k < zNC := by have := (List.getElem?_eq_some_iff.mp hk).1; rwa [zP_len] at this
    rw [zP_at G w h1] at hk
    cases hk
    exact hA k h1
theorem zS.moved {G : zG} {A : Nat → Prop} {s U : State} {H : Heap} (hW : s.WarmedH U.vm) (h : zS G A s H) : zS G A U H := by
  obtain ⟨a1, a2, a3, a4, a5, a6, a7, a8, b1, b2, b3, b4, b5, n1, n2⟩ := h
  have hv := hW.alike
  exact ⟨a1.moved hv, a2.moved hv, a3.moved hv, a4.moved hv, a5.moved hv, a6.moved hv, a7.moved hv, a8.moved hv, b1.moved hv, b2.moved hv, b3.warm hW, b4.warm hW, b5.warm hW, fun q hq => va_Nw.warmF hW (n1 q hq), fun q hq => va_Nw.warmM hW (n2 q hq)⟩
theorem zS.same {G : zG} {A : Nat → Prop} {s U : State} {H : Heap} (hv : U.vm = s.vm) (h : zS G A s H) : zS G A U H := by
  obtain ⟨a1, a2, a3, a4, a5, a6, a7, a8, b1, b2, b3, b4, b5, n1, n2⟩ := h
  have ha : s.vm.Alike U.vm := by rw [hv]; exact Vm.Alike.refl _
  exact ⟨a1.moved ha, a2.moved ha, a3.moved ha, a4.moved ha, a5.moved ha, a6.moved ha, a7.moved ha, a8.moved ha, b1.moved ha, b2.moved ha, b3.same hv, b4.same hv, b5.same hv, fun q hq => va_Nw.same rfl hv.symm (n1 q hq), fun q hq => va_Nw.same rfl hv.symm (n2 q hq)⟩
theorem zS.kept {G : zG} {A : Nat → Prop} {U : State} {H H1 : Heap} (h : zS G A U H) (hq : ∀ a : Nat, a < H.size → ¬ A a → H1[a]? = H[a]?) : zS G A U H1 := by
  obtain ⟨a1, a2, a3, a4, a5, a6, a7, a8, b1, b2, b3, b4, b5, n1, n2⟩ := h
  exact ⟨a1.kept hq, a2.kept hq, a3.kept hq, a4.kept hq, a5.kept hq, a6.kept hq, a7.kept hq, a8.kept hq, b1.kept hq, b2.kept hq, b3, b4, b5, n1, n2⟩
theorem zS.narrow {G : zG} {A B : Nat → Prop} {U : State} {H : Heap} (h : zS G A U H) (hq : ∀ a : Nat, B a → A a) : zS G B U H := by
  obtain ⟨a1, a2, a3, a4, a5, a6, a7, a8, b1, b2, b3, b4, b5, n1, n2⟩ := h
  exact ⟨a1.narrow hq, a2.narrow hq, a3.narrow hq, a4.narrow hq, a5.narrow hq, a6.narrow hq, a7.narrow hq, a8.narrow hq, b1.narrow hq, b2.narrow hq, b3, b4, b5, n1, n2⟩
def zhas (ls : Array Slot) (L : List (Option Value)) : Prop := ls.size = L.length ∧ lv_wf ls ∧ ∀ (i : Nat) (v : Value), L[i]? = some (some v) → ls[i]? = some (.val v)
def zls (L : List (Option Value)) : List (Nat × Value) := (List.range L.length).filterMap fun i => match L[i]? with
  | some (some v) => some (i, v)
  | _ => none
theorem zhas.toLv {ls : Array Slot} {L : List (Option Value)} (h : zhas ls L) : lv_has ls L.length (zls L) := by
  refine ⟨h.1, h.2.1, fun q hq => ?_⟩
  obtain ⟨i, -, hi⟩ := List.mem_filterMap.mp hq
  cases e : L[i]? with
  | none => rw [e] at hi; cases hi
  | some o =>
    cases o with
    | none => rw [e] at hi; cases hi
    | some v =>
      rw [e] at hi
      cases hi
      exact h.2.2 i v e
def zno2 (L : List (Option Value)) : Nat → Bool
  | 0 => true
  | i + 1 => match L[i]? with
    | some (some v) => v.category == 1
    | _ => true
theorem zhas.store {ls ls' : Array Slot} {L : List (Option Value)} {i : Nat} {v : Value} (h : zhas ls L) (hn : zno2 L i = true)
    (h' : lv_has ls' L.length ((i, v) :: (zls L).filter (fun q => !(q.1 == i) && !(q.1 + 1 == i && q.2.category == 2)))) : zhas ls' (L.set i (some v)) := by
  refine ⟨by rw [List.length_set]; exact h'.1, h'.2.1, fun j u hj => ?_⟩
  by_cases e : j = i
  · subst e
    by_cases hl : j < L.length
    · rw [List.getElem?_set_self hl] at hj
      cases hj
      exact h'.2.2 (j, v) List.mem_cons_self
    · rw [List.getElem?_eq_none (by rw [List.length_set]; omega)] at hj
      cases hj
  · rw [List.getElem?_set_ne (Ne.symm e)] at hj
    refine h'.2.2 (j, u) (List.mem_cons_of_mem _ (List.mem_filter.mpr ⟨?_, ?_⟩))
    · have hl : j < L.length := (List.getElem?_eq_some_iff.mp hj).1
      exact List.mem_filterMap.mpr ⟨j, List.mem_range.mpr hl, by rw [hj]⟩
    · simp only [Bool.and_eq_true, Bool.not_eq_true', beq_eq_false_iff_ne, ne_eq, Bool.and_eq_false_iff]
      refine ⟨e, ?_⟩
      by_cases e2 : j + 1 = i
      · subst e2
        right
        simp only [zno2, hj] at hn
        have : u.category = 1 := by simpa using hn
        omega
      · exact Or.inl e2
def zsub : List (Option Value) → List (Option Value) → Prop
  | [], [] => True
  | none :: a, _ :: b => zsub a b
  | some v :: a, some u :: b => v = u ∧ zsub a b
  | _, _ => False
theorem zsub_spec : ∀ (L1 L2 : List (Option Value)), zsub L1 L2 → L1.length = L2.length ∧ ∀ (i : Nat) (v : Value), L1[i]? = some (some v) → L2[i]? = some (some v)
  | [], [], _ => ⟨rfl, fun i v h => by cases h⟩
  | [], _ :: _, h => by cases h
  | none :: a, [], h => by cases h
  | some v :: a, [], h => by cases h
  | none :: a, x :: b, h => by
    obtain ⟨h1, h2⟩ := zsub_spec a b h
    refine ⟨by simp [h1], fun i v hi => ?_⟩
    cases i with
    | zero => cases hi
    | succ i => exact h2 i v hi
  | some v :: a, none :: b, h => by cases h
  | some v :: a, some u :: b, h => by
    obtain ⟨hvu, h⟩ := h
    subst hvu
    obtain ⟨h1, h2⟩ := zsub_spec a b h
    refine ⟨by simp [h1], fun i v hi => ?_⟩
    cases i with
    | zero => exact hi
    | succ i => exact h2 i v hi
abbrev zX : Type := Program × Launch × Env × Room × State × MethodId × Array Value × List Frame × Method × Code × (Nat → Prop) × Nat × Nat × (State → Prop)
def zZ (G : zG) (X : zX) (w : zW) (pc : Nat) (L : List (Option Value)) (st : List Value) : Prop := match X with
  | (p, l, e, R, s, m, args, below, meth, c, A, cells, slots, Q) => ∀ (H : Heap) (locs : List Loc) (ls : Array Slot), va_P (zD G) zclasses (zP G w) H → va_S A s.heap H locs → zhas ls L → W p l e R s m args below meth c H locs cells slots Q (F0 m pc ls st)
def zOk (G : zG) (X : zX) (cc : ByteArray) (nL : Nat) (own : String) (h : Nat) : Prop := match X with
  | (p, l, e, R, s, m, args, below, meth, c, A, cells, slots, Q) => p.tables.exec = Jvm.exec ∧ c.code = cc ∧ c.maxLocals = nL ∧ s.vm.findClass own = some m.cls ∧ (∀ q ∈ WS, q.before args s = true) ∧ va_K (zD G) zclasses (ztys G) s ∧ zS G A s s.heap ∧ zgood G ∧ (∀ k : Nat, k < zNC → A (zα G k)) ∧ h ≤ R.frames ∧ 40 * h ≤ R.locals ∧ cells ≤ R.cells ∧ slots ≤ R.slots
theorem z_weak {G : zG} {X : zX} {w : zW} {pc : Nat} {L L' : List (Option Value)} {st : List Value} (h : zsub L' L) (k : zZ G X w pc L' st) : zZ G X w pc L st := by
  obtain ⟨p, l, e, R, s, m, args, below, meth, c, A, cells, slots, Q⟩ := X
  obtain ⟨h1, h2⟩ := zsub_spec _ _ h
  intro H locs ls hP hS hl
  exact k H locs ls hP hS ⟨hl.1.trans h1.symm, hl.2.1, fun i v hi => hl.2.2 i v (h2 i v hi)⟩
theorem z_eq {G : zG} {X : zX} {w : zW} {pc : Nat} {L L' : List (Option Value)} {st st' : List Value} (hL : L = L') (hs : st = st') (k : zZ G X w pc L' st') : zZ G X w pc L st := by
  subst hL; subst hs; exact k

theorem zf0_2 (G : zG) (r : Nat → Int32) (k : Nat) (v : Int32) : zfs G (upd r 2 v) k 0 = (zfs G r k 0).set 2 (.int v) := by simp [zfs, upd]
theorem zf0_3 (G : zG) (r : Nat → Int32) (k : Nat) (v : Int32) : zfs G (upd r 3 v) k 0 = (zfs G r k 0).set 3 (.int v) := by simp [zfs, upd]
theorem zf0_4 (G : zG) (r : Nat → Int32) (k : Nat) (v : Int32) : zfs G (upd r 4 v) k 0 = (zfs G r k 0).set 4 (.int v) := by simp [zfs, upd]
theorem zf0_5 (G : zG) (r : Nat → Int32) (k : Nat) (v : Int32) : zfs G (upd r 5 v) k 0 = (zfs G r k 0).set 5 (.int v) := by simp [zfs, upd]
theorem zf1_3 (G : zG) (r : Nat → Int32) (k : Nat) (v : Int32) : zfs G (upd r 3 v) k 1 = (zfs G r k 1).set 3 (.int v) := by simp [zfs, upd]
theorem zf2_2 (G : zG) (r : Nat → Int32) (k : Nat) (v : Int32) : zfs G (upd r 2 v) k 2 = (zfs G r k 2).set 2 (.int v) := by simp [zfs, upd]
theorem zf2_3 (G : zG) (r : Nat → Int32) (k : Nat) (v : Int32) : zfs G (upd r 3 v) k 2 = (zfs G r k 2).set 3 (.int v) := by simp [zfs, upd]
theorem zf2_4 (G : zG) (r : Nat → Int32) (k : Nat) (v : Int32) : zfs G (upd r 4 v) k 2 = (zfs G r k 2).set 4 (.int v) := by simp [zfs, upd]
theorem zf2_5 (G : zG) (r : Nat → Int32) (k : Nat) (v : Int32) : zfs G (upd r 5 v) k 2 = (zfs G r k 2).set 5 (.int v) := by simp [zfs, upd]
theorem zf3_1 (G : zG) (r : Nat → Int32) (k : Nat) (v : Int32) : zfs G (upd r 1 v) k 3 = (zfs G r k 3).set 1 (.int v) := by simp [zfs, upd]
theorem zf4_1 (G : zG) (r : Nat → Int32) (k : Nat) (v : Int32) : zfs G (upd r 1 v) k 4 = (zfs G r k 4).set 1 (.int v) := by simp [zfs, upd]
theorem zf4_2 (G : zG) (r : Nat → Int32) (k : Nat) (v : Int32) : zfs G (upd r 2 v) k 4 = (zfs G r k 4).set 2 (.int v) := by simp [zfs, upd]
theorem zf5_1 (G : zG) (r : Nat → Int32) (k : Nat) (v : Int32) : zfs G (upd r 1 v) k 5 = (zfs G r k 5).set 1 (.int v) := by simp [zfs, upd]
theorem zf5_2 (G : zG) (r : Nat → Int32) (k : Nat) (v : Int32) : zfs G (upd r 2 v) k 5 = (zfs G r k 5).set 2 (.int v) := by simp [zfs, upd]
theorem zf5_3 (G : zG) (r : Nat → Int32) (k : Nat) (v : Int32) : zfs G (upd r 3 v) k 5 = (zfs G r k 5).set 3 (.int v) := by simp [zfs, upd]
theorem zf5_4 (G : zG) (r : Nat → Int32) (k : Nat) (v : Int32) : zfs G (upd r 4 v) k 5 = (zfs G r k 5).set 4 (.int v) := by simp [zfs, upd]
theorem zf5_5 (G : zG) (r : Nat → Int32) (k : Nat) (v : Int32) : zfs G (upd r 5 v) k 5 = (zfs G r k 5).set 5 (.int v) := by simp [zfs, upd]
theorem zf6_3 (G : zG) (r : Nat → Int32) (k : Nat) (v : Int32) : zfs G (upd r 3 v) k 6 = (zfs G r k 6).set 3 (.int v) := by simp [zfs, upd]
theorem zf7_1 (G : zG) (r : Nat → Int32) (k : Nat) (v : Int32) : zfs G (upd r 1 v) k 7 = (zfs G r k 7).set 1 (.int v) := by simp [zfs, upd]
theorem zf8_7 (G : zG) (r : Nat → Int32) (k : Nat) (v : Int32) : zfs G (upd r 7 v) k 8 = (zfs G r k 8).set 7 (.int v) := by simp [zfs, upd]
theorem zf8_8 (G : zG) (r : Nat → Int32) (k : Nat) (v : Int32) : zfs G (upd r 8 v) k 8 = (zfs G r k 8).set 8 (.int v) := by simp [zfs, upd]
theorem zf8_9 (G : zG) (r : Nat → Int32) (k : Nat) (v : Int32) : zfs G (upd r 9 v) k 8 = (zfs G r k 8).set 9 (.int v) := by simp [zfs, upd]
theorem zf8_10 (G : zG) (r : Nat → Int32) (k : Nat) (v : Int32) : zfs G (upd r 10 v) k 8 = (zfs G r k 8).set 10 (.int v) := by simp [zfs, upd]
theorem zf8_11 (G : zG) (r : Nat → Int32) (k : Nat) (v : Int32) : zfs G (upd r 11 v) k 8 = (zfs G r k 8).set 11 (.int v) := by simp [zfs, upd]
theorem zf8_12 (G : zG) (r : Nat → Int32) (k : Nat) (v : Int32) : zfs G (upd r 12 v) k 8 = (zfs G r k 8).set 12 (.int v) := by simp [zfs, upd]
theorem zf9_1 (G : zG) (r : Nat → Int32) (k : Nat) (v : Int32) : zfs G (upd r 1 v) k 9 = (zfs G r k 9).set 1 (.int v) := by simp [zfs, upd]
theorem zf9_2 (G : zG) (r : Nat → Int32) (k : Nat) (v : Int32) : zfs G (upd r 2 v) k 9 = (zfs G r k 9).set 2 (.int v) := by simp [zfs, upd]
theorem zf9_3 (G : zG) (r : Nat → Int32) (k : Nat) (v : Int32) : zfs G (upd r 3 v) k 9 = (zfs G r k 9).set 3 (.int v) := by simp [zfs, upd]
theorem zf10_1 (G : zG) (r : Nat → Int32) (k : Nat) (v : Int32) : zfs G (upd r 1 v) k 10 = (zfs G r k 10).set 1 (.int v) := by simp [zfs, upd]
theorem zf10_2 (G : zG) (r : Nat → Int32) (k : Nat) (v : Int32) : zfs G (upd r 2 v) k 10 = (zfs G r k 10).set 2 (.int v) := by simp [zfs, upd]
theorem zf11_10 (G : zG) (r : Nat → Int32) (k : Nat) (v : Int32) : zfs G (upd r 10 v) k 11 = (zfs G r k 11).set 10 (.int v) := by simp [zfs, upd]
theorem zf12_2 (G : zG) (r : Nat → Int32) (k : Nat) (v : Int32) : zfs G (upd r 2 v) k 12 = (zfs G r k 12).set 2 (.int v) := by simp [zfs, upd]
theorem zf12_4 (G : zG) (r : Nat → Int32) (k : Nat) (v : Int32) : zfs G (upd r 4 v) k 12 = (zfs G r k 12).set 4 (.int v) := by simp [zfs, upd]
theorem zf12_5 (G : zG) (r : Nat → Int32) (k : Nat) (v : Int32) : zfs G (upd r 5 v) k 12 = (zfs G r k 12).set 5 (.int v) := by simp [zfs, upd]
theorem zf12_6 (G : zG) (r : Nat → Int32) (k : Nat) (v : Int32) : zfs G (upd r 6 v) k 12 = (zfs G r k 12).set 6 (.int v) := by simp [zfs, upd]
theorem zf12_7 (G : zG) (r : Nat → Int32) (k : Nat) (v : Int32) : zfs G (upd r 7 v) k 12 = (zfs G r k 12).set 7 (.int v) := by simp [zfs, upd]
theorem zf12_12 (G : zG) (r : Nat → Int32) (k : Nat) (v : Int32) : zfs G (upd r 12 v) k 12 = (zfs G r k 12).set 12 (.int v) := by simp [zfs, upd]
theorem zf12_15 (G : zG) (r : Nat → Int32) (k : Nat) (v : Int32) : zfs G (upd r 15 v) k 12 = (zfs G r k 12).set 15 (.int v) := by simp [zfs, upd]
theorem zf12_17 (G : zG) (r : Nat → Int32) (k : Nat) (v : Int32) : zfs G (upd r 17 v) k 12 = (zfs G r k 12).set 17 (.int v) := by simp [zfs, upd]
theorem zf12_18 (G : zG) (r : Nat → Int32) (k : Nat) (v : Int32) : zfs G (upd r 18 v) k 12 = (zfs G r k 12).set 18 (.int v) := by simp [zfs, upd]
theorem zf12_19 (G : zG) (r : Nat → Int32) (k : Nat) (v : Int32) : zfs G (upd r 19 v) k 12 = (zfs G r k 12).set 19 (.int v) := by simp [zfs, upd]
theorem zf12_21 (G : zG) (r : Nat → Int32) (k : Nat) (v : Int32) : zfs G (upd r 21 v) k 12 = (zfs G r k 12).set 21 (.int v) := by simp [zfs, upd]
theorem zf12_22 (G : zG) (r : Nat → Int32) (k : Nat) (v : Int32) : zfs G (upd r 22 v) k 12 = (zfs G r k 12).set 22 (.int v) := by simp [zfs, upd]
theorem zf12_23 (G : zG) (r : Nat → Int32) (k : Nat) (v : Int32) : zfs G (upd r 23 v) k 12 = (zfs G r k 12).set 23 (.int v) := by simp [zfs, upd]
theorem zf0_1 (G : zG) (r : Nat → Int32) (k : Nat) : zfs G (upd r 1 1) k 0 = (zfs G r k 0).set 1 (.ref (zα G 3)) := by simp [zfs, upd]
theorem zf2_6 (G : zG) (r : Nat → Int32) (k : Nat) (v : Int32) : zfs G (upd r 6 v) k 2 = (zfs G r k 2).set 6 (.ref (zstr G v)) := by simp [zfs, upd]
theorem zr0_left : ∀ k : Nat, shp k = (0, 0) → shp (k + 1) = (20, 27) := zall (by decide +kernel) (by decide)
theorem zr1_ends : ∀ k : Nat, shp k = (1, 0) → shp (k + 1) = (20, 49) := zall (by decide +kernel) (by decide)
theorem zr1_kept : ∀ k : Nat, shp k = (1, 0) → shp (k + 2) = (20, 245) := zall (by decide +kernel) (by decide)
theorem zr1_said : ∀ k : Nat, shp k = (1, 0) → shp (k + 3) = (20, 48) := zall (by decide +kernel) (by decide)
theorem zr2_bytes : ∀ k : Nat, shp k = (2, 0) → shp (k + 1) = (20, 60) := zall (by decide +kernel) (by decide)
theorem zr2_signs : ∀ k : Nat, shp k = (2, 0) → shp (k + 2) = (20, 60) := zall (by decide +kernel) (by decide)
theorem zr3_letters : ∀ k : Nat, shp k = (3, 0) → shp (k + 1) = (20, 48) := zall (by decide +kernel) (by decide)
theorem zr4_numbers : ∀ k : Nat, shp k = (4, 0) → shp (k + 1) = (20, 24) := zall (by decide +kernel) (by decide)
theorem zr5_trace : ∀ k : Nat, shp k = (5, 0) → shp (k + 1) = (20, 30) := zall (by decide +kernel) (by decide)
theorem zr6_signs : ∀ k : Nat, shp k = (6, 0) → shp (k + 1) = (20, 60) := zall (by decide +kernel) (by decide)
theorem zr6_stack : ∀ k : Nat, shp k = (6, 0) → shp (k + 2) = (20, 60) := zall (by decide +kernel) (by decide)
theorem zr6_named : ∀ k : Nat, shp k = (6, 0) → shp (k + 3) = (20, 4) := zall (by decide +kernel) (by decide)
theorem zr7_words : ∀ k : Nat, shp k = (7, 0) → shp (k + 1) = (22, 12) := zall (by decide +kernel) (by decide)
theorem zr8_walls : ∀ k : Nat, shp k = (8, 0) → shp (k + 1) = (21, 6) := zall (by decide +kernel) (by decide)
theorem zr8_tongue : ∀ k : Nat, shp k = (8, 0) → shp (k + 2) = (7, 0) := zall (by decide +kernel) (by decide)
theorem zr8_turns : ∀ k : Nat, shp k = (8, 0) → shp (k + 28) = (6, 0) := zall (by decide +kernel) (by decide)
theorem zr8_prices : ∀ k : Nat, shp k = (8, 0) → shp (k + 32) = (6, 0) := zall (by decide +kernel) (by decide)
theorem zr8_tape : ∀ k : Nat, shp k = (8, 0) → shp (k + 36) = (20, 60) := zall (by decide +kernel) (by decide)
theorem zr8_heaped : ∀ k : Nat, shp k = (8, 0) → shp (k + 37) = (20, 27) := zall (by decide +kernel) (by decide)
theorem zr8_waiting : ∀ k : Nat, shp k = (8, 0) → shp (k + 38) = (20, 24) := zall (by decide +kernel) (by decide)
theorem zr9_stones : ∀ k : Nat, shp k = (9, 0) → shp (k + 1) = (20, 24) := zall (by decide +kernel) (by decide)
theorem zr10_letters : ∀ k : Nat, shp k = (10, 0) → shp (k + 1) = (20, 6) := zall (by decide +kernel) (by decide)
theorem zr11_now : ∀ k : Nat, shp k = (11, 0) → shp (k + 1) = (8, 0) := zall (by decide +kernel) (by decide)
theorem zr11_kept : ∀ k : Nat, shp k = (11, 0) → shp (k + 52) = (8, 0) := zall (by decide +kernel) (by decide)
theorem zr11_sheets : ∀ k : Nat, shp k = (11, 0) → shp (k + 103) = (23, 4) := zall (by decide +kernel) (by decide)
theorem zr11_laws : ∀ k : Nat, shp k = (11, 0) → shp (k + 112) = (1, 0) := zall (by decide +kernel) (by decide)
theorem zr11_row : ∀ k : Nat, shp k = (11, 0) → shp (k + 116) = (3, 0) := zall (by decide +kernel) (by decide)
theorem zr11_trial : ∀ k : Nat, shp k = (11, 0) → shp (k + 118) = (9, 0) := zall (by decide +kernel) (by decide)
theorem zr11_parser : ∀ k : Nat, shp k = (11, 0) → shp (k + 120) = (2, 0) := zall (by decide +kernel) (by decide)
theorem zr11_builder : ∀ k : Nat, shp k = (11, 0) → shp (k + 123) = (0, 0) := zall (by decide +kernel) (by decide)
theorem zr11_speaker : ∀ k : Nat, shp k = (11, 0) → shp (k + 125) = (5, 0) := zall (by decide +kernel) (by decide)
theorem zr11_errorsTold : ∀ k : Nat, shp k = (11, 0) → shp (k + 127) = (20, 7) := zall (by decide +kernel) (by decide)
theorem zr12_s : ∀ k : Nat, shp k = (12, 0) → shp (k + 1) = (20, 628) := zall (by decide +kernel) (by decide)
theorem zr12_kept : ∀ k : Nat, shp k = (12, 0) → shp (k + 2) = (20, 628) := zall (by decide +kernel) (by decide)
theorem zr12_errors : ∀ k : Nat, shp k = (12, 0) → shp (k + 3) = (20, 7) := zall (by decide +kernel) (by decide)
theorem zr12_step : ∀ k : Nat, shp k = (12, 0) → shp (k + 4) = (20, 124) := zall (by decide +kernel) (by decide)
theorem zr12_named : ∀ k : Nat, shp k = (12, 0) → shp (k + 5) = (20, 128) := zall (by decide +kernel) (by decide)
theorem zr12_pile : ∀ k : Nat, shp k = (12, 0) → shp (k + 6) = (20, 64) := zall (by decide +kernel) (by decide)
theorem zr12_row : ∀ k : Nat, shp k = (12, 0) → shp (k + 7) = (20, 48) := zall (by decide +kernel) (by decide)
theorem zr12_ways : ∀ k : Nat, shp k = (12, 0) → shp (k + 8) = (20, 245) := zall (by decide +kernel) (by decide)
theorem zr12_said : ∀ k : Nat, shp k = (12, 0) → shp (k + 9) = (20, 48) := zall (by decide +kernel) (by decide)
theorem zr12_stood : ∀ k : Nat, shp k = (12, 0) → shp (k + 10) = (20, 24) := zall (by decide +kernel) (by decide)
theorem zr12_trace : ∀ k : Nat, shp k = (12, 0) → shp (k + 11) = (20, 30) := zall (by decide +kernel) (by decide)
theorem zr12_bits : ∀ k : Nat, shp k = (12, 0) → shp (k + 12) = (20, 4) := zall (by decide +kernel) (by decide)
theorem zr12_sizes : ∀ k : Nat, shp k = (12, 0) → shp (k + 13) = (20, 4) := zall (by decide +kernel) (by decide)
theorem zr12_number : ∀ k : Nat, shp k = (12, 0) → shp (k + 14) = (20, 96) := zall (by decide +kernel) (by decide)
theorem zr12_aside : ∀ k : Nat, shp k = (12, 0) → shp (k + 15) = (20, 24) := zall (by decide +kernel) (by decide)
theorem ze21 (k : Nat) (h : shp k = (21, 6)) (i : Int32) (hi : zin i 6 = true) : shp (k + 38 + 2 * i.toNatClampNeg) = (9, 0) := zallA (by decide +kernel) (by decide) k h i hi
theorem ze22 (k : Nat) (h : shp k = (22, 12)) (i : Int32) (hi : zin i 12 = true) : shp (k + 1 + 2 * i.toNatClampNeg) = (10, 0) := zallA (by decide +kernel) (by decide) k h i hi
theorem ze23 (k : Nat) (h : shp k = (23, 4)) (i : Int32) (hi : zin i 4 = true) : shp (k + 1 + 2 * i.toNatClampNeg) = (4, 0) := zallA (by decide +kernel) (by decide) k h i hi
