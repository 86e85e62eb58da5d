theorem le_arrI {args : Array Value} {s : State} (h : (Cond.arrayClass .int).before args s = true) : ∃ cA : ClassId, ArrOfT s cA .int ∧ va_RA s cA .int := by
  obtain ⟨c, k, comp, h1, h2, h3⟩ := Cond.arrayClass_spec (args := args) (first := s) (o := none) (s := s) (idx := []) h
  exact ⟨c, fun n z => ⟨fun k h => (by cases h), k, h2, comp, h3⟩, h1⟩
theorem le_arrQ {s : State} {C : String} (h : va_AO C s) : ∃ cA : ClassId, ArrOfT s cA (.object C) ∧ va_RA s cA (.object C) := by
  obtain ⟨comp, c, k, h1, -, h3, h4, h5⟩ := Cond.arrayOver_spec (args := #[]) (first := s) (o := none) (s := s) (idx := []) h
  exact ⟨c, fun n z => ⟨fun k h => (by cases h), k, h3, comp, h4⟩, k, comp, h3, h4, h1, h5⟩
theorem le_stat {args : Array Value} {s : State} {C n : String} {N : Nat} {f : Nat → Int32} {A : Nat → Prop} (hl : (Cond.laysStatic C n "[I").before args s = true) (hini : (Cond.initialized C).before args s = true) (hN : N < 2 ^ 31) (harr : (Cond.arrayOf (.static C n "[I") .int).before args s = true) (hle : (Cond.eq (.length (.static C n "[I")) (.int (Int32.ofNat N))).before args s = true) (hel : ∀ j : Nat, j < N → (Cond.eq (.elem (.static C n "[I") (.int (Int32.ofNat j))) (.int (f j))).before args s = true) (hA : ∀ a : Nat, a < s.heap.size → ¬ A a) : ∃ t : Nat, va_Z C n "[I" (.ref t) A s s.heap ∧ va_T .int t N (fun j => .int (f j)) A s s.heap := by
  obtain ⟨t, ht, hT⟩ := va_Tof (f := fun j => .int (f j)) hN harr (va_eqt hle) (fun j hj => va_eqt (hel j hj)) hA
  exact ⟨t, va_Zof hl hini ht hA, hT⟩
def le_G : Cond := Cond.and given_1 narrow_1
def le_tm (i : Nat) : Term := if i = 0 then .string "LetterWalls$Parser" 18 else if i = 1 then .string "LetterWalls" 167 else .string "LetterWalls" 169
def le_len : List Nat := [0, 4, 3]
def le_byt : List (List Int32) := [[], [108, 105, 110, 109], [108, 115, 104]]
theorem le_known {b : Nat} {s : State} (hts : ∀ w ∈ lw_tbl, w.before #[Value.ref b] s = true) : ∀ (c : Nat) (r : vw_C), zclasses[c]? = some r → ∃ q : ClassId × (Nat → Nat), u_Kn s r.1 r.2.1 r.2.2 q.1 q.2 := by
  have hw : ∀ w ∈ WS, w.before #[Value.ref b] s = true := fun w h => hts w (zw_in w h)
  intro c r h
  match c, h with
  | 0, h =>
    have e := Option.some.inj h
    subst e
    obtain ⟨x, y, hk⟩ := u_known hw zi0 (hts (Cond.instantiable RX0 6) (List.mem_of_getElem? (i := 351) (by decide +kernel)))
    exact ⟨(x, y), hk⟩
  | 1, h =>
    have e := Option.some.inj h
    subst e
    obtain ⟨x, y, hk⟩ := u_known hw zi1 (hts (Cond.instantiable RX1 4) (List.mem_of_getElem? (i := 279) (by decide +kernel)))
    exact ⟨(x, y), hk⟩
  | 2, h =>
    have e := Option.some.inj h
    subst e
    obtain ⟨x, y, hk⟩ := u_known hw zi2 (hts (Cond.instantiable RX2 7) (List.mem_of_getElem? (i := 321) (by decide +kernel)))
    exact ⟨(x, y), hk⟩
  | 3, h =>
    have e := Option.some.inj h
    subst e
    obtain ⟨x, y, hk⟩ := u_known hw zi3 (hts (Cond.instantiable RX3 2) (List.mem_of_getElem? (i := 300) (by decide +kernel)))
    exact ⟨(x, y), hk⟩
  | 4, h =>
    have e := Option.some.inj h
    subst e
    obtain ⟨x, y, hk⟩ := u_known hw zi4 (hts (Cond.instantiable RX4 3) (List.mem_of_getElem? (i := 260) (by decide +kernel)))
    exact ⟨(x, y), hk⟩
  | 5, h =>
    have e := Option.some.inj h
    subst e
    obtain ⟨x, y, hk⟩ := u_known hw zi5 (hts (Cond.instantiable RX5 6) (List.mem_of_getElem? (i := 378) (by decide +kernel)))
    exact ⟨(x, y), hk⟩
  | 6, h =>
    have e := Option.some.inj h
    subst e
    obtain ⟨x, y, hk⟩ := u_known hw zi6 (hts (Cond.instantiable RX6 4) (List.mem_of_getElem? (i := 156) (by decide +kernel)))
    exact ⟨(x, y), hk⟩
  | 7, h =>
    have e := Option.some.inj h
    subst e
    obtain ⟨x, y, hk⟩ := u_known hw zi7 (hts (Cond.instantiable RX7 2) (List.mem_of_getElem? (i := 111) (by decide +kernel)))
    exact ⟨(x, y), hk⟩
  | 8, h =>
    have e := Option.some.inj h
    subst e
    obtain ⟨x, y, hk⟩ := u_known hw zi8 (hts (Cond.instantiable RX8 13) (List.mem_of_getElem? (i := 103) (by decide +kernel)))
    exact ⟨(x, y), hk⟩
  | 9, h =>
    have e := Option.some.inj h
    subst e
    obtain ⟨x, y, hk⟩ := u_known hw zi9 (hts (Cond.instantiable RX9 4) (List.mem_of_getElem? (i := 177) (by decide +kernel)))
    exact ⟨(x, y), hk⟩
  | 10, h =>
    have e := Option.some.inj h
    subst e
    obtain ⟨x, y, hk⟩ := u_known hw zi10 (hts (Cond.instantiable RX10 3) (List.mem_of_getElem? (i := 118) (by decide +kernel)))
    exact ⟨(x, y), hk⟩
  | 11, h =>
    have e := Option.some.inj h
    subst e
    obtain ⟨x, y, hk⟩ := u_known hw zi11 (hts (Cond.instantiable RX11 11) (List.mem_of_getElem? (i := 95) (by decide +kernel)))
    exact ⟨(x, y), hk⟩
  | 12, h =>
    have e := Option.some.inj h
    subst e
    obtain ⟨x, y, hk⟩ := u_known hw zi12 (hts (Cond.instantiable RX12 28) (List.mem_of_getElem? (i := 1028) (by decide +kernel)))
    exact ⟨(x, y), hk⟩
  | n + 13, h => cases h
theorem le_strs {b : Nat} {s : State} {A : Nat → Prop} (hts : ∀ w ∈ lw_tbl, w.before #[Value.ref b] s = true) (hs : ∀ w ∈ flatC le_G, w.before #[Value.ref b] s = true) (hA : ∀ a : Nat, a < s.heap.size → ¬ A a) : ∃ adK adV : Nat → Nat, vk_S 3 le_len le_byt adK adV A s s.heap ∧ ∀ i : Nat, i < 3 → (le_tm i).eval #[Value.ref b] s none [] s = some (.ref (adK i)) := by
  refine vk_Sof (tm := le_tm) (by decide) (fun i hi => hs _ ((by decide +kernel : ∀ i, i < 3 → Cond.exactly (le_tm i) "java/lang/String" ∈ flatC le_G) i hi))
    (fun i hi => hs _ ((by decide +kernel : ∀ i, i < 3 → Cond.eq (.field (le_tm i) "java/lang/String" "coder" "B") (.int 0) ∈ flatC le_G) i hi))
    (fun i hi => hs _ ((by decide +kernel : ∀ i, i < 3 → Cond.arrayOf (.field (le_tm i) "java/lang/String" "value" "[B") .byte ∈ flatC le_G) i hi))
    (fun i hi => hs _ ((by decide +kernel : ∀ i, i < 3 → Cond.eq (.length (.field (le_tm i) "java/lang/String" "value" "[B")) (.int (Int32.ofNat (le_len.getD i 0))) ∈ flatC le_G) i hi))
    (fun i hi j hj => hs _ ((by decide +kernel : ∀ i, i < 3 → ∀ j, j < le_len.getD i 0 → Cond.eq (.elem (.field (le_tm i) "java/lang/String" "value" "[B") (.int (Int32.ofNat j))) (.int ((le_byt.getD i []).getD j 0)) ∈ flatC le_G) i hi j hj))
    (fun i j hi hj hij => ?_) hA
  rcases Nat.lt_or_ge i j with h | h
  · exact Or.inl (hs _ ((by decide +kernel : ∀ j, j < 3 → ∀ i, i < j → Cond.not (Cond.eq (le_tm i) (le_tm j)) ∈ flatC le_G) j hj i h))
  · exact Or.inr (hs _ ((by decide +kernel : ∀ j, j < 3 → ∀ i, i < j → Cond.not (Cond.eq (le_tm i) (le_tm j)) ∈ flatC le_G) i hi j (by omega)))
theorem le_st0 {b : Nat} {s : State} {A : Nat → Prop} (hts : ∀ w ∈ lw_tbl, w.before #[Value.ref b] s = true) (hs : ∀ w ∈ flatC le_G, w.before #[Value.ref b] s = true) (hA : ∀ a : Nat, a < s.heap.size → ¬ A a) : ∃ t : Nat, va_Z "LetterWalls" "ABOVE" "[I" (.ref t) A s s.heap ∧ va_T .int t 7 (fun j => .int (ztab 0 j)) A s s.heap :=
  le_stat (f := ztab 0) (hts _ (List.mem_of_getElem? (i := 475) (by decide +kernel))) (hts _ (List.mem_of_getElem? (i := 72) (by decide +kernel))) (by decide) (hs _ (by decide +kernel)) (hs _ (by decide +kernel)) (fun j hj => hs _ ((by decide +kernel : ∀ j, j < 7 → Cond.eq (.elem (.static "LetterWalls" "ABOVE" "[I") (.int (Int32.ofNat j))) (.int (ztab 0 j)) ∈ flatC le_G) j hj)) hA
theorem le_st1 {b : Nat} {s : State} {A : Nat → Prop} (hts : ∀ w ∈ lw_tbl, w.before #[Value.ref b] s = true) (hs : ∀ w ∈ flatC le_G, w.before #[Value.ref b] s = true) (hA : ∀ a : Nat, a < s.heap.size → ¬ A a) : ∃ t : Nat, va_Z "LetterWalls" "LEADS_TO" "[I" (.ref t) A s s.heap ∧ va_T .int t 5 (fun j => .int (ztab 1 j)) A s s.heap :=
  le_stat (f := ztab 1) (hts _ (List.mem_of_getElem? (i := 521) (by decide +kernel))) (hts _ (List.mem_of_getElem? (i := 72) (by decide +kernel))) (by decide) (hs _ (by decide +kernel)) (hs _ (by decide +kernel)) (fun j hj => hs _ ((by decide +kernel : ∀ j, j < 5 → Cond.eq (.elem (.static "LetterWalls" "LEADS_TO" "[I") (.int (Int32.ofNat j))) (.int (ztab 1 j)) ∈ flatC le_G) j hj)) hA
theorem le_st2 {b : Nat} {s : State} {A : Nat → Prop} (hts : ∀ w ∈ lw_tbl, w.before #[Value.ref b] s = true) (hs : ∀ w ∈ flatC le_G, w.before #[Value.ref b] s = true) (hA : ∀ a : Nat, a < s.heap.size → ¬ A a) : ∃ t : Nat, va_Z "LetterWalls" "COMES_IN" "[I" (.ref t) A s s.heap ∧ va_T .int t 5 (fun j => .int (ztab 2 j)) A s s.heap :=
  le_stat (f := ztab 2) (hts _ (List.mem_of_getElem? (i := 523) (by decide +kernel))) (hts _ (List.mem_of_getElem? (i := 72) (by decide +kernel))) (by decide) (hs _ (by decide +kernel)) (hs _ (by decide +kernel)) (fun j hj => hs _ ((by decide +kernel : ∀ j, j < 5 → Cond.eq (.elem (.static "LetterWalls" "COMES_IN" "[I") (.int (Int32.ofNat j))) (.int (ztab 2 j)) ∈ flatC le_G) j hj)) hA
theorem le_st3 {b : Nat} {s : State} {A : Nat → Prop} (hts : ∀ w ∈ lw_tbl, w.before #[Value.ref b] s = true) (hs : ∀ w ∈ flatC le_G, w.before #[Value.ref b] s = true) (hA : ∀ a : Nat, a < s.heap.size → ¬ A a) : ∃ t : Nat, va_Z "LetterWalls" "BODIES" "[I" (.ref t) A s s.heap ∧ va_T .int t 28 (fun j => .int (ztab 3 j)) A s s.heap :=
  le_stat (f := ztab 3) (hts _ (List.mem_of_getElem? (i := 927) (by decide +kernel))) (hts _ (List.mem_of_getElem? (i := 72) (by decide +kernel))) (by decide) (hs _ (by decide +kernel)) (hs _ (by decide +kernel)) (fun j hj => hs _ ((by decide +kernel : ∀ j, j < 28 → Cond.eq (.elem (.static "LetterWalls" "BODIES" "[I") (.int (Int32.ofNat j))) (.int (ztab 3 j)) ∈ flatC le_G) j hj)) hA
theorem le_nf {b : Nat} {s : State} (hts : ∀ w ∈ lw_tbl, w.before #[Value.ref b] s = true) : ∀ q ∈ zNF, va_Nw (.fieldLinkNest q.1 q.2.1 RX11 q.2.2 "[I" RX11) s := fun q hq => va_Nw.of rfl (hts _ ((by decide +kernel : ∀ q ∈ zNF, Cond.fieldLinkNest q.1 q.2.1 RX11 q.2.2 "[I" RX11 ∈ lw_tbl) q hq))
theorem le_nm {b : Nat} {s : State} (hts : ∀ w ∈ lw_tbl, w.before #[Value.ref b] s = true) : ∀ q ∈ zNM, va_Nw (.methodLinkNest q.1 q.2.1 q.2.2 RX11) s := fun q hq => va_Nw.of rfl (hts _ ((by decide +kernel : ∀ q ∈ zNM, Cond.methodLinkNest q.1 q.2.1 q.2.2 RX11 ∈ lw_tbl) q hq))
theorem le_ni {b : Nat} {s : State} (hts : ∀ w ∈ lw_tbl, w.before #[Value.ref b] s = true) : ∀ q ∈ zNI, va_Nw (.methodLinkNest q.1 q.2.1 q.2.2 RX11) s := fun q hq => va_Nw.of rfl (hts _ ((by decide +kernel : ∀ q ∈ zNI, Cond.methodLinkNest q.1 q.2.1 q.2.2 RX11 ∈ lw_tbl) q hq))
theorem le_ao {b : Nat} {s : State} (hts : ∀ w ∈ lw_tbl, w.before #[Value.ref b] s = true) : ∀ C ∈ zAO, va_AO C s := fun C hC => va_AO.of (hts _ ((by decide +kernel : ∀ C ∈ zAO, Cond.arrayOver (.object C) ∈ lw_tbl) C hC))
theorem le_enter {b : Nat} {s : State} (hts : ∀ w ∈ lw_tbl, w.before #[Value.ref b] s = true) (hgv : (Cond.and given_1 narrow_1).before #[Value.ref b] s = true) : ∃ G : zG, va_K (zD G) zclasses (ztys G) s ∧ zS G (fun q => s.heap.size ≤ q) s s.heap ∧ kS G s := by
  have hs : ∀ w ∈ flatC le_G, w.before #[Value.ref b] s = true := flat_of_before _ hgv
  have hA : ∀ a : Nat, a < s.heap.size → ¬ s.heap.size ≤ a := fun a h => by omega
  have hkn := le_known hts
  have h0 : ∀ c : Nat, ∃ q : ClassId × (Nat → Nat), ∀ r : vw_C, zclasses[c]? = some r → u_Kn s r.1 r.2.1 r.2.2 q.1 q.2 := by
    intro c
    cases e : zclasses[c]? with
    | none => exact ⟨(0, fun _ => 0), fun r h => by cases h⟩
    | some r =>
      obtain ⟨q, hq⟩ := hkn c r e
      exact ⟨q, fun r2 h => by cases h; exact hq⟩
  obtain ⟨D, hD⟩ := Classical.axiomOfChoice h0
  obtain ⟨cI, i1, i2⟩ := le_arrI (hts (.arrayClass .int) (List.mem_of_getElem? (i := 141) (by decide +kernel)))
  have hao := le_ao hts
  obtain ⟨c1, j1, j2⟩ := le_arrQ (hao RX9 (by decide +kernel))
  obtain ⟨c2, l1, l2⟩ := le_arrQ (hao RX10 (by decide +kernel))
  obtain ⟨c3, m1, m2⟩ := le_arrQ (hao RX4 (by decide +kernel))
  obtain ⟨t0, a1, a2⟩ := le_st0 (A := fun q => s.heap.size ≤ q) hts hs hA
  obtain ⟨t1, a3, a4⟩ := le_st1 (A := fun q => s.heap.size ≤ q) hts hs hA
  obtain ⟨t2, a5, a6⟩ := le_st2 (A := fun q => s.heap.size ≤ q) hts hs hA
  obtain ⟨t3, a7, a8⟩ := le_st3 (A := fun q => s.heap.size ≤ q) hts hs hA
  obtain ⟨aK, aV, b1, b2⟩ := le_strs (A := fun q => s.heap.size ≤ q) hts hs hA
  have r0 : vk_R "LetterWalls$Parser" 18 "" (aK 0) s := vk_R.of (hts _ (List.mem_of_getElem? (i := 326) (by decide +kernel))) (b2 0 (by decide))
  have r1 : vk_R "LetterWalls" 167 "linm" (aK 1) s := vk_R.of (hts _ (List.mem_of_getElem? (i := 611) (by decide +kernel))) (b2 1 (by decide))
  have r2 : vk_R "LetterWalls" 169 "lsh" (aK 2) s := vk_R.of (hts _ (List.mem_of_getElem? (i := 612) (by decide +kernel))) (b2 2 (by decide))
  refine ⟨(((fun c => (D c).1), fun c => (D c).2), (fun _ => 0), (fun k => [cI, c1, c2, c3].getD k 0), (fun k => [t0, t1, t2, t3].getD k 0), aK, aV), ⟨fun c r hr => hD c r hr, fun k q hk => ?_⟩, ⟨a1, a2, a3, a4, a5, a6, a7, a8, va_Zof (hts _ (List.mem_of_getElem? (i := 656) (by decide +kernel))) (hts _ (List.mem_of_getElem? (i := 88) (by decide +kernel))) (va_eqi (hs _ (by decide +kernel))) hA, b1, r0, r1, r2, le_nf hts, le_nm hts⟩, r0, le_ni hts, hao⟩
  match k, hk with
  | 0, hk => cases hk; exact ⟨i1, i2⟩
  | 1, hk => cases hk; exact ⟨j1, j2⟩
  | 2, hk => cases hk; exact ⟨l1, l2⟩
  | 3, hk => cases hk; exact ⟨m1, m2⟩
  | n + 4, hk => cases hk
