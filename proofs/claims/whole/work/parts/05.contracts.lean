def zrm (h : Nat) : Room := { frames := h, cells := 0, slots := 0, locals := 40 * h }
def zB (G : zG) (w : zW) (U : State) : Prop := va_P (zD G) zclasses (zP G w) U.heap ∧ va_K (zD G) zclasses (ztys G) U ∧ zS G (zA G) U U.heap
def zQ (G : zG) (res : Option Value) (w : zW) : Array Value → State → Outcome → State → Prop := fun _ st oc t => oc = .returned res ∧ zB G w t ∧ va_F (zA G) st t
def zws (y : MethodName) (cc : ByteArray) (nL : Nat) (ret : Option FieldType) : List Cond := Cond.code y cc nL ret :: WS
def zMet (G : zG) (l : Launch) (y : MethodName) (cc : ByteArray) (nL : Nat) (ret : Option FieldType) (h : Nat) (args : List Value) (w : zW) (res : Option Value) (w1 : zW) : Prop :=
  Met l y (zws y cc nL ret) (zrm h) (va_Pc args (zB G w)) (zQ G res w1) 0 0 (zA G)
theorem zB_same {G : zG} {w : zW} {s U : State} (hh : U.heap = s.heap) (hv : U.vm = s.vm) (h : zB G w s) : zB G w U := by
  obtain ⟨h1, h2, h3⟩ := h
  refine ⟨by rw [hh]; exact h1, va_K.moved (by rw [hv]; exact Vm.Alike.refl _) h2, ?_⟩
  rw [hh]
  exact h3.same hv
theorem zblind (G : zG) (w : zW) (args : List Value) : FrameBlind (va_Pc args (zB G w)) := fun a U g mk h => ⟨h.1, zB_same rfl rfl h.2⟩
/-- what a method's world is at a call -/
theorem zB_call {G : zG} {X : zX} {cc : ByteArray} {nL : Nat} {own : String} {h0 : Nat} (hX : zOk G X cc nL own h0) {w : zW} : ∀ (H : Heap) (locs : List Loc), va_P (zD G) zclasses (zP G w) H → va_S X.2.2.2.2.2.2.2.2.2.2.1 X.2.2.2.2.1.heap H locs → ∀ U : State, U.heap = H → X.2.2.2.2.1.WarmedH U.vm → zB G w U := by
  obtain ⟨p, l, e, R, s, m, args, below, meth, c, A, cells, slots, Q⟩ := X
  obtain ⟨hx, hb, hml, hown, hts, hK, hS0, hg, hA, hfr, hlo, hce, hsl⟩ := hX
  intro H locs hP hS U hU hW
  refine ⟨by rw [hU]; exact hP, va_K.moved hW.alike hK, ?_⟩
  rw [hU]
  exact ((hS0.moved hW).kept hS.2.1).narrow (fun q hq => by obtain ⟨k, hk, rfl⟩ := hq; exact hA k hk)
/-- behind a call -/
theorem z_run {G : zG} {p : Program} {l : Launch} {e : Env} {R : Room} {s : State} {m : MethodId} {args : Array Value} {below : List Frame} {meth : Method} {c : Code} {A : Nat → Prop} {cells slots : Nat} {Q : State → Prop} {w1 : zW} {pc : Nat} {L : List (Option Value)} {st0 rest : List Value} {res : Option Value} {a : Array Value} {H : Heap} {locs : List Loc} {ls : Array Slot}
    (hr : va_Run p l e R s m args below meth c H locs cells slots 0 0 (F0 m pc ls st0) rest (zQ G res w1 a) (zA G)) (hS : va_S A s.heap H locs) (hA : ∀ k : Nat, k < zNC → A (zα G k)) (hl : zhas ls L)
    (kk : zZ G (p, l, e, R, s, m, args, below, meth, c, A, cells, slots, Q) w1 (pc + 3) L (res.toList ++ rest)) : W p l e R s m args below meth c H locs cells slots Q (F0 m pc ls st0) := by
  intro T hT X
  obtain ⟨v, st₀, t, T', L1, h0, X', hL, e1, e2, ⟨hv, hB, hz, hk⟩, st⟩ := hr T hT X
  cases hv
  rw [h0] at hz hk
  have hAz : ∀ q, zA G q → A q := fun q hq => by obtain ⟨k, hk, rfl⟩ := hq; exact hA k hk
  obtain ⟨t2, a1, b1⟩ := kk T'.heap (locs ++ L1) ls (by rw [e1]; exact hB.1)
    ⟨Nat.le_trans hS.1 (by rw [e1]; exact hz), fun q h1 h2 => by rw [e1, hk q (Nat.lt_of_lt_of_le h1 hS.1) (fun z => h2 (hAz q z))]; exact hS.2.1 q h1 h2, fun q hq => by
      rcases List.mem_append.mp hq with h | h
      · exact hS.2.2 q h
      · exact hAz _ (hL q h)⟩ hl T' rfl X'
  exact ⟨t2, st t2 a1, b1⟩
theorem zGood_ws {y : MethodName} {cc : ByteArray} {nL : Nat} {ret : Option FieldType} (h : Cond.code y cc nL ret ∈ WS) : GoodIn WS (zws y cc nL ret) := fun w hw => by
  rcases List.mem_cons.mp hw with rfl | hw
  · exact ⟨h, good_of_word (zw_good _ h)⟩
  · exact ⟨hw, good_of_word (zw_good _ hw)⟩
section ZCALL
variable {G : zG} {X : zX} {w w1 : zW} {cc : ByteArray} {nL : Nat} {own : String} {h0 : Nat} {L : List (Option Value)} {rest : List Value} {l : Launch} {y : MethodName} {bytes : ByteArray} {maxL : Nat} {ret : Option FieldType} {hc idx n : Nat} {As : List Value} {res : Option Value}
/-- invokevirtual on an object of the picture -/
theorem z_callV {st0 : List Value} {b t N : Nat} {C : String} {T : u_T} (pc : Nat) (hX : zOk G X cc nL own h0) (d : decode cc pc = .ok (.invokevirtual idx, 3)) (hM : zMet G X.2.1 y bytes maxL ret hc (.ref (zα G b) :: As) w res w1)
    (k1 : Cond.methodLink own idx y ∈ WS) (k2 : Cond.instanceMethod y ∈ WS) (k3 : Cond.selects C y y ∈ WS) (k4 : Cond.initialized y.cls ∈ WS) (k5 : Cond.code y bytes maxL ret ∈ WS)
    (hd : y.cls ≠ "java/lang/invoke/MethodHandle" ∧ y.cls ≠ "java/lang/invoke/VarHandle" ∧ (parseMethodDescriptor y.desc).map (fun d => d.parameters.length) = some n)
    (hs : shp b = (t, 0)) (ht : t < 20) (hcl : zclasses[t]? = some (C, T, N)) (hn : As.length = n) (hL : L.length = nL) (hst : st0 = As.reverse ++ .ref (zα G b) :: rest) (hr : (rest.map fun v => v.category).sum ≤ 8) (hh : hc + 1 ≤ h0) (hm : maxL ≤ 21)
    (kk : zZ G X w1 (pc + 3) L (res.toList ++ rest)) : zZ G X w pc L st0 := by
  have hB := zB_call hX (w := w)
  obtain ⟨p, l, e, R, s, m, args, below, meth, c, A, cells, slots, Q⟩ := X
  obtain ⟨hx, hb, hml, hown, hts, hK, hS0, hg, hA, hfr, hlo, hce, hsl⟩ := hX
  intro H locs ls hP hS hl
  have he : (zP G w)[b]? = some (zα G b, .inr (t, zfs G (w b) b t)) := by rw [zP_at G w (shp_lt hs (by omega)), zcell_o G (w b) hs ht]
  refine z_run (va_runV (As := As) (rest := rest) ⟨hx, hb, hml, hown, hts⟩ hM
    ⟨⟨rfl, rfl, ?_, ?_, pay_in hts (zGood_ws k5), List.mem_cons_self, hts _ k5, hts _ k4, ⟨hd.1, hd.2.1⟩, ?_, hts _ k1⟩, hts _ k2, hts _ k3⟩
    ⟨zblind G w _, va_recv hK hP hcl he, fun U hU hW => ⟨rfl, hB H locs hP hS U hU hW⟩⟩ rfl hn (hl.1.trans hL) hst (lv_room hr) d ⟨by simpa using hce, by simpa using hsl⟩) hS hA hl kk
  · show hc + 1 ≤ R.frames
    omega
  · show 8 + (maxL + 11) + 40 * hc ≤ R.locals
    omega
  · intro sig h
    have h2 := hd.2.2
    rw [h] at h2
    exact (Option.some.inj h2).symm
/-- invokevirtual on a text -/
theorem z_callT {st0 : List Value} {b : Int32} (pc : Nat) (hX : zOk G X cc nL own h0) (d : decode cc pc = .ok (.invokevirtual idx, 3)) (hM : zMet G X.2.1 y bytes maxL ret hc (.ref (zstr G b) :: As) w res w1)
    (k1 : Cond.methodLink own idx y ∈ WS) (k2 : Cond.instanceMethod y ∈ WS) (k3 : Cond.selects "java/lang/String" y y ∈ WS) (k4 : Cond.initialized y.cls ∈ WS) (k5 : Cond.code y bytes maxL ret ∈ WS)
    (hd : y.cls ≠ "java/lang/invoke/MethodHandle" ∧ y.cls ≠ "java/lang/invoke/VarHandle" ∧ (parseMethodDescriptor y.desc).map (fun d => d.parameters.length) = some n)
    (hn : As.length = n) (hL : L.length = nL) (hst : st0 = As.reverse ++ .ref (zstr G b) :: rest) (hr : (rest.map fun v => v.category).sum ≤ 8) (hh : hc + 1 ≤ h0) (hm : maxL ≤ 21)
    (kk : zZ G X w1 (pc + 3) L (res.toList ++ rest)) : zZ G X w pc L st0 := by
  have hB := zB_call hX (w := w)
  obtain ⟨p, l, e, R, s, m, args, below, meth, c, A, cells, slots, Q⟩ := X
  obtain ⟨hx, hb, hml, hown, hts, hK, hS0, hg, hA, hfr, hlo, hce, hsl⟩ := hX
  intro H locs ls hP hS hl
  refine z_run (va_runV (As := As) (rest := rest) ⟨hx, hb, hml, hown, hts⟩ hM
    ⟨⟨rfl, rfl, ?_, ?_, pay_in hts (zGood_ws k5), List.mem_cons_self, hts _ k5, hts _ k4, ⟨hd.1, hd.2.1⟩, ?_, hts _ k1⟩, hts _ k2, hts _ k3⟩
    ⟨zblind G w _, vk_recv hS0.2.2.2.2.2.2.2.2.2.1 (zsi_lt b) hS, fun U hU hW => ⟨rfl, hB H locs hP hS U hU hW⟩⟩ rfl hn (hl.1.trans hL) hst (lv_room hr) d ⟨by simpa using hce, by simpa using hsl⟩) hS hA hl kk
  · show hc + 1 ≤ R.frames
    omega
  · show 8 + (maxL + 11) + 40 * hc ≤ R.locals
    omega
  · intro sig h
    have h2 := hd.2.2
    rw [h] at h2
    exact (Option.some.inj h2).symm
/-- invokestatic -/
theorem z_callS {st0 : List Value} (pc : Nat) (hX : zOk G X cc nL own h0) (d : decode cc pc = .ok (.invokestatic idx, 3)) (hM : zMet G X.2.1 y bytes maxL ret hc As w res w1)
    (k1 : Cond.methodLink own idx y ∈ WS) (k2 : Cond.static y ∈ WS) (k4 : Cond.initialized y.cls ∈ WS) (k5 : Cond.code y bytes maxL ret ∈ WS)
    (hd : y.cls ≠ "java/lang/invoke/MethodHandle" ∧ y.cls ≠ "java/lang/invoke/VarHandle" ∧ (parseMethodDescriptor y.desc).map (fun d => d.parameters.length) = some n)
    (hn : As.length = n) (hL : L.length = nL) (hst : st0 = As.reverse ++ rest) (hr : (rest.map fun v => v.category).sum ≤ 8) (hh : hc + 1 ≤ h0) (hm : maxL ≤ 21)
    (kk : zZ G X w1 (pc + 3) L (res.toList ++ rest)) : zZ G X w pc L st0 := by
  have hB := zB_call hX (w := w)
  obtain ⟨p, l, e, R, s, m, args, below, meth, c, A, cells, slots, Q⟩ := X
  obtain ⟨hx, hb, hml, hown, hts, hK, hS0, hg, hA, hfr, hlo, hce, hsl⟩ := hX
  intro H locs ls hP hS hl
  refine z_run (va_runS (As := As) (rest := rest) ⟨hx, hb, hml, hown, hts⟩ hM
    ⟨⟨rfl, rfl, ?_, ?_, pay_in hts (zGood_ws k5), List.mem_cons_self, hts _ k5, hts _ k4, ⟨hd.1, hd.2.1⟩, ?_, hts _ k1⟩, hts _ k2⟩
    ⟨zblind G w _, fun U hU hW => ⟨rfl, hB H locs hP hS U hU hW⟩⟩ rfl hn (hl.1.trans hL) hst (lv_room hr) d ⟨by simpa using hce, by simpa using hsl⟩) hS hA hl kk
  · show hc + 1 ≤ R.frames
    omega
  · show 8 + (maxL + 11) + 40 * hc ≤ R.locals
    omega
  · intro sig h
    have h2 := hd.2.2
    rw [h] at h2
    exact (Option.some.inj h2).symm
/-- invokestatic of a nest mate's private method -/
theorem z_callSN {st0 : List Value} (pc : Nat) (hX : zOk G X cc nL own h0) (d : decode cc pc = .ok (.invokestatic idx, 3)) (hM : zMet G X.2.1 y bytes maxL ret hc As w res w1)
    (k1 : (own, idx, y) ∈ zNM) (k2 : Cond.static y ∈ WS) (k4 : Cond.initialized y.cls ∈ WS) (k5 : Cond.code y bytes maxL ret ∈ WS)
    (hd : y.cls ≠ "java/lang/invoke/MethodHandle" ∧ y.cls ≠ "java/lang/invoke/VarHandle" ∧ (parseMethodDescriptor y.desc).map (fun d => d.parameters.length) = some n)
    (hn : As.length = n) (hL : L.length = nL) (hst : st0 = As.reverse ++ rest) (hr : (rest.map fun v => v.category).sum ≤ 8) (hh : hc + 1 ≤ h0) (hm : maxL ≤ 21)
    (kk : zZ G X w1 (pc + 3) L (res.toList ++ rest)) : zZ G X w pc L st0 := by
  have hB := zB_call hX (w := w)
  obtain ⟨p, l, e, R, s, m, args, below, meth, c, A, cells, slots, Q⟩ := X
  obtain ⟨hx, hb, hml, hown, hts, hK, hS0, hg, hA, hfr, hlo, hce, hsl⟩ := hX
  intro H locs ls hP hS hl
  refine z_run (va_runSN (As := As) (rest := rest) ⟨hx, hb, hml, hown, hts⟩ hM
    ⟨⟨⟨rfl, rfl, ?_, ?_, pay_in hts (zGood_ws k5), List.mem_cons_self⟩, hts _ k5, hts _ k4, ⟨hd.1, hd.2.1⟩, ?_, va_Nw.use rfl (hS0.2.2.2.2.2.2.2.2.2.2.2.2.2.2 _ k1)⟩, hts _ k2, trivial⟩
    ⟨zblind G w _, fun U hU hW => ⟨rfl, hB H locs hP hS U hU hW⟩⟩ rfl hn (hl.1.trans hL) hst (lv_room hr) d ⟨by simpa using hce, by simpa using hsl⟩) hS hA hl kk
  · show hc + 1 ≤ R.frames
    omega
  · show 8 + (maxL + 11) + 40 * hc ≤ R.locals
    omega
  · intro sig h
    have h2 := hd.2.2
    rw [h] at h2
    exact (Option.some.inj h2).symm
end ZCALL
def zent : List Value → List (Option Value)
  | [] => []
  | v :: vs => if v.category = 2 then some v :: none :: zent vs else some v :: zent vs
theorem zent_spec : ∀ (vs : List Value) (i j : Nat) (v : Value), (zent vs)[j]? = some (some v) → (i + j, v) ∈ lv_args i vs
  | [], i, j, v, h => by cases h
  | u :: vs, i, j, v, h => by
    by_cases hc : u.category = 2
    · rw [zent, if_pos hc] at h
      rw [lv_args, if_pos hc]
      match j with
      | 0 => cases h; exact List.mem_cons_self
      | 1 => cases h
      | j + 2 =>
        have := zent_spec vs (i + 2) j v h
        exact List.mem_cons_of_mem _ (by rw [show i + (j + 2) = i + 2 + j by omega]; exact this)
    · rw [zent, if_neg hc] at h
      rw [lv_args, if_neg hc]
      match j with
      | 0 => cases h; exact List.mem_cons_self
      | j + 1 =>
        have := zent_spec vs (i + 1) j v h
        exact List.mem_cons_of_mem _ (by rw [show i + (j + 1) = i + 1 + j by omega]; exact this)
def zEI (G : zG) (X : zX) (cc : ByteArray) (ty : FieldType) (v : Int32) (w : zW) : Prop := ∀ (pc : Nat) (L : List (Option Value)), narrow ty (.int v) = .int v → decode cc pc = .ok (.ireturn, 1) → zZ G X w pc L [.int v]
def zEV (G : zG) (X : zX) (cc : ByteArray) (w : zW) : Prop := ∀ (pc : Nat) (L : List (Option Value)), decode cc pc = .ok (.return_, 1) → zZ G X w pc L []
def zEA (G : zG) (X : zX) (cc : ByteArray) (a : Nat) (w : zW) : Prop := ∀ (pc : Nat) (L : List (Option Value)), decode cc pc = .ok (.areturn, 1) → zZ G X w pc L [.ref a]
theorem zQ_end {G : zG} {s t : State} {A : Nat → Prop} {res : Option Value} {w : zW} {H : Heap} {locs : List Loc} {a : Array Value} (hg : zgood G) (hK : va_K (zD G) zclasses (ztys G) s) (hS0 : zS G (zA G) s s.heap) (hP : va_P (zD G) zclasses (zP G w) H) (hS : va_S (zA G) s.heap H locs) (ht : t.heap = H) (hW : s.WarmedH t.vm) : zQ G res w a s (.returned res) t := by
  refine ⟨rfl, ⟨by rw [ht]; exact hP, va_K.moved hW.alike hK, ?_⟩, hS.F ht⟩
  rw [ht]
  exact (hS0.moved hW).kept hS.2.1
section ZOF
variable {G : zG} {l : Launch} {y : MethodName} {cc : ByteArray} {nL h : Nat} {args : List Value} {w w1 : zW} {L0 : List (Option Value)}
theorem zMet_of {ret : Option FieldType} {res : Option Value} (hG : zgood G) (hy : plainName y.cls = true) (hlen : (lg_sl args).length ≤ nL) (hL : zent args ++ List.replicate (nL - (zent args).length) none = L0) (hn : L0.length = nL)
    (body : ∀ X : zX, X.2.1 = l → zOk G X cc nL y.cls h → (∀ (ty : FieldType) (v : Int32), ret = some ty → res = some (.int v) → zEI G X cc ty v w1) → (ret = none → res = none → zEV G X cc w1) → (∀ (a : Nat), (∃ n, ret = some (.object n)) → res = some (.ref a) → zEA G X cc a w1) → zZ G X w 0 L0 []) :
    zMet G l y cc nL ret h args w res w1 := by
  refine Met.ofW (cc := cc) (maxL := nL) (ret := ret) hy rfl ?_
  intro p e s m a below meth c s₁ B hml hv
  obtain ⟨rfl, hP, hK, hS0⟩ := hv
  have hts0 := atoms_spec (ws := zws y cc nL ret) B.pre
  have hts : ∀ q ∈ WS, q.before args.toArray s = true := fun q hq => hts0 q (List.mem_cons_of_mem _ hq)
  have hlocks := B.notSynchronized
  have hent := lv_entry args (n := nL) hlen
  have hS : va_S (zA G) s.heap s.heap [] := va_S.rf
  have hX : zOk G (p, l, e, zrm h, s, m, args.toArray, below, meth, c, zA G, 0, 0, MQ below (zQ G res w1) args.toArray s 0 0 (zA G)) cc nL y.cls h :=
    ⟨B.exec, B.bytes, hml, findClass_of_methodNamed B.named, hts, hK, hS0, hG, fun k hk => ⟨k, hk, rfl⟩, Nat.le_refl _, Nat.le_refl _, Nat.le_refl _, Nat.le_refl _⟩
  rw [lg_entry_eq]
  refine body _ rfl hX ?_ ?_ ?_ s.heap [] _ hP hS ⟨hent.1.trans hn.symm, hent.2.1, fun i v hi => ?_⟩
  · rintro ty v rfl rfl pc L hnar hd H locs ls hP1 hS1 hl
    exact W.zret B.exec B.bytes B.returns hnar (fun t ht hW => zQ_end (A := zA G) hG hK hS0 hP1 hS1 ht hW) hS1.2.2 hd
  · rintro rfl rfl pc L hd H locs ls hP1 hS1 hl
    exact W.vret B.exec B.bytes B.returns (fun t ht hW => zQ_end (A := zA G) hG hK hS0 hP1 hS1 ht hW) hS1.2.2 hd
  · rintro a ⟨n, rfl⟩ rfl pc L hd H locs ls hP1 hS1 hl
    exact W.aret B.exec B.bytes B.returns (Or.inl ⟨n, rfl⟩) (Or.inr ⟨a, rfl⟩) (fun t ht hW => zQ_end (A := zA G) hG hK hS0 hP1 hS1 ht hW) hS1.2.2 hd
  · subst hL
    have hi2 : (zent args)[i]? = some (some v) := by
      by_cases hl : i < (zent args).length
      · rwa [List.getElem?_append_left hl] at hi
      · rw [List.getElem?_append_right (by omega)] at hi
        have hq := List.mem_of_getElem? hi
        exact absurd (List.eq_of_mem_replicate hq) (by simp)
    have := zent_spec args 0 i v hi2
    rw [Nat.zero_add] at this
    exact hent.2.2 _ this
end ZOF
theorem znar_bool {x : Int32} (h : zbool x = true) : narrow .boolean (.int x) = .int x := by
  rcases of_decide_eq_true h with rfl | rfl <;> rfl
theorem z_endI {G : zG} {X : zX} {cc : ByteArray} {ty : FieldType} {v r : Int32} {w : zW} {L : List (Option Value)} (pc : Nat) (hE : zEI G X cc ty r w) (hn : narrow ty (.int v) = .int v) (h : some v = some r) (d : decode cc pc = .ok (.ireturn, 1)) : zZ G X w pc L [.int v] := by
  cases h
  exact hE pc L hn d
theorem z_endI2 {G : zG} {X : zX} {cc : ByteArray} {ty : FieldType} {v r : Int32} {w w1 : zW} {L : List (Option Value)} (pc : Nat) (hE : zEI G X cc ty r w1) (hn : narrow ty (.int v) = .int v) (h : some (v, w) = some (r, w1)) (d : decode cc pc = .ok (.ireturn, 1)) : zZ G X w pc L [.int v] := by
  cases h
  exact hE pc L hn d
theorem z_endV {G : zG} {X : zX} {cc : ByteArray} {w w1 : zW} {L : List (Option Value)} (pc : Nat) (hE : zEV G X cc w1) (h : some w = some w1) (d : decode cc pc = .ok (.return_, 1)) : zZ G X w pc L [] := by
  cases h
  exact hE pc L d
theorem z_endA {G : zG} {X : zX} {cc : ByteArray} {a r : Nat} {w : zW} {L : List (Option Value)} (pc : Nat) (hE : zEA G X cc (zα G r) w) (h : some a = some r) (d : decode cc pc = .ok (.areturn, 1)) : zZ G X w pc L [.ref (zα G a)] := by
  cases h
  exact hE pc L d
