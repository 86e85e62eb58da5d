def zNI : List (String × Nat × MethodName) := [(RX7, 17, yX10_init), (RX8, 26, yX6_init), (RX8, 51, yX9_init), (RX11, 25, yX4_init), (RX11, 28, yX1_init), (RX11, 35, yX3_init), (RX11, 42, yX9_init), (RX11, 49, yX2_init), (RX11, 56, yX0_init), (RX11, 63, yX5_init)]
/-- what constructors need beside the words: a text's place, and links between nest mates -/
def zAO : List String := [RX9, RX10, RX4]
def kS (G : zG) (U : State) : Prop := vk_R RX2 18 "" (zaK G 0) U ∧ (∀ q ∈ zNI, va_Nw (.methodLinkNest q.1 q.2.1 q.2.2 RX11) U) ∧ ∀ C ∈ zAO, va_AO C U
theorem kS.moved {G : zG} {s U : State} (hW : s.WarmedH U.vm) (h : kS G s) : kS G U := ⟨h.1.warm hW, fun q hq => va_Nw.warmM hW (h.2.1 q hq), fun C hC => (h.2.2 C hC).moved hW.alike⟩
theorem kS.same {G : zG} {s U : State} (hv : U.vm = s.vm) (h : kS G s) : kS G U := ⟨h.1.same hv, fun q hq => va_Nw.same rfl hv.symm (h.2.1 q hq), fun C hC => (h.2.2 C hC).moved (by rw [hv]; exact Vm.Alike.refl _)⟩
/-- a world as a list of cells, while it is being made; ca and sl: what is made so far -/
def kZ (G : zG) (X : zX) (ws : va_W) (ca sl pc : Nat) (L : List (Option Value)) (st : List Value) : Prop := match X with
  | (p, l, e, R, s, m, args, below, meth, c, A, _, _, Q) => ∀ (H : Heap) (locs : List Loc) (ls : Array Slot), va_P (zD G) zclasses ws H → va_D A ws → va_S A s.heap H locs → zhas ls L → W p l e R s m args below meth c H locs ca sl Q (F0 m pc ls st)
def kOk (G : zG) (X : zX) (cc : ByteArray) (nL : Nat) (own : String) (h mc ms : Nat) : Prop := match X with
  | (p, l, e, R, s, m, args, below, meth, c, A, _, _, Q) => p.tables.exec = Jvm.exec ∧ c.code = cc ∧ c.maxLocals = nL ∧ s.vm.findClass own = some m.cls ∧ (∀ q ∈ WS, q.before args s = true) ∧ va_K (zD G) zclasses (ztys G) s ∧ kS G s ∧ (∀ q : Nat, s.heap.size ≤ q → A q) ∧ h ≤ R.frames ∧ 40 * h ≤ R.locals ∧ mc ≤ R.cells ∧ ms ≤ R.slots
def kIn (X : zX) : Prop := match X with
  | (_, _, _, _, _, _, _, _, meth, _, _, _, _, _) => meth.name = "<init>"
section KZ
variable {G : zG} {X : zX} {ws : va_W} {cc : ByteArray} {nL : Nat} {own : String} {h0 mc0 ms0 ca sl : Nat} {L : List (Option Value)} {st : List Value}
theorem k_iconst {n : Int} {v : Int32} (pc : Nat) (hX : kOk G X cc nL own h0 mc0 ms0) (d : decode cc pc = .ok (.iconst n, 1)) (hv : Int32.ofInt n = v) (k : kZ G X ws ca sl (pc + 1) L (.int v :: st)) : kZ G X ws ca sl pc L st := by
  obtain ⟨p, l, e, R, s, m, args, below, meth, c, A, cells, slots, Q⟩ := X
  obtain ⟨hx, hb, hml, hown, hts, hK, hS0, hA, hfr, hlo, hce, hsl⟩ := hX
  intro H locs ls hP hD hS hl
  exact lv_iconst hx hb d hv (k H locs ls hP hD hS hl)
theorem k_bipush {n : Int} {v : Int32} (pc : Nat) (hX : kOk G X cc nL own h0 mc0 ms0) (d : decode cc pc = .ok (.bipush n, 2)) (hv : (Int8.ofInt n).toInt32 = v) (k : kZ G X ws ca sl (pc + 2) L (.int v :: st)) : kZ G X ws ca sl pc L st := by
  obtain ⟨p, l, e, R, s, m, args, below, meth, c, A, cells, slots, Q⟩ := X
  obtain ⟨hx, hb, hml, hown, hts, hK, hS0, hA, hfr, hlo, hce, hsl⟩ := hX
  intro H locs ls hP hD hS hl
  exact lv_bipush hx hb d hv (k H locs ls hP hD hS hl)
theorem k_sipush {n : Int} {v : Int32} (pc : Nat) (hX : kOk G X cc nL own h0 mc0 ms0) (d : decode cc pc = .ok (.sipush n, 3)) (hv : (Int16.ofInt n).toInt32 = v) (k : kZ G X ws ca sl (pc + 3) L (.int v :: st)) : kZ G X ws ca sl pc L st := by
  obtain ⟨p, l, e, R, s, m, args, below, meth, c, A, cells, slots, Q⟩ := X
  obtain ⟨hx, hb, hml, hown, hts, hK, hS0, hA, hfr, hlo, hce, hsl⟩ := hX
  intro H locs ls hP hD hS hl
  exact lv_sipush hx hb d hv (k H locs ls hP hD hS hl)
theorem k_iload_n {j : Fin 4} {x : Int32} (pc : Nat) (hX : kOk G X cc nL own h0 mc0 ms0) (d : decode cc pc = .ok (.iload_n j, 1)) (hL : L[(j : Nat)]? = some (some (.int x))) (k : kZ G X ws ca sl (pc + 1) L (.int x :: st)) : kZ G X ws ca sl pc L st := by
  obtain ⟨p, l, e, R, s, m, args, below, meth, c, A, cells, slots, Q⟩ := X
  obtain ⟨hx, hb, hml, hown, hts, hK, hS0, hA, hfr, hlo, hce, hsl⟩ := hX
  intro H locs ls hP hD hS hl
  exact lv_iload_n hx hb d rfl (hl.2.2 _ _ hL) (k H locs ls hP hD hS hl)
theorem k_aload_n {j : Fin 4} {x : Nat} (pc : Nat) (hX : kOk G X cc nL own h0 mc0 ms0) (d : decode cc pc = .ok (.aload_n j, 1)) (hL : L[(j : Nat)]? = some (some (.ref x))) (k : kZ G X ws ca sl (pc + 1) L (.ref x :: st)) : kZ G X ws ca sl pc L st := by
  obtain ⟨p, l, e, R, s, m, args, below, meth, c, A, cells, slots, Q⟩ := X
  obtain ⟨hx, hb, hml, hown, hts, hK, hS0, hA, hfr, hlo, hce, hsl⟩ := hX
  intro H locs ls hP hD hS hl
  exact lv_aload_n hx hb d rfl (hl.2.2 _ _ hL) (k H locs ls hP hD hS hl)
theorem k_istore_n {j : Fin 4} {x : Int32} (pc : Nat) (L1 : List (Option Value)) (hX : kOk G X cc nL own h0 mc0 ms0) (d : decode cc pc = .ok (.istore_n j, 1)) (hn : (j : Nat) < L.length) (h2 : zno2 L (j : Nat) = true) (hL : L.set (j : Nat) (some (.int x)) = L1) (k : kZ G X ws ca sl (pc + 1) L1 st) : kZ G X ws ca sl pc L (.int x :: st) := by
  subst hL
  obtain ⟨p, l, e, R, s, m, args, below, meth, c, A, cells, slots, Q⟩ := X
  obtain ⟨hx, hb, hml, hown, hts, hK, hS0, hA, hfr, hlo, hce, hsl⟩ := hX
  intro H locs ls hP hD hS hl
  exact lv_istore_n hx hb d rfl hl.toLv hn rfl (fun ls2 h3 => k H locs ls2 hP hD hS (hl.store h2 h3))
theorem k_astore_n {j : Fin 4} {x : Nat} (pc : Nat) (L1 : List (Option Value)) (hX : kOk G X cc nL own h0 mc0 ms0) (d : decode cc pc = .ok (.astore_n j, 1)) (hn : (j : Nat) < L.length) (h2 : zno2 L (j : Nat) = true) (hL : L.set (j : Nat) (some (.ref x)) = L1) (k : kZ G X ws ca sl (pc + 1) L1 st) : kZ G X ws ca sl pc L (.ref x :: st) := by
  subst hL
  obtain ⟨p, l, e, R, s, m, args, below, meth, c, A, cells, slots, Q⟩ := X
  obtain ⟨hx, hb, hml, hown, hts, hK, hS0, hA, hfr, hlo, hce, hsl⟩ := hX
  intro H locs ls hP hD hS hl
  exact lv_astore_n hx hb d rfl hl.toLv hn rfl (fun ls2 h3 => k H locs ls2 hP hD hS (hl.store h2 h3))
theorem k_dup {v : Value} (pc : Nat) (hX : kOk G X cc nL own h0 mc0 ms0) (d : decode cc pc = .ok (.dup, 1)) (hv : v.category = 1) (k : kZ G X ws ca sl (pc + 1) L (v :: v :: st)) : kZ G X ws ca sl pc L (v :: st) := by
  obtain ⟨p, l, e, R, s, m, args, below, meth, c, A, cells, slots, Q⟩ := X
  obtain ⟨hx, hb, hml, hown, hts, hK, hS0, hA, hfr, hlo, hce, hsl⟩ := hX
  intro H locs ls hP hD hS hl
  exact lv_dup hx hb d hv (k H locs ls hP hD hS hl)
theorem k_goto {off : Int} (pc tgt : Nat) (hX : kOk G X cc nL own h0 mc0 ms0) (d : decode cc pc = .ok (.goto off, 3)) (ht : (pc : Int) + off = (tgt : Int)) (k : kZ G X ws ca sl tgt L st) : kZ G X ws ca sl pc L st := by
  obtain ⟨p, l, e, R, s, m, args, below, meth, c, A, cells, slots, Q⟩ := X
  obtain ⟨hx, hb, hml, hown, hts, hK, hS0, hA, hfr, hlo, hce, hsl⟩ := hX
  intro H locs ls hP hD hS hl
  exact lv_goto hx hb d ht (k H locs ls hP hD hS hl)
theorem k_ge_t {x y : Int32} {off : Int} (pc tgt : Nat) (hX : kOk G X cc nL own h0 mc0 ms0) (d : decode cc pc = .ok (.if_icmp .ge off, 3)) (ht : (pc : Int) + off = (tgt : Int)) (hq : y ≤ x) (k : kZ G X ws ca sl tgt L st) : kZ G X ws ca sl pc L (.int y :: .int x :: st) := by
  obtain ⟨p, l, e, R, s, m, args, below, meth, c, A, cells, slots, Q⟩ := X
  obtain ⟨hx, hb, hml, hown, hts, hK, hS0, hA, hfr, hlo, hce, hsl⟩ := hX
  intro H locs ls hP hD hS hl
  exact lv_icmp_ge hx hb d ht (fun _ => k H locs ls hP hD hS hl) (fun q => absurd hq q)
theorem k_ge_f {x y : Int32} {off : Int} (pc tgt : Nat) (hX : kOk G X cc nL own h0 mc0 ms0) (d : decode cc pc = .ok (.if_icmp .ge off, 3)) (ht : (pc : Int) + off = (tgt : Int)) (hq : ¬ y ≤ x) (k : kZ G X ws ca sl (pc + 3) L st) : kZ G X ws ca sl pc L (.int y :: .int x :: st) := by
  obtain ⟨p, l, e, R, s, m, args, below, meth, c, A, cells, slots, Q⟩ := X
  obtain ⟨hx, hb, hml, hown, hts, hK, hS0, hA, hfr, hlo, hce, hsl⟩ := hX
  intro H locs ls hP hD hS hl
  exact lv_icmp_ge hx hb d ht (fun q => absurd q hq) (fun _ => k H locs ls hP hD hS hl)
theorem k_iinc {i : Nat} {n : Int} {x v : Int32} (pc : Nat) (L1 : List (Option Value)) (hX : kOk G X cc nL own h0 mc0 ms0) (d : decode cc pc = .ok (.iinc i n, 3)) (hi : L[i]? = some (some (.int x))) (hv : x + Int32.ofInt n = v) (h2 : zno2 L i = true) (hL : L.set i (some (.int v)) = L1) (k : kZ G X ws ca sl (pc + 3) L1 st) : kZ G X ws ca sl pc L st := by
  subst hL
  subst hv
  obtain ⟨p, l, e, R, s, m, args, below, meth, c, A, cells, slots, Q⟩ := X
  obtain ⟨hx, hb, hml, hown, hts, hK, hS0, hA, hfr, hlo, hce, hsl⟩ := hX
  intro H locs ls hP hD hS hl
  have hn : i < L.length := (List.getElem?_eq_some_iff.mp hi).1
  have hm : (i, Value.int x) ∈ zls L := List.mem_filterMap.mpr ⟨i, List.mem_range.mpr hn, by rw [hi]⟩
  obtain ⟨q, hq⟩ := List.getElem?_of_mem hm
  exact lv_iinc hx hb d hl.toLv hq rfl hn rfl (fun ls2 h3 => k H locs ls2 hP hD hS (hl.store h2 h3))
theorem k_ldcS {q i : Nat} {tx : String} (pc : Nat) (hX : kOk G X cc nL own h0 mc0 ms0) (d : decode cc pc = .ok (.ldc i, 2)) (hR : ∀ U, kS G U → vk_R own i tx q U) (k : kZ G X ws ca sl (pc + 2) L (.ref q :: st)) : kZ G X ws ca sl pc L st := by
  obtain ⟨p, l, e, R, s, m, args, below, meth, c, A, cells, slots, Q⟩ := X
  obtain ⟨hx, hb, hml, hown, hts, hK, hS0, hA, hfr, hlo, hce, hsl⟩ := hX
  intro H locs ls hP hD hS hl
  exact va_ldcS hx hb hown (hR _ hS0) d (k H locs ls hP hD hS hl)
theorem k_objinit {idx : Nat} {a : Nat} (pc : Nat) (hX : kOk G X cc nL own h0 mc0 ms0) (d : decode cc pc = .ok (.invokespecial idx, 3)) (k1 : Cond.methodLink own idx objectInit ∈ WS) (k2 : Cond.instanceMethod objectInit ∈ WS) (k3 : Cond.code objectInit ⟨#[0xb1]⟩ 1 none ∈ WS) (hL : L.length = nL) (h1 : 1 ≤ h0) (k : kZ G X ws ca sl (pc + 3) L []) : kZ G X ws ca sl pc L [.ref a] := by
  obtain ⟨p, l, e, R, s, m, args, below, meth, c, A, cells, slots, Q⟩ := X
  obtain ⟨hx, hb, hml, hown, hts, hK, hS0, hA, hfr, hlo, hce, hsl⟩ := hX
  intro H locs ls hP hD hS hl
  refine W.objInit hx hb hown (hts _ k1) (hts _ k2) (hts _ k3) rfl (by rw [hml]; exact hl.1.trans hL) rfl d (Nat.le_trans h1 hfr) ?_ (k H locs ls hP hD hS hl)
  show 0 + 0 + 12 ≤ R.locals
  omega
theorem k_get {ref C : String} {T : u_T} {N ci idx a q0 : Nat} {fs : List Value} {v : Value} (pc j : Nat) (hX : kOk G X cc nL own h0 mc0 ms0) (d : decode cc pc = .ok (.getfield idx, 3)) (he : ws[q0]? = some (a, .inr (ci, fs))) (hc : zclasses[ci]? = some (C, T, N)) (hi : ∀ q ∈ u_ws C T N, q ∈ WS) (hj : j < N) (hlink : Cond.fieldLink own idx ref (T j).2.1 (T j).2.2.1 ∈ WS) (href : (T j).1 = ref) (hv : fs[j]? = some v) (k : kZ G X ws ca sl (pc + 3) L (v :: st)) : kZ G X ws ca sl pc L (.ref a :: st) := by
  obtain ⟨p, l, e, R, s, m, args, below, meth, c, A, cells, slots, Q⟩ := X
  obtain ⟨hx, hb, hml, hown, hts, hK, hS0, hA, hfr, hlo, hce, hsl⟩ := hX
  intro H locs ls hP hD hS hl
  exact va_get hx hb hts hi hown hK hP q0 he hc j hj (hts _ hlink) (fun q hq => by rw [← href]; exact hq) hv d (k H locs ls hP hD hS hl)
theorem k_put {ref C : String} {T : u_T} {N ci idx a : Nat} {fs : List Value} {v : Value} {ty : FieldType} (tyf : Nat → FieldType) (pc j q0 : Nat) (ws1 : va_W) (hX : kOk G X cc nL own h0 mc0 ms0) (d : decode cc pc = .ok (.putfield idx, 3)) (he : ws[q0]? = some (a, .inr (ci, fs))) (hc : zclasses[ci]? = some (C, T, N)) (hi : ∀ q ∈ u_ws C T N, q ∈ WS) (hty : ∀ k, k < N → parseFieldDescriptor (T k).2.2.1 = some (tyf k)) (hnm : ∀ a, a < N → ∀ b, b < N → a ≠ b → (T a).2.1 ≠ (T b).2.1) (hj : j < N) (hlink : Cond.fieldLink own idx ref (T j).2.1 (T j).2.2.1 ∈ WS) (href : (T j).1 = ref) (hfin : (T j).2.2.2 = false) (hd : parseFieldDescriptor (T j).2.2.1 = some ty) (hn : narrow ty v = v) (hfit : fits ty v = true) (hl2 : j < fs.length) (hw : ws.set q0 (a, .inr (ci, fs.set j v)) = ws1) (k : kZ G X ws1 ca sl (pc + 3) L st) : kZ G X ws ca sl pc L (v :: .ref a :: st) := by
  subst hw
  obtain ⟨p, l, e, R, s, m, args, below, meth, c, A, cells, slots, Q⟩ := X
  obtain ⟨hx, hb, hml, hown, hts, hK, hS0, hA, hfr, hlo, hce, hsl⟩ := hX
  intro H locs ls hP hD hS hl
  exact va_put hx hb hts hi tyf hty hnm hown hK hP hD hS q0 he hc j hj (hts _ hlink) (fun q hq => by rw [← href]; exact hq) hfin hd hn hfit hl2 d (fun H1 locs1 hP1 hD1 hS1 => k H1 locs1 ls hP1 hD1 hS1 hl)
theorem k_putF {ref : String} {T : u_T} {N ci idx a : Nat} {fs : List Value} {v : Value} {ty : FieldType} (tyf : Nat → FieldType) (pc j q0 : Nat) (ws1 : va_W) (hX : kOk G X cc nL own h0 mc0 ms0) (hI : kIn X) (d : decode cc pc = .ok (.putfield idx, 3)) (he : ws[q0]? = some (a, .inr (ci, fs))) (hc : zclasses[ci]? = some (own, T, N)) (hi : ∀ q ∈ u_ws own T N, q ∈ WS) (hty : ∀ k, k < N → parseFieldDescriptor (T k).2.2.1 = some (tyf k)) (hnm : ∀ a, a < N → ∀ b, b < N → a ≠ b → (T a).2.1 ≠ (T b).2.1) (hj : j < N) (hlink : Cond.fieldLink own idx ref (T j).2.1 (T j).2.2.1 ∈ WS) (href : (T j).1 = ref) (hown2 : (T j).1 = own) (hfin : (T j).2.2.2 = true) (hd : parseFieldDescriptor (T j).2.2.1 = some ty) (hn : narrow ty v = v) (hfit : fits ty v = true) (hl2 : j < fs.length) (hw : ws.set q0 (a, .inr (ci, fs.set j v)) = ws1) (k : kZ G X ws1 ca sl (pc + 3) L st) : kZ G X ws ca sl pc L (v :: .ref a :: st) := by
  subst hw
  obtain ⟨p, l, e, R, s, m, args, below, meth, c, A, cells, slots, Q⟩ := X
  obtain ⟨hx, hb, hml, hown, hts, hK, hS0, hA, hfr, hlo, hce, hsl⟩ := hX
  intro H locs ls hP hD hS hl
  exact va_putF hx hb hts hi tyf hty hnm hown hK hP hD hS q0 he hc j hj (hts _ hlink) (fun q hq => by rw [← href]; exact hq) hfin hI hown2 hd hn hfit hl2 d (fun H1 locs1 hP1 hD1 hS1 => k H1 locs1 ls hP1 hD1 hS1 hl)
theorem k_newa {n : Int32} {N : Nat} (pc : Nat) (hX : kOk G X cc nL own h0 mc0 ms0) (d : decode cc pc = .ok (.newarray .int, 2)) (harr : Cond.arrayClass .int ∈ WS) (hn : ¬ n < 0) (hN : n.toNatClampNeg = N) (hb4 : N * 4 ≤ 536870912) (hca : ca + 1 ≤ mc0) (hsl : sl + N ≤ ms0) (k : ∀ q, kZ G X (ws ++ [(q, .inl (zcl G 0, N, .inl (fun _ => nI 0)))]) (ca + 1) (sl + N) (pc + 2) L (.ref q :: st)) : kZ G X ws ca sl pc L (.int n :: st) := by
  obtain ⟨p, l, e, R, s, m, args, below, meth, c, A, cells, slots, Q⟩ := X
  obtain ⟨hx, hb, hml, hown, hts, hK, hS0, hA, hfr, hlo, hce, hsl2⟩ := hX
  intro H locs ls hP hD hS hl
  refine va_newa (atype := .int) (ty := .int) (a0 := (N, .inl (fun _ => nI 0))) hx hb (hts _ harr) rfl hK hP hD hS hA (fun _ => rfl) hn hN hb4 (Nat.le_trans hca hce) (Nat.le_trans hsl hsl2) d (fun q cA H1 hK1 hP1 hD1 hS1 => ?_)
  have e1 : s.vm.findClass ("[" ++ FieldType.int.toString) = some cA := (hK1.2 4 (cA, .int) rfl).2
  have e2 : s.vm.findClass ("[" ++ FieldType.int.toString) = some (zcl G 0) := (hK.2 0 (zcl G 0, .int) rfl).2
  have ec : cA = zcl G 0 := Option.some.inj (e1.symm.trans e2)
  subst ec
  exact k q H1 locs ls hP1 hD1 hS1 hl
theorem k_newq {n : Int32} {N idx t : Nat} {C : String} (pc : Nat) (hX : kOk G X cc nL own h0 mc0 ms0) (d : decode cc pc = .ok (.anewarray idx, 3)) (hlink : Cond.classLink own idx C ∈ WS) (hover : C ∈ zAO) (ht : (ztys G)[t]? = some (zcl G t, .object C)) (hn : ¬ n < 0) (hN : n.toNatClampNeg = N) (hb4 : N * 4 ≤ 536870912) (hca : ca + 1 ≤ mc0) (hsl : sl + N ≤ ms0) (k : ∀ q, kZ G X (ws ++ [(q, .inl (zcl G t, N, .inr (.inr (.inr (.inr (fun _ => none))))))]) (ca + 1) (sl + N) (pc + 3) L (.ref q :: st)) : kZ G X ws ca sl pc L (.int n :: st) := by
  obtain ⟨p, l, e, R, s, m, args, below, meth, c, A, cells, slots, Q⟩ := X
  obtain ⟨hx, hb, hml, hown, hts, hK, hS0, hA, hfr, hlo, hce, hsl2⟩ := hX
  intro H locs ls hP hD hS hl
  refine va_newq hx hb hown (hts _ hlink) (hS0.2.2 _ hover) hK hP hD hS hA hn hN hb4 (Nat.le_trans hca hce) (Nat.le_trans hsl hsl2) d (fun q cA H1 hK1 hP1 hD1 hS1 => ?_)
  obtain ⟨_, _, _, _, _, e1⟩ := (hK1.2 4 (cA, .object C) rfl).2
  obtain ⟨_, _, _, _, _, e2⟩ := (hK.2 t (zcl G t, .object C) ht).2
  have ec : cA = zcl G t := Option.some.inj (e1.symm.trans e2)
  subst ec
  exact k q H1 locs ls hP1 hD1 hS1 hl
theorem k_new {C : String} {T : u_T} {N ci idx : Nat} (ty : Nat → FieldType) (fs : List Value) (pc : Nat) (hX : kOk G X cc nL own h0 mc0 ms0) (d : decode cc pc = .ok (.new idx, 3)) (hi : ∀ q ∈ u_ws C T N, q ∈ WS) (hty : ∀ k, k < N → parseFieldDescriptor (T k).2.2.1 = some (ty k)) (hlink : Cond.classLink own idx C ∈ WS) (hinst : Cond.instantiable C N ∈ WS) (hini : Cond.initialized C ∈ WS) (hc : zclasses[ci]? = some (C, T, N)) (hfs : ∀ j, j < N → defaultValue (ty j) = vp_V fs j) (hca : ca + 1 ≤ mc0) (hsl : sl + N ≤ ms0) (k : ∀ q, kZ G X (ws ++ [(q, .inr (ci, fs))]) (ca + 1) (sl + N) (pc + 3) L (.ref q :: st)) : kZ G X ws ca sl pc L st := by
  obtain ⟨p, l, e, R, s, m, args, below, meth, c, A, cells, slots, Q⟩ := X
  obtain ⟨hx, hb, hml, hown, hts, hK, hS0, hA, hfr, hlo, hce, hsl2⟩ := hX
  intro H locs ls hP hD hS hl
  exact va_new hx hb hts hi ty hty hown (hts _ hlink) (hts _ hinst) (hts _ hini) hK hP hD hS hA hc hfs (Nat.le_trans hca hce) (Nat.le_trans hsl hsl2) d (fun q H1 hP1 hD1 hS1 => k q H1 locs ls hP1 hD1 hS1 hl)
theorem kset : ∀ (A B : va_W) (x y : Nat × va_E), (A ++ x :: B).set A.length y = A ++ y :: B ∧ (A ++ x :: B)[A.length]? = some x
  | [], B, x, y => ⟨rfl, rfl⟩
  | a :: A, B, x, y => by
    obtain ⟨h1, h2⟩ := kset A B x y
    refine ⟨?_, ?_⟩
    · show a :: (A ++ x :: B).set A.length y = a :: (A ++ y :: B)
      rw [h1]
    · exact h2
/-- aastore of an object made just before -/
theorem k_astq {t ci N a v i : Nat} {r : vw_C} {vs : List Value} {f : Nat → Option Nat} (pc : Nat) (wsA wsB : va_W) (hX : kOk G X cc nL own h0 mc0 ms0) (d : decode cc pc = .ok (.aastore, 1)) (hw : ws = wsA ++ (a, .inl (zcl G t, N, .inr (.inr (.inr (.inr f))))) :: wsB) (ht : (ztys G)[t]? = some (zcl G t, .object r.1)) (hv : (v, .inr (ci, vs)) ∈ wsB) (hc : zclasses[ci]? = some r) (hi : i < N) (hN : N < 2 ^ 31) (k : kZ G X (wsA ++ (a, .inl (zcl G t, N, .inr (.inr (.inr (.inr (va_up f i (some v))))))) :: wsB) ca sl (pc + 1) L st) : kZ G X ws ca sl pc L (.ref v :: .int (nI i) :: .ref a :: st) := by
  subst hw
  obtain ⟨p, l, e, R, s, m, args, below, meth, c, A, cells, slots, Q⟩ := X
  obtain ⟨hx, hb, hml, hown, hts, hK, hS0, hA, hfr, hlo, hce, hsl2⟩ := hX
  intro H locs ls hP hD hS hl
  obtain ⟨qk, hqk⟩ := List.getElem?_of_mem (show (v, .inr (ci, vs)) ∈ wsA ++ (a, .inl (zcl G t, N, .inr (.inr (.inr (.inr f))))) :: wsB from List.mem_append_right _ (List.mem_cons_of_mem _ hv))
  refine va_astq hx hb hK hP hD hS wsA.length t qk ci (kset wsA wsB _ (0, .inr (0, []))).2 ht hqk hc (vp_in_nI hi hN) d (fun H1 locs1 hP1 hD1 hS1 => ?_)
  rw [(kset wsA wsB _ _).1, nI_clamp (by omega)] at hP1 hD1
  exact k H1 locs1 ls hP1 hD1 hS1 hl
theorem k_iast {N a i q0 : Nat} {x : Int32} {f : Nat → Int32} (pc : Nat) (ws1 : va_W) (hX : kOk G X cc nL own h0 mc0 ms0) (d : decode cc pc = .ok (.iastore, 1)) (he : ws[q0]? = some (a, .inl (zcl G 0, N, .inl f))) (hi : i < N) (hN : N < 2 ^ 31) (hw : ws.set q0 (a, .inl (zcl G 0, N, .inl (upd f i x))) = ws1) (k : kZ G X ws1 ca sl (pc + 1) L st) : kZ G X ws ca sl pc L (.int x :: .int (nI i) :: .ref a :: st) := by
  subst hw
  obtain ⟨p, l, e, R, s, m, args, below, meth, c, A, cells, slots, Q⟩ := X
  obtain ⟨hx, hb, hml, hown, hts, hK, hS0, hA, hfr, hlo, hce, hsl2⟩ := hX
  intro H locs ls hP hD hS hl
  refine va_iast hx hb hK hP hD hS q0 0 he rfl (vp_in_nI hi hN) d (fun H1 locs1 hP1 hD1 hS1 => ?_)
  rw [nI_clamp (by omega)] at hP1 hD1
  exact k H1 locs1 ls hP1 hD1 hS1 hl
/-- an array of references is what it holds within its length -/
theorem k_arr {N a t : Nat} {f g : Nat → Option Nat} {pc : Nat} (wsA wsB : va_W) (hw : ws = wsA ++ (a, .inl (zcl G t, N, .inr (.inr (.inr (.inr f))))) :: wsB) (hfg : ∀ i, i < N → f i = g i) (k : kZ G X (wsA ++ (a, .inl (zcl G t, N, .inr (.inr (.inr (.inr g))))) :: wsB) ca sl pc L st) : kZ G X ws ca sl pc L st := by
  subst hw
  obtain ⟨p, l, e, R, s, m, args, below, meth, c, A, cells, slots, Q⟩ := X
  intro H locs ls hP hD hS hl
  have hcell : vp_cell (zcl G t) (N, .inr (.inr (.inr (.inr f)))) = vp_cell (zcl G t) (N, .inr (.inr (.inr (.inr g)))) := by
    rw [vp_cell_q, vp_cell_q]
    unfold arrV
    congr 1
    apply Array.ext
    · simp
    · intro j h1 h2
      have : j < N := by simpa using h1
      simp [hfg j this]
  have x1 := (kset wsA wsB (a, .inl (zcl G t, N, .inr (.inr (.inr (.inr f))))) (a, .inl (zcl G t, N, .inr (.inr (.inr (.inr g)))))).1
  have x2 := (kset wsA wsB (a, .inl (zcl G t, N, .inr (.inr (.inr (.inr f))))) (0, .inr (0, []))).2
  refine k H locs ls ?_ ?_ hS hl
  · rw [← x1]
    refine hP.set hD x2 ?_ (fun _ _ => rfl)
    have := hP _ _ x2
    show H[a]? = some (vp_cell (zcl G t) (N, .inr (.inr (.inr (.inr g)))))
    rw [← hcell]
    exact this
  · rw [← x1]
    exact hD.set x2
def kB (G : zG) (ci : Nat) (fs : List Value) (q sz : Nat) (U : State) : Prop := U.heap.size = sz ∧ va_P (zD G) zclasses [(q, .inr (ci, fs))] U.heap ∧ va_K (zD G) zclasses (ztys G) U ∧ kS G U
def kRm (h mc ms : Nat) : Room := { frames := h, cells := mc, slots := ms, locals := 40 * h }
def kPost (G : zG) (ci : Nat) (fs : List Value) (q sz : Nat) (wf : (Nat → Nat) → va_W) : Array Value → State → Outcome → State → Prop := va_Qv (fun α : Nat → Nat => α 0 = q) (fun α t => va_P (zD G) zclasses (wf α) t.heap ∧ va_D (va_A [(q, .inr (ci, fs))] sz) (wf α)) (va_A [(q, .inr (ci, fs))] sz)
/-- a constructor's contract: from a blank object it makes the cells wf, at addresses of its own -/
def kMet (G : zG) (l : Launch) (y : MethodName) (cc : ByteArray) (nL h mc ms ci : Nat) (fs : List Value) (wf : (Nat → Nat) → va_W) : Prop := ∀ q sz : Nat, Met l y (zws y cc nL none) (kRm h mc ms) (va_Pc [.ref q] (kB G ci fs q sz)) (kPost G ci fs q sz wf) mc ms (va_A [(q, .inr (ci, fs))] sz)
theorem kblind (G : zG) (ci : Nat) (fs : List Value) (q sz : Nat) (args : List Value) : FrameBlind (va_Pc args (kB G ci fs q sz)) := fun a U g mk h => ⟨h.1, h.2.1, h.2.2.1, va_K.moved (u := U) (Vm.Alike.refl U.vm) h.2.2.2.1, kS.same rfl h.2.2.2.2⟩
theorem kjoin {A0 : Nat → Prop} {D : va_G} {cl : List vw_C} {ws0 w1 : va_W} {x : Nat × va_E} {H H1 : Heap} (hP : va_P D cl (ws0 ++ [x]) H) (hD : va_D A0 (ws0 ++ [x])) (hk : ∀ q : Nat, q < H.size → ¬ va_A [x] H.size q → H1[q]? = H[q]?) (hF : ∀ q, va_A [x] H.size q → A0 q) (hP1 : va_P D cl w1 H1) (hD1 : va_D (va_A [x] H.size) w1) : va_P D cl (ws0 ++ w1) H1 ∧ va_D A0 (ws0 ++ w1) := by
  have lf : ∀ {k : Nat} {q : Nat × va_E}, ws0[k]? = some q → (ws0 ++ [x])[k]? = some q := fun {k q} h => by
    rw [List.getElem?_append_left (List.getElem?_eq_some_iff.mp h).1]
    exact h
  have lx : (ws0 ++ [x])[ws0.length]? = some x := by
    rw [List.getElem?_append_right (Nat.le_refl _), Nat.sub_self]
    rfl
  have apart : ∀ (k : Nat) (q : Nat × va_E), ws0[k]? = some q → q.1 < H.size ∧ ¬ va_A [x] H.size q.1 := fun k q hq => by
    have hl := (hP k q (lf hq)).lt
    refine ⟨hl, fun h => ?_⟩
    rcases h with ⟨k2, e, h⟩ | h
    · have z : k2 < 1 := (List.getElem?_eq_some_iff.mp h).1
      rw [show k2 = 0 by omega] at h
      have ex : x = (q.1, e) := Option.some.inj h
      have := hD.1 k ws0.length q x (lf hq) lx (by rw [ex])
      have := (List.getElem?_eq_some_iff.mp hq).1
      omega
    · omega
  refine ⟨va_P.app (fun k q hq => ?_) hP1, va_D.app ⟨fun i j p q hi hj => hD.1 i j p q (lf hi) (lf hj), fun k q hk => hD.2 k q (lf hk)⟩ (hD1.weaken (fun k q _ h => hF q.1 h)) (fun i j a b ha hb hab => ?_)⟩
  · obtain ⟨g1, g2⟩ := apart k q hq
    exact (hP k q (lf hq)).kept (hk q.1 g1 g2)
  · refine (apart i a ha).2 ?_
    rw [hab]
    exact hD1.2 j b hb
theorem kcall {l : Launch} {mc ms ci q pc : Nat} {fs : List Value} {wf : (Nat → Nat) → va_W} {ws0 : va_W} {rest : List Value} {p : Program} {e : Env} {R : Room} {s : State} {m : MethodId} {args : Array Value} {below : List Frame} {meth : Method} {c : Code} {A : Nat → Prop} {cells slots : Nat} {Q : State → Prop} {H : Heap} {locs : List Loc} {ls : Array Slot} {a : Array Value} (hA : ∀ q : Nat, s.heap.size ≤ q → A q) (hP : va_P (zD G) zclasses (ws0 ++ [(q, .inr (ci, fs))]) H) (hD : va_D A (ws0 ++ [(q, .inr (ci, fs))])) (hS : va_S A s.heap H locs) (hl : zhas ls L) (hr : va_Run p l e R s m args below meth c H locs ca sl mc ms (F0 m pc ls (.ref q :: rest)) rest (kPost G ci fs q H.size wf a) (va_A [(q, .inr (ci, fs))] H.size)) (kk : ∀ α : Nat → Nat, α 0 = q → kZ G (p, l, e, R, s, m, args, below, meth, c, A, cells, slots, Q) (ws0 ++ wf α) (ca + mc) (sl + ms) (pc + 3) L rest) : W p l e R s m args below meth c H locs ca sl Q (F0 m pc ls (.ref q :: rest)) := by
  have hF : ∀ q', va_A [(q, .inr (ci, fs))] H.size q' → A q' := fun q' h => by
    rcases h with ⟨k, e, h⟩ | h
    · have z : k < 1 := (List.getElem?_eq_some_iff.mp h).1
      rw [show k = 0 by omega] at h
      have ex : ((q, .inr (ci, fs)) : Nat × va_E) = (q', e) := Option.some.inj h
      have e1 : q = q' := congrArg Prod.fst ex
      have lx : (ws0 ++ [((q, .inr (ci, fs)) : Nat × va_E)])[ws0.length]? = some (q, .inr (ci, fs)) := by
        rw [List.getElem?_append_right (Nat.le_refl _), Nat.sub_self]
        rfl
      rw [← e1]
      exact hD.2 _ _ lx
    · exact hA q' (Nat.le_trans hS.1 h)
  refine va_callv hr hS (fun q _ h => hF q h) hF (fun α t H1 locs1 ht hvm hp hB hz hk hS1 => ?_)
  obtain ⟨hP1, hD1⟩ := hB
  rw [ht] at hP1
  obtain ⟨j1, j2⟩ := kjoin hP hD hk hF hP1 hD1
  exact kk α hp H1 locs1 ls j1 j2 hS1 hl
theorem kpre {ci q : Nat} {fs : List Value} {ws0 : va_W} {p : Program} {l : Launch} {e : Env} {R : Room} {s : State} {m : MethodId} {args : Array Value} {below : List Frame} {meth : Method} {c : Code} {A : Nat → Prop} {cells slots : Nat} {Q : State → Prop} {H : Heap} (hX : kOk G (p, l, e, R, s, m, args, below, meth, c, A, cells, slots, Q) cc nL own h0 mc0 ms0) (hP : va_P (zD G) zclasses (ws0 ++ [(q, .inr (ci, fs))]) H) : ∀ U : State, U.heap = H → s.WarmedH U.vm → kB G ci fs q H.size U := fun U hU hW => by
  obtain ⟨hx, hb, hml, hown, hts, hK, hS0, hA, hfr, hlo, hce, hsl2⟩ := hX
  refine ⟨by rw [hU], ?_, va_K.moved hW.alike hK, hS0.moved hW⟩
  rw [hU]
  intro k x hx'
  have z : k < 1 := (List.getElem?_eq_some_iff.mp hx').1
  rw [show k = 0 by omega] at hx'
  have ex : ((q, .inr (ci, fs)) : Nat × va_E) = x := Option.some.inj hx'
  have lx : (ws0 ++ [((q, .inr (ci, fs)) : Nat × va_E)])[ws0.length]? = some (q, .inr (ci, fs)) := by
    rw [List.getElem?_append_right (Nat.le_refl _), Nat.sub_self]
    rfl
  rw [← ex]
  exact hP _ _ lx
section KC
variable {l : Launch} {y : MethodName} {bytes : ByteArray} {maxL hc mc ms ci q idx : Nat} {fs : List Value} {wf : (Nat → Nat) → va_W} {ws0 : va_W} {rest : List Value}
theorem k_callI (pc : Nat) (hX : kOk G X cc nL own h0 mc0 ms0) (d : decode cc pc = .ok (.invokespecial idx, 3)) (hM : kMet G X.2.1 y bytes maxL hc mc ms ci fs wf) (k1 : Cond.methodLink own idx y ∈ WS) (k2 : Cond.instanceMethod y ∈ WS) (k4 : Cond.initialized y.cls ∈ WS) (k5 : Cond.code y bytes maxL none ∈ WS) (hd : y.cls ≠ "java/lang/invoke/MethodHandle" ∧ y.cls ≠ "java/lang/invoke/VarHandle" ∧ (parseMethodDescriptor y.desc).map (fun d => d.parameters.length) = some 0) (hy : y.name = "<init>") (hL : L.length = nL) (hr : (rest.map fun v => v.category).sum ≤ 8) (hh : hc + 1 ≤ h0) (hm : maxL ≤ 21) (hca : ca + mc ≤ mc0) (hsl : sl + ms ≤ ms0) (kk : ∀ α : Nat → Nat, α 0 = q → kZ G X (ws0 ++ wf α) (ca + mc) (sl + ms) (pc + 3) L rest) : kZ G X (ws0 ++ [(q, .inr (ci, fs))]) ca sl pc L (.ref q :: rest) := by
  obtain ⟨p, l, e, R, s, m, args, below, meth, c, A, cells, slots, Q⟩ := X
  obtain ⟨hx, hb, hml, hown, hts, hK, hS0, hA, hfr, hlo, hce, hsl2⟩ := id hX
  intro H locs ls hP hD hS hl
  refine kcall hA hP hD hS hl (va_runI (As := []) (rest := rest) ⟨hx, hb, hml, hown, hts⟩ (hM q H.size) ⟨⟨rfl, rfl, ?_, ?_, pay_in hts (zGood_ws k5), List.mem_cons_self, hts _ k5, hts _ k4, ⟨hd.1, hd.2.1⟩, ?_, hts _ k1⟩, hy, hts _ k2⟩ ⟨kblind G ci fs q H.size _, fun U hU hW => ⟨rfl, kpre hX hP U hU hW⟩⟩ rfl rfl (hl.1.trans hL) rfl (lv_room hr) d ⟨Nat.le_trans hca hce, Nat.le_trans hsl hsl2⟩) kk
  · show hc + 1 ≤ R.frames
    omega
  · show 8 + (maxL + 11) + 40 * hc ≤ R.locals
    omega
  · intro sig h
    have h2 := hd.2.2
    rw [h] at h2
    exact (Option.some.inj h2).symm
theorem k_callIN (pc : Nat) (hX : kOk G X cc nL own h0 mc0 ms0) (d : decode cc pc = .ok (.invokespecial idx, 3)) (hM : kMet G X.2.1 y bytes maxL hc mc ms ci fs wf) (k1 : (own, idx, y) ∈ zNI) (k2 : Cond.instanceMethod y ∈ WS) (k4 : Cond.initialized y.cls ∈ WS) (k5 : Cond.code y bytes maxL none ∈ WS) (hd : y.cls ≠ "java/lang/invoke/MethodHandle" ∧ y.cls ≠ "java/lang/invoke/VarHandle" ∧ (parseMethodDescriptor y.desc).map (fun d => d.parameters.length) = some 0) (hy : y.name = "<init>") (hL : L.length = nL) (hr : (rest.map fun v => v.category).sum ≤ 8) (hh : hc + 1 ≤ h0) (hm : maxL ≤ 21) (hca : ca + mc ≤ mc0) (hsl : sl + ms ≤ ms0) (kk : ∀ α : Nat → Nat, α 0 = q → kZ G X (ws0 ++ wf α) (ca + mc) (sl + ms) (pc + 3) L rest) : kZ G X (ws0 ++ [(q, .inr (ci, fs))]) ca sl pc L (.ref q :: rest) := by
  obtain ⟨p, l, e, R, s, m, args, below, meth, c, A, cells, slots, Q⟩ := X
  obtain ⟨hx, hb, hml, hown, hts, hK, hS0, hA, hfr, hlo, hce, hsl2⟩ := id hX
  intro H locs ls hP hD hS hl
  refine kcall hA hP hD hS hl (va_runIN (As := []) (rest := rest) (host := RX11) ⟨hx, hb, hml, hown, hts⟩ (hM q H.size) ⟨⟨⟨rfl, rfl, ?_, ?_, pay_in hts (zGood_ws k5), List.mem_cons_self⟩, hts _ k5, hts _ k4, ⟨hd.1, hd.2.1⟩, ?_, va_Nw.use rfl (hS0.2.1 _ k1)⟩, hy, hts _ k2⟩ ⟨kblind G ci fs q H.size _, fun U hU hW => ⟨rfl, kpre hX hP U hU hW⟩⟩ rfl rfl (hl.1.trans hL) rfl (lv_room hr) d ⟨Nat.le_trans hca hce, Nat.le_trans hsl hsl2⟩) kk
  · show hc + 1 ≤ R.frames
    omega
  · show 8 + (maxL + 11) + 40 * hc ≤ R.locals
    omega
  · intro sig h
    have h2 := hd.2.2
    rw [h] at h2
    exact (Option.some.inj h2).symm
theorem kMet_of {nL' h : Nat} (hy : plainName y.cls = true) (hn : y.name = "<init>") (h1 : 1 ≤ nL') (body : ∀ (q : Nat) (X : zX), X.2.1 = l → kOk G X bytes nL' y.cls h mc ms → kIn X → (∀ (pc : Nat) (L : List (Option Value)) (α : Nat → Nat), α 0 = q → decode bytes pc = .ok (.return_, 1) → kZ G X (wf α) mc ms pc L []) → kZ G X [(q, .inr (ci, fs))] 0 0 0 (some (.ref q) :: List.replicate (nL' - 1) none) []) : kMet G l y bytes nL' h mc ms ci fs wf := by
  intro q sz
  refine Met.ofW (cc := bytes) (maxL := nL') (ret := none) hy rfl ?_
  intro p e s m a below meth c s₁ B hml hv
  obtain ⟨rfl, hsz, hP, hK, hS0⟩ := hv
  subst hsz
  have hts0 := atoms_spec (ws := zws y bytes nL' none) B.pre
  have hts : ∀ w ∈ WS, w.before [Value.ref q].toArray s = true := fun w hw => hts0 w (List.mem_cons_of_mem _ hw)
  have hlocks := B.notSynchronized
  have hent := lv_entry [Value.ref q] (n := nL') (by show 1 ≤ nL'; exact h1)
  have hS : va_S (va_A [(q, .inr (ci, fs))] s.heap.size) s.heap s.heap [] := va_S.rf
  have hA : ∀ q' : Nat, s.heap.size ≤ q' → va_A [(q, .inr (ci, fs))] s.heap.size q' := fun q' h => Or.inr h
  have hD : va_D (va_A [(q, .inr (ci, fs))] s.heap.size) [((q, .inr (ci, fs)) : Nat × va_E)] := by
    refine ⟨fun i j a b hi hj _ => ?_, fun k x hx => va_A.in hx⟩
    have := (List.getElem?_eq_some_iff.mp hi).1
    have := (List.getElem?_eq_some_iff.mp hj).1
    simp only [List.length_singleton] at *
    omega
  have hX : kOk G (p, l, e, kRm h mc ms, s, m, [Value.ref q].toArray, below, meth, c, va_A [(q, .inr (ci, fs))] s.heap.size, 0, 0, MQ below (kPost G ci fs q s.heap.size wf) [Value.ref q].toArray s mc ms (va_A [(q, .inr (ci, fs))] s.heap.size)) bytes nL' y.cls h mc ms :=
    ⟨B.exec, B.bytes, hml, findClass_of_methodNamed B.named, hts, hK, hS0, hA, Nat.le_refl _, Nat.le_refl _, Nat.le_refl _, Nat.le_refl _⟩
  have hI : kIn (p, l, e, kRm h mc ms, s, m, [Value.ref q].toArray, below, meth, c, va_A [(q, .inr (ci, fs))] s.heap.size, 0, 0, MQ below (kPost G ci fs q s.heap.size wf) [Value.ref q].toArray s mc ms (va_A [(q, .inr (ci, fs))] s.heap.size)) := by
    show meth.name = "<init>"
    exact (name_of_methodNamed B.named B.method).1.trans hn
  rw [lg_entry_eq]
  refine body q _ rfl hX hI (fun pc L α hα hd H locs ls hP1 hD1 hS1 hl => ?_) s.heap [] _ hP hD hS ⟨?_, hent.2.1, fun i v hi => ?_⟩
  · exact W.vret B.exec B.bytes B.returns (fun t ht hW => ⟨⟨α, rfl, hα, by rw [ht]; exact hP1, hD1⟩, hS1.F ht⟩) hS1.2.2 hd
  · rw [hent.1, List.length_cons, List.length_replicate]
    omega
  · have hi2 : i = 0 ∧ v = .ref q := by
      cases i with
      | zero => exact ⟨rfl, (Option.some.inj (Option.some.inj hi)).symm⟩
      | succ i =>
        rw [List.getElem?_cons_succ] at hi
        have hq := List.mem_of_getElem? hi
        exact absurd (List.eq_of_mem_replicate hq) (by simp)
    obtain ⟨rfl, rfl⟩ := hi2
    exact hent.2.2 (0, .ref q) List.mem_cons_self
end KC
end KZ
