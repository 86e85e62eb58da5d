theorem zpos {ρ : Type} {r : ρ} {c : Prop} {inst : Decidable c} {A B : Option ρ} (h : @ite _ c inst A B = some r) (q : c) : A = some r := by rw [if_pos q] at h; exact h
theorem zneg {ρ : Type} {r : ρ} {c : Prop} {inst : Decidable c} {A B : Option ρ} (h : @ite _ c inst A B = some r) (q : ¬ c) : B = some r := by rw [if_neg q] at h; exact h
theorem z_iconst {G : zG} {X : zX} {w : zW} {cc : ByteArray} {nL : Nat} {own : String} {h0 : Nat} {L : List (Option Value)} {st : List Value} {n : Int} {v : Int32} (pc : Nat) (hX : zOk G X cc nL own h0) (d : decode cc pc = .ok (.iconst n, 1)) (hv : Int32.ofInt n = v) (k : zZ G X w (pc + 1) L (.int v :: st)) : zZ G X w pc L st := by
  obtain ⟨p, l, e, R, s, m, args, below, meth, c, A, cells, slots, Q⟩ := X
  obtain ⟨hx, hb, hml, hown, hts, hK, hS0, hg, hA, hfr, hlo, hce, hsl⟩ := hX
  intro H locs ls hP hS hl
  exact lv_iconst hx hb d hv (k H locs ls hP hS hl)
theorem z_bipush {G : zG} {X : zX} {w : zW} {cc : ByteArray} {nL : Nat} {own : String} {h0 : Nat} {L : List (Option Value)} {st : List Value} {n : Int} {v : Int32} (pc : Nat) (hX : zOk G X cc nL own h0) (d : decode cc pc = .ok (.bipush n, 2)) (hv : (Int8.ofInt n).toInt32 = v) (k : zZ G X w (pc + 2) L (.int v :: st)) : zZ G X w pc L st := by
  obtain ⟨p, l, e, R, s, m, args, below, meth, c, A, cells, slots, Q⟩ := X
  obtain ⟨hx, hb, hml, hown, hts, hK, hS0, hg, hA, hfr, hlo, hce, hsl⟩ := hX
  intro H locs ls hP hS hl
  exact lv_bipush hx hb d hv (k H locs ls hP hS hl)
theorem z_sipush {G : zG} {X : zX} {w : zW} {cc : ByteArray} {nL : Nat} {own : String} {h0 : Nat} {L : List (Option Value)} {st : List Value} {n : Int} {v : Int32} (pc : Nat) (hX : zOk G X cc nL own h0) (d : decode cc pc = .ok (.sipush n, 3)) (hv : (Int16.ofInt n).toInt32 = v) (k : zZ G X w (pc + 3) L (.int v :: st)) : zZ G X w pc L st := by
  obtain ⟨p, l, e, R, s, m, args, below, meth, c, A, cells, slots, Q⟩ := X
  obtain ⟨hx, hb, hml, hown, hts, hK, hS0, hg, hA, hfr, hlo, hce, hsl⟩ := hX
  intro H locs ls hP hS hl
  exact lv_sipush hx hb d hv (k H locs ls hP hS hl)
theorem z_ldc {G : zG} {X : zX} {w : zW} {cc : ByteArray} {nL : Nat} {own : String} {h0 : Nat} {L : List (Option Value)} {st : List Value} {i : Nat} {v u : Int32} (pc : Nat) (hX : zOk G X cc nL own h0) (d : decode cc pc = .ok (.ldc i, 2)) (hw : Cond.constant own i u ∈ WS) (hv : u = v) (k : zZ G X w (pc + 2) L (.int v :: st)) : zZ G X w pc L st := by
  subst hv
  obtain ⟨p, l, e, R, s, m, args, below, meth, c, A, cells, slots, Q⟩ := X
  obtain ⟨hx, hb, hml, hown, hts, hK, hS0, hg, hA, hfr, hlo, hce, hsl⟩ := hX
  intro H locs ls hP hS hl
  exact lv_ldc hx hb hown (hts _ hw) d (k H locs ls hP hS hl)
theorem z_ldc_w {G : zG} {X : zX} {w : zW} {cc : ByteArray} {nL : Nat} {own : String} {h0 : Nat} {L : List (Option Value)} {st : List Value} {i : Nat} {v u : Int32} (pc : Nat) (hX : zOk G X cc nL own h0) (d : decode cc pc = .ok (.ldc_w i, 3)) (hw : Cond.constant own i u ∈ WS) (hv : u = v) (k : zZ G X w (pc + 3) L (.int v :: st)) : zZ G X w pc L st := by
  subst hv
  obtain ⟨p, l, e, R, s, m, args, below, meth, c, A, cells, slots, Q⟩ := X
  obtain ⟨hx, hb, hml, hown, hts, hK, hS0, hg, hA, hfr, hlo, hce, hsl⟩ := hX
  intro H locs ls hP hS hl
  exact lv_ldcw hx hb hown (hts _ hw) d (k H locs ls hP hS hl)
theorem z_ldc2 {G : zG} {X : zX} {w : zW} {cc : ByteArray} {nL : Nat} {own : String} {h0 : Nat} {L : List (Option Value)} {st : List Value} {i : Nat} {v : Int64} (pc : Nat) (hX : zOk G X cc nL own h0) (d : decode cc pc = .ok (.ldc2_w i, 3)) (hw : Cond.constantLong own i v ∈ WS) (k : zZ G X w (pc + 3) L (.long v :: st)) : zZ G X w pc L st := by
  obtain ⟨p, l, e, R, s, m, args, below, meth, c, A, cells, slots, Q⟩ := X
  obtain ⟨hx, hb, hml, hown, hts, hK, hS0, hg, hA, hfr, hlo, hce, hsl⟩ := hX
  intro H locs ls hP hS hl
  exact lv_ldc2 hx hb hown (hts _ hw) d (k H locs ls hP hS hl)
theorem z_iload {G : zG} {X : zX} {w : zW} {cc : ByteArray} {nL : Nat} {own : String} {h0 : Nat} {L : List (Option Value)} {st : List Value} {i : Nat} {x : Int32} (pc : Nat) (hX : zOk G X cc nL own h0) (d : decode cc pc = .ok (.iload i, 2)) (hL : L[i]? = some (some (.int x))) (k : zZ G X w (pc + 2) L (.int x :: st)) : zZ G X w pc L st := by
  obtain ⟨p, l, e, R, s, m, args, below, meth, c, A, cells, slots, Q⟩ := X
  obtain ⟨hx, hb, hml, hown, hts, hK, hS0, hg, hA, hfr, hlo, hce, hsl⟩ := hX
  intro H locs ls hP hS hl
  exact lv_iload hx hb d (hl.2.2 _ _ hL) (k H locs ls hP hS hl)
theorem z_iload_n {G : zG} {X : zX} {w : zW} {cc : ByteArray} {nL : Nat} {own : String} {h0 : Nat} {L : List (Option Value)} {st : List Value} {j : Fin 4} {x : Int32} (pc : Nat) (hX : zOk G X cc nL own h0) (d : decode cc pc = .ok (.iload_n j, 1)) (hL : L[(j : Nat)]? = some (some (.int x))) (k : zZ G X w (pc + 1) L (.int x :: st)) : zZ G X w pc L st := by
  obtain ⟨p, l, e, R, s, m, args, below, meth, c, A, cells, slots, Q⟩ := X
  obtain ⟨hx, hb, hml, hown, hts, hK, hS0, hg, hA, hfr, hlo, hce, hsl⟩ := hX
  intro H locs ls hP hS hl
  exact lv_iload_n hx hb d rfl (hl.2.2 _ _ hL) (k H locs ls hP hS hl)
theorem z_lload {G : zG} {X : zX} {w : zW} {cc : ByteArray} {nL : Nat} {own : String} {h0 : Nat} {L : List (Option Value)} {st : List Value} {i : Nat} {x : Int64} (pc : Nat) (hX : zOk G X cc nL own h0) (d : decode cc pc = .ok (.lload i, 2)) (hL : L[i]? = some (some (.long x))) (k : zZ G X w (pc + 2) L (.long x :: st)) : zZ G X w pc L st := by
  obtain ⟨p, l, e, R, s, m, args, below, meth, c, A, cells, slots, Q⟩ := X
  obtain ⟨hx, hb, hml, hown, hts, hK, hS0, hg, hA, hfr, hlo, hce, hsl⟩ := hX
  intro H locs ls hP hS hl
  exact lv_lload hx hb d (hl.2.2 _ _ hL) (k H locs ls hP hS hl)
theorem z_lload_n {G : zG} {X : zX} {w : zW} {cc : ByteArray} {nL : Nat} {own : String} {h0 : Nat} {L : List (Option Value)} {st : List Value} {j : Fin 4} {x : Int64} (pc : Nat) (hX : zOk G X cc nL own h0) (d : decode cc pc = .ok (.lload_n j, 1)) (hL : L[(j : Nat)]? = some (some (.long x))) (k : zZ G X w (pc + 1) L (.long x :: st)) : zZ G X w pc L st := by
  obtain ⟨p, l, e, R, s, m, args, below, meth, c, A, cells, slots, Q⟩ := X
  obtain ⟨hx, hb, hml, hown, hts, hK, hS0, hg, hA, hfr, hlo, hce, hsl⟩ := hX
  intro H locs ls hP hS hl
  exact lv_lload_n hx hb d rfl (hl.2.2 _ _ hL) (k H locs ls hP hS hl)
theorem z_aload {G : zG} {X : zX} {w : zW} {cc : ByteArray} {nL : Nat} {own : String} {h0 : Nat} {L : List (Option Value)} {st : List Value} {i : Nat} {x : Nat} (pc : Nat) (hX : zOk G X cc nL own h0) (d : decode cc pc = .ok (.aload i, 2)) (hL : L[i]? = some (some (.ref x))) (k : zZ G X w (pc + 2) L (.ref x :: st)) : zZ G X w pc L st := by
  obtain ⟨p, l, e, R, s, m, args, below, meth, c, A, cells, slots, Q⟩ := X
  obtain ⟨hx, hb, hml, hown, hts, hK, hS0, hg, hA, hfr, hlo, hce, hsl⟩ := hX
  intro H locs ls hP hS hl
  exact lv_aload hx hb d (hl.2.2 _ _ hL) (k H locs ls hP hS hl)
theorem z_aload_n {G : zG} {X : zX} {w : zW} {cc : ByteArray} {nL : Nat} {own : String} {h0 : Nat} {L : List (Option Value)} {st : List Value} {j : Fin 4} {x : Nat} (pc : Nat) (hX : zOk G X cc nL own h0) (d : decode cc pc = .ok (.aload_n j, 1)) (hL : L[(j : Nat)]? = some (some (.ref x))) (k : zZ G X w (pc + 1) L (.ref x :: st)) : zZ G X w pc L st := by
  obtain ⟨p, l, e, R, s, m, args, below, meth, c, A, cells, slots, Q⟩ := X
  obtain ⟨hx, hb, hml, hown, hts, hK, hS0, hg, hA, hfr, hlo, hce, hsl⟩ := hX
  intro H locs ls hP hS hl
  exact lv_aload_n hx hb d rfl (hl.2.2 _ _ hL) (k H locs ls hP hS hl)
theorem z_iadd {G : zG} {X : zX} {w : zW} {cc : ByteArray} {nL : Nat} {own : String} {h0 : Nat} {L : List (Option Value)} {st : List Value} {x y : Int32} (pc : Nat) (hX : zOk G X cc nL own h0) (d : decode cc pc = .ok (.iadd, 1)) (k : zZ G X w (pc + 1) L (.int (x + y) :: st)) : zZ G X w pc L (.int y :: .int x :: st) := by
  obtain ⟨p, l, e, R, s, m, args, below, meth, c, A, cells, slots, Q⟩ := X
  obtain ⟨hx, hb, hml, hown, hts, hK, hS0, hg, hA, hfr, hlo, hce, hsl⟩ := hX
  intro H locs ls hP hS hl
  exact lv_iadd hx hb d (k H locs ls hP hS hl)
theorem z_isub {G : zG} {X : zX} {w : zW} {cc : ByteArray} {nL : Nat} {own : String} {h0 : Nat} {L : List (Option Value)} {st : List Value} {x y : Int32} (pc : Nat) (hX : zOk G X cc nL own h0) (d : decode cc pc = .ok (.isub, 1)) (k : zZ G X w (pc + 1) L (.int (x - y) :: st)) : zZ G X w pc L (.int y :: .int x :: st) := by
  obtain ⟨p, l, e, R, s, m, args, below, meth, c, A, cells, slots, Q⟩ := X
  obtain ⟨hx, hb, hml, hown, hts, hK, hS0, hg, hA, hfr, hlo, hce, hsl⟩ := hX
  intro H locs ls hP hS hl
  exact lv_isub hx hb d (k H locs ls hP hS hl)
theorem z_imul {G : zG} {X : zX} {w : zW} {cc : ByteArray} {nL : Nat} {own : String} {h0 : Nat} {L : List (Option Value)} {st : List Value} {x y : Int32} (pc : Nat) (hX : zOk G X cc nL own h0) (d : decode cc pc = .ok (.imul, 1)) (k : zZ G X w (pc + 1) L (.int (x * y) :: st)) : zZ G X w pc L (.int y :: .int x :: st) := by
  obtain ⟨p, l, e, R, s, m, args, below, meth, c, A, cells, slots, Q⟩ := X
  obtain ⟨hx, hb, hml, hown, hts, hK, hS0, hg, hA, hfr, hlo, hce, hsl⟩ := hX
  intro H locs ls hP hS hl
  exact lv_imul hx hb d (k H locs ls hP hS hl)
theorem z_iand {G : zG} {X : zX} {w : zW} {cc : ByteArray} {nL : Nat} {own : String} {h0 : Nat} {L : List (Option Value)} {st : List Value} {x y : Int32} (pc : Nat) (hX : zOk G X cc nL own h0) (d : decode cc pc = .ok (.iand, 1)) (k : zZ G X w (pc + 1) L (.int (x &&& y) :: st)) : zZ G X w pc L (.int y :: .int x :: st) := by
  obtain ⟨p, l, e, R, s, m, args, below, meth, c, A, cells, slots, Q⟩ := X
  obtain ⟨hx, hb, hml, hown, hts, hK, hS0, hg, hA, hfr, hlo, hce, hsl⟩ := hX
  intro H locs ls hP hS hl
  exact lv_iand hx hb d (k H locs ls hP hS hl)
theorem z_ior {G : zG} {X : zX} {w : zW} {cc : ByteArray} {nL : Nat} {own : String} {h0 : Nat} {L : List (Option Value)} {st : List Value} {x y : Int32} (pc : Nat) (hX : zOk G X cc nL own h0) (d : decode cc pc = .ok (.ior, 1)) (k : zZ G X w (pc + 1) L (.int (x ||| y) :: st)) : zZ G X w pc L (.int y :: .int x :: st) := by
  obtain ⟨p, l, e, R, s, m, args, below, meth, c, A, cells, slots, Q⟩ := X
  obtain ⟨hx, hb, hml, hown, hts, hK, hS0, hg, hA, hfr, hlo, hce, hsl⟩ := hX
  intro H locs ls hP hS hl
  exact lv_ior hx hb d (k H locs ls hP hS hl)
theorem z_ixor {G : zG} {X : zX} {w : zW} {cc : ByteArray} {nL : Nat} {own : String} {h0 : Nat} {L : List (Option Value)} {st : List Value} {x y : Int32} (pc : Nat) (hX : zOk G X cc nL own h0) (d : decode cc pc = .ok (.ixor, 1)) (k : zZ G X w (pc + 1) L (.int (x ^^^ y) :: st)) : zZ G X w pc L (.int y :: .int x :: st) := by
  obtain ⟨p, l, e, R, s, m, args, below, meth, c, A, cells, slots, Q⟩ := X
  obtain ⟨hx, hb, hml, hown, hts, hK, hS0, hg, hA, hfr, hlo, hce, hsl⟩ := hX
  intro H locs ls hP hS hl
  exact lv_ixor hx hb d (k H locs ls hP hS hl)
theorem z_ishl {G : zG} {X : zX} {w : zW} {cc : ByteArray} {nL : Nat} {own : String} {h0 : Nat} {L : List (Option Value)} {st : List Value} {x y : Int32} (pc : Nat) (hX : zOk G X cc nL own h0) (d : decode cc pc = .ok (.ishl, 1)) (k : zZ G X w (pc + 1) L (.int (x <<< (y &&& 31)) :: st)) : zZ G X w pc L (.int y :: .int x :: st) := by
  obtain ⟨p, l, e, R, s, m, args, below, meth, c, A, cells, slots, Q⟩ := X
  obtain ⟨hx, hb, hml, hown, hts, hK, hS0, hg, hA, hfr, hlo, hce, hsl⟩ := hX
  intro H locs ls hP hS hl
  exact lv_ishl hx hb d (k H locs ls hP hS hl)
theorem z_ishr {G : zG} {X : zX} {w : zW} {cc : ByteArray} {nL : Nat} {own : String} {h0 : Nat} {L : List (Option Value)} {st : List Value} {x y : Int32} (pc : Nat) (hX : zOk G X cc nL own h0) (d : decode cc pc = .ok (.ishr, 1)) (k : zZ G X w (pc + 1) L (.int (x >>> (y &&& 31)) :: st)) : zZ G X w pc L (.int y :: .int x :: st) := by
  obtain ⟨p, l, e, R, s, m, args, below, meth, c, A, cells, slots, Q⟩ := X
  obtain ⟨hx, hb, hml, hown, hts, hK, hS0, hg, hA, hfr, hlo, hce, hsl⟩ := hX
  intro H locs ls hP hS hl
  exact lv_ishr hx hb d (k H locs ls hP hS hl)
theorem z_land {G : zG} {X : zX} {w : zW} {cc : ByteArray} {nL : Nat} {own : String} {h0 : Nat} {L : List (Option Value)} {st : List Value} {x y : Int64} (pc : Nat) (hX : zOk G X cc nL own h0) (d : decode cc pc = .ok (.land, 1)) (k : zZ G X w (pc + 1) L (.long (x &&& y) :: st)) : zZ G X w pc L (.long y :: .long x :: st) := by
  obtain ⟨p, l, e, R, s, m, args, below, meth, c, A, cells, slots, Q⟩ := X
  obtain ⟨hx, hb, hml, hown, hts, hK, hS0, hg, hA, hfr, hlo, hce, hsl⟩ := hX
  intro H locs ls hP hS hl
  exact lv_land hx hb d (k H locs ls hP hS hl)
theorem z_lor {G : zG} {X : zX} {w : zW} {cc : ByteArray} {nL : Nat} {own : String} {h0 : Nat} {L : List (Option Value)} {st : List Value} {x y : Int64} (pc : Nat) (hX : zOk G X cc nL own h0) (d : decode cc pc = .ok (.lor, 1)) (k : zZ G X w (pc + 1) L (.long (x ||| y) :: st)) : zZ G X w pc L (.long y :: .long x :: st) := by
  obtain ⟨p, l, e, R, s, m, args, below, meth, c, A, cells, slots, Q⟩ := X
  obtain ⟨hx, hb, hml, hown, hts, hK, hS0, hg, hA, hfr, hlo, hce, hsl⟩ := hX
  intro H locs ls hP hS hl
  exact lv_lor hx hb d (k H locs ls hP hS hl)
theorem z_ineg {G : zG} {X : zX} {w : zW} {cc : ByteArray} {nL : Nat} {own : String} {h0 : Nat} {L : List (Option Value)} {st : List Value} {x : Int32} (pc : Nat) (hX : zOk G X cc nL own h0) (d : decode cc pc = .ok (.ineg, 1)) (k : zZ G X w (pc + 1) L (.int (-x) :: st)) : zZ G X w pc L (.int x :: st) := by
  obtain ⟨p, l, e, R, s, m, args, below, meth, c, A, cells, slots, Q⟩ := X
  obtain ⟨hx, hb, hml, hown, hts, hK, hS0, hg, hA, hfr, hlo, hce, hsl⟩ := hX
  intro H locs ls hP hS hl
  exact lv_ineg hx hb d (k H locs ls hP hS hl)
theorem z_iushr {G : zG} {X : zX} {w : zW} {cc : ByteArray} {nL : Nat} {own : String} {h0 : Nat} {L : List (Option Value)} {st : List Value} {x y : Int32} (pc : Nat) (hX : zOk G X cc nL own h0) (d : decode cc pc = .ok (.iushr, 1)) (k : zZ G X w (pc + 1) L (.int (x.toUInt32 >>> (y.toUInt32 &&& Int32.toUInt32 31)).toInt32 :: st)) : zZ G X w pc L (.int y :: .int x :: st) := by
  obtain ⟨p, l, e, R, s, m, args, below, meth, c, A, cells, slots, Q⟩ := X
  obtain ⟨hx, hb, hml, hown, hts, hK, hS0, hg, hA, hfr, hlo, hce, hsl⟩ := hX
  intro H locs ls hP hS hl
  exact lv_iushr hx hb d rfl (k H locs ls hP hS hl)
theorem z_lushr {G : zG} {X : zX} {w : zW} {cc : ByteArray} {nL : Nat} {own : String} {h0 : Nat} {L : List (Option Value)} {st : List Value} {x : Int64} {y : Int32} (pc : Nat) (hX : zOk G X cc nL own h0) (d : decode cc pc = .ok (.lushr, 1)) (k : zZ G X w (pc + 1) L (.long (x.toUInt64 >>> (y.toInt64.toUInt64 &&& Int64.toUInt64 63)).toInt64 :: st)) : zZ G X w pc L (.int y :: .long x :: st) := by
  obtain ⟨p, l, e, R, s, m, args, below, meth, c, A, cells, slots, Q⟩ := X
  obtain ⟨hx, hb, hml, hown, hts, hK, hS0, hg, hA, hfr, hlo, hce, hsl⟩ := hX
  intro H locs ls hP hS hl
  exact lv_lushr hx hb d rfl (k H locs ls hP hS hl)
theorem z_lshl {G : zG} {X : zX} {w : zW} {cc : ByteArray} {nL : Nat} {own : String} {h0 : Nat} {L : List (Option Value)} {st : List Value} {x : Int64} {y : Int32} (pc : Nat) (hX : zOk G X cc nL own h0) (d : decode cc pc = .ok (.lshl, 1)) (k : zZ G X w (pc + 1) L (.long (x <<< (y.toInt64 &&& 63)) :: st)) : zZ G X w pc L (.int y :: .long x :: st) := by
  obtain ⟨p, l, e, R, s, m, args, below, meth, c, A, cells, slots, Q⟩ := X
  obtain ⟨hx, hb, hml, hown, hts, hK, hS0, hg, hA, hfr, hlo, hce, hsl⟩ := hX
  intro H locs ls hP hS hl
  exact lv_lshl hx hb d rfl (k H locs ls hP hS hl)
theorem z_lshr {G : zG} {X : zX} {w : zW} {cc : ByteArray} {nL : Nat} {own : String} {h0 : Nat} {L : List (Option Value)} {st : List Value} {x : Int64} {y : Int32} (pc : Nat) (hX : zOk G X cc nL own h0) (d : decode cc pc = .ok (.lshr, 1)) (k : zZ G X w (pc + 1) L (.long (x >>> (y.toInt64 &&& 63)) :: st)) : zZ G X w pc L (.int y :: .long x :: st) := by
  obtain ⟨p, l, e, R, s, m, args, below, meth, c, A, cells, slots, Q⟩ := X
  obtain ⟨hx, hb, hml, hown, hts, hK, hS0, hg, hA, hfr, hlo, hce, hsl⟩ := hX
  intro H locs ls hP hS hl
  exact lv_lshr hx hb d rfl (k H locs ls hP hS hl)
theorem z_i2l {G : zG} {X : zX} {w : zW} {cc : ByteArray} {nL : Nat} {own : String} {h0 : Nat} {L : List (Option Value)} {st : List Value} {x : Int32} (pc : Nat) (hX : zOk G X cc nL own h0) (d : decode cc pc = .ok (.i2l, 1)) (k : zZ G X w (pc + 1) L (.long x.toInt64 :: st)) : zZ G X w pc L (.int x :: st) := by
  obtain ⟨p, l, e, R, s, m, args, below, meth, c, A, cells, slots, Q⟩ := X
  obtain ⟨hx, hb, hml, hown, hts, hK, hS0, hg, hA, hfr, hlo, hce, hsl⟩ := hX
  intro H locs ls hP hS hl
  exact lv_i2l hx hb d rfl (k H locs ls hP hS hl)
theorem z_l2i {G : zG} {X : zX} {w : zW} {cc : ByteArray} {nL : Nat} {own : String} {h0 : Nat} {L : List (Option Value)} {st : List Value} {x : Int64} (pc : Nat) (hX : zOk G X cc nL own h0) (d : decode cc pc = .ok (.l2i, 1)) (k : zZ G X w (pc + 1) L (.int x.toInt32 :: st)) : zZ G X w pc L (.long x :: st) := by
  obtain ⟨p, l, e, R, s, m, args, below, meth, c, A, cells, slots, Q⟩ := X
  obtain ⟨hx, hb, hml, hown, hts, hK, hS0, hg, hA, hfr, hlo, hce, hsl⟩ := hX
  intro H locs ls hP hS hl
  exact lv_l2i hx hb d rfl (k H locs ls hP hS hl)
theorem z_i2b {G : zG} {X : zX} {w : zW} {cc : ByteArray} {nL : Nat} {own : String} {h0 : Nat} {L : List (Option Value)} {st : List Value} {x : Int32} (pc : Nat) (hX : zOk G X cc nL own h0) (d : decode cc pc = .ok (.i2b, 1)) (k : zZ G X w (pc + 1) L (.int x.toInt8.toInt32 :: st)) : zZ G X w pc L (.int x :: st) := by
  obtain ⟨p, l, e, R, s, m, args, below, meth, c, A, cells, slots, Q⟩ := X
  obtain ⟨hx, hb, hml, hown, hts, hK, hS0, hg, hA, hfr, hlo, hce, hsl⟩ := hX
  intro H locs ls hP hS hl
  exact lv_i2b hx hb d rfl (k H locs ls hP hS hl)
theorem z_i2s {G : zG} {X : zX} {w : zW} {cc : ByteArray} {nL : Nat} {own : String} {h0 : Nat} {L : List (Option Value)} {st : List Value} {x : Int32} (pc : Nat) (hX : zOk G X cc nL own h0) (d : decode cc pc = .ok (.i2s, 1)) (k : zZ G X w (pc + 1) L (.int x.toInt16.toInt32 :: st)) : zZ G X w pc L (.int x :: st) := by
  obtain ⟨p, l, e, R, s, m, args, below, meth, c, A, cells, slots, Q⟩ := X
  obtain ⟨hx, hb, hml, hown, hts, hK, hS0, hg, hA, hfr, hlo, hce, hsl⟩ := hX
  intro H locs ls hP hS hl
  exact lv_i2s hx hb d rfl (k H locs ls hP hS hl)
theorem z_i2c {G : zG} {X : zX} {w : zW} {cc : ByteArray} {nL : Nat} {own : String} {h0 : Nat} {L : List (Option Value)} {st : List Value} {x : Int32} (pc : Nat) (hX : zOk G X cc nL own h0) (d : decode cc pc = .ok (.i2c, 1)) (k : zZ G X w (pc + 1) L (.int (x.toUInt32 % 65536).toInt32 :: st)) : zZ G X w pc L (.int x :: st) := by
  obtain ⟨p, l, e, R, s, m, args, below, meth, c, A, cells, slots, Q⟩ := X
  obtain ⟨hx, hb, hml, hown, hts, hK, hS0, hg, hA, hfr, hlo, hce, hsl⟩ := hX
  intro H locs ls hP hS hl
  exact lv_i2c hx hb d rfl (k H locs ls hP hS hl)
theorem z_idivc {G : zG} {X : zX} {w : zW} {cc : ByteArray} {nL : Nat} {own : String} {h0 : Nat} {L : List (Option Value)} {st : List Value} {x y : Int32} (pc : Nat) (hX : zOk G X cc nL own h0) (d : decode cc pc = .ok (.idiv, 1)) (hy : ¬ y = 0) (k : zZ G X w (pc + 1) L (.int (x / y) :: st)) : zZ G X w pc L (.int y :: .int x :: st) := by
  obtain ⟨p, l, e, R, s, m, args, below, meth, c, A, cells, slots, Q⟩ := X
  obtain ⟨hx, hb, hml, hown, hts, hK, hS0, hg, hA, hfr, hlo, hce, hsl⟩ := hX
  intro H locs ls hP hS hl
  exact lv_idiv hx hb d hy (k H locs ls hP hS hl)
theorem z_idiv {G : zG} {X : zX} {w : zW} {cc : ByteArray} {nL : Nat} {own : String} {h0 : Nat} {L : List (Option Value)} {st : List Value} {ρ : Type} {r : ρ} {x y : Int32} {E : Option ρ} (pc : Nat) (hX : zOk G X cc nL own h0) (d : decode cc pc = .ok (.idiv, 1)) (h : zguard (decide (¬ y = 0)) E = some r) (k : E = some r → zZ G X w (pc + 1) L (.int (x / y) :: st)) : zZ G X w pc L (.int y :: .int x :: st) := by
  obtain ⟨hy, h⟩ := zite_some h
  exact z_idivc pc hX d (of_decide_eq_true hy) (k h)
theorem z_iremc {G : zG} {X : zX} {w : zW} {cc : ByteArray} {nL : Nat} {own : String} {h0 : Nat} {L : List (Option Value)} {st : List Value} {x y : Int32} (pc : Nat) (hX : zOk G X cc nL own h0) (d : decode cc pc = .ok (.irem, 1)) (hy : ¬ y = 0) (k : zZ G X w (pc + 1) L (.int (x - x / y * y) :: st)) : zZ G X w pc L (.int y :: .int x :: st) := by
  obtain ⟨p, l, e, R, s, m, args, below, meth, c, A, cells, slots, Q⟩ := X
  obtain ⟨hx, hb, hml, hown, hts, hK, hS0, hg, hA, hfr, hlo, hce, hsl⟩ := hX
  intro H locs ls hP hS hl
  exact lv_irem hx hb d hy (k H locs ls hP hS hl)
theorem z_irem {G : zG} {X : zX} {w : zW} {cc : ByteArray} {nL : Nat} {own : String} {h0 : Nat} {L : List (Option Value)} {st : List Value} {ρ : Type} {r : ρ} {x y : Int32} {E : Option ρ} (pc : Nat) (hX : zOk G X cc nL own h0) (d : decode cc pc = .ok (.irem, 1)) (h : zguard (decide (¬ y = 0)) E = some r) (k : E = some r → zZ G X w (pc + 1) L (.int (x - x / y * y) :: st)) : zZ G X w pc L (.int y :: .int x :: st) := by
  obtain ⟨hy, h⟩ := zite_some h
  exact z_iremc pc hX d (of_decide_eq_true hy) (k h)
theorem z_dup {G : zG} {X : zX} {w : zW} {cc : ByteArray} {nL : Nat} {own : String} {h0 : Nat} {L : List (Option Value)} {st : List Value} {v : Value} (pc : Nat) (hX : zOk G X cc nL own h0) (d : decode cc pc = .ok (.dup, 1)) (hv : v.category = 1) (k : zZ G X w (pc + 1) L (v :: v :: st)) : zZ G X w pc L (v :: st) := by
  obtain ⟨p, l, e, R, s, m, args, below, meth, c, A, cells, slots, Q⟩ := X
  obtain ⟨hx, hb, hml, hown, hts, hK, hS0, hg, hA, hfr, hlo, hce, hsl⟩ := hX
  intro H locs ls hP hS hl
  exact lv_dup hx hb d hv (k H locs ls hP hS hl)
theorem z_dup2 {G : zG} {X : zX} {w : zW} {cc : ByteArray} {nL : Nat} {own : String} {h0 : Nat} {L : List (Option Value)} {st : List Value} {v u : Value} (pc : Nat) (hX : zOk G X cc nL own h0) (d : decode cc pc = .ok (.dup2, 1)) (hv : v.category = 1) (hu : u.category = 1) (k : zZ G X w (pc + 1) L (v :: u :: v :: u :: st)) : zZ G X w pc L (v :: u :: st) := by
  obtain ⟨p, l, e, R, s, m, args, below, meth, c, A, cells, slots, Q⟩ := X
  obtain ⟨hx, hb, hml, hown, hts, hK, hS0, hg, hA, hfr, hlo, hce, hsl⟩ := hX
  intro H locs ls hP hS hl
  exact lv_dup2_11 hx hb d hv hu (k H locs ls hP hS hl)
theorem z_pop {G : zG} {X : zX} {w : zW} {cc : ByteArray} {nL : Nat} {own : String} {h0 : Nat} {L : List (Option Value)} {st : List Value} {v : Value} (pc : Nat) (hX : zOk G X cc nL own h0) (d : decode cc pc = .ok (.pop, 1)) (hv : v.category = 1) (k : zZ G X w (pc + 1) L st) : zZ G X w pc L (v :: st) := by
  obtain ⟨p, l, e, R, s, m, args, below, meth, c, A, cells, slots, Q⟩ := X
  obtain ⟨hx, hb, hml, hown, hts, hK, hS0, hg, hA, hfr, hlo, hce, hsl⟩ := hX
  intro H locs ls hP hS hl
  exact lv_pop hx hb d hv (k H locs ls hP hS hl)
theorem z_goto {G : zG} {X : zX} {w : zW} {cc : ByteArray} {nL : Nat} {own : String} {h0 : Nat} {L : List (Option Value)} {st : List Value} {off : Int} (pc tgt : Nat) (hX : zOk G X cc nL own h0) (d : decode cc pc = .ok (.goto off, 3)) (ht : (pc : Int) + off = (tgt : Int)) (k : zZ G X w tgt L st) : zZ G X w pc L st := by
  obtain ⟨p, l, e, R, s, m, args, below, meth, c, A, cells, slots, Q⟩ := X
  obtain ⟨hx, hb, hml, hown, hts, hK, hS0, hg, hA, hfr, hlo, hce, hsl⟩ := hX
  intro H locs ls hP hS hl
  exact lv_goto hx hb d ht (k H locs ls hP hS hl)
theorem z_icmp_eq {G : zG} {X : zX} {w : zW} {cc : ByteArray} {nL : Nat} {own : String} {h0 : Nat} {L : List (Option Value)} {st : List Value} {x y : Int32} {ρ : Type} {r : ρ} {inst : Decidable (x = y)} {E1 E2 : Option ρ} {off : Int} (pc tgt : Nat) (hX : zOk G X cc nL own h0) (d : decode cc pc = .ok (.if_icmp .eq off, 3)) (ht : (pc : Int) + off = (tgt : Int)) (h : @ite _ (x = y) inst E1 E2 = some r) (kt : x = y → E1 = some r → zZ G X w tgt L st) (kf : ¬ x = y → E2 = some r → zZ G X w (pc + 3) L st) : zZ G X w pc L (.int y :: .int x :: st) := by
  obtain ⟨p, l, e, R, s, m, args, below, meth, c, A, cells, slots, Q⟩ := X
  obtain ⟨hx, hb, hml, hown, hts, hK, hS0, hg, hA, hfr, hlo, hce, hsl⟩ := hX
  intro H locs ls hP hS hl
  exact lv_icmp_eq hx hb d ht (fun q => kt q (zpos h q) H locs ls hP hS hl) (fun q => kf q (zneg h q) H locs ls hP hS hl)
theorem z_icmp_ne {G : zG} {X : zX} {w : zW} {cc : ByteArray} {nL : Nat} {own : String} {h0 : Nat} {L : List (Option Value)} {st : List Value} {x y : Int32} {ρ : Type} {r : ρ} {inst : Decidable (x = y)} {E1 E2 : Option ρ} {off : Int} (pc tgt : Nat) (hX : zOk G X cc nL own h0) (d : decode cc pc = .ok (.if_icmp .ne off, 3)) (ht : (pc : Int) + off = (tgt : Int)) (h : @ite _ (x = y) inst E1 E2 = some r) (kt : ¬ x = y → E2 = some r → zZ G X w tgt L st) (kf : x = y → E1 = some r → zZ G X w (pc + 3) L st) : zZ G X w pc L (.int y :: .int x :: st) := by
  obtain ⟨p, l, e, R, s, m, args, below, meth, c, A, cells, slots, Q⟩ := X
  obtain ⟨hx, hb, hml, hown, hts, hK, hS0, hg, hA, hfr, hlo, hce, hsl⟩ := hX
  intro H locs ls hP hS hl
  exact lv_icmp_ne hx hb d ht (fun q => kt q (zneg h q) H locs ls hP hS hl) (fun q => kf q (zpos h q) H locs ls hP hS hl)
theorem z_icmp_lt {G : zG} {X : zX} {w : zW} {cc : ByteArray} {nL : Nat} {own : String} {h0 : Nat} {L : List (Option Value)} {st : List Value} {x y : Int32} {ρ : Type} {r : ρ} {inst : Decidable (x < y)} {E1 E2 : Option ρ} {off : Int} (pc tgt : Nat) (hX : zOk G X cc nL own h0) (d : decode cc pc = .ok (.if_icmp .lt off, 3)) (ht : (pc : Int) + off = (tgt : Int)) (h : @ite _ (x < y) inst E1 E2 = some r) (kt : x < y → E1 = some r → zZ G X w tgt L st) (kf : ¬ x < y → E2 = some r → zZ G X w (pc + 3) L st) : zZ G X w pc L (.int y :: .int x :: st) := by
  obtain ⟨p, l, e, R, s, m, args, below, meth, c, A, cells, slots, Q⟩ := X
  obtain ⟨hx, hb, hml, hown, hts, hK, hS0, hg, hA, hfr, hlo, hce, hsl⟩ := hX
  intro H locs ls hP hS hl
  exact lv_icmp_lt hx hb d ht (fun q => kt q (zpos h q) H locs ls hP hS hl) (fun q => kf q (zneg h q) H locs ls hP hS hl)
theorem z_icmp_ge {G : zG} {X : zX} {w : zW} {cc : ByteArray} {nL : Nat} {own : String} {h0 : Nat} {L : List (Option Value)} {st : List Value} {x y : Int32} {ρ : Type} {r : ρ} {inst : Decidable (x < y)} {E1 E2 : Option ρ} {off : Int} (pc tgt : Nat) (hX : zOk G X cc nL own h0) (d : decode cc pc = .ok (.if_icmp .ge off, 3)) (ht : (pc : Int) + off = (tgt : Int)) (h : @ite _ (x < y) inst E1 E2 = some r) (kt : ¬ x < y → E2 = some r → zZ G X w tgt L st) (kf : x < y → E1 = some r → zZ G X w (pc + 3) L st) : zZ G X w pc L (.int y :: .int x :: st) := by
  obtain ⟨p, l, e, R, s, m, args, below, meth, c, A, cells, slots, Q⟩ := X
  obtain ⟨hx, hb, hml, hown, hts, hK, hS0, hg, hA, hfr, hlo, hce, hsl⟩ := hX
  intro H locs ls hP hS hl
  refine lv_icmp_ge hx hb d ht (fun q => ?_) (fun q => ?_)
  · have q : ¬ x < y := Int32.not_lt.mpr q
    exact kt q (zneg h q) H locs ls hP hS hl
  · have q : x < y := Int32.not_le.mp q
    exact kf q (zpos h q) H locs ls hP hS hl
theorem z_icmp_gt {G : zG} {X : zX} {w : zW} {cc : ByteArray} {nL : Nat} {own : String} {h0 : Nat} {L : List (Option Value)} {st : List Value} {x y : Int32} {ρ : Type} {r : ρ} {inst : Decidable (y < x)} {E1 E2 : Option ρ} {off : Int} (pc tgt : Nat) (hX : zOk G X cc nL own h0) (d : decode cc pc = .ok (.if_icmp .gt off, 3)) (ht : (pc : Int) + off = (tgt : Int)) (h : @ite _ (y < x) inst E1 E2 = some r) (kt : y < x → E1 = some r → zZ G X w tgt L st) (kf : ¬ y < x → E2 = some r → zZ G X w (pc + 3) L st) : zZ G X w pc L (.int y :: .int x :: st) := by
  obtain ⟨p, l, e, R, s, m, args, below, meth, c, A, cells, slots, Q⟩ := X
  obtain ⟨hx, hb, hml, hown, hts, hK, hS0, hg, hA, hfr, hlo, hce, hsl⟩ := hX
  intro H locs ls hP hS hl
  exact lv_icmp_gt hx hb d ht (fun q => kt q (zpos h q) H locs ls hP hS hl) (fun q => kf q (zneg h q) H locs ls hP hS hl)
theorem z_icmp_le {G : zG} {X : zX} {w : zW} {cc : ByteArray} {nL : Nat} {own : String} {h0 : Nat} {L : List (Option Value)} {st : List Value} {x y : Int32} {ρ : Type} {r : ρ} {inst : Decidable (y < x)} {E1 E2 : Option ρ} {off : Int} (pc tgt : Nat) (hX : zOk G X cc nL own h0) (d : decode cc pc = .ok (.if_icmp .le off, 3)) (ht : (pc : Int) + off = (tgt : Int)) (h : @ite _ (y < x) inst E1 E2 = some r) (kt : ¬ y < x → E2 = some r → zZ G X w tgt L st) (kf : y < x → E1 = some r → zZ G X w (pc + 3) L st) : zZ G X w pc L (.int y :: .int x :: st) := by
  obtain ⟨p, l, e, R, s, m, args, below, meth, c, A, cells, slots, Q⟩ := X
  obtain ⟨hx, hb, hml, hown, hts, hK, hS0, hg, hA, hfr, hlo, hce, hsl⟩ := hX
  intro H locs ls hP hS hl
  refine lv_icmp_le hx hb d ht (fun q => ?_) (fun q => ?_)
  · have q : ¬ y < x := Int32.not_lt.mpr q
    exact kt q (zneg h q) H locs ls hP hS hl
  · have q : y < x := Int32.not_le.mp q
    exact kf q (zpos h q) H locs ls hP hS hl
theorem z_if_eq {G : zG} {X : zX} {w : zW} {cc : ByteArray} {nL : Nat} {own : String} {h0 : Nat} {L : List (Option Value)} {st : List Value} {x : Int32} {ρ : Type} {r : ρ} {inst : Decidable (x = nI 0)} {E1 E2 : Option ρ} {off : Int} (pc tgt : Nat) (hX : zOk G X cc nL own h0) (d : decode cc pc = .ok (.ifCond .eq off, 3)) (ht : (pc : Int) + off = (tgt : Int)) (h : @ite _ (x = nI 0) inst E1 E2 = some r) (kt : x = nI 0 → E1 = some r → zZ G X w tgt L st) (kf : ¬ x = nI 0 → E2 = some r → zZ G X w (pc + 3) L st) : zZ G X w pc L (.int x :: st) := by
  obtain ⟨p, l, e, R, s, m, args, below, meth, c, A, cells, slots, Q⟩ := X
  obtain ⟨hx, hb, hml, hown, hts, hK, hS0, hg, hA, hfr, hlo, hce, hsl⟩ := hX
  intro H locs ls hP hS hl
  exact lv_if_eq hx hb d ht (fun q => kt q (zpos h q) H locs ls hP hS hl) (fun q => kf q (zneg h q) H locs ls hP hS hl)
theorem z_if_ne {G : zG} {X : zX} {w : zW} {cc : ByteArray} {nL : Nat} {own : String} {h0 : Nat} {L : List (Option Value)} {st : List Value} {x : Int32} {ρ : Type} {r : ρ} {inst : Decidable (x = nI 0)} {E1 E2 : Option ρ} {off : Int} (pc tgt : Nat) (hX : zOk G X cc nL own h0) (d : decode cc pc = .ok (.ifCond .ne off, 3)) (ht : (pc : Int) + off = (tgt : Int)) (h : @ite _ (x = nI 0) inst E1 E2 = some r) (kt : ¬ x = nI 0 → E2 = some r → zZ G X w tgt L st) (kf : x = nI 0 → E1 = some r → zZ G X w (pc + 3) L st) : zZ G X w pc L (.int x :: st) := by
  obtain ⟨p, l, e, R, s, m, args, below, meth, c, A, cells, slots, Q⟩ := X
  obtain ⟨hx, hb, hml, hown, hts, hK, hS0, hg, hA, hfr, hlo, hce, hsl⟩ := hX
  intro H locs ls hP hS hl
  exact lv_if_ne hx hb d ht (fun q => kt q (zneg h q) H locs ls hP hS hl) (fun q => kf q (zpos h q) H locs ls hP hS hl)
theorem z_if_lt {G : zG} {X : zX} {w : zW} {cc : ByteArray} {nL : Nat} {own : String} {h0 : Nat} {L : List (Option Value)} {st : List Value} {x : Int32} {ρ : Type} {r : ρ} {inst : Decidable (x < nI 0)} {E1 E2 : Option ρ} {off : Int} (pc tgt : Nat) (hX : zOk G X cc nL own h0) (d : decode cc pc = .ok (.ifCond .lt off, 3)) (ht : (pc : Int) + off = (tgt : Int)) (h : @ite _ (x < nI 0) inst E1 E2 = some r) (kt : x < nI 0 → E1 = some r → zZ G X w tgt L st) (kf : ¬ x < nI 0 → E2 = some r → zZ G X w (pc + 3) L st) : zZ G X w pc L (.int x :: st) := by
  obtain ⟨p, l, e, R, s, m, args, below, meth, c, A, cells, slots, Q⟩ := X
  obtain ⟨hx, hb, hml, hown, hts, hK, hS0, hg, hA, hfr, hlo, hce, hsl⟩ := hX
  intro H locs ls hP hS hl
  exact lv_if_lt hx hb d ht (fun q => kt q (zpos h q) H locs ls hP hS hl) (fun q => kf q (zneg h q) H locs ls hP hS hl)
theorem z_if_ge {G : zG} {X : zX} {w : zW} {cc : ByteArray} {nL : Nat} {own : String} {h0 : Nat} {L : List (Option Value)} {st : List Value} {x : Int32} {ρ : Type} {r : ρ} {inst : Decidable (x < nI 0)} {E1 E2 : Option ρ} {off : Int} (pc tgt : Nat) (hX : zOk G X cc nL own h0) (d : decode cc pc = .ok (.ifCond .ge off, 3)) (ht : (pc : Int) + off = (tgt : Int)) (h : @ite _ (x < nI 0) inst E1 E2 = some r) (kt : ¬ x < nI 0 → E2 = some r → zZ G X w tgt L st) (kf : x < nI 0 → E1 = some r → zZ G X w (pc + 3) L st) : zZ G X w pc L (.int x :: st) := by
  obtain ⟨p, l, e, R, s, m, args, below, meth, c, A, cells, slots, Q⟩ := X
  obtain ⟨hx, hb, hml, hown, hts, hK, hS0, hg, hA, hfr, hlo, hce, hsl⟩ := hX
  intro H locs ls hP hS hl
  refine lv_if_ge hx hb d ht (fun q => ?_) (fun q => ?_)
  · have q : ¬ x < nI 0 := Int32.not_lt.mpr q
    exact kt q (zneg h q) H locs ls hP hS hl
  · have q : x < nI 0 := Int32.not_le.mp q
    exact kf q (zpos h q) H locs ls hP hS hl
theorem z_if_gt {G : zG} {X : zX} {w : zW} {cc : ByteArray} {nL : Nat} {own : String} {h0 : Nat} {L : List (Option Value)} {st : List Value} {x : Int32} {ρ : Type} {r : ρ} {inst : Decidable (nI 0 < x)} {E1 E2 : Option ρ} {off : Int} (pc tgt : Nat) (hX : zOk G X cc nL own h0) (d : decode cc pc = .ok (.ifCond .gt off, 3)) (ht : (pc : Int) + off = (tgt : Int)) (h : @ite _ (nI 0 < x) inst E1 E2 = some r) (kt : nI 0 < x → E1 = some r → zZ G X w tgt L st) (kf : ¬ nI 0 < x → E2 = some r → zZ G X w (pc + 3) L st) : zZ G X w pc L (.int x :: st) := by
  obtain ⟨p, l, e, R, s, m, args, below, meth, c, A, cells, slots, Q⟩ := X
  obtain ⟨hx, hb, hml, hown, hts, hK, hS0, hg, hA, hfr, hlo, hce, hsl⟩ := hX
  intro H locs ls hP hS hl
  exact lv_if_gt hx hb d ht (fun q => kt q (zpos h q) H locs ls hP hS hl) (fun q => kf q (zneg h q) H locs ls hP hS hl)
theorem z_if_le {G : zG} {X : zX} {w : zW} {cc : ByteArray} {nL : Nat} {own : String} {h0 : Nat} {L : List (Option Value)} {st : List Value} {x : Int32} {ρ : Type} {r : ρ} {inst : Decidable (nI 0 < x)} {E1 E2 : Option ρ} {off : Int} (pc tgt : Nat) (hX : zOk G X cc nL own h0) (d : decode cc pc = .ok (.ifCond .le off, 3)) (ht : (pc : Int) + off = (tgt : Int)) (h : @ite _ (nI 0 < x) inst E1 E2 = some r) (kt : ¬ nI 0 < x → E2 = some r → zZ G X w tgt L st) (kf : nI 0 < x → E1 = some r → zZ G X w (pc + 3) L st) : zZ G X w pc L (.int x :: st) := by
  obtain ⟨p, l, e, R, s, m, args, below, meth, c, A, cells, slots, Q⟩ := X
  obtain ⟨hx, hb, hml, hown, hts, hK, hS0, hg, hA, hfr, hlo, hce, hsl⟩ := hX
  intro H locs ls hP hS hl
  refine lv_if_le hx hb d ht (fun q => ?_) (fun q => ?_)
  · have q : ¬ nI 0 < x := Int32.not_lt.mpr q
    exact kt q (zneg h q) H locs ls hP hS hl
  · have q : nI 0 < x := Int32.not_le.mp q
    exact kf q (zpos h q) H locs ls hP hS hl
theorem z_istore {G : zG} {X : zX} {w : zW} {cc : ByteArray} {nL : Nat} {own : String} {h0 : Nat} {L : List (Option Value)} {st : List Value} {i : Nat} {x : Int32} (pc : Nat) (L1 : List (Option Value)) (hX : zOk G X cc nL own h0) (d : decode cc pc = .ok (.istore i, 2)) (hn : i < L.length) (h2 : zno2 L i = true) (hL : L.set i (some (.int x)) = L1) (k : zZ G X w (pc + 2) L1 st) : zZ G X w pc L (.int x :: st) := by
  subst hL
  obtain ⟨p, l, e, R, s, m, args, below, meth, c, A, cells, slots, Q⟩ := X
  obtain ⟨hx, hb, hml, hown, hts, hK, hS0, hg, hA, hfr, hlo, hce, hsl⟩ := hX
  intro H locs ls hP hS hl
  exact lv_istore hx hb d hl.toLv hn rfl (fun ls2 h3 => k H locs ls2 hP hS (hl.store h2 h3))
theorem z_istore_n {G : zG} {X : zX} {w : zW} {cc : ByteArray} {nL : Nat} {own : String} {h0 : Nat} {L : List (Option Value)} {st : List Value} {j : Fin 4} {x : Int32} (pc : Nat) (L1 : List (Option Value)) (hX : zOk G X cc nL own h0) (d : decode cc pc = .ok (.istore_n j, 1)) (hn : (j : Nat) < L.length) (h2 : zno2 L (j : Nat) = true) (hL : L.set (j : Nat) (some (.int x)) = L1) (k : zZ G X w (pc + 1) L1 st) : zZ G X w pc L (.int x :: st) := by
  subst hL
  obtain ⟨p, l, e, R, s, m, args, below, meth, c, A, cells, slots, Q⟩ := X
  obtain ⟨hx, hb, hml, hown, hts, hK, hS0, hg, hA, hfr, hlo, hce, hsl⟩ := hX
  intro H locs ls hP hS hl
  exact lv_istore_n hx hb d rfl hl.toLv hn rfl (fun ls2 h3 => k H locs ls2 hP hS (hl.store h2 h3))
theorem z_astore {G : zG} {X : zX} {w : zW} {cc : ByteArray} {nL : Nat} {own : String} {h0 : Nat} {L : List (Option Value)} {st : List Value} {i : Nat} {x : Nat} (pc : Nat) (L1 : List (Option Value)) (hX : zOk G X cc nL own h0) (d : decode cc pc = .ok (.astore i, 2)) (hn : i < L.length) (h2 : zno2 L i = true) (hL : L.set i (some (.ref x)) = L1) (k : zZ G X w (pc + 2) L1 st) : zZ G X w pc L (.ref x :: st) := by
  subst hL
  obtain ⟨p, l, e, R, s, m, args, below, meth, c, A, cells, slots, Q⟩ := X
  obtain ⟨hx, hb, hml, hown, hts, hK, hS0, hg, hA, hfr, hlo, hce, hsl⟩ := hX
  intro H locs ls hP hS hl
  exact lv_astore hx hb d hl.toLv hn rfl (fun ls2 h3 => k H locs ls2 hP hS (hl.store h2 h3))
theorem z_astore_n {G : zG} {X : zX} {w : zW} {cc : ByteArray} {nL : Nat} {own : String} {h0 : Nat} {L : List (Option Value)} {st : List Value} {j : Fin 4} {x : Nat} (pc : Nat) (L1 : List (Option Value)) (hX : zOk G X cc nL own h0) (d : decode cc pc = .ok (.astore_n j, 1)) (hn : (j : Nat) < L.length) (h2 : zno2 L (j : Nat) = true) (hL : L.set (j : Nat) (some (.ref x)) = L1) (k : zZ G X w (pc + 1) L1 st) : zZ G X w pc L (.ref x :: st) := by
  subst hL
  obtain ⟨p, l, e, R, s, m, args, below, meth, c, A, cells, slots, Q⟩ := X
  obtain ⟨hx, hb, hml, hown, hts, hK, hS0, hg, hA, hfr, hlo, hce, hsl⟩ := hX
  intro H locs ls hP hS hl
  exact lv_astore_n hx hb d rfl hl.toLv hn rfl (fun ls2 h3 => k H locs ls2 hP hS (hl.store h2 h3))
theorem z_iinc {G : zG} {X : zX} {w : zW} {cc : ByteArray} {nL : Nat} {own : String} {h0 : Nat} {L : List (Option Value)} {st : List Value} {i : Nat} {n : Int} {x v : Int32} (pc : Nat) (L1 : List (Option Value)) (hX : zOk G X cc nL own h0) (d : decode cc pc = .ok (.iinc i n, 3)) (hi : L[i]? = some (some (.int x))) (hv : Int32.ofInt n = v) (h2 : zno2 L i = true) (hL : L.set i (some (.int (x + v))) = L1) (k : zZ G X w (pc + 3) L1 st) : zZ G X w pc L st := by
  subst hL
  subst hv
  obtain ⟨p, l, e, R, s, m, args, below, meth, c, A, cells, slots, Q⟩ := X
  obtain ⟨hx, hb, hml, hown, hts, hK, hS0, hg, hA, hfr, hlo, hce, hsl⟩ := hX
  intro H locs ls hP hS hl
  have hn : i < L.length := (List.getElem?_eq_some_iff.mp hi).1
  have hm : (i, Value.int x) ∈ zls L := List.mem_filterMap.mpr ⟨i, List.mem_range.mpr hn, by rw [hi]⟩
  obtain ⟨q, hq⟩ := List.getElem?_of_mem hm
  exact lv_iinc hx hb d hl.toLv hq rfl hn rfl (fun ls2 h3 => k H locs ls2 hP hS (hl.store h2 h3))
theorem z_tsIn {G : zG} {X : zX} {w : zW} {cc : ByteArray} {nL : Nat} {own : String} {h0 : Nat} {L : List (Option Value)} {st : List Value} {dflt lo hi : Int} {offs : Array Int} {len : Nat} {x : Int32} {off : Int} (pc tgt : Nat) (v : Int) (hX : zOk G X cc nL own h0) (d : decode cc pc = .ok (.tableswitch dflt lo hi offs, len)) (hx0 : x.toInt = v) (h1 : ¬ v < lo) (h2 : ¬ hi < v) (ho : offs[(v - lo).toNat]? = some off) (ht : (pc : Int) + off = (tgt : Int)) (k : zZ G X w tgt L st) : zZ G X w pc L (.int x :: st) := by
  subst hx0
  obtain ⟨p, l, e, R, s, m, args, below, meth, c, A, cells, slots, Q⟩ := X
  obtain ⟨hx, hb, hml, hown, hts, hK, hS0, hg, hA, hfr, hlo, hce, hsl⟩ := hX
  intro H locs ls hP hS hl
  exact lv_tableIn hx hb d h1 h2 ho ht (k H locs ls hP hS hl)
theorem z_tsOut {G : zG} {X : zX} {w : zW} {cc : ByteArray} {nL : Nat} {own : String} {h0 : Nat} {L : List (Option Value)} {st : List Value} {dflt lo hi : Int} {offs : Array Int} {len : Nat} {x : Int32} (pc tgt : Nat) (hX : zOk G X cc nL own h0) (d : decode cc pc = .ok (.tableswitch dflt lo hi offs, len)) (h : x.toInt < lo ∨ hi < x.toInt) (ht : (pc : Int) + dflt = (tgt : Int)) (k : zZ G X w tgt L st) : zZ G X w pc L (.int x :: st) := by
  obtain ⟨p, l, e, R, s, m, args, below, meth, c, A, cells, slots, Q⟩ := X
  obtain ⟨hx, hb, hml, hown, hts, hK, hS0, hg, hA, hfr, hlo, hce, hsl⟩ := hX
  intro H locs ls hP hS hl
  exact lv_tableOut hx hb d h ht (k H locs ls hP hS hl)
theorem z_lsw {G : zG} {X : zX} {w : zW} {cc : ByteArray} {nL : Nat} {own : String} {h0 : Nat} {L : List (Option Value)} {st : List Value} {dflt : Int} {ps : Array (Int × Int)} {len : Nat} {x : Int32} {off : Int} (pc tgt : Nat) (hX : zOk G X cc nL own h0) (d : decode cc pc = .ok (.lookupswitch dflt ps, len)) (hp : (ps.toList.zip (ps.toList.drop 1)).all (fun (a, next) => a.1 < next.1) = true) (ho : Op.lookupswitch.offset ps.toList dflt x.toInt = off) (ht : (pc : Int) + off = (tgt : Int)) (k : zZ G X w tgt L st) : zZ G X w pc L (.int x :: st) := by
  obtain ⟨p, l, e, R, s, m, args, below, meth, c, A, cells, slots, Q⟩ := X
  obtain ⟨hx, hb, hml, hown, hts, hK, hS0, hg, hA, hfr, hlo, hce, hsl⟩ := hX
  intro H locs ls hP hS hl
  exact lv_lookup hx hb d hp ho ht (k H locs ls hP hS hl)
theorem z_get {G : zG} {X : zX} {w : zW} {cc : ByteArray} {nL : Nat} {own : String} {h0 : Nat} {L : List (Option Value)} {st : List Value} {ref C : String} {T : u_T} {N t idx a : Nat} {v : Value} (pc : Nat) (j : Nat) (hX : zOk G X cc nL own h0) (d : decode cc pc = .ok (.getfield idx, 3)) (hs : shp a = (t, 0)) (ht : t < 20) (hc : zclasses[t]? = some (C, T, N)) (hi : ∀ q ∈ u_ws C T N, q ∈ WS) (hj : j < N) (hlink : Cond.fieldLink own idx ref (T j).2.1 (T j).2.2.1 ∈ WS) (href : (T j).1 = ref) (hv : (zfs G (w a) a t)[j]? = some v) (k : zZ G X w (pc + 3) L (v :: st)) : zZ G X w pc L (.ref (zα G a) :: st) := by
  obtain ⟨p, l, e, R, s, m, args, below, meth, c, A, cells, slots, Q⟩ := X
  obtain ⟨hx, hb, hml, hown, hts, hK, hS0, hg, hA, hfr, hlo, hce, hsl⟩ := hX
  intro H locs ls hP hS hl
  have he : (zP G w)[a]? = some (zα G a, .inr (t, zfs G (w a) a t)) := by rw [zP_at G w (shp_lt hs (by omega)), zcell_o G (w a) hs ht]
  exact va_get hx hb hts hi hown hK hP a he hc j hj (hts _ hlink) (fun q hq => by rw [← href]; exact hq) hv d (k H locs ls hP hS hl)
theorem z_put {G : zG} {X : zX} {w : zW} {cc : ByteArray} {nL : Nat} {own : String} {h0 : Nat} {L : List (Option Value)} {st : List Value} {ref C : String} {T : u_T} {N t idx a : Nat} {v : Value} {ty : FieldType} {f : Nat → Int32} (tyf : Nat → FieldType) (pc : Nat) (j : Nat) (hX : zOk G X cc nL own h0) (d : decode cc pc = .ok (.putfield idx, 3)) (hs : shp a = (t, 0)) (ht : t < 20) (hc : zclasses[t]? = some (C, T, N)) (hi : ∀ q ∈ u_ws C T N, q ∈ WS) (hty : ∀ k, k < N → parseFieldDescriptor (T k).2.2.1 = some (tyf k)) (hnm : ∀ a, a < N → ∀ b, b < N → a ≠ b → (T a).2.1 ≠ (T b).2.1) (hj : j < N) (hlink : Cond.fieldLink own idx ref (T j).2.1 (T j).2.2.1 ∈ WS) (href : (T j).1 = ref) (hfin : (T j).2.2.2 = false) (hd : parseFieldDescriptor (T j).2.2.1 = some ty) (hn : narrow ty v = v) (hfit : fits ty v = true) (hlen : (zfs G (w a) a t).length = N) (hv : zfs G f a t = (zfs G (w a) a t).set j v) (k : zZ G X (zset w a f) (pc + 3) L st) : zZ G X w pc L (v :: .ref (zα G a) :: st) := by
  obtain ⟨p, l, e, R, s, m, args, below, meth, c, A, cells, slots, Q⟩ := X
  obtain ⟨hx, hb, hml, hown, hts, hK, hS0, hg, hA, hfr, hlo, hce, hsl⟩ := hX
  intro H locs ls hP hS hl
  have ha : a < zNC := shp_lt hs (by omega)
  have he : (zP G w)[a]? = some (zα G a, .inr (t, zfs G (w a) a t)) := by rw [zP_at G w ha, zcell_o G (w a) hs ht]
  have hset : (zP G w).set a (zα G a, .inr (t, (zfs G (w a) a t).set j v)) = zP G (zset w a f) := zP_set G w ha f _ (by rw [zcell_o G f hs ht, hv])
  refine va_put hx hb hts hi tyf hty hnm hown hK hP (zD_of hg hA w) hS a he hc j hj (hts _ hlink) (fun q hq => by rw [← href]; exact hq) hfin hd hn hfit (by rw [hlen]; exact hj) d (fun H1 locs1 hP1 hD1 hS1 => ?_)
  rw [hset] at hP1
  exact k H1 locs1 ls hP1 hS1 hl
theorem z_iald {G : zG} {X : zX} {w : zW} {cc : ByteArray} {nL : Nat} {own : String} {h0 : Nat} {L : List (Option Value)} {st : List Value} {ρ : Type} {r : ρ} {a n : Nat} {i : Int32} {f : Int32 → Option ρ} (pc : Nat) (hX : zOk G X cc nL own h0) (d : decode cc pc = .ok (.iaload, 1)) (hs : shp a = (20, n)) (h : zld w a n i f = some r) (k : ∀ v : Int32, zin i n = true → f v = some r → zZ G X w (pc + 1) L (.int v :: st)) : zZ G X w pc L (.int i :: .ref (zα G a) :: st) := by
  obtain ⟨hin, h⟩ := zite_some h
  obtain ⟨p, l, e, R, s, m, args, below, meth, c, A, cells, slots, Q⟩ := X
  obtain ⟨hx, hb, hml, hown, hts, hK, hS0, hg, hA, hfr, hlo, hce, hsl⟩ := hX
  intro H locs ls hP hS hl
  have he : (zP G w)[a]? = some (zα G a, .inl (zcl G 0, n, .inl (w a))) := by rw [zP_at G w (shp_lt hs (by decide)), zcell_i G (w a) hs]
  exact va_iald hx hb hK hP a 0 he rfl (zin_vp hin) d (k _ hin h H locs ls hP hS hl)
theorem z_ialdc {G : zG} {X : zX} {w : zW} {cc : ByteArray} {nL : Nat} {own : String} {h0 : Nat} {L : List (Option Value)} {st : List Value} {a n j : Nat} {i : Int32} (pc : Nat) (hX : zOk G X cc nL own h0) (d : decode cc pc = .ok (.iaload, 1)) (hs : shp a = (20, n)) (hin : zin i n = true) (hj : i.toNatClampNeg = j) (k : zZ G X w (pc + 1) L (.int (w a j) :: st)) : zZ G X w pc L (.int i :: .ref (zα G a) :: st) := by
  subst hj
  obtain ⟨p, l, e, R, s, m, args, below, meth, c, A, cells, slots, Q⟩ := X
  obtain ⟨hx, hb, hml, hown, hts, hK, hS0, hg, hA, hfr, hlo, hce, hsl⟩ := hX
  intro H locs ls hP hS hl
  have he : (zP G w)[a]? = some (zα G a, .inl (zcl G 0, n, .inl (w a))) := by rw [zP_at G w (shp_lt hs (by decide)), zcell_i G (w a) hs]
  exact va_iald hx hb hK hP a 0 he rfl (zin_vp hin) d (k H locs ls hP hS hl)
theorem z_iastc {G : zG} {X : zX} {w : zW} {cc : ByteArray} {nL : Nat} {own : String} {h0 : Nat} {L : List (Option Value)} {st : List Value} {a n j : Nat} {i x : Int32} (pc : Nat) (hX : zOk G X cc nL own h0) (d : decode cc pc = .ok (.iastore, 1)) (hs : shp a = (20, n)) (hin : zin i n = true) (hj : i.toNatClampNeg = j) (k : zZ G X (zupd w a j x) (pc + 1) L st) : zZ G X w pc L (.int x :: .int i :: .ref (zα G a) :: st) := by
  subst hj
  obtain ⟨p, l, e, R, s, m, args, below, meth, c, A, cells, slots, Q⟩ := X
  obtain ⟨hx, hb, hml, hown, hts, hK, hS0, hg, hA, hfr, hlo, hce, hsl⟩ := hX
  intro H locs ls hP hS hl
  have ha : a < zNC := shp_lt hs (by decide)
  have he : (zP G w)[a]? = some (zα G a, .inl (zcl G 0, n, .inl (w a))) := by rw [zP_at G w ha, zcell_i G (w a) hs]
  refine va_iast hx hb hK hP (zD_of hg hA w) hS a 0 he rfl (zin_vp hin) d (fun H1 locs1 hP1 hD1 hS1 => ?_)
  rw [zP_set G w ha (upd (w a) i.toNatClampNeg x) _ (zcell_i G _ hs)] at hP1
  exact k H1 locs1 ls hP1 hS1 hl
theorem z_iast {G : zG} {X : zX} {w : zW} {cc : ByteArray} {nL : Nat} {own : String} {h0 : Nat} {L : List (Option Value)} {st : List Value} {ρ : Type} {r : ρ} {a n : Nat} {i x : Int32} {f : zW → Option ρ} (pc : Nat) (hX : zOk G X cc nL own h0) (d : decode cc pc = .ok (.iastore, 1)) (hs : shp a = (20, n)) (h : zsto w a n i x f = some r) (k : ∀ w1 : zW, f w1 = some r → zZ G X w1 (pc + 1) L st) : zZ G X w pc L (.int x :: .int i :: .ref (zα G a) :: st) := by
  obtain ⟨hin, h⟩ := zite_some h
  exact z_iastc pc hX d hs hin rfl (k _ h)
theorem z_w {G : zG} {X : zX} {ρ : Type} {r : ρ} {w1 : zW} {f : zW → Option ρ} {pc : Nat} {L : List (Option Value)} {st : List Value} (h : zlet w1 f = some r) (k : ∀ w2 : zW, f w2 = some r → zZ G X w2 pc L st) : zZ G X w1 pc L st := k w1 h
theorem z_i {ρ : Type} {r : ρ} {x : Int32} {f : Int32 → Option ρ} {C : Int32 → Prop} (h : zlet x f = some r) (k : ∀ y : Int32, f y = some r → C y) : C x := k x h
theorem z_alen {G : zG} {X : zX} {w : zW} {cc : ByteArray} {nL : Nat} {own : String} {h0 : Nat} {L : List (Option Value)} {st : List Value} {a n : Nat} (pc : Nat) (hX : zOk G X cc nL own h0) (d : decode cc pc = .ok (.arraylength, 1)) (hs : shp a = (20, n)) (k : zZ G X w (pc + 1) L (.int (nI n) :: st)) : zZ G X w pc L (.ref (zα G a) :: st) := by
  obtain ⟨p, l, e, R, s, m, args, below, meth, c, A, cells, slots, Q⟩ := X
  obtain ⟨hx, hb, hml, hown, hts, hK, hS0, hg, hA, hfr, hlo, hce, hsl⟩ := hX
  intro H locs ls hP hS hl
  have he : (zP G w)[a]? = some (zα G a, .inl (zcl G 0, n, .inl (w a))) := by rw [zP_at G w (shp_lt hs (by decide)), zcell_i G (w a) hs]
  exact va_alen hx hb hK hP a 0 he (ty := .int) rfl rfl d (k H locs ls hP hS hl)
theorem z_aald {G : zG} {X : zX} {w : zW} {cc : ByteArray} {nL : Nat} {own : String} {h0 : Nat} {L : List (Option Value)} {st : List Value} {ρ : Type} {r : ρ} {a t n : Nat} {i : Int32} {E : Option ρ} (pc : Nat) (hX : zOk G X cc nL own h0) (d : decode cc pc = .ok (.aaload, 1)) (hs : shp a = (t, n)) (ht : t = 21 ∨ t = 22 ∨ t = 23) (h : zguard (zin i n) E = some r) (k : zin i n = true → E = some r → zZ G X w (pc + 1) L (.ref (zα G (a + zstep t + 2 * i.toNatClampNeg)) :: st)) : zZ G X w pc L (.int i :: .ref (zα G a) :: st) := by
  obtain ⟨hin, h⟩ := zite_some h
  obtain ⟨p, l, e, R, s, m, args, below, meth, c, A, cells, slots, Q⟩ := X
  obtain ⟨hx, hb, hml, hown, hts, hK, hS0, hg, hA, hfr, hlo, hce, hsl⟩ := hX
  intro H locs ls hP hS hl
  have he : (zP G w)[a]? = some (zα G a, .inl (zcl G (t - 20), n, .inr (.inr (.inr (.inr (fun i => some (zα G (a + zstep t + 2 * i)))))))) := by rw [zP_at G w (shp_lt hs (by omega)), zcell_a G (w a) hs (by omega)]
  rcases ht with rfl | rfl | rfl
  · exact va_aldq hx hb hK hP a 1 he (C := RX9) rfl (zin_vp hin) d (k hin h H locs ls hP hS hl)
  · exact va_aldq hx hb hK hP a 2 he (C := RX10) rfl (zin_vp hin) d (k hin h H locs ls hP hS hl)
  · exact va_aldq hx hb hK hP a 3 he (C := RX4) rfl (zin_vp hin) d (k hin h H locs ls hP hS hl)
theorem z_gets {G : zG} {X : zX} {w : zW} {cc : ByteArray} {nL : Nat} {own : String} {h0 : Nat} {L : List (Option Value)} {st : List Value} {C n ds : String} {idx : Nat} {v : Value} (pc : Nat) (hX : zOk G X cc nL own h0) (d : decode cc pc = .ok (.getstatic idx, 3)) (hZ : ∀ A U H1, zS G A U H1 → va_Z C n ds v A U H1) (hlink : Cond.fieldLink own idx C n ds ∈ WS ∨ (C = RX11 ∧ ds = "[I" ∧ (own, idx, n) ∈ zNF)) (k : zZ G X w (pc + 3) L (v :: st)) : zZ G X w pc L st := by
  obtain ⟨p, l, e, R, s, m, args, below, meth, c, A, cells, slots, Q⟩ := X
  obtain ⟨hx, hb, hml, hown, hts, hK, hS0, hg, hA, hfr, hlo, hce, hsl⟩ := hX
  intro H locs ls hP hS hl
  rcases hlink with hlink | ⟨rfl, rfl, hlink⟩
  · exact va_gets hx hb (hZ _ _ _ hS0) hS hown (hts _ hlink) (fun q hq => hq) d (k H locs ls hP hS hl)
  · exact va_getsN hx hb (hZ _ _ _ hS0) hS hown (va_Nw.use rfl (hS0.2.2.2.2.2.2.2.2.2.2.2.2.2.1 _ hlink)) (fun q hq => hq) d (k H locs ls hP hS hl)
theorem z_sald {G : zG} {X : zX} {w : zW} {cc : ByteArray} {nL : Nat} {own : String} {h0 : Nat} {L : List (Option Value)} {st : List Value} {ρ : Type} {r : ρ} {t n : Nat} {i : Int32} {f : Int32 → Option ρ} (pc : Nat) (hX : zOk G X cc nL own h0) (d : decode cc pc = .ok (.iaload, 1)) (hT : ∀ A U H1, zS G A U H1 → va_T .int (zsa G t) n (fun j => .int (ztab t j)) A U H1) (h : ztld t n i f = some r) (k : ∀ v : Int32, f v = some r → zZ G X w (pc + 1) L (.int v :: st)) : zZ G X w pc L (.int i :: .ref (zsa G t) :: st) := by
  obtain ⟨hin, h⟩ := zite_some h
  obtain ⟨p, l, e, R, s, m, args, below, meth, c, A, cells, slots, Q⟩ := X
  obtain ⟨hx, hb, hml, hown, hts, hK, hS0, hg, hA, hfr, hlo, hce, hsl⟩ := hX
  intro H locs ls hP hS hl
  exact va_ti hx hb (hT _ _ _ hS0) hS (zin_vp hin) rfl d (k _ h H locs ls hP hS hl)
theorem zSz0 {G : zG} (A : Nat → Prop) (U : State) (H : Heap) (h : zS G A U H) : va_Z "LetterWalls" "ABOVE" "[I" (.ref (zsa G 0)) A U H := h.1
theorem zSt0 {G : zG} (A : Nat → Prop) (U : State) (H : Heap) (h : zS G A U H) : va_T .int (zsa G 0) 7 (fun j => .int (ztab 0 j)) A U H := h.2.1
theorem zSz1 {G : zG} (A : Nat → Prop) (U : State) (H : Heap) (h : zS G A U H) : va_Z "LetterWalls" "LEADS_TO" "[I" (.ref (zsa G 1)) A U H := h.2.2.1
theorem zSt1 {G : zG} (A : Nat → Prop) (U : State) (H : Heap) (h : zS G A U H) : va_T .int (zsa G 1) 5 (fun j => .int (ztab 1 j)) A U H := h.2.2.2.1
theorem zSz2 {G : zG} (A : Nat → Prop) (U : State) (H : Heap) (h : zS G A U H) : va_Z "LetterWalls" "COMES_IN" "[I" (.ref (zsa G 2)) A U H := h.2.2.2.2.1
theorem zSt2 {G : zG} (A : Nat → Prop) (U : State) (H : Heap) (h : zS G A U H) : va_T .int (zsa G 2) 5 (fun j => .int (ztab 2 j)) A U H := h.2.2.2.2.2.1
theorem zSz3 {G : zG} (A : Nat → Prop) (U : State) (H : Heap) (h : zS G A U H) : va_Z "LetterWalls" "BODIES" "[I" (.ref (zsa G 3)) A U H := h.2.2.2.2.2.2.1
theorem zSt3 {G : zG} (A : Nat → Prop) (U : State) (H : Heap) (h : zS G A U H) : va_T .int (zsa G 3) 28 (fun j => .int (ztab 3 j)) A U H := h.2.2.2.2.2.2.2.1
theorem z_ldcS {G : zG} {X : zX} {w : zW} {cc : ByteArray} {nL : Nat} {own : String} {h0 : Nat} {L : List (Option Value)} {st : List Value} {tx : String} {q i : Nat} (pc : Nat) (hX : zOk G X cc nL own h0) (d : decode cc pc = .ok (.ldc i, 2)) (hR : ∀ A U H1, zS G A U H1 → vk_R own i tx q U) (k : zZ G X w (pc + 2) L (.ref q :: st)) : zZ G X w pc L st := by
  obtain ⟨p, l, e, R, s, m, args, below, meth, c, A, cells, slots, Q⟩ := X
  obtain ⟨hx, hb, hml, hown, hts, hK, hS0, hg, hA, hfr, hlo, hce, hsl⟩ := hX
  intro H locs ls hP hS hl
  exact va_ldcS hx hb hown (hR _ _ _ hS0) d (k H locs ls hP hS hl)
theorem z_ifnonnull {G : zG} {X : zX} {w : zW} {cc : ByteArray} {nL : Nat} {own : String} {h0 : Nat} {L : List (Option Value)} {st : List Value} {off : Int} {x : Nat} (pc tgt : Nat) (hX : zOk G X cc nL own h0) (d : decode cc pc = .ok (.ifnonnull off, 3)) (ht : (pc : Int) + off = (tgt : Int)) (k : zZ G X w tgt L st) : zZ G X w pc L (.ref x :: st) := by
  obtain ⟨p, l, e, R, s, m, args, below, meth, c, A, cells, slots, Q⟩ := X
  obtain ⟨hx, hb, hml, hown, hts, hK, hS0, hg, hA, hfr, hlo, hce, hsl⟩ := hX
  intro H locs ls hP hS hl
  exact lv_ifnonnull hx hb d ht (k H locs ls hP hS hl)
theorem z_ifnull {G : zG} {X : zX} {w : zW} {cc : ByteArray} {nL : Nat} {own : String} {h0 : Nat} {L : List (Option Value)} {st : List Value} {off : Int} {x : Nat} (pc : Nat) (hX : zOk G X cc nL own h0) (d : decode cc pc = .ok (.ifnull off, 3)) (k : zZ G X w (pc + 3) L st) : zZ G X w pc L (.ref x :: st) := by
  obtain ⟨p, l, e, R, s, m, args, below, meth, c, A, cells, slots, Q⟩ := X
  obtain ⟨hx, hb, hml, hown, hts, hK, hS0, hg, hA, hfr, hlo, hce, hsl⟩ := hX
  intro H locs ls hP hS hl
  exact lv_ifnull hx hb d (k H locs ls hP hS hl)
theorem z_mmin {G : zG} {X : zX} {w : zW} {cc : ByteArray} {nL : Nat} {own : String} {h0 : Nat} {L : List (Option Value)} {st : List Value} {x y : Int32} {idx : Nat} (pc : Nat) (hX : zOk G X cc nL own h0) (d : decode cc pc = .ok (.invokestatic idx, 3)) (h1 : Cond.methodLink own idx Lib.Math.min.name ∈ WS) (h2 : Cond.static Lib.Math.min.name ∈ WS) (h3 : Cond.initialized "java/lang/Math" ∈ WS) (h4 : Cond.code Lib.Math.min.name Lib.Math.min.code 2 (some .int) ∈ WS) (hn : L.length = nL) (hh : 1 ≤ h0) (hr : (st.map fun v => v.category).sum ≤ 8) (k : zZ G X w (pc + 3) L (.int (if y < x then y else x) :: st)) : zZ G X w pc L (.int y :: .int x :: st) := by
  obtain ⟨p, l, e, R, s, m, args, below, meth, c, A, cells, slots, Q⟩ := X
  obtain ⟨hx, hb, hml, hown, hts, hK, hS0, hg, hA, hfr, hlo, hce, hsl⟩ := hX
  intro H locs ls hP hS hl
  exact va_mmin hx hb (hml.trans (hn.symm.trans hl.1.symm)) hown (hts _ h1) (hts _ h2) (hts _ h3) (hts _ h4) (by omega) (by omega) hce hsl d (k H locs ls hP hS hl)
theorem z_mmax {G : zG} {X : zX} {w : zW} {cc : ByteArray} {nL : Nat} {own : String} {h0 : Nat} {L : List (Option Value)} {st : List Value} {x y : Int32} {idx : Nat} (pc : Nat) (hX : zOk G X cc nL own h0) (d : decode cc pc = .ok (.invokestatic idx, 3)) (h1 : Cond.methodLink own idx Lib.Math.max.name ∈ WS) (h2 : Cond.static Lib.Math.max.name ∈ WS) (h3 : Cond.initialized "java/lang/Math" ∈ WS) (h4 : Cond.code Lib.Math.max.name Lib.Math.max.code 2 (some .int) ∈ WS) (hn : L.length = nL) (hh : 1 ≤ h0) (hr : (st.map fun v => v.category).sum ≤ 8) (k : zZ G X w (pc + 3) L (.int (if x < y then y else x) :: st)) : zZ G X w pc L (.int y :: .int x :: st) := by
  obtain ⟨p, l, e, R, s, m, args, below, meth, c, A, cells, slots, Q⟩ := X
  obtain ⟨hx, hb, hml, hown, hts, hK, hS0, hg, hA, hfr, hlo, hce, hsl⟩ := hX
  intro H locs ls hP hS hl
  exact va_mmax hx hb (hml.trans (hn.symm.trans hl.1.symm)) hown (hts _ h1) (hts _ h2) (hts _ h3) (hts _ h4) (by omega) (by omega) hce hsl d (k H locs ls hP hS hl)
theorem z_copy {G : zG} {X : zX} {w : zW} {cc : ByteArray} {nL : Nat} {own : String} {h0 : Nat} {L : List (Option Value)} {st : List Value} {ρ : Type} {r : ρ} {E : Option ρ} {a b n0 n1 idx : Nat} {sp dp n : Int32} (pc : Nat) (hX : zOk G X cc nL own h0) (d : decode cc pc = .ok (.invokestatic idx, 3)) (h1 : Cond.methodLink own idx arraycopyName ∈ WS) (h2 : Cond.native arraycopyName ∈ WS) (h3 : Cond.static arraycopyName ∈ WS) (h4 : Cond.initialized "java/lang/System" ∈ WS) (hsa : shp a = (20, n0)) (hsb : shp b = (20, n1)) (hn : L.length = nL) (hh : 1 ≤ h0) (hr : (st.map fun v => v.category).sum ≤ 8) (h : zguard (zcpyok sp dp n n0 n1) E = some r) (k : E = some r → zZ G X (zcopy w a b sp dp n) (pc + 3) L st) : zZ G X w pc L (.int n :: .int dp :: .ref (zα G b) :: .int sp :: .ref (zα G a) :: st) := by
  obtain ⟨hok, h⟩ := zite_some h
  obtain ⟨o1, o2, o3, o4, o5⟩ := of_decide_eq_true hok
  obtain ⟨p, l, e, R, s, m, args, below, meth, c, A, cells, slots, Q⟩ := X
  obtain ⟨hx, hb, hml, hown, hts, hK, hS0, hg, hA, hfr, hlo, hce, hsl⟩ := hX
  intro H locs ls hP hS hl
  have hb0 : b < zNC := shp_lt hsb (by decide)
  have ea : (zP G w)[a]? = some (zα G a, .inl (zcl G 0, n0, .inl (w a))) := by rw [zP_at G w (shp_lt hsa (by decide)), zcell_i G (w a) hsa]
  have eb : (zP G w)[b]? = some (zα G b, .inl (zcl G 0, n1, .inl (w b))) := by rw [zP_at G w hb0, zcell_i G (w b) hsb]
  have hw : nativeFrameWords "java/lang/System" "arraycopy" 5 ≤ 20 := by decide
  refine va_copyi hx hb (hml.trans (hn.symm.trans hl.1.symm)) hown (hts _ h1) (hts _ h2) (hts _ h3) (hts _ h4) hK hP (zD_of hg hA w) hS a b 0 0 ea eb (ty := .int) rfl rfl rfl o1 o2 o3 o4 o5 (fun _ _ => rfl) (by omega) (by omega) d (fun H1 locs1 hP1 hD1 hS1 => ?_)
  rw [zP_set G w hb0 (va_cpy (w a) (w b) sp.toNatClampNeg dp.toNatClampNeg n.toNatClampNeg) _ (zcell_i G _ hsb)] at hP1
  exact k h H1 locs1 ls hP1 hS1 hl
theorem zsi_lt (c : Int32) : zsi c < 3 := by unfold zsi; split <;> (try split) <;> omega
theorem zSc {G : zG} (c : Int32) (A : Nat → Prop) (U : State) (H : Heap) (h : zS G A U H) : va_OF "java/lang/String" "coder" "B" (.int (nI 0)) (zstr G c) A U H := (h.2.2.2.2.2.2.2.2.2.1.1 (zsi c) (zsi_lt c)).2.1
theorem zSv {G : zG} (c : Int32) (A : Nat → Prop) (U : State) (H : Heap) (h : zS G A U H) : va_OF "java/lang/String" "value" "[B" (.ref (zaV G (zsi c))) (zstr G c) A U H := (h.2.2.2.2.2.2.2.2.2.1.1 (zsi c) (zsi_lt c)).2.2.1
theorem zSb {G : zG} (c : Int32) (A : Nat → Prop) (U : State) (H : Heap) (h : zS G A U H) : va_T .byte (zaV G (zsi c)) (zslen c) (fun j => .int (zsch c j)) A U H := (h.2.2.2.2.2.2.2.2.2.1.1 (zsi c) (zsi_lt c)).2.2.2
theorem zSco {G : zG} (A : Nat → Prop) (U : State) (H : Heap) (h : zS G A U H) : va_Z "java/lang/String" "COMPACT_STRINGS" "Z" (.int (nI 1)) A U H := h.2.2.2.2.2.2.2.2.1
theorem z_getT {G : zG} {X : zX} {w : zW} {cc : ByteArray} {nL : Nat} {own : String} {h0 : Nat} {L : List (Option Value)} {st : List Value} {c : Int32} {n ds : String} {idx : Nat} {v : Value} (pc : Nat) (hX : zOk G X cc nL own h0) (d : decode cc pc = .ok (.getfield idx, 3)) (hO : ∀ A U H1, zS G A U H1 → va_OF "java/lang/String" n ds v (zstr G c) A U H1) (hlink : Cond.fieldLink own idx "java/lang/String" n ds ∈ WS) (k : zZ G X w (pc + 3) L (v :: st)) : zZ G X w pc L (.ref (zstr G c) :: st) := by
  obtain ⟨p, l, e, R, s, m, args, below, meth, c, A, cells, slots, Q⟩ := X
  obtain ⟨hx, hb, hml, hown, hts, hK, hS0, hg, hA, hfr, hlo, hce, hsl⟩ := hX
  intro H locs ls hP hS hl
  exact vk_getf hx hb (hO _ _ _ hS0) hS hown (hts _ hlink) (fun q hq => hq) d (k H locs ls hP hS hl)
theorem z_blen {G : zG} {X : zX} {w : zW} {cc : ByteArray} {nL : Nat} {own : String} {h0 : Nat} {L : List (Option Value)} {st : List Value} {c : Int32} (pc : Nat) (hX : zOk G X cc nL own h0) (d : decode cc pc = .ok (.arraylength, 1)) (k : zZ G X w (pc + 1) L (.int (nI (zslen c)) :: st)) : zZ G X w pc L (.ref (zaV G (zsi c)) :: st) := by
  obtain ⟨p, l, e, R, s, m, args, below, meth, c, A, cells, slots, Q⟩ := X
  obtain ⟨hx, hb, hml, hown, hts, hK, hS0, hg, hA, hfr, hlo, hce, hsl⟩ := hX
  intro H locs ls hP hS hl
  exact va_tlen hx hb (zSb _ _ _ _ hS0) hS rfl d (k H locs ls hP hS hl)
theorem z_bald {G : zG} {X : zX} {w : zW} {cc : ByteArray} {nL : Nat} {own : String} {h0 : Nat} {L : List (Option Value)} {st : List Value} {ρ : Type} {r : ρ} {c i : Int32} {f : Int32 → Option ρ} (pc : Nat) (hX : zOk G X cc nL own h0) (d : decode cc pc = .ok (.baload, 1)) (h : zbld c i f = some r) (k : ∀ v : Int32, f v = some r → zZ G X w (pc + 1) L (.int v :: st)) : zZ G X w pc L (.int i :: .ref (zaV G (zsi c)) :: st) := by
  obtain ⟨hin, h⟩ := zite_some h
  obtain ⟨p, l, e, R, s, m, args, below, meth, c, A, cells, slots, Q⟩ := X
  obtain ⟨hx, hb, hml, hown, hts, hK, hS0, hg, hA, hfr, hlo, hce, hsl⟩ := hX
  intro H locs ls hP hS hl
  exact va_tb hx hb (zSb _ _ _ _ hS0) hS (zin_vp hin) rfl d (k _ h H locs ls hP hS hl)
