def nn (s : Nat → Int32) : Prop := ∀ p, p < 604 → p ≠ 6 → 0 ≤ (s p).toInt
def Rcnt (w : zW) (T : Nat) (s : Nat → Int32) : Prop := (w T 7 = s 0 ∧ (s 0).toInt ≤ 6) ∧ (w (T + 2) 1 = s 1 ∧ (s 1).toInt ≤ 12) ∧ (w T 10 = s 2 ∧ (s 2).toInt ≤ 3) ∧ (w T 11 = s 3 ∧ (s 3).toInt ≤ 99999) ∧ (w T 8 = s 4 ∧ (s 4).toInt ≤ 60) ∧ (w T 9 = s 5 ∧ (s 5).toInt ≤ 24) ∧ w T 12 = s 6
def Rwal1 (w : zW) (T : Nat) (s : Nat → Int32) (i : Nat) : Prop := (w (T + 39 + 2 * i) 1 = s (8 + 27 * i) ∧ (s (8 + 27 * i)).toInt < 7) ∧ (w (T + 39 + 2 * i) 2 = s (9 + 27 * i) ∧ (s (9 + 27 * i)).toInt < 10) ∧ (w (T + 39 + 2 * i) 3 = s (10 + 27 * i) ∧ (s (10 + 27 * i)).toInt ≤ 24) ∧ ∀ j : Nat, (j : Int) < (s (10 + 27 * i)).toInt → w (T + 40 + 2 * i) j = s (11 + 27 * i + j) ∧ (s (11 + 27 * i + j)).toInt ≤ 26
def Rwall (w : zW) (T : Nat) (s : Nat → Int32) : Prop := ∀ i : Nat, (i : Int) < (s 0).toInt → Rwal1 w T s i
def Rwor1 (w : zW) (T : Nat) (s : Nat → Int32) (j : Nat) : Prop := (w (T + 4 + 2 * j) 1 = s (170 + 8 * j) ∧ (s (170 + 8 * j)).toInt < 5) ∧ (w (T + 4 + 2 * j) 2 = s (171 + 8 * j) ∧ 1 ≤ (s (171 + 8 * j)).toInt ∧ (s (171 + 8 * j)).toInt ≤ 6) ∧ ∀ k : Nat, (k : Int) < (s (171 + 8 * j)).toInt → w (T + 5 + 2 * j) k = s (172 + 8 * j + k) ∧ 1 ≤ (s (172 + 8 * j + k)).toInt ∧ (s (172 + 8 * j + k)).toInt ≤ 26
def Rword (w : zW) (T : Nat) (s : Nat → Int32) : Prop := ∀ j : Nat, (j : Int) < (s 1).toInt → Rwor1 w T s j
def Rheap (w : zW) (T : Nat) (s : Nat → Int32) : Prop := ∀ l : Nat, 1 ≤ l → l ≤ 26 → w (T + 37) l = s (266 + l) ∧ (s (266 + l)).toInt ≤ 99
def Rtape (w : zW) (T : Nat) (s : Nat → Int32) : Prop := ∀ k : Nat, (k : Int) < (s 4).toInt → w (T + 36) k = s (544 + k) ∧ (s (544 + k)).toInt < 256
def Rwait (w : zW) (T : Nat) (s : Nat → Int32) : Prop := ∀ k : Nat, (k : Int) < (s 5).toInt → w (T + 38) k = s (604 + k)
def tname : Nat → Nat → Nat
  | 0, 0 => 108
  | 0, 1 => 105
  | 0, 2 => 110
  | 0, 3 => 109
  | 1, 0 => 108
  | 1, 1 => 115
  | 1, 2 => 104
  | _, _ => 0
def tnames : Nat → Nat
  | 0 => 4
  | _ => 3
def tops : List Nat := [42, 43, 45, 47, 37, 60, 61, 62, 38, 124]
def stepOk (u : Nat) (what v sign : Int32) : Prop := (what = nI 0 ∧ ∃ n : Nat, n ≤ 9999 ∧ v = nI n ∧ sign = nI n) ∨ (what = nI 1 ∧ ∃ i : Nat, i < tnames u ∧ v = nI (tname u i) ∧ sign = mI (1 + i)) ∨ (what = nI 2 ∧ sign = mI 33) ∨ (what = nI 3 ∧ ∃ c : Nat, c ∈ tops ∧ v = nI c ∧ sign = mI c)
def tdep (f : Nat → Int32) : Nat → Nat
  | 0 => 0
  | k + 1 => if f (2 * k) = nI 0 ∨ f (2 * k) = nI 1 then tdep f k + 1 else if f (2 * k) = nI 2 then tdep f k else tdep f k - 1
/-- the steps of a text from f on, c of them, as the class's signs g -/
def textOk (u c : Nat) (f g : Nat → Int32) : Prop := c ≤ 60 ∧ (∀ k : Nat, k < c → stepOk u (f (2 * k)) (f (2 * k + 1)) (g k) ∧ (f (2 * k) = nI 2 → 1 ≤ tdep f k) ∧ (f (2 * k) = nI 3 → 2 ≤ tdep f k)) ∧ (0 < c → tdep f c = 1)
def Rtex1 (w : zW) (T : Nat) (s : Nat → Int32) (u : Nat) : Prop := w (T + 28 + 4 * u) 3 = s (294 + 125 * u) ∧ textOk u (s (294 + 125 * u)).toInt.toNat (fun k => s (295 + 125 * u + k)) (w (T + 29 + 4 * u))
def Rtext (w : zW) (T : Nat) (s : Nat → Int32) : Prop := ∀ u : Nat, u < 2 → Rtex1 w T s u
def RT (w : zW) (T : Nat) (s : Nat → Int32) : Prop := nn s ∧ Rcnt w T s ∧ Rwall w T s ∧ Rword w T s ∧ Rheap w T s ∧ Rtape w T s ∧ Rwait w T s ∧ Rtext w T s
def Rshe1 (w : zW) (i : Nat) : Prop := w (104 + 2 * i) 1 = w 140 i ∧ ((w 140 i).toInt = 0 ∨ (w 140 i).toInt = 8 ∨ (w 140 i).toInt = 16 ∨ (w 140 i).toInt = 32) ∧ w (104 + 2 * i) 2 = w 141 i ∧ 0 ≤ (w 141 i).toInt ∧ (w 141 i).toInt ≤ 24 ∧ ∀ k : Nat, (k : Int) < (w 141 i).toInt → w (105 + 2 * i) k = w 142 (24 * i + k)
def Rsheet (w : zW) : Prop := ∀ i : Nat, i < 4 → Rshe1 w i
def Rerr (w : zW) : Prop := ∀ k : Nat, 1 ≤ k → k ≤ 6 → w 127 k = w 131 k
def Rtra (w : zW) : Prop := w 125 1 = w 128 21 ∧ 0 ≤ (w 128 21).toInt ∧ (w 128 21).toInt ≤ 30 ∧ ∀ k : Nat, (k : Int) < (w 128 21).toInt → w 126 k = w 139 k
def Rel (w : zW) : Prop := RT w 1 (w 129) ∧ (¬ w 128 2 = nI 0 → RT w 52 (w 130)) ∧ Rsheet w ∧ Rerr w ∧ Rtra w ∧ w 0 10 = w 128 2
