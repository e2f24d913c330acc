/-! what the calls answer -/
/-- figure m of a code, mirror 0 the greatest -/
def dg (c m : Nat) : Nat := c / 5 ^ (4 - m) % 5
def cod (f : Nat → Nat) : Nat := f 0 * 625 + f 1 * 125 + f 2 * 25 + f 3 * 5 + f 4
def setd (c m v : Nat) : Nat := c - dg c m * 5 ^ (4 - m) + v * 5 ^ (4 - m)
def dk (a : St) (st : Bool) : Nat := if st then 0 else aH a
/-- the code's aims are for mirrors and patches that there are, stuck ones as they are -/
def there (a : St) (c : Nat) : Bool := (List.range 5).all (fun m => (if m < aN a then decide (dg c m ≤ aP a) else decide (dg c m = 0)) && (!(aK a).testBit m || decide (dg c m = aV a m)))
def okk (a : St) (st : Bool) (c : Nat) : Bool := there a c && SF a (dg c) (dk a st)
/-- the best of the codes below k: what is caught, and 1 (0: none), and the code -/
def BS (a : St) (st : Bool) : Nat → Nat × Nat
  | 0 => (0, 0)
  | c + 1 => if okk a st c = true ∧ (BS a st c).1 < CT a (dg c) (aH a) + 1 then (CT a (dg c) (aH a) + 1, c) else BS a st c
def bsF (a : St) (st : Bool) : Nat × Nat := BS a st 3125
def bsV (a : St) (st : Bool) : Int32 := if (bsF a st).1 = 0 then -1001 else nI ((bsF a st).1 - 1)
/-- reached from b by at most so many moves over good codes -/
def rch (a : St) (st : Bool) (b : Nat) : Nat → Nat → Prop
  | 0, c => c = b
  | k + 1, c => okk a st c = true ∧ ∃ m v, m < aN a ∧ v ≤ aP a ∧ rch a st b k (setd c m v)
def Dl (a : St) (st : Bool) (b k c : Nat) : Prop := rch a st b k c ∧ ∀ j, j < k → ¬ rch a st b j c
noncomputable def pB (P : Prop) : Bool := @decide P (Classical.propDecidable P)
theorem pB_t {P : Prop} : pB P = true ↔ P := @decide_eq_true_iff P (Classical.propDecidable P)
theorem pB_f {P : Prop} : pB P = false ↔ ¬ P := @decide_eq_false_iff_not P (Classical.propDecidable P)
/-- the move j (8 times the mirror, and the aim) leads from c to a good code that is k from b -/
def mvP (a : St) (st : Bool) (b c k j : Nat) : Prop := j / 8 < aN a ∧ j % 8 ≤ aP a ∧ (aK a).testBit (j / 8) = false ∧ setd c (j / 8) (j % 8) ≠ c ∧ okk a st (setd c (j / 8) (j % 8)) = true ∧ Dl a st b k (setd c (j / 8) (j % 8))
noncomputable def mvF (a : St) (st : Bool) (b c k : Nat) : Nat := ld (fun j => !pB (mvP a st b c k j)) 40
noncomputable def chK (a : St) (st : Bool) : Nat := ld (fun k => !decide (mvF a st (bsF a st).2 (cod (aV a)) k < 40)) 3125
/-- how many moves, and 1; 0: none -/
noncomputable def chN (a : St) (st : Bool) : Nat := if (bsF a st).1 = 0 then 0 else if cod (aV a) = (bsF a st).2 then 1 else if chK a st < 3125 then chK a st + 2 else 0
noncomputable def chM (a : St) (st : Bool) : Int32 := if chN a st = 0 then -1001 else nI (chN a st - 1)
noncomputable def pth (a : St) (st : Bool) : Nat → Nat
  | 0 => cod (aV a)
  | k + 1 => setd (pth a st k) (mvF a st (bsF a st).2 (pth a st k) (chN a st - 2 - k) / 8) (mvF a st (bsF a st).2 (pth a st k) (chN a st - 2 - k) % 8)
noncomputable def chV (a : St) (st : Bool) (k : Nat) : Nat := mvF a st (bsF a st).2 (pth a st k) (chN a st - 2 - k)
/-- of sets of mirrors the best relief below s: the set and 1 (0: none), how many, what is caught -/
def RLf (a : St) : Nat → Nat × Nat × Nat
  | 0 => (0, 6, 0)
  | s + 1 => if s &&& aK a = 0 ∧ SF a (aV a) (aH a ||| s) = true ∧ (pcn s < (RLf a s).2.1 ∨ pcn s = (RLf a s).2.1 ∧ (RLf a s).2.2 < CT a (aV a) (aH a ||| s)) then (s + 1, pcn s, CT a (aV a) (aH a ||| s)) else RLf a s
def rlV (t : Nat × Nat × Nat) : Int32 := if t.1 = 0 then -1001 else nI (t.1 - 1)
/-! the whole state: the field, the page, what was counted -/
abbrev Ab : Type := St × Nat × (Nat → Int32) × Int32 × Int32
def fd (c : Int32) : Nat := (c - 48).toNatClampNeg
def stF (n : Nat) (c : Nat → Int32) : St := (n / 4, fd (c 0), fun m => if m < n / 4 then fd (c (4 * m + 2)) else 0, fun m => if m < n / 4 then fd (c (4 * m + 4)) else 0, fun _ => 0, fun _ => 20, 0, 0)
def letterS (s : Ab) (x : Int32) : Int32 × Ab := if x < 32 ∨ ¬ x ≤ 126 then (-1003, s) else if s.2.1 = 21 then (-1005, s) else (nI (s.2.1 + 1), (s.1, s.2.1 + 1, upd s.2.2.1 s.2.1 x, s.2.2.2))
def blankS (s : Ab) : Int32 × Ab := (nI s.2.1, (s.1, 0, s.2.2))
def faultS (s : Ab) : Int32 × Ab := (nI (ffs s.2.1 s.2.2.1), s)
def fieldS (s : Ab) : Int32 × Ab := if isF s.2.1 s.2.2.1 = true then (nI (s.2.1 / 4), (stF s.2.1 s.2.2.1, 0, s.2.2.1, s.2.2.2.1 + 1, s.2.2.2.2)) else (-1004, s)
def setC (a : St) (q v : Nat) : St := (aN a, aP a, aM a, aS a, aV a, fun j => if j = q then v else aC a j, aH a, aK a)
def setH (a : St) (x : Nat) : St := (aN a, aP a, aM a, aS a, aV a, aC a, x, aK a)
def setK (a : St) (x : Nat) : St := (aN a, aP a, aM a, aS a, aV a, aC a, aH a, x)
def upN (f : Nat → Nat) (k v : Nat) : Nat → Nat := fun j => if j = k then v else f j
def ceilingS (s : Ab) (x v : Int32) : Int32 × Ab := if ix x (aP s.1) = false then (-1002, s) else if v < 0 ∨ ¬ v ≤ 60 then (-1003, s) else (nI (aC s.1 x.toNatClampNeg), (setC s.1 x.toNatClampNeg v.toNatClampNeg, s.2))
def shadeS (s : Ab) (x : Int32) : Int32 × Ab := if aN s.1 = 0 then (-1004, s) else if ix x (2 ^ aN s.1) = false then (-1003, s) else (nI (aH s.1), (setH s.1 x.toNatClampNeg, s.2))
def clrb (K j : Nat) : Nat := if K.testBit j then K - 2 ^ j else K
def setb (K j : Nat) : Nat := if K.testBit j then K else K + 2 ^ j
def stuckS (s : Ab) (x b : Int32) : Int32 × Ab := if ix x (aN s.1) = false then (-1002, s) else (b2i ((aK s.1).testBit x.toNatClampNeg), (setK s.1 (if b = 0 then clrb (aK s.1) x.toNatClampNeg else setb (aK s.1) x.toNatClampNeg), s.2))
def aimS (s : Ab) (x y : Int32) : Int32 × Ab := if ix x (aN s.1) = false then (-1002, s) else if y ≠ -1 ∧ ix y (aP s.1) = false then (-1003, s)
  else if (aK s.1).testBit x.toNatClampNeg = true ∨ y ≠ -1 ∧ SF s.1 (upN (aV s.1) x.toNatClampNeg (y + 1).toNatClampNeg) (aH s.1) = false then (-1004, s)
  else (nI (aV s.1 x.toNatClampNeg) - 1, (setV s.1 (upN (aV s.1) x.toNatClampNeg (y + 1).toNatClampNeg), s.2.1, s.2.2.1, s.2.2.2.1, s.2.2.2.2 + 1))
def ofMir (a : St) (m : Nat) (w : Int) : Int32 := if w = 0 then nI (aM a m) else if w = 1 then nI (aS a m) else if w = 2 then nI (aV a m) - 1 else if w = 3 then b2i ((aH a).testBit m) else if w = 4 then b2i ((aK a).testBit m) else if (aH a).testBit m = true then 0 else nI (sm (gv a m (aV a m)) 4)
def mirrorS (s : Ab) (x w : Int32) : Int32 := if ix x (aN s.1) = false then -1002 else if w.toInt < 0 ∨ 5 < w.toInt then -1003 else ofMir s.1 x.toNatClampNeg w.toInt
def ofPat (a : St) (q : Nat) (w : Int) : Int32 := if w = 0 then nI (HT a (aV a) (aH a) q) else if w = 1 then nI (aC a q) else if w = 2 then nI (HT a (aV a) 0 q) else nI (cnt (fun m => decide (aV a m = q + 1)) (aN a))
def patchS (s : Ab) (x w : Int32) : Int32 := if ix x (aP s.1) = false then -1002 else if w.toInt < 0 ∨ 3 < w.toInt then -1003 else ofPat s.1 x.toNatClampNeg w.toInt
def bestA (a : St) (st : Bool) (w : Int) : Int32 := if (bsF a st).1 = 0 ∨ w = 0 then bsV a st else if w = 1 then nI (bnd a) - bsV a st else if (w - 10).toNat < aN a then nI (dg (bsF a st).2 (w - 10).toNat) - 1 else -1001
def bestS (s : Ab) (st : Bool) (w : Int32) : Int32 := if aN s.1 = 0 then -1004 else if (w.toInt = 0 ∨ w.toInt = 1 ∨ 10 ≤ w.toInt ∧ w.toInt ≤ 14) then bestA s.1 st w.toInt else -1003
noncomputable def changeA (a : St) (st : Bool) (w : Int) : Int32 := if w = 0 then chM a st else if (w - 10).toNat + 1 < chN a st then nI (chV a st (w - 10).toNat) else -1001
noncomputable def changeS (s : Ab) (st : Bool) (w : Int32) : Int32 := if aN s.1 = 0 then -1004 else if (w.toInt = 0 ∨ 10 ≤ w.toInt ∧ w.toInt ≤ 24) then changeA s.1 st w.toInt else -1003
noncomputable def goS (s : Ab) (st : Bool) : Int32 × Ab := if aN s.1 = 0 ∨ chN s.1 st ≤ 1 then (-1004, s) else (nI (chN s.1 st - 2), (setV s.1 (upN (aV s.1) (chV s.1 st 0 / 8) (chV s.1 st 0 % 8)), s.2.1, s.2.2.1, s.2.2.2.1, s.2.2.2.2 + 1))
def tradeA (a : St) (w : Int) : Int32 := if (TR a 25).1 = 0 then -1001 else if w = 0 then nI (TR a 25).1 else if w = 1 then nI ((TR a 25).2 / 5) else nI ((TR a 25).2 % 5)
def tradeS (s : Ab) (w : Int32) : Int32 := if aN s.1 = 0 then -1004 else if w.toInt < 0 ∨ 2 < w.toInt then -1003 else tradeA s.1 w.toInt
def reliefS (s : Ab) : Int32 := if aN s.1 = 0 then -1004 else rlV (RLf s.1 (2 ^ aN s.1))
def countA (s : Ab) (w : Int) : Int32 := if w = 0 then nI (aN s.1) else if w = 1 then nI (aP s.1) else if w = 2 then nI s.2.1 else if w = 3 then nI (CT s.1 (aV s.1) (aH s.1)) else if w = 4 then b2i (SF s.1 (aV s.1) (aH s.1)) else if w = 5 then b2i (SF s.1 (aV s.1) 0) else if w = 6 then nI (aH s.1) else if w = 7 then nI (aK s.1) else if w = 8 then s.2.2.2.1 else if w = 9 then s.2.2.2.2 else -1003
/-! the digest: numbers in a row -/
def hsh (h : Int64) (x : Int32) : Int64 := 31 * h + x.toInt64
def hshR (f : Nat → Int32) : Nat → Int64 → Int64
  | 0, h => h
  | n + 1, h => hsh (hshR f n h) (f n)
def hsM (a : St) (h : Int64) : Nat → Int64
  | 0 => h
  | m + 1 => hshR (fun w => ofMir a m w) 6 (hsM a h m)
def hsP (a : St) (h : Int64) : Nat → Int64
  | 0 => h
  | q + 1 => hshR (fun w => ofPat a q w) 4 (hsP a h q)
noncomputable def hsPl (a : St) (st : Bool) (h : Int64) : Int64 :=
  hshR (fun w => changeA a st (10 + (w : Int))) 3 (hsh (hshR (fun w => bestA a st (10 + (w : Int))) 5 (hshR (fun w => bestA a st w) 2 h)) (changeA a st 0))
noncomputable def hsF (a : St) (h : Int64) : Int64 := if aN a = 0 then h else hsh (hshR (fun w => tradeA a w) 3 (hsPl a true (hsPl a false h))) (rlV (RLf a (2 ^ aN a)))
noncomputable def digestS (s : Ab) : Int64 := hshR (fun w => countA s w) 10 (hshR (fun k => s.2.2.1 k) s.2.1 (hsF s.1 (hsP s.1 (hsM s.1 1733 (aN s.1)) (aP s.1))))
/-! the class holds s; the plans that it knows are right -/
def pcell (st : Bool) : Nat := if st then 5 else 4
def pmov (st : Bool) : Nat := if st then 14 else 13
def PI1 (a : St) (st : Bool) (h : PH) : Prop := h.1 (pcell st) 0 = b2i st ∧
  (h.1 (pcell st) 2 = 0 ∨ h.1 (pcell st) 2 = 1 ∧ h.1 (pcell st) 4 = bsV a st ∧ ((bsF a st).1 ≠ 0 → h.1 (pcell st) 5 = nI (plc (dg (bsF a st).2) (aN a)))) ∧
  (h.1 (pcell st) 3 = 0 ∨ h.1 (pcell st) 3 = 1 ∧ h.1 (pcell st) 6 = chM a st ∧ ∀ k, k < 15 → k + 1 < chN a st → h.1 (pmov st) k = nI (chV a st k))
def XI (s : Ab) (h : PH) : Prop := WF s.1 ∧ CI s.1 h ∧ PG s.2.1 s.2.2.1 h ∧ h.1 0 3 = s.2.2.2.1 ∧ h.1 0 4 = s.2.2.2.2 ∧ PI1 s.1 false h ∧ PI1 s.1 true h
def FrX (h h' : PH) : Prop := (∀ c, 15 ≤ c → h'.1 c = h.1 c) ∧ h'.2 = h.2
