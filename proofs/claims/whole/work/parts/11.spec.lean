/-! what is told of a field: mirrors, patches, middle, side, aims (0: away, q + 1: patch q), ceilings, shaded and stuck ones as bits -/
abbrev St : Type := Nat × Nat × (Nat → Nat) × (Nat → Nat) × (Nat → Nat) × (Nat → Nat) × Nat × Nat
def aN (a : St) : Nat := a.1
def aP (a : St) : Nat := a.2.1
def aM (a : St) : Nat → Nat := a.2.2.1
def aS (a : St) : Nat → Nat := a.2.2.2.1
def aV (a : St) : Nat → Nat := a.2.2.2.2.1
def aC (a : St) : Nat → Nat := a.2.2.2.2.2.1
def aH (a : St) : Nat := a.2.2.2.2.2.2.1
def aK (a : St) : Nat := a.2.2.2.2.2.2.2
def setV (a : St) (f : Nat → Nat) : St := (aN a, aP a, aM a, aS a, f, aC a, aH a, aK a)
/-- what mirror m gives to patch q by aim v -/
def gv (a : St) (m v q : Nat) : Nat := if v = 0 ∨ aP a ≤ q then 0 else if q + 1 = v then aM a m else if q + 2 = v ∨ q = v then aS a m else 0
/-- heat of patch q by the aims f, if just D are dark -/
def HT (a : St) (f : Nat → Nat) (D q : Nat) : Nat := sm (fun m => if D.testBit m then 0 else gv a m (f m) q) (aN a)
def CT (a : St) (f : Nat → Nat) (D : Nat) : Nat := sm (fun q => HT a f D q) 4
def okc (a : St) (g : Nat → Nat) : Bool := (List.range (aP a)).all (fun q => decide (g q ≤ aC a q))
def SF (a : St) (f : Nat → Nat) (D : Nat) : Bool := okc a (HT a f D)
def WF (a : St) : Prop := aN a ≤ 5 ∧ aP a ≤ 4 ∧ (0 < aN a ↔ 0 < aP a) ∧ (∀ m, aM a m ≤ 9 ∧ aS a m ≤ 9 ∧ aV a m ≤ aP a ∧ (aN a ≤ m → aV a m = 0)) ∧ (∀ q, aC a q ≤ 60) ∧ aH a < 2 ^ aN a ∧ aK a < 2 ^ aN a
theorem okc_iff {a : St} {g : Nat → Nat} : okc a g = true ↔ ∀ q, q < aP a → g q ≤ aC a q := by
  unfold okc
  rw [List.all_eq_true]
  constructor
  · intro h q hq
    have := h q (List.mem_range.mpr hq)
    simpa using this
  · intro h q hq
    have := h q (List.mem_range.mp hq)
    simpa using this
theorem gv_le {a : St} (hw : WF a) (m v q : Nat) : gv a m v q ≤ 9 := by
  unfold gv
  have := (hw.2.2.2.1 m).1
  have := (hw.2.2.2.1 m).2.1
  split
  · omega
  · split
    · assumption
    · split
      · assumption
      · omega
theorem gv_out {a : St} {m v q : Nat} (h : aP a ≤ q) : gv a m v q = 0 := if_pos (Or.inr h)
theorem HT_le {a : St} (hw : WF a) (f : Nat → Nat) (D q : Nat) : HT a f D q ≤ 45 := by
  unfold HT
  refine Nat.le_trans (sm_le (b := 9) _ (fun m _ => ?_)) (by have := hw.1; omega)
  split
  · omega
  · exact gv_le hw _ _ _
theorem HT_out {a : St} {f : Nat → Nat} {D q : Nat} (h : aP a ≤ q) : HT a f D q = 0 := sm_zero _ (fun m _ => by split; rfl; exact gv_out h)
theorem CT_cut {a : St} (hw : WF a) (f : Nat → Nat) (D : Nat) : CT a f D = sm (fun q => HT a f D q) (aP a) := sm_cut 4 hw.2.1 (fun i h _ => HT_out h)
theorem CT_le {a : St} (hw : WF a) (f : Nat → Nat) (D : Nat) : CT a f D ≤ 180 := sm_le (b := 45) 4 (fun q _ => HT_le hw f D q)
theorem two5 {n : Nat} (h : n ≤ 5) : 2 ^ n ≤ 32 := Nat.pow_le_pow_right (by omega) h
theorem WF.sh {a : St} (hw : WF a) : aH a < 32 := Nat.lt_of_lt_of_le hw.2.2.2.2.2.1 (two5 hw.1)
theorem WF.sk {a : St} (hw : WF a) : aK a < 32 := Nat.lt_of_lt_of_le hw.2.2.2.2.2.2 (two5 hw.1)
/-- the class's plant holds a -/
def slk (a : St) (q : Nat) : Nat := if q < aP a then 127 - aC a q else 0
def CI (a : St) (h : PH) : Prop := h.1 2 0 = nI (aN a) ∧ h.1 2 1 = nI (aP a) ∧ (0 < aN a → h.1 2 2 = nI (5 ^ aN a)) ∧ h.1 2 3 = nI (aH a) ∧ h.1 2 4 = nI (aK a) ∧ h.1 2 5 = nI (pkd (slk a)) ∧
  (∀ m, m < aN a → h.1 7 m = nI (aM a m) ∧ h.1 8 m = nI (aS a m) ∧ h.1 9 m = nI (aV a m) - 1) ∧ (∀ m, m < aN a → ∀ v, v < aP a → h.1 10 (4 * m + v) = nI (pkd (gv a m (v + 1)))) ∧ ∀ q, q < aP a → h.1 11 q = nI (aC a q)
theorem CI.n {a : St} {h : PH} (c : CI a h) : h.1 2 0 = nI (aN a) := c.1
theorem CI.p {a : St} {h : PH} (c : CI a h) : h.1 2 1 = nI (aP a) := c.2.1
theorem CI.pl {a : St} {h : PH} (c : CI a h) (hn : 0 < aN a) : h.1 2 2 = nI (5 ^ aN a) := c.2.2.1 hn
theorem CI.sh {a : St} {h : PH} (c : CI a h) : h.1 2 3 = nI (aH a) := c.2.2.2.1
theorem CI.sk {a : St} {h : PH} (c : CI a h) : h.1 2 4 = nI (aK a) := c.2.2.2.2.1
theorem CI.sl {a : St} {h : PH} (c : CI a h) : h.1 2 5 = nI (pkd (slk a)) := c.2.2.2.2.2.1
theorem CI.mid {a : St} {h : PH} (c : CI a h) {m : Nat} (hm : m < aN a) : h.1 7 m = nI (aM a m) := (c.2.2.2.2.2.2.1 m hm).1
theorem CI.sid {a : St} {h : PH} (c : CI a h) {m : Nat} (hm : m < aN a) : h.1 8 m = nI (aS a m) := (c.2.2.2.2.2.2.1 m hm).2.1
theorem CI.aim {a : St} {h : PH} (c : CI a h) {m : Nat} (hm : m < aN a) : h.1 9 m = nI (aV a m) - 1 := (c.2.2.2.2.2.2.1 m hm).2.2
theorem CI.lt {a : St} {h : PH} (c : CI a h) {m v : Nat} (hm : m < aN a) (hv : v < aP a) : h.1 10 (4 * m + v) = nI (pkd (gv a m (v + 1))) := c.2.2.2.2.2.2.2.1 m hm v hv
theorem CI.ce {a : St} {h : PH} (c : CI a h) {q : Nat} (hq : q < aP a) : h.1 11 q = nI (aC a q) := c.2.2.2.2.2.2.2.2 q hq
