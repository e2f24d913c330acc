/-! a small logic over the machine: the world is a fixed set of cells 0..25 (26: the static row STEPS), its contents a pure heap -/
abbrev PH : Type := (Nat → Nat → Int32) × Int64
abbrev EE : Type := va_G × (Nat → Nat) × ClassId × ClassId
abbrev Md : Type := MethodName × ByteArray × Nat × Option FieldType
def vq (q : Nat → Nat) (v : Value) : Value := match v with
  | .ref k => .ref (q k)
  | w => w
def cO : Nat → Bool
  | 0 => true
  | 1 => true
  | 2 => true
  | 3 => true
  | 4 => true
  | 5 => true
  | 15 => true
  | _ => false
def cCi : Nat → Nat
  | 0 => 4
  | 1 => 0
  | 2 => 3
  | 3 => 2
  | 4 => 1
  | 5 => 1
  | 15 => 5
  | _ => 0
def cFk : Nat → List Nat
  | 0 => [3, 4, 5, 0, 0]
  | 1 => [8, 0]
  | 2 => [0, 0, 0, 0, 0, 0, 9, 10, 11, 12, 13]
  | 3 => [6, 7, 14]
  | 4 => [0, 15, 0, 0, 0, 0, 0]
  | 5 => [0, 16, 0, 0, 0, 0, 0]
  | 15 => [0, 18, 0, 0, 19, 20, 21, 22, 0, 0, 0, 0, 23, 24, 25, 0, 0, 26, 0, 27, 0, 0, 0, 1]
  | _ => []
def cLn : Nat → Nat
  | 6 => 21
  | 7 => 5
  | 8 => 5
  | 9 => 5
  | 10 => 20
  | 11 => 4
  | 12 => 3125
  | 13 => 15
  | 14 => 15
  | 16 => 21
  | 17 => 5
  | 18 => 5
  | 19 => 5
  | 20 => 4
  | 21 => 5
  | 22 => 3125
  | 23 => 3125
  | 24 => 3125
  | 25 => 15
  | _ => 0
def cBz : Nat → Bool
  | 22 => true
  | _ => false
def vv (h : PH) (k j kd : Nat) : Value := match kd with
  | 0 => .int (h.1 k j)
  | 1 => .long h.2
  | r + 2 => .ref r
def fl (E : EE) (h : PH) (k : Nat) (ks : List Nat) : List Value := ks.zipIdx.map (fun p => vq E.2.1 (vv h k p.2 p.1))
def en (E : EE) (h : PH) (k : Nat) : va_E := if cO k then .inr (cCi k, fl E h k (cFk k)) else .inl (if cBz k then E.2.2.2 else E.2.2.1, cLn k, .inl (h.1 k))
def wl (E : EE) (h : PH) : va_W := (List.range 26).map (fun k => (E.2.1 k, en E h k))
def Aq (E : EE) : Nat → Prop := fun x => ∃ k, k < 26 ∧ x = E.2.1 k
def Inj (E : EE) : Prop := ∀ i j, i < 26 → j < 26 → E.2.1 i = E.2.1 j → i = j
def stp5 : Nat → Int32
  | 0 => 1
  | 1 => 5
  | 2 => 25
  | 3 => 125
  | _ => 625
def okw (w : Cond) : Bool := match w with
  | .methodLinkNest .. => true
  | .fieldLinkNest .. => true
  | w => w.onTables && w.keeps
def Cx (U : State) : Prop := ∀ w ∈ lw_tbl, okw w = true → va_Nw w U
def Rd (E : EE) (U : State) (H : Heap) : Prop := va_Z "AimDesk" "STEPS" "[I" (.ref (E.2.1 26)) (Aq E) U H ∧ va_T .int (E.2.1 26) 5 (fun j => .int (stp5 j)) (Aq E) U H
abbrev tyE (E : EE) : List (ClassId × FieldType) := [(E.2.2.1, .int), (E.2.2.2, .boolean)]
/-- the state's pure facts -/
def Kx (E : EE) (U : State) : Prop := Cx U ∧ va_K E.1 vwCl (tyE E) U ∧ Inj E
def upd2 (h : Nat → Nat → Int32) (c i : Nat) (x : Int32) : Nat → Nat → Int32 := fun k => if k = c then upd (h c) i x else h k
def rmd (d : Nat) : Room := { frames := d, cells := 0, slots := 0, locals := 40 * d }
theorem upd2_self (h : Nat → Nat → Int32) (c i : Nat) (x : Int32) : upd2 h c i x c = upd (h c) i x := if_pos rfl
theorem upd2_ne {h : Nat → Nat → Int32} {c i k : Nat} {x : Int32} (hk : k ≠ c) : upd2 h c i x k = h k := if_neg hk
theorem wl_get (E : EE) (h : PH) {k : Nat} (hk : k < 26) : (wl E h)[k]? = some (E.2.1 k, en E h k) := by
  simp [wl, List.getElem?_map, List.getElem?_range hk]
theorem wl_of {E : EE} {h : PH} {k : Nat} {q : Nat × va_E} (hq : (wl E h)[k]? = some q) : k < 26 ∧ q = (E.2.1 k, en E h k) := by
  by_cases hk : k < 26
  · rw [wl_get E h hk] at hq
    exact ⟨hk, (Option.some.inj hq).symm⟩
  · exfalso
    have : (wl E h).length = 26 := by simp [wl]
    rw [List.getElem?_eq_none (by omega)] at hq
    cases hq
theorem wl_D {E : EE} (hi : Inj E) (h : PH) : va_D (Aq E) (wl E h) := by
  refine ⟨fun i j p q hp hq e => ?_, fun k q hq => ?_⟩
  · obtain ⟨h1, rfl⟩ := wl_of hp
    obtain ⟨h2, rfl⟩ := wl_of hq
    exact hi i j h1 h2 e
  · obtain ⟨h1, rfl⟩ := wl_of hq
    exact ⟨k, h1, rfl⟩
theorem wl_set (E : EE) {h h' : PH} {k : Nat} (hk : k < 26) (he : ∀ j, j ≠ k → en E h' j = en E h j) : (wl E h).set k (E.2.1 k, en E h' k) = wl E h' := by
  apply List.ext_getElem?
  intro j
  by_cases hj : j < 26
  · rw [wl_get E h' hj, List.getElem?_set]
    by_cases e : k = j
    · subst e
      have : (wl E h).length = 26 := by simp [wl]
      simp [this, hk]
    · rw [if_neg e, wl_get E h hj, he j (Ne.symm e)]
  · have h1 : (wl E h).length = 26 := by simp [wl]
    have h2 : (wl E h').length = 26 := by simp [wl]
    rw [List.getElem?_eq_none (by simp [h1]; omega), List.getElem?_eq_none (by omega)]
theorem en_ne {E : EE} {h : PH} {c i k : Nat} {x : Int32} (hk : k ≠ c) : en E (upd2 h.1 c i x, h.2) k = en E h k := by
  unfold en
  by_cases ho : cO k
  · rw [if_pos ho, if_pos ho]
    have : fl E (upd2 h.1 c i x, h.2) k (cFk k) = fl E h k (cFk k) := by
      unfold fl
      apply List.map_congr_left
      intro p _
      have : vv (upd2 h.1 c i x, h.2) k p.2 p.1 = vv h k p.2 p.1 := by
        unfold vv
        show (match p.1 with | 0 => Value.int (upd2 h.1 c i x k p.2) | 1 => .long h.2 | r + 2 => .ref r) = _
        rw [upd2_ne hk]
      rw [this]
    rw [this]
  · rw [if_neg ho, if_neg ho]
    show Sum.inl _ = _
    rw [show (upd2 h.1 c i x, h.2).1 k = h.1 k from upd2_ne hk]
theorem fl_get {E : EE} {h : PH} {k : Nat} {ks : List Nat} {j kd : Nat} (hj : ks[j]? = some kd) : (fl E h k ks)[j]? = some (vq E.2.1 (vv h k j kd)) := by
  unfold fl
  rw [List.getElem?_map, List.getElem?_zipIdx, hj]
  simp
theorem fl_set {E : EE} {h : PH} {k j : Nat} {x : Int32} {ks : List Nat} (hj : ks[j]? = some 0) : (fl E h k ks).set j (.int x) = fl E (upd2 h.1 k j x, h.2) k ks := by
  apply List.ext_getElem?
  intro i
  rw [List.getElem?_set]
  by_cases e : j = i
  · subst e
    have hl : j < (fl E h k ks).length := by
      unfold fl
      rw [List.length_map, List.length_zipIdx]
      exact (List.getElem?_eq_some_iff.mp hj).1
    rw [if_pos rfl, if_pos hl, fl_get hj]
    show _ = some (Value.int (upd2 h.1 k j x k j))
    rw [upd2_self]
    simp [upd]
  · rw [if_neg e]
    cases hi : ks[i]? with
    | none =>
      have : ks.length ≤ i := by simpa using hi
      rw [List.getElem?_eq_none (by unfold fl; simpa using this), List.getElem?_eq_none (by unfold fl; simpa using this)]
    | some kd =>
      rw [fl_get hi, fl_get hi]
      match kd with
      | 0 => show some (Value.int (h.1 k i)) = some (Value.int (upd2 h.1 k j x k i)); rw [upd2_self]; simp [upd, Ne.symm e]
      | 1 => rfl
      | r + 2 => rfl
theorem noLong : ∀ k, k < 26 → k ≠ 15 → (cFk k).all (fun x => x != 1) = true := by decide +kernel
theorem en_long {E : EE} {h : PH} {x : Int64} {k : Nat} (hk : k ≠ 15) : en E (h.1, x) k = en E h k := by
  unfold en
  by_cases ho : cO k
  · rw [if_pos ho, if_pos ho]
    have hk6 : k < 26 := by
      apply Classical.byContradiction
      intro hn
      have : cO k = false := by
        unfold cO
        split <;> first | rfl | omega
      rw [this] at ho
      cases ho
    have hall := noLong k hk6 hk
    have : fl E (h.1, x) k (cFk k) = fl E h k (cFk k) := by
      unfold fl
      apply List.map_congr_left
      intro p hp
      have hm : p.1 ∈ cFk k := by
        have h1 : (p.1, p.2) ∈ (cFk k).zipIdx := hp
        rw [List.mk_mem_zipIdx_iff_getElem?] at h1
        exact List.mem_of_getElem? h1
      have hne : p.1 ≠ 1 := by
        have := List.all_eq_true.mp hall p.1 hm
        simpa using this
      have : vv (h.1, x) k p.2 p.1 = vv h k p.2 p.1 := by
        unfold vv
        split
        · rfl
        · rename_i h9; exact absurd h9 hne
        · rfl
      rw [this]
    rw [this]
  · rw [if_neg ho, if_neg ho]
theorem fl_setL {E : EE} {h : PH} {k j : Nat} {x : Int64} {ks : List Nat} (hj : ks[j]? = some 1) (hu : ∀ i, i ≠ j → ks[i]? ≠ some 1) : (fl E h k ks).set j (.long x) = fl E (h.1, x) k ks := by
  apply List.ext_getElem?
  intro i
  rw [List.getElem?_set]
  by_cases e : j = i
  · subst e
    have hl : j < (fl E h k ks).length := by
      unfold fl
      rw [List.length_map, List.length_zipIdx]
      exact (List.getElem?_eq_some_iff.mp hj).1
    rw [if_pos rfl, if_pos hl, fl_get hj]
    rfl
  · rw [if_neg e]
    cases hi : ks[i]? with
    | none =>
      have : ks.length ≤ i := by simpa using hi
      rw [List.getElem?_eq_none (by unfold fl; simpa using this), List.getElem?_eq_none (by unfold fl; simpa using this)]
    | some kd =>
      rw [fl_get hi, fl_get hi]
      match kd, hi with
      | 0, _ => rfl
      | 1, hi => exact absurd hi (hu i (Ne.symm e))
      | r + 2, _ => rfl
/-! words -/
theorem okw_tabs {w : Cond} (h : okw w = true) : w.onTables = true := by
  unfold okw at h
  split at h
  · rfl
  · rfl
  · simp only [Bool.and_eq_true] at h
    exact h.1
theorem Cx.use {s : State} (h : Cx s) {w : Cond} (hw : w ∈ lw_tbl) (hk : okw w = true) (args : Array Value) : w.before args s = true := va_Nw.use (okw_tabs hk) (h w hw hk)
theorem Cx.warm {s U : State} (hW : s.WarmedH U.vm) (h : Cx s) : Cx U := by
  intro w hw hk
  have h1 := h w hw hk
  unfold okw at hk
  split at hk
  · exact va_Nw.warmM hW h1
  · exact va_Nw.warmF hW h1
  · exact word_at hW (Or.inl hk) h1
theorem Cx.same {s U : State} (hv : s.vm = U.vm) (h : Cx s) : Cx U := fun w hw hk => va_Nw.same (okw_tabs hk) hv (h w hw hk)
theorem Kx.warm {E : EE} {s U : State} (hW : s.WarmedH U.vm) (h : Kx E s) : Kx E U := ⟨h.1.warm hW, va_K.moved hW.alike h.2.1, h.2.2⟩
theorem Rd.move {E : EE} {s U : State} {H H1 : Heap} (hv : s.vm.Alike U.vm) (hq : ∀ a : Nat, a < H.size → ¬ Aq E a → H1[a]? = H[a]?) (h : Rd E s H) : Rd E U H1 := ⟨(h.1.moved hv).kept hq, (h.2.moved hv).kept hq⟩
