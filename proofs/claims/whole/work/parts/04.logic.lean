/-! the judgements: G, a method's body from a place on; Ev, a method's call -/
def al (E : EE) (L : List (Option Value)) : List (Nat × Value) := L.zipIdx.filterMap (fun p => p.1.map (fun v => (p.2, vq E.2.1 v)))
theorem al_mem {E : EE} {L : List (Option Value)} {i : Nat} {v : Value} (h : L[i]? = some (some v)) : (i, vq E.2.1 v) ∈ al E L := by
  unfold al
  rw [List.mem_filterMap]
  exact ⟨(some v, i), List.mk_mem_zipIdx_iff_getElem?.mpr h, rfl⟩
theorem al_of {E : EE} {L : List (Option Value)} {x : Nat × Value} (h : x ∈ al E L) : ∃ v, L[x.1]? = some (some v) ∧ x.2 = vq E.2.1 v := by
  unfold al at h
  rw [List.mem_filterMap] at h
  obtain ⟨⟨o, i⟩, h1, h2⟩ := h
  cases o with
  | none => cases h2
  | some v =>
    cases h2
    exact ⟨v, List.mk_mem_zipIdx_iff_getElem?.mp h1, rfl⟩
/-- the locals hold L -/
def lh (E : EE) (ls : Array Slot) (n : Nat) (L : List (Option Value)) : Prop := lv_has ls n (al E L)
theorem lh.at {E : EE} {ls : Array Slot} {n : Nat} {L : List (Option Value)} (h : lh E ls n L) {i : Nat} {v : Value} (hi : L[i]? = some (some v)) : ls[i]? = some (.val (vq E.2.1 v)) := h.2.2 _ (al_mem hi)
def Qx (E : EE) (post : Option Value → PH → Prop) : Array Value → State → Outcome → State → Prop := fun _ st o t => (∃ (r : Option Value) (h' : PH), o = .returned (r.map (vq E.2.1)) ∧ post r h' ∧ va_P E.1 vwCl (wl E h') t.heap) ∧ va_F (Aq E) st t
def Fx (M : Md) (p : Program) (s : State) (m : MethodId) (meth : Method) (c : Code) (E : EE) : Prop :=
  p.tables.exec = Jvm.exec ∧ c.code = M.2.1 ∧ meth.sig.returnType = M.2.2.2 ∧ c.maxLocals = M.2.2.1 ∧ s.vm.findClass M.1.cls = some m.cls ∧ meth.locks = false ∧ Kx E s ∧ Rd E s s.heap
def G (d : Nat) (M : Md) (post : Option Value → PH → Prop) (pc : Nat) (L : List (Option Value)) (st : List Value) (h : PH) : Prop :=
  ∀ (p : Program) (l : Launch) (e : Env) (s : State) (m : MethodId) (args : Array Value) (below : List Frame) (meth : Method) (c : Code) (E : EE) (H : Heap) (locs : List Loc) (ls : Array Slot),
    Fx M p s m meth c E → va_P E.1 vwCl (wl E h) H → va_S (Aq E) s.heap H locs → lh E ls M.2.2.1 L →
    W p l e (rmd d) s m args below meth c H locs 0 0 (MQ below (Qx E post) args s 0 0 (Aq E)) (F0 m pc ls (st.map (vq E.2.1)))
def PcE (E : EE) (as : List Value) (h : PH) : Array Value → State → Prop := fun v U => v = (as.map (vq E.2.1)).toArray ∧ va_P E.1 vwCl (wl E h) U.heap ∧ Kx E U ∧ Rd E U U.heap
def Ev (d : Nat) (M : Md) (as : List Value) (h : PH) (post : Option Value → PH → Prop) : Prop :=
  ∀ (l : Launch) (E : EE), Met l M.1 [.code M.1 M.2.1 M.2.2.1 M.2.2.2] (rmd d) (PcE E as h) (Qx E post) 0 0 (Aq E)
def lent (as : List Value) (n : Nat) : List (Option Value) :=
  let x := as.flatMap (fun v => if v.category = 2 then [some v, none] else [some v])
  x ++ List.replicate (n - x.length) none
theorem vq_cat (q : Nat → Nat) (v : Value) : (vq q v).category = v.category := by cases v <;> rfl
theorem lent_args (E : EE) (as : List Value) : ∀ (k : Nat) (i : Nat) (v : Value), (as.flatMap (fun v => if v.category = 2 then [some v, none] else [some v]))[i]? = some (some v) → (k + i, vq E.2.1 v) ∈ lv_args k (as.map (vq E.2.1)) := by
  induction as with
  | nil => intro k i v h; simp at h
  | cons a t ih =>
    intro k i v h
    rw [List.flatMap_cons] at h
    rw [List.map_cons]
    unfold lv_args
    rw [vq_cat]
    by_cases hc : a.category = 2
    · rw [if_pos hc] at h ⊢
      match i, h with
      | 0, h => cases h; exact List.mem_cons_self
      | 1, h => cases h
      | i + 2, h =>
        refine List.mem_cons_of_mem _ ?_
        have := ih (k + 2) i v h
        rwa [show k + 2 + i = k + (i + 2) by omega] at this
    · rw [if_neg hc] at h ⊢
      match i, h with
      | 0, h => cases h; exact List.mem_cons_self
      | i + 1, h =>
        refine List.mem_cons_of_mem _ ?_
        have := ih (k + 1) i v h
        rwa [show k + 1 + i = k + (i + 1) by omega] at this
theorem lent_len (E : EE) (as : List Value) : (lg_sl (as.map (vq E.2.1))).length = (as.flatMap (fun v => if v.category = 2 then [some v, none] else [some v])).length := by
  induction as with
  | nil => rfl
  | cons a t ih =>
    unfold lg_sl at ih ⊢
    rw [List.map_cons, List.flatMap_cons, List.flatMap_cons, List.length_append, List.length_append, ih, vq_cat]
    by_cases hc : a.category = 2 <;> simp [hc]
theorem lh_entry (E : EE) (as : List Value) {n : Nat} (hn : (as.flatMap (fun v => if v.category = 2 then [some v, none] else [some v])).length ≤ n) :
    lh E ((lg_sl (as.map (vq E.2.1)) ++ List.replicate (n - (lg_sl (as.map (vq E.2.1))).length) Slot.unset).toArray) n (lent as n) := by
  have h1 := lv_entry (as.map (vq E.2.1)) (n := n) (by rw [lent_len]; exact hn)
  refine ⟨h1.1, h1.2.1, fun x hx => ?_⟩
  obtain ⟨v, h2, h3⟩ := al_of hx
  obtain ⟨i, w⟩ := x
  have h3 : w = vq E.2.1 v := h3
  have h2 : (lent as n)[i]? = some (some v) := h2
  subst h3
  refine h1.2.2 _ ?_
  unfold lent at h2
  rw [List.getElem?_append] at h2
  by_cases hi : i < (as.flatMap (fun v => if v.category = 2 then [some v, none] else [some v])).length
  · rw [if_pos hi] at h2
    have := lent_args E as 0 i v h2
    rwa [Nat.zero_add] at this
  · exfalso
    rw [if_neg hi, List.getElem?_replicate] at h2
    by_cases hj : i - (as.flatMap (fun v => if v.category = 2 then [some v, none] else [some v])).length < n - (as.flatMap (fun v => if v.category = 2 then [some v, none] else [some v])).length
    · rw [if_pos hj] at h2; cases h2
    · rw [if_neg hj] at h2; cases h2
/-- a method's contract out of its body -/
theorem Ev.intro {d : Nat} {M : Md} {as : List Value} {h : PH} {post : Option Value → PH → Prop} (hy : plainName M.1.cls = true) (hn : (as.flatMap (fun v => if v.category = 2 then [some v, none] else [some v])).length ≤ M.2.2.1)
    (k : G d M post 0 (lent as M.2.2.1) [] h) : Ev d M as h post := by
  intro l E
  refine Met.ofW (cc := M.2.1) (maxL := M.2.2.1) (ret := M.2.2.2) hy rfl ?_
  intro p e s m args below meth c s₁ B hml hv
  obtain ⟨rfl, hP, hK, hR⟩ := hv
  have hlocks := B.notSynchronized
  rw [lg_entry_eq]
  exact k p l e s m _ below meth c E s.heap [] _ ⟨B.exec, B.bytes, B.returns, hml, findClass_of_methodNamed B.named, hlocks, hK, hR⟩ hP va_S.rf (lh_entry E as hn)
theorem Ev.mono {d : Nat} {M : Md} {as : List Value} {h : PH} {post post' : Option Value → PH → Prop} (k : Ev d M as h post) (hp : ∀ r h', post r h' → post' r h') : Ev d M as h post' := by
  intro l E p e ha hc hk s m args below hf happ hP hT
  obtain ⟨t, o, a1, b1, b2, ⟨⟨⟨r, h', c1, c2, c3⟩, c4⟩, c5⟩⟩ := k l E p e ha hc hk s m args below hf happ hP hT
  exact ⟨t, o, a1, b1, b2, ⟨⟨⟨r, h', c1, hp r h' c2, c3⟩, c4⟩, c5⟩⟩
theorem PcE.blind (E : EE) (as : List Value) (h : PH) : FrameBlind (PcE E as h) := by
  intro a U g mk q
  obtain ⟨h1, h2, h3, h4⟩ := q
  exact ⟨h1, h2, ⟨Cx.same (s := U) (U := U.calling g mk a) rfl h3.1, va_K.moved (u := U) (U := U.calling g mk a) (Vm.Alike.refl U.vm) h3.2.1, h3.2.2⟩, h4.move (U := U.calling g mk a) (Vm.Alike.refl U.vm) (fun _ _ _ => rfl)⟩
