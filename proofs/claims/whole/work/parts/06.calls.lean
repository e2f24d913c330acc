/-! calls -/
def MC (Mc : Md) (n : Nat) : Prop := Cond.code Mc.1 Mc.2.1 Mc.2.2.1 Mc.2.2.2 ∈ lw_tbl ∧ Cond.initialized Mc.1.cls ∈ lw_tbl ∧ Mc.1.cls ≠ "java/lang/invoke/MethodHandle" ∧ Mc.1.cls ≠ "java/lang/invoke/VarHandle" ∧ (parseMethodDescriptor Mc.1.desc).map (fun d => d.parameters.length) = some n ∧ Mc.2.2.1 ≤ 21
def MV (Mc : Md) (n : Nat) : Prop := MC Mc n ∧ Cond.instanceMethod Mc.1 ∈ lw_tbl ∧ Cond.selects Mc.1.cls Mc.1 Mc.1 ∈ lw_tbl
def MS (Mc : Md) (n : Nat) : Prop := MC Mc n ∧ Cond.static Mc.1 ∈ lw_tbl
def LK (own : String) (idx : Nat) (y : MethodName) : Prop := Cond.methodLink own idx y ∈ lw_tbl ∨ ∃ host, Cond.methodLinkNest own idx y host ∈ lw_tbl
section CA
variable {d : Nat} {M : Md} {post : Option Value → PH → Prop} {pc : Nat} {L : List (Option Value)} {st : List Value} {h : PH}
/-- what comes behind a call, out of its run -/
theorem g_behind {p : Program} {l : Launch} {e : Env} {s : State} {m : MethodId} {args : Array Value} {below : List Frame} {meth : Method} {c : Code} {E : EE} {H : Heap} {locs : List Loc} {ls : Array Slot} {rest stk : List Value} {a : Array Value}
    (F : Fx M p s m meth c E) (hS : va_S (Aq E) s.heap H locs) (hl : lh E ls M.2.2.1 L)
    (hr : va_Run p l e (rmd d) s m args below meth c H locs 0 0 0 0 (F0 m pc ls stk) (rest.map (vq E.2.1)) (Qx E (fun r h' => G d M post (pc + 3) L (r.toList ++ rest) h') a) (Aq E)) :
    W p l e (rmd d) s m args below meth c H locs 0 0 (MQ below (Qx E post) args s 0 0 (Aq E)) (F0 m pc ls stk) := by
  intro T hT X
  obtain ⟨v, st₀, t, T', L', h0, X', hL', e1, e2, ⟨⟨r, h', hv, hg, hP'⟩, hz, hk⟩, go⟩ := hr T hT X
  cases hv
  rw [h0] at hz hk
  have hS' : va_S (Aq E) s.heap T'.heap (locs ++ L') := by
    refine ⟨Nat.le_trans hS.1 (by rw [e1]; exact hz), fun q h1 h2 => ?_, fun q hq => ?_⟩
    · rw [e1, hk q (Nat.lt_of_lt_of_le h1 hS.1) h2]
      exact hS.2.1 q h1 h2
    · rcases List.mem_append.mp hq with h9 | h9
      · exact hS.2.2 q h9
      · exact hL' q h9
  have hP2 : va_P E.1 vwCl (wl E h') T'.heap := by rw [e1]; exact hP'
  obtain ⟨t2, a1, b1⟩ := hg p l e s m args below meth c E T'.heap (locs ++ L') ls F hP2 hS' hl T' rfl X'
  refine ⟨t2, go t2 ?_, b1⟩
  have e9 : (r.toList ++ rest).map (vq E.2.1) = (r.map (vq E.2.1)).toList ++ rest.map (vq E.2.1) := by
    cases r <;> simp
  rw [e9] at a1
  exact a1
theorem g_pre {E : EE} {s : State} {H : Heap} {locs : List Loc} (as : List Value) (hK : Kx E s) (hR : Rd E s s.heap) (hP : va_P E.1 vwCl (wl E h) H) (hS : va_S (Aq E) s.heap H locs) : ∀ U : State, U.heap = H → s.WarmedH U.vm → PcE E as h (as.map (vq E.2.1)).toArray U := by
  intro U hU hW
  refine ⟨rfl, by rw [hU]; exact hP, hK.warm hW, hR.move hW.alike (fun a h1 h2 => ?_)⟩
  rw [hU]
  exact hS.2.1 a h1 h2
theorem g_callV {d' idx n b : Nat} {Mc : Md} {as rest : List Value} (hd : decode M.2.1 pc = .ok (.invokevirtual idx, 3)) (hM : MV Mc n) (hK : LK M.1.cls idx Mc.1) (hb : b < 26) (ho : cO b = true) (hcl : ∃ T N, vwCl[cCi b]? = some (Mc.1.cls, T, N)) (hn : as.length = n) (hst : st = as.reverse ++ .ref b :: rest) (hcat : (rest.map fun v => v.category).sum ≤ 8) (hdd : d' + 1 ≤ d)
    (k : Ev d' Mc (.ref b :: as) h (fun r h' => G d M post (pc + 3) L (r.toList ++ rest) h')) : G d M post pc L st h := by
  intro p l e s m args below meth c E H locs ls F hP hS hl
  obtain ⟨⟨m1, m2, m3, m4, m5, m6⟩, m7, m8⟩ := hM
  obtain ⟨T, N, hcl⟩ := hcl
  subst hst
  have hx := F.2.2.2.2.2.2.1
  have he : (wl E h)[b]? = some (E.2.1 b, .inr (cCi b, fl E h b (cFk b))) := by rw [wl_get E h hb, en_obj ho]
  have hcat' : ((rest.map (vq E.2.1)).map fun v => v.category).sum ≤ 8 := by
    rw [List.map_map]
    refine Nat.le_trans (Nat.le_of_eq ?_) hcat
    congr 1
    exact List.map_congr_left (fun v _ => vq_cat _ v)
  have hts : ∀ w ∈ [Cond.code Mc.1 Mc.2.1 Mc.2.2.1 Mc.2.2.2], w.before args s = true := fun w hw => by
    rw [List.mem_singleton.mp hw]
    exact hx.1.use m1 rfl args
  have hgd : GoodIn [Cond.code Mc.1 Mc.2.1 Mc.2.2.1 Mc.2.2.2] [Cond.code Mc.1 Mc.2.1 Mc.2.2.1 Mc.2.2.2] := fun w hw => ⟨hw, Or.inl (by rw [List.mem_singleton.mp hw]; rfl)⟩
  have hroom : (rmd d').frames + 1 ≤ (rmd d).frames ∧ 8 + (Mc.2.2.1 + 11) + (rmd d').locals ≤ (rmd d).locals := by
    simp only [rmd]
    omega
  have hpre : PreV s H Mc.1.cls (E.2.1 b) (PcE E (.ref b :: as) h) (as.map (vq E.2.1)) := ⟨PcE.blind E _ h, va_recv (q := (Mc.1.cls, T, N)) hx.2.1 hP hcl he, g_pre (.ref b :: as) hx F.2.2.2.2.2.2.2 hP hS⟩
  have hsz : ls.size = M.2.2.1 := hl.1
  have hstk : ((as.reverse ++ .ref b :: rest).map (vq E.2.1)) = (as.map (vq E.2.1)).reverse ++ .ref (E.2.1 b) :: rest.map (vq E.2.1) := by
    rw [List.map_append, List.map_reverse]
    rfl
  refine g_behind (rest := rest) (a := (Value.ref (E.2.1 b) :: as.map (vq E.2.1)).toArray) F hS hl ?_
  rcases hK with hK | ⟨host, hK⟩
  · exact va_runV (Ts := [Cond.code Mc.1 Mc.2.1 Mc.2.2.1 Mc.2.2.2]) ⟨F.1, F.2.1, F.2.2.2.1, F.2.2.2.2.1, hts⟩ (k l E)
      ⟨callB_of n hts hgd rfl rfl rfl (hx.1.use m2 rfl args) (hx.1.use hK rfl args) ⟨m3, m4, m5⟩ hroom, hx.1.use m7 rfl args, hx.1.use m8 rfl args⟩ hpre rfl (by rw [List.length_map]; exact hn) hsz hstk (lv_room hcat') hd ⟨Nat.zero_le _, Nat.zero_le _⟩
  · exact va_runVN (Ts := [Cond.code Mc.1 Mc.2.1 Mc.2.2.1 Mc.2.2.2]) ⟨F.1, F.2.1, F.2.2.2.1, F.2.2.2.2.1, hts⟩ (k l E)
      ⟨va_cnB n hts hgd rfl rfl rfl (va_Nw.of rfl (hx.1.use hK rfl args)) (hx.1.use m2 rfl args) ⟨m3, m4, m5⟩ hroom, hx.1.use m7 rfl args, hx.1.use m8 rfl args⟩ hpre rfl (by rw [List.length_map]; exact hn) hsz hstk (lv_room hcat') hd ⟨Nat.zero_le _, Nat.zero_le _⟩
theorem g_callS {d' idx n : Nat} {Mc : Md} {as rest : List Value} (hd : decode M.2.1 pc = .ok (.invokestatic idx, 3)) (hM : MS Mc n) (hK : LK M.1.cls idx Mc.1) (hn : as.length = n) (hst : st = as.reverse ++ rest) (hcat : (rest.map fun v => v.category).sum ≤ 8) (hdd : d' + 1 ≤ d)
    (k : Ev d' Mc as h (fun r h' => G d M post (pc + 3) L (r.toList ++ rest) h')) : G d M post pc L st h := by
  intro p l e s m args below meth c E H locs ls F hP hS hl
  obtain ⟨⟨m1, m2, m3, m4, m5, m6⟩, m7⟩ := hM
  subst hst
  have hx := F.2.2.2.2.2.2.1
  have hcat' : ((rest.map (vq E.2.1)).map fun v => v.category).sum ≤ 8 := by
    rw [List.map_map]
    refine Nat.le_trans (Nat.le_of_eq ?_) hcat
    congr 1
    exact List.map_congr_left (fun v _ => vq_cat _ v)
  have hts : ∀ w ∈ [Cond.code Mc.1 Mc.2.1 Mc.2.2.1 Mc.2.2.2], w.before args s = true := fun w hw => by
    rw [List.mem_singleton.mp hw]
    exact hx.1.use m1 rfl args
  have hgd : GoodIn [Cond.code Mc.1 Mc.2.1 Mc.2.2.1 Mc.2.2.2] [Cond.code Mc.1 Mc.2.1 Mc.2.2.1 Mc.2.2.2] := fun w hw => ⟨hw, Or.inl (by rw [List.mem_singleton.mp hw]; rfl)⟩
  have hroom : (rmd d').frames + 1 ≤ (rmd d).frames ∧ 8 + (Mc.2.2.1 + 11) + (rmd d').locals ≤ (rmd d).locals := by
    simp only [rmd]
    omega
  have hpre : PreS s H (PcE E as h) (as.map (vq E.2.1)) := ⟨PcE.blind E _ h, g_pre as hx F.2.2.2.2.2.2.2 hP hS⟩
  have hsz : ls.size = M.2.2.1 := hl.1
  have hstk : ((as.reverse ++ rest).map (vq E.2.1)) = (as.map (vq E.2.1)).reverse ++ rest.map (vq E.2.1) := by
    rw [List.map_append, List.map_reverse]
  refine g_behind (rest := rest) (a := (as.map (vq E.2.1)).toArray) F hS hl ?_
  rcases hK with hK | ⟨host, hK⟩
  · exact va_runS (Ts := [Cond.code Mc.1 Mc.2.1 Mc.2.2.1 Mc.2.2.2]) ⟨F.1, F.2.1, F.2.2.2.1, F.2.2.2.2.1, hts⟩ (k l E)
      ⟨callB_of n hts hgd rfl rfl rfl (hx.1.use m2 rfl args) (hx.1.use hK rfl args) ⟨m3, m4, m5⟩ hroom, hx.1.use m7 rfl args⟩ hpre rfl (by rw [List.length_map]; exact hn) hsz hstk (lv_room hcat') hd ⟨Nat.zero_le _, Nat.zero_le _⟩
  · exact va_runSN (Ts := [Cond.code Mc.1 Mc.2.1 Mc.2.2.1 Mc.2.2.2]) ⟨F.1, F.2.1, F.2.2.2.1, F.2.2.2.2.1, hts⟩ (k l E)
      ⟨va_cnB n hts hgd rfl rfl rfl (va_Nw.of rfl (hx.1.use hK rfl args)) (hx.1.use m2 rfl args) ⟨m3, m4, m5⟩ hroom, hx.1.use m7 rfl args, trivial⟩ hpre rfl (by rw [List.length_map]; exact hn) hsz hstk (lv_room hcat') hd ⟨Nat.zero_le _, Nat.zero_le _⟩
end CA
def fgt : List Bool → List (Option Value) → List (Option Value)
  | b :: m, x :: L => (if b then x else none) :: fgt m L
  | _, _ => []
theorem fgt_of : ∀ (mask : List Bool) (L : List (Option Value)) (i : Nat) (v : Value), (fgt mask L)[i]? = some (some v) → L[i]? = some (some v)
  | [], _, _, _, h => by simp [fgt] at h
  | _ :: _, [], _, _, h => by simp [fgt] at h
  | b :: m, x :: L, 0, v, h => by
    have h : some (if b then x else none) = some (some v) := h
    cases b with
    | true => exact h
    | false => cases h
  | b :: m, x :: L, i + 1, v, h => fgt_of m L i v h
/-- locals that nobody reads again are forgotten -/
theorem g_forget {d : Nat} {M : Md} {post : Option Value → PH → Prop} {pc : Nat} {L L' : List (Option Value)} {st : List Value} {h : PH} {mask : List Bool} (hL : fgt mask L = L') (k : G d M post pc L' st h) : G d M post pc L st h := by
  intro p l e s m args below meth c E H locs ls F hP hS hl
  subst hL
  refine k p l e s m args below meth c E H locs ls F hP hS ⟨hl.1, hl.2.1, fun x hx => ?_⟩
  obtain ⟨v, h1, h2⟩ := al_of hx
  obtain ⟨i, w⟩ := x
  have h2 : w = vq E.2.1 v := h2
  rw [h2]
  exact hl.at (fgt_of mask L i v h1)
/-- Math.max and Math.min -/
def MM (own : String) (idx : Nat) (y : MethodName) (cc : ByteArray) : Prop := Cond.methodLink own idx y ∈ lw_tbl ∧ Cond.static y ∈ lw_tbl ∧ Cond.initialized "java/lang/Math" ∈ lw_tbl ∧ Cond.code y cc 2 (some .int) ∈ lw_tbl
theorem g_mmax {d : Nat} {M : Md} {post : Option Value → PH → Prop} {pc : Nat} {L : List (Option Value)} {st : List Value} {h : PH} {idx : Nat} {x y : Int32} (hd : decode M.2.1 pc = .ok (.invokestatic idx, 3)) (hM : MM M.1.cls idx Lib.Math.max.name Lib.Math.max.code) (hc : (st.map fun v => v.category).sum ≤ 8) (hdd : 1 ≤ d) (k : G d M post (pc + 3) L (.int (if x < y then y else x) :: st) h) : G d M post pc L (.int y :: .int x :: st) h := by
  intro p l e s m args below meth c E H locs ls F hP hS hl
  have hx := F.2.2.2.2.2.2.1
  obtain ⟨m1, m2, m3, m4⟩ := hM
  have hcat' : ((st.map (vq E.2.1)).map fun v => v.category).sum ≤ 8 := by
    rw [List.map_map]
    refine Nat.le_trans (Nat.le_of_eq ?_) hc
    congr 1
    exact List.map_congr_left (fun v _ => vq_cat _ v)
  exact va_mmax F.1 F.2.1 (F.2.2.2.1.trans hl.1.symm) F.2.2.2.2.1 (hx.1.use m1 rfl args) (hx.1.use m2 rfl args) (hx.1.use m3 rfl args) (hx.1.use m4 rfl args) hdd (by simp only [rmd]; omega) (Nat.zero_le _) (Nat.zero_le _) hd (k p l e s m args below meth c E H locs ls F hP hS hl)
theorem g_mmin {d : Nat} {M : Md} {post : Option Value → PH → Prop} {pc : Nat} {L : List (Option Value)} {st : List Value} {h : PH} {idx : Nat} {x y : Int32} (hd : decode M.2.1 pc = .ok (.invokestatic idx, 3)) (hM : MM M.1.cls idx Lib.Math.min.name Lib.Math.min.code) (hc : (st.map fun v => v.category).sum ≤ 8) (hdd : 1 ≤ d) (k : G d M post (pc + 3) L (.int (if y < x then y else x) :: st) h) : G d M post pc L (.int y :: .int x :: st) h := by
  intro p l e s m args below meth c E H locs ls F hP hS hl
  have hx := F.2.2.2.2.2.2.1
  obtain ⟨m1, m2, m3, m4⟩ := hM
  have hcat' : ((st.map (vq E.2.1)).map fun v => v.category).sum ≤ 8 := by
    rw [List.map_map]
    refine Nat.le_trans (Nat.le_of_eq ?_) hc
    congr 1
    exact List.map_congr_left (fun v _ => vq_cat _ v)
  exact va_mmin F.1 F.2.1 (F.2.2.2.1.trans hl.1.symm) F.2.2.2.2.1 (hx.1.use m1 rfl args) (hx.1.use m2 rfl args) (hx.1.use m3 rfl args) (hx.1.use m4 rfl args) hdd (by simp only [rmd]; omega) (Nat.zero_le _) (Nat.zero_le _) hd (k p l e s m args below meth c E H locs ls F hP hS hl)
