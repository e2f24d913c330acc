/-! constructors: worlds that grow -/
abbrev CE : Type := va_G × ClassId × ClassId × (Nat → Prop)
abbrev tyC (K : CE) : List (ClassId × FieldType) := [(K.2.1, .int), (K.2.2.1, .boolean)]
def rmc (d mc ms : Nat) : Room := { frames := d, cells := mc, slots := ms, locals := 40 * d }
def CK (K : CE) (U : State) : Prop := Cx U ∧ va_K K.1 vwCl (tyC K) U ∧ (∀ a, (Cond.arrayClass .int).before a U = true) ∧ ∀ a, (Cond.arrayClass .boolean).before a U = true
theorem CK.warm {K : CE} {s U : State} (hW : s.WarmedH U.vm) (h : CK K s) : CK K U := ⟨h.1.warm hW, va_K.moved hW.alike h.2.1, fun a => word_at hW (Or.inr ⟨_, rfl⟩) (h.2.2.1 a), fun a => word_at hW (Or.inr ⟨_, rfl⟩) (h.2.2.2 a)⟩
def Bn (K : CE) (ws : va_W) (t : State) : Prop := va_P K.1 vwCl ws t.heap ∧ va_D K.2.2.2 ws
def PcC (K : CE) (as : List Value) (ws : va_W) : Array Value → State → Prop := fun v U => v = as.toArray ∧ Bn K ws U ∧ CK K U ∧ ∀ q, U.heap.size ≤ q → K.2.2.2 q
def EvC (d mc ms : Nat) (M : Md) (K : CE) (as : List Value) (ws : va_W) (post : va_W → Prop) : Prop := ∀ l : Launch, Met l M.1 [.code M.1 M.2.1 M.2.2.1 M.2.2.2] (rmc d mc ms) (PcC K as ws) (va_Qv post (Bn K) K.2.2.2) mc ms K.2.2.2
theorem PcC.blind (K : CE) (as : List Value) (ws : va_W) : FrameBlind (PcC K as ws) := by
  intro a U g mk q
  obtain ⟨h1, h2, h3, h4⟩ := q
  exact ⟨h1, h2, ⟨Cx.same (s := U) (U := U.calling g mk a) rfl h3.1, va_K.moved (u := U) (U := U.calling g mk a) (Vm.Alike.refl U.vm) h3.2.1, fun b => h3.2.2.1 b, fun b => h3.2.2.2 b⟩, h4⟩
theorem arrI : Cond.arrayClass FieldType.int ∈ lw_tbl := List.mem_of_getElem? (i := 104) (by decide +kernel)
theorem arrZ : Cond.arrayClass FieldType.boolean ∈ lw_tbl := List.mem_of_getElem? (i := 595) (by decide +kernel)
theorem oiI : Cond.instanceMethod objectInit ∈ lw_tbl := List.mem_of_getElem? (i := 87) (by decide +kernel)
theorem oiC : Cond.code objectInit ⟨#[0xb1]⟩ 1 none ∈ lw_tbl := List.mem_of_getElem? (i := 88) (by decide +kernel)
section WN
variable {p : Program} {l : Launch} {e : Env} {R : Room} {s : State} {m : MethodId} {args : Array Value} {below : List Frame} {meth : Method} {c : Code} {H : Heap} {locs : List Loc} {cells slots : Nat} {Q : State → Prop} {cc : ByteArray} {pc : Nat} {ls : Array Slot} {rest : List Value} {K : CE} {pre X : va_W}
theorem w_newi (hx : p.tables.exec = Jvm.exec) (hb : c.code = cc) (hK : CK K s) (hA : ∀ q, s.heap.size ≤ q → K.2.2.2 q) (hP : va_P K.1 vwCl (pre ++ X) H) (hD : va_D K.2.2.2 (pre ++ X)) (hS : va_S K.2.2.2 s.heap H locs) {n : Int32} {N : Nat} (hn : ¬ n < 0) (hN : n.toNatClampNeg = N) (hby : N * componentBytes .int ≤ 536870912) (hc : cells + 1 ≤ R.cells) (hs : slots + N ≤ R.slots) (hdg : decode cc pc = .ok (.newarray .int, 2))
    (kk : ∀ (q : Nat) (H1 : Heap), va_P K.1 vwCl (pre ++ (X ++ [(q, .inl (K.2.1, N, .inl (fun _ => 0)))])) H1 → va_D K.2.2.2 (pre ++ (X ++ [(q, .inl (K.2.1, N, .inl (fun _ => 0)))])) → va_S K.2.2.2 s.heap H1 locs → W p l e R s m args below meth c H1 locs (cells + 1) (slots + N) Q (F0 m (pc + 2) ls (.ref q :: rest))) : W p l e R s m args below meth c H locs cells slots Q (F0 m pc ls (.int n :: rest)) := by
  refine va_newa (atype := .int) (ty := .int) (a0 := (N, .inl (fun _ => 0))) hx hb (hK.2.2.1 args) rfl hK.2.1 hP hD hS hA (fun cA => rfl) hn hN hby hc hs hdg (fun q cA H1 hK1 hP1 hD1 hS1 => ?_)
  have h1 : s.vm.findClass _ = some cA := (hK1.2 2 (cA, .int) rfl).2
  have h2 : s.vm.findClass _ = some K.2.1 := (hK.2.1.2 0 (K.2.1, .int) rfl).2
  have e : cA = K.2.1 := Option.some.inj (h1.symm.trans h2)
  subst e
  rw [List.append_assoc] at hP1 hD1
  exact kk q H1 hP1 hD1 hS1
theorem w_newz (hx : p.tables.exec = Jvm.exec) (hb : c.code = cc) (hK : CK K s) (hA : ∀ q, s.heap.size ≤ q → K.2.2.2 q) (hP : va_P K.1 vwCl (pre ++ X) H) (hD : va_D K.2.2.2 (pre ++ X)) (hS : va_S K.2.2.2 s.heap H locs) {n : Int32} {N : Nat} (hn : ¬ n < 0) (hN : n.toNatClampNeg = N) (hby : N * componentBytes .boolean ≤ 536870912) (hc : cells + 1 ≤ R.cells) (hs : slots + N ≤ R.slots) (hdg : decode cc pc = .ok (.newarray .boolean, 2))
    (kk : ∀ (q : Nat) (H1 : Heap), va_P K.1 vwCl (pre ++ (X ++ [(q, .inl (K.2.2.1, N, .inl (fun _ => 0)))])) H1 → va_D K.2.2.2 (pre ++ (X ++ [(q, .inl (K.2.2.1, N, .inl (fun _ => 0)))])) → va_S K.2.2.2 s.heap H1 locs → W p l e R s m args below meth c H1 locs (cells + 1) (slots + N) Q (F0 m (pc + 2) ls (.ref q :: rest))) : W p l e R s m args below meth c H locs cells slots Q (F0 m pc ls (.int n :: rest)) := by
  refine va_newa (atype := .boolean) (ty := .boolean) (a0 := (N, .inl (fun _ => 0))) hx hb (hK.2.2.2 args) rfl hK.2.1 hP hD hS hA (fun cA => rfl) hn hN hby hc hs hdg (fun q cA H1 hK1 hP1 hD1 hS1 => ?_)
  have h1 : s.vm.findClass _ = some cA := (hK1.2 2 (cA, .boolean) rfl).2
  have h2 : s.vm.findClass _ = some K.2.2.1 := (hK.2.1.2 1 (K.2.2.1, .boolean) rfl).2
  have e : cA = K.2.2.1 := Option.some.inj (h1.symm.trans h2)
  subst e
  rw [List.append_assoc] at hP1 hD1
  exact kk q H1 hP1 hD1 hS1
theorem w_new {own C : String} {T : u_T} {N ci idx : Nat} {fs : List Value} (hx : p.tables.exec = Jvm.exec) (hb : c.code = cc) (hown : s.vm.findClass own = some m.cls) (hK : CK K s) (hA : ∀ q, s.heap.size ≤ q → K.2.2.2 q) (hP : va_P K.1 vwCl (pre ++ X) H) (hD : va_D K.2.2.2 (pre ++ X)) (hS : va_S K.2.2.2 s.heap H locs) (hF : CF ci C T N) (ty : Nat → FieldType) (hty : ∀ k, k < N → parseFieldDescriptor (T k).2.2.1 = some (ty k)) (h1 : Cond.classLink own idx C ∈ lw_tbl) (h2 : Cond.instantiable C N ∈ lw_tbl) (h3 : Cond.initialized C ∈ lw_tbl) (hfs : ∀ j, j < N → defaultValue (ty j) = vp_V fs j) (hc : cells + 1 ≤ R.cells) (hs : slots + N ≤ R.slots) (hdg : decode cc pc = .ok (.new idx, 3))
    (kk : ∀ (q : Nat) (H1 : Heap), va_P K.1 vwCl ((pre ++ X) ++ [(q, .inr (ci, fs))]) H1 → va_D K.2.2.2 ((pre ++ X) ++ [(q, .inr (ci, fs))]) → va_S K.2.2.2 s.heap H1 locs → W p l e R s m args below meth c H1 locs (cells + 1) (slots + N) Q (F0 m (pc + 3) ls (.ref q :: rest))) : W p l e R s m args below meth c H locs cells slots Q (F0 m pc ls rest) :=
  va_new (Ts := u_ws C T N) hx hb (fun w hw => hK.1.use (hF.2.1 w hw).1 (hF.2.1 w hw).2 args) (fun _ h => h) ty hty hown (hK.1.use h1 rfl args) (hK.1.use h2 rfl args) (hK.1.use h3 rfl args) hK.2.1 hP hD hS hA hF.1 hfs hc hs hdg kk
theorem w_putF {own C : String} {T : u_T} {N ci idx k j a : Nat} {fs : List Value} {ty : FieldType} {v : Value} (hx : p.tables.exec = Jvm.exec) (hb : c.code = cc) (hown : s.vm.findClass own = some m.cls) (hmn : meth.name = "<init>") (hK : CK K s) (hP : va_P K.1 vwCl (pre ++ X) H) (hD : va_D K.2.2.2 (pre ++ X)) (hS : va_S K.2.2.2 s.heap H locs) (hF : CF ci C T N) (hX : X[j]? = some (a, .inr (ci, fs))) (hk : k < N) (hlk : Cond.fieldLink own idx (T k).1 (T k).2.1 (T k).2.2.1 ∈ lw_tbl) (hfin : (T k).2.2.2 = true) (hdecl : (T k).1 = own) (hd : parseFieldDescriptor (T k).2.2.1 = some ty) (hn : narrow ty v = v) (hfit : fits ty v = true) (hl : k < fs.length) (hdg : decode cc pc = .ok (.putfield idx, 3))
    (kk : ∀ (H1 : Heap) (locs1 : List Loc), va_P K.1 vwCl (pre ++ X.set j (a, .inr (ci, fs.set k v))) H1 → va_D K.2.2.2 (pre ++ X.set j (a, .inr (ci, fs.set k v))) → va_S K.2.2.2 s.heap H1 locs1 → W p l e R s m args below meth c H1 locs1 cells slots Q (F0 m (pc + 3) ls rest)) : W p l e R s m args below meth c H locs cells slots Q (F0 m pc ls (v :: .ref a :: rest)) := by
  obtain ⟨ty0, hty0⟩ := hF.2.2.1
  have he : (pre ++ X)[pre.length + j]? = some (a, .inr (ci, fs)) := by
    rw [List.getElem?_append_right (by omega), Nat.add_sub_cancel_left]; exact hX
  have hset : ∀ y : Nat × va_E, (pre ++ X).set (pre.length + j) y = pre ++ X.set j y := fun y => by
    rw [List.set_append_right _ _ (by omega), Nat.add_sub_cancel_left]
  refine va_putF (Ts := u_ws C T N) hx hb (fun w hw => hK.1.use (hF.2.1 w hw).1 (hF.2.1 w hw).2 args) (fun _ h => h) ty0 hty0 hF.2.2.2 hown hK.2.1 hP hD hS (pre.length + j) he hF.1 k hk (hK.1.use hlk rfl args) (fun _ h9 => h9) hfin hmn hdecl hd hn hfit hl hdg (fun H1 locs1 q1 q2 q3 => ?_)
  rw [hset] at q1 q2
  exact kk H1 locs1 q1 q2 q3
theorem w_init {own : String} {d mc ms idx n b nL : Nat} {Mc : Md} {as : List Value} {ws : va_W} {post : va_W → Prop} (hx : p.tables.exec = Jvm.exec) (hb : c.code = cc) (hml : c.maxLocals = nL) (hsz : ls.size = nL) (hown : s.vm.findClass own = some m.cls) (hK : CK K s) (hA : ∀ q, s.heap.size ≤ q → K.2.2.2 q) (hP : va_P K.1 vwCl ws H) (hD : va_D K.2.2.2 ws) (hS : va_S K.2.2.2 s.heap H locs) (hMc : MC Mc n) (hin : Cond.instanceMethod Mc.1 ∈ lw_tbl) (hnm : Mc.1.name = "<init>") (hret : Mc.2.2.2 = none) (hLK : LK own idx Mc.1) (hn : as.length = n) (hcat : (rest.map fun v => v.category).sum ≤ 8) (hR : d + 1 ≤ R.frames ∧ 40 * d + 40 ≤ R.locals) (hf : cells + mc ≤ R.cells ∧ slots + ms ≤ R.slots) (hdg : decode cc pc = .ok (.invokespecial idx, 3))
    (k : EvC d mc ms Mc K (.ref b :: as) ws post)
    (kk : ∀ (ws1 : va_W) (H1 : Heap) (locs1 : List Loc), post ws1 → va_P K.1 vwCl ws1 H1 → va_D K.2.2.2 ws1 → va_S K.2.2.2 s.heap H1 locs1 → W p l e R s m args below meth c H1 locs1 (cells + mc) (slots + ms) Q (F0 m (pc + 3) ls rest)) : W p l e R s m args below meth c H locs cells slots Q (F0 m pc ls (as.reverse ++ .ref b :: rest)) := by
  obtain ⟨m1, m2, m3, m4, m5, m6⟩ := hMc
  obtain ⟨y, bytes, maxL, ret⟩ := Mc
  have hret : ret = none := hret
  subst hret
  have hts : ∀ w ∈ [Cond.code y bytes maxL none], w.before args s = true := fun w hw => by
    rw [List.mem_singleton.mp hw]
    exact hK.1.use m1 rfl args
  have hgd : GoodIn [Cond.code y bytes maxL none] [Cond.code y bytes maxL none] := fun w hw => ⟨hw, Or.inl (by rw [List.mem_singleton.mp hw]; rfl)⟩
  have m6 : maxL ≤ 21 := m6
  have hroom : (rmc d mc ms).frames + 1 ≤ R.frames ∧ 8 + (maxL + 11) + (rmc d mc ms).locals ≤ R.locals := by
    simp only [rmc]
    omega
  have hpre : PreS s H (PcC K (.ref b :: as) ws) (.ref b :: as) := ⟨PcC.blind K _ ws, fun U hU hW => ⟨rfl, ⟨by rw [hU]; exact hP, hD⟩, hK.warm hW, fun q hq => hA q (Nat.le_trans hS.1 (by rw [← hU]; exact hq))⟩⟩
  refine va_callv (rest := rest) (A0 := K.2.2.2) (A1 := K.2.2.2) (free := K.2.2.2) (post := post) (B := Bn K) (mc := mc) (ms := ms) (a := (Value.ref b :: as).toArray) ?_ hS (fun q _ h => h) (fun q h => h) (fun u t H1 locs1 ht hvm hw hB hz hk hS1 => ?_)
  · rcases hLK with hLK | ⟨host, hLK⟩
    · exact va_runI (Ts := [Cond.code y bytes maxL none]) ⟨hx, hb, hml, hown, hts⟩ (k l) ⟨callB_of n hts hgd rfl rfl rfl (hK.1.use m2 rfl args) (hK.1.use hLK rfl args) ⟨m3, m4, m5⟩ hroom, hnm, hK.1.use hin rfl args⟩ hpre rfl hn hsz rfl (lv_room hcat) hdg hf
    · exact va_runIN (Ts := [Cond.code y bytes maxL none]) ⟨hx, hb, hml, hown, hts⟩ (k l) ⟨va_cnB n hts hgd rfl rfl rfl (va_Nw.of rfl (hK.1.use hLK rfl args)) (hK.1.use m2 rfl args) ⟨m3, m4, m5⟩ hroom, hnm, hK.1.use hin rfl args⟩ hpre rfl hn hsz rfl (lv_room hcat) hdg hf
  · exact kk u H1 locs1 hw (by rw [← ht]; exact hB.1) hB.2 hS1
end WN
theorem kX0_init : MC mX0_init 0 := ⟨(List.mem_of_getElem? (i := 93) (by decide +kernel)), (List.mem_of_getElem? (i := 73) (by decide +kernel)), by decide +kernel, by decide +kernel, by decide +kernel, by decide⟩
theorem iX0_init : Cond.instanceMethod yX0_init ∈ lw_tbl := List.mem_of_getElem? (i := 92) (by decide +kernel)
theorem kX1_init : MC mX1_init 1 := ⟨(List.mem_of_getElem? (i := 167) (by decide +kernel)), (List.mem_of_getElem? (i := 76) (by decide +kernel)), by decide +kernel, by decide +kernel, by decide +kernel, by decide⟩
theorem iX1_init : Cond.instanceMethod yX1_init ∈ lw_tbl := List.mem_of_getElem? (i := 166) (by decide +kernel)
theorem kX2_init : MC mX2_init 0 := ⟨(List.mem_of_getElem? (i := 161) (by decide +kernel)), (List.mem_of_getElem? (i := 75) (by decide +kernel)), by decide +kernel, by decide +kernel, by decide +kernel, by decide⟩
theorem iX2_init : Cond.instanceMethod yX2_init ∈ lw_tbl := List.mem_of_getElem? (i := 160) (by decide +kernel)
theorem kX3_init : MC mX3_init 0 := ⟨(List.mem_of_getElem? (i := 109) (by decide +kernel)), (List.mem_of_getElem? (i := 74) (by decide +kernel)), by decide +kernel, by decide +kernel, by decide +kernel, by decide⟩
theorem iX3_init : Cond.instanceMethod yX3_init ∈ lw_tbl := List.mem_of_getElem? (i := 108) (by decide +kernel)
theorem kX4_init : MC mX4_init 0 := ⟨(List.mem_of_getElem? (i := 85) (by decide +kernel)), (List.mem_of_getElem? (i := 72) (by decide +kernel)), by decide +kernel, by decide +kernel, by decide +kernel, by decide⟩
theorem iX4_init : Cond.instanceMethod yX4_init ∈ lw_tbl := List.mem_of_getElem? (i := 84) (by decide +kernel)
theorem kX5_init : MC mX5_init 0 := ⟨(List.mem_of_getElem? (i := 520) (by decide +kernel)), (List.mem_of_getElem? (i := 77) (by decide +kernel)), by decide +kernel, by decide +kernel, by decide +kernel, by decide⟩
theorem iX5_init : Cond.instanceMethod yX5_init ∈ lw_tbl := List.mem_of_getElem? (i := 519) (by decide +kernel)
theorem liL_9 : LK RL 9 yX4_init := Or.inl (List.mem_of_getElem? (i := 83) (by decide +kernel))
theorem oiX4 : Cond.methodLink RX4 1 objectInit ∈ lw_tbl := List.mem_of_getElem? (i := 86) (by decide +kernel)
theorem liX4_9 : LK RX4 9 yX0_init := Or.inr ⟨"AimDesk", (List.mem_of_getElem? (i := 91) (by decide +kernel))⟩
theorem oiX0 : Cond.methodLink RX0 3 objectInit ∈ lw_tbl := List.mem_of_getElem? (i := 94) (by decide +kernel)
theorem liX4_18 : LK RX4 18 yX3_init := Or.inr ⟨"AimDesk", (List.mem_of_getElem? (i := 107) (by decide +kernel))⟩
theorem oiX3 : Cond.methodLink RX3 3 objectInit ∈ lw_tbl := List.mem_of_getElem? (i := 110) (by decide +kernel)
theorem liX4_25 : LK RX4 25 yX2_init := Or.inr ⟨"AimDesk", (List.mem_of_getElem? (i := 159) (by decide +kernel))⟩
theorem oiX2 : Cond.methodLink RX2 3 objectInit ∈ lw_tbl := List.mem_of_getElem? (i := 162) (by decide +kernel)
theorem liX2_11 : LK RX2 11 yX1_init := Or.inr ⟨"AimDesk", (List.mem_of_getElem? (i := 165) (by decide +kernel))⟩
theorem oiX1 : Cond.methodLink RX1 3 objectInit ∈ lw_tbl := List.mem_of_getElem? (i := 168) (by decide +kernel)
theorem liL_12 : LK RL 12 yX5_init := Or.inl (List.mem_of_getElem? (i := 518) (by decide +kernel))
theorem oiX5 : Cond.methodLink RX5 1 objectInit ∈ lw_tbl := List.mem_of_getElem? (i := 521) (by decide +kernel)
