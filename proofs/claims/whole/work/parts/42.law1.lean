/-! THE CLAIM OUT OF ONE WALK OF THE LAW'S BODY. Your part is whole_start (and what it stands on); all else here is the same for every law, but numbers. -/
def R_law : String := "AimDeskLaw"
def lw_P (b : Addr) (xs : List Int32) (args : Array Value) (s : State) : Prop := args = #[.ref b] ∧ s.IntsAt b xs ∧ xs.length ≤ 1536 ∧ (Jvm.Cond.and given_1 narrow_1).before args s = true
def lw_Q (_ : Array Value) (s : State) (o : Outcome) (t : State) : Prop := o = .returned (some (.int 1)) ∧ Framed s o t [] 600000 7302250
def lw_Z (below : List Frame) (a : Array Value) (s : State) : State → Prop := fun t => ∃ o, t.status = .running ∧ Ended t below o ∧ lw_Q a s o t
/-- the law's own end, with 1 on the stack, nothing written that was there before, its room as the claim has it -/
theorem lw_ret {p : Program} {l : Launch} {e : Env} {s : State} {m : MethodId} {below : List Frame} {meth : Method} {c : Code} {b : Nat} (hx : p.tables.exec = Jvm.exec) (hb : c.code = code) (hr : meth.sig.returnType = ret) (hlocks : meth.locks = false) {pc : Nat} {H : Heap} {ls : Array Slot} (hdg : decode code pc = .ok (.ireturn, 1)) : W p l e room_1 s m #[Value.ref b] below meth c H [] 600000 7302250 (lw_Z below #[Value.ref b] s) (F0 m pc ls [.int 1]) := by
  intro T hT X
  obtain ⟨fs, hret, hrun, hended, hW, hframe⟩ := X.leave (v := some (.int 1)) (hlocks := hlocks) (fun h => by rw [hr] at h; cases h)
  have hmeth' : T.vm.method? m = some meth := X.method'
  refine ⟨T.setFrames fs, ?_, .returned (some (.int 1)), hrun, hended, rfl, ⟨_, rfl⟩, hW, hframe⟩
  jvm_step X.here [X.here.top, hx, hb, hdg, hmeth', hr, ret, narrow_b1]
  (try refine ⟨rfl, ?_⟩); (try refine ⟨rfl, ?_⟩)
  first | (intro acts; rw [hret _ acts rfl rfl rfl]) | rw [hret _ _ rfl rfl rfl]
  exact Steps.refl _
/-- what holds at the law's entry: the machine, the code, the tables' words (any of lw_tbl by 'hts w (by decide +kernel)'), the script of L ints xs at the cell b, what the Statement gives of the start (any of its parts by flat_of_before) -/
def lw_At (p : Program) (s : State) (m : MethodId) (meth : Method) (c : Code) (b L : Nat) (xs : Nat → Int32) : Prop :=
  p.tables.exec = Jvm.exec ∧ c.code = code ∧ meth.sig.returnType = ret ∧ c.maxLocals = 4 ∧ s.vm.findClass R_law = some m.cls ∧ (∀ w ∈ lw_tbl, w.before #[Value.ref b] s = true) ∧ va_X b L xs s s.heap ∧ b < s.heap.size ∧ meth.locks = false ∧ (Jvm.Cond.and given_1 narrow_1).before #[Value.ref b] s = true
/-! the law: its world, its calls -/
def hp0 : PH := (fun k => match k with
  | 5 => fun j => match j with
    | 0 => 1
    | _ => 0
  | _ => fun _ => 0, 0)
def st0 : St := (0, 0, fun _ => 0, fun _ => 0, fun _ => 0, fun _ => 0, 0, 0)
def ab0 : Ab := (st0, 0, fun _ => 0, 0, 0)
theorem wf0 : WF st0 := ⟨Nat.zero_le _, Nat.zero_le _, Iff.rfl, fun _ => ⟨Nat.zero_le _, Nat.zero_le _, Nat.le_refl _, fun _ => rfl⟩, fun _ => Nat.zero_le _, by decide, by decide⟩
theorem xi0 : XI ab0 hp0 := ⟨wf0, ⟨rfl, rfl, fun h => absurd h (by decide), rfl, rfl, rfl, fun m hm => absurd hm (Nat.not_lt_zero m), fun m hm => absurd hm (Nat.not_lt_zero m), fun q hq => absurd hq (Nat.not_lt_zero q)⟩, ⟨Nat.zero_le _, rfl, fun k hk => absurd hk (Nat.not_lt_zero k)⟩, rfl, rfl, ⟨rfl, Or.inl rfl, Or.inl rfl⟩, ⟨rfl, Or.inl rfl, Or.inl rfl⟩⟩
theorem yi0 : YI ab0 hp0 := ⟨wf0, ⟨rfl, rfl, rfl, rfl, fun m hm => absurd hm (Nat.not_lt_zero m), fun m _ => show (0 : Int32) = nI 1 - 1 by decide, fun q hq => absurd hq (Nat.not_lt_zero q)⟩, ⟨Nat.zero_le _, rfl, fun k hk => absurd hk (Nat.not_lt_zero k)⟩, rfl, rfl⟩

theorem XI.fry {s : Ab} {h h' : PH} (X : XI s h) (F : FrY h h') : XI s h' := by
  obtain ⟨hw, hc, hg, hf, hf2, hp, hp2⟩ := X
  refine ⟨hw, hc.same (fun k hk => F k (by omega)), hg.same (fun k hk => F k (by omega)), ?_, ?_, hp.same (fun k hk => F k (by omega)), hp2.same (fun k hk => F k (by omega))⟩
  · rw [F 0 (by omega)]; exact hf
  · rw [F 0 (by omega)]; exact hf2
theorem YI.frx {s : Ab} {h h' : PH} (Y : YI s h) (F : FrX h h') : YI s h' := by
  obtain ⟨hw, hI, hg, hf, hf2⟩ := Y
  have e15 := F.1 15 (by omega)
  refine ⟨hw, ?_, hg.keep (by rw [e15]) (F.1 16 (by omega)), by rw [e15]; exact hf, by rw [e15]; exact hf2⟩
  unfold MI at hI ⊢
  rw [e15, F.1 17 (by omega), F.1 18 (by omega), F.1 19 (by omega), F.1 20 (by omega)]
  exact hI
/-- what the law's walk stands on -/
def LX (p : Program) (s : State) (m : MethodId) (meth : Method) (c : Code) (b L : Nat) (xs : Nat → Int32) (E : EE) : Prop :=
  p.tables.exec = Jvm.exec ∧ c.code = code ∧ meth.sig.returnType = ret ∧ c.maxLocals = 4 ∧ s.vm.findClass RL = some m.cls ∧ meth.locks = false ∧ va_X b L xs s s.heap ∧ b < s.heap.size ∧ Kx E s ∧ Rd E s s.heap ∧ ∀ q, Aq E q → s.heap.size ≤ q
theorem w_call {p : Program} {l : Launch} {e : Env} {s : State} {m : MethodId} {args : Array Value} {below : List Frame} {meth : Method} {c : Code} {H : Heap} {locs : List Loc} {cells slots : Nat} {Q : State → Prop} {pc : Nat} {ls : Array Slot} {b L : Nat} {xs : Nat → Int32} {E : EE} {h : PH} {d' idx n bb : Nat} {Mc : Md} {as : List Value} {rest : List Value}
    (X : LX p s m meth c b L xs E) (hP : va_P E.1 vwCl (wl E h) H) (hS : va_S (fun q => s.heap.size ≤ q) s.heap H locs) (hsz : ls.size = 4) (hcs : cells ≤ 600000 ∧ slots ≤ 7302250) (hd : decode code pc = .ok (.invokevirtual idx, 3)) (hM : MV Mc n) (hK : LK RL idx Mc.1) (hb : bb < 26) (ho : cO bb = true) (hcl : ∃ T N, vwCl[cCi bb]? = some (Mc.1.cls, T, N)) (hn : as.length = n) (hcat : (rest.map fun v => v.category).sum ≤ 8) (hdd : d' ≤ 1000)
    (k : Ev d' Mc (.ref bb :: as) h (fun r h' => ∀ (H1 : Heap) (locs1 : List Loc), va_P E.1 vwCl (wl E h') H1 → va_S (fun q => s.heap.size ≤ q) s.heap H1 locs1 → W p l e room_1 s m args below meth c H1 locs1 cells slots Q (F0 m (pc + 3) ls ((r.map (vq E.2.1)).toList ++ rest)))) :
    W p l e room_1 s m args below meth c H locs cells slots Q (F0 m pc ls ((as.map (vq E.2.1)).reverse ++ .ref (E.2.1 bb) :: rest)) := by
  obtain ⟨x1, x2, x3, x4, x5, x6, x7, x8, x9, x10, x11⟩ := X
  obtain ⟨⟨m1, m2, m3, m4, m5, m6⟩, m7, m8⟩ := hM
  obtain ⟨T, N, hcl⟩ := hcl
  have he : (wl E h)[bb]? = some (E.2.1 bb, .inr (cCi bb, fl E h bb (cFk bb))) := by rw [wl_get E h hb, en_obj ho]
  have hts : ∀ w ∈ [Cond.code Mc.1 Mc.2.1 Mc.2.2.1 Mc.2.2.2], w.before args s = true := fun w hw => by
    rw [List.mem_singleton.mp hw]
    exact x9.1.use m1 rfl args
  have hgd : GoodIn [Cond.code Mc.1 Mc.2.1 Mc.2.2.1 Mc.2.2.2] [Cond.code Mc.1 Mc.2.1 Mc.2.2.1 Mc.2.2.2] := fun w hw => ⟨hw, Or.inl (by rw [List.mem_singleton.mp hw]; rfl)⟩
  have hroom : (rmd d').frames + 1 ≤ room_1.frames ∧ 8 + (Mc.2.2.1 + 11) + (rmd d').locals ≤ room_1.locals := by
    simp only [rmd, room_1]
    omega
  have hin : ∀ a : Nat, a < s.heap.size → ¬ Aq E a → H[a]? = s.heap[a]? := fun a h1 _ => hS.2.1 a h1 (Nat.not_le.mpr h1)
  have hpre : PreV s H Mc.1.cls (E.2.1 bb) (PcE E (.ref bb :: as) h) (as.map (vq E.2.1)) := ⟨PcE.blind E _ h, va_recv (q := (Mc.1.cls, T, N)) x9.2.1 hP hcl he, fun U hU hW => ⟨rfl, by rw [hU]; exact hP, x9.warm hW, x10.move hW.alike (fun a h1 h2 => by rw [hU]; exact hin a h1 h2)⟩⟩
  have hf : cells + 0 ≤ room_1.cells ∧ slots + 0 ≤ room_1.slots := hcs
  have hr : va_Run p l e room_1 s m args below meth c H locs cells slots 0 0 (F0 m pc ls ((as.map (vq E.2.1)).reverse ++ .ref (E.2.1 bb) :: rest)) rest (Qx E (fun r h' => ∀ (H1 : Heap) (locs1 : List Loc), va_P E.1 vwCl (wl E h') H1 → va_S (fun q => s.heap.size ≤ q) s.heap H1 locs1 → W p l e room_1 s m args below meth c H1 locs1 cells slots Q (F0 m (pc + 3) ls ((r.map (vq E.2.1)).toList ++ rest))) (Value.ref (E.2.1 bb) :: as.map (vq E.2.1)).toArray) (Aq E) := by
    rcases hK with hK | ⟨host, hK⟩
    · exact va_runV (Ts := [Cond.code Mc.1 Mc.2.1 Mc.2.2.1 Mc.2.2.2]) ⟨x1, x2, x4, x5, hts⟩ (k l E)
        ⟨callB_of n hts hgd rfl rfl rfl (x9.1.use m2 rfl args) (x9.1.use hK rfl args) ⟨m3, m4, m5⟩ hroom, x9.1.use m7 rfl args, x9.1.use m8 rfl args⟩ hpre rfl (by rw [List.length_map]; exact hn) hsz rfl (lv_room hcat) hd hf
    · exact va_runVN (Ts := [Cond.code Mc.1 Mc.2.1 Mc.2.2.1 Mc.2.2.2]) ⟨x1, x2, x4, x5, hts⟩ (k l E)
        ⟨va_cnB n hts hgd rfl rfl rfl (va_Nw.of rfl (x9.1.use hK rfl args)) (x9.1.use m2 rfl args) ⟨m3, m4, m5⟩ hroom, x9.1.use m7 rfl args, x9.1.use m8 rfl args⟩ hpre rfl (by rw [List.length_map]; exact hn) hsz rfl (lv_room hcat) hd hf
  intro T0 hT0 X0
  obtain ⟨v, st₀, t, T', L', h0, X', hL', e1, e2, ⟨⟨r, h', hv, hg, hP'⟩, hz, hk⟩, go⟩ := hr T0 hT0 X0
  cases hv
  rw [h0] at hz hk
  have hS' : va_S (fun q => s.heap.size ≤ q) s.heap T'.heap (locs ++ L') := by
    refine ⟨Nat.le_trans hS.1 (by rw [e1]; exact hz), fun q h1 h2 => ?_, fun q hq => ?_⟩
    · rw [e1, hk q (Nat.lt_of_lt_of_le h1 hS.1) (fun z => h2 (x11 q z))]
      exact hS.2.1 q h1 h2
    · rcases List.mem_append.mp hq with h9 | h9
      · exact hS.2.2 q h9
      · exact x11 _ (hL' q h9)
  have hP2 : va_P E.1 vwCl (wl E h') T'.heap := by rw [e1]; exact hP'
  obtain ⟨t2, a1, b1⟩ := hg T'.heap (locs ++ L') hP2 hS' T' rfl X'
  exact ⟨t2, go t2 a1, b1⟩
def e0 (K : CE) (t x q0 q1 q2 q3 q4 q5 q6 q7 q8 q9 q10 q11 q12 q13 y r0 r1 r2 r3 r4 r5 r6 r7 r8 r9 : Nat) : EE := (K.1, fun k => match k with
    | 0 => x | 1 => q0 | 2 => q2 | 3 => q8 | 4 => q9 | 5 => q11 | 6 => q1 | 7 => q3 | 8 => q4 | 9 => q5 | 10 => q6 | 11 => q7 | 12 => q13 | 13 => q10 | 14 => q12
    | 15 => y | 16 => r0 | 17 => r1 | 18 => r2 | 19 => r3 | 20 => r4 | 21 => r5 | 22 => r6 | 23 => r7 | 24 => r8 | 25 => r9 | _ => t, K.2.1, K.2.2.1)
set_option maxHeartbeats 4000000 in
set_option maxRecDepth 100000 in
theorem world0 {K : CE} {H : Heap} (t x q0 q1 q2 q3 q4 q5 q6 q7 q8 q9 q10 q11 q12 q13 y r0 r1 r2 r3 r4 r5 r6 r7 r8 r9 : Nat)
    (hP : va_P K.1 vwCl ([(x, .inr (4, [.ref q0, .ref q2, .ref q8, .int 0, .int 0])), (q0, .inr (0, [.ref q1, .int 0])), (q1, .inl (K.2.1, 21, .inl (fun _ => 0))), (q2, .inr (3, [.int 0, .int 0, .int 0, .int 0, .int 0, .int 0, .ref q3, .ref q4, .ref q5, .ref q6, .ref q7])), (q3, .inl (K.2.1, 5, .inl (fun _ => 0))), (q4, .inl (K.2.1, 5, .inl (fun _ => 0))), (q5, .inl (K.2.1, 5, .inl (fun _ => 0))), (q6, .inl (K.2.1, 20, .inl (fun _ => 0))), (q7, .inl (K.2.1, 4, .inl (fun _ => 0))), (q8, .inr (2, [.ref q9, .ref q11, .ref q13])), (q9, .inr (1, [.int 0, .ref q10, .int 0, .int 0, .int 0, .int 0, .int 0])), (q10, .inl (K.2.1, 15, .inl (fun _ => 0))), (q11, .inr (1, [.int 1, .ref q12, .int 0, .int 0, .int 0, .int 0, .int 0])), (q12, .inl (K.2.1, 15, .inl (fun _ => 0))), (q13, .inl (K.2.1, 3125, .inl (fun _ => 0))), (y, .inr (5, [.int 0, .ref r0, .int 0, .int 0, .ref r1, .ref r2, .ref r3, .ref r4, .int 0, .int 0, .int 0, .int 0, .ref r5, .ref r6, .ref r7, .int 0, .int 0, .ref r8, .int 0, .ref r9, .int 0, .int 0, .int 0, .long 0])), (r0, .inl (K.2.1, 21, .inl (fun _ => 0))), (r1, .inl (K.2.1, 5, .inl (fun _ => 0))), (r2, .inl (K.2.1, 5, .inl (fun _ => 0))), (r3, .inl (K.2.1, 5, .inl (fun _ => 0))), (r4, .inl (K.2.1, 4, .inl (fun _ => 0))), (r5, .inl (K.2.1, 5, .inl (fun _ => 0))), (r6, .inl (K.2.2.1, 3125, .inl (fun _ => 0))), (r7, .inl (K.2.1, 3125, .inl (fun _ => 0))), (r8, .inl (K.2.1, 3125, .inl (fun _ => 0))), (r9, .inl (K.2.1, 15, .inl (fun _ => 0)))]) H)
    (hD : va_D K.2.2.2 ([(x, .inr (4, [.ref q0, .ref q2, .ref q8, .int 0, .int 0])), (q0, .inr (0, [.ref q1, .int 0])), (q1, .inl (K.2.1, 21, .inl (fun _ => 0))), (q2, .inr (3, [.int 0, .int 0, .int 0, .int 0, .int 0, .int 0, .ref q3, .ref q4, .ref q5, .ref q6, .ref q7])), (q3, .inl (K.2.1, 5, .inl (fun _ => 0))), (q4, .inl (K.2.1, 5, .inl (fun _ => 0))), (q5, .inl (K.2.1, 5, .inl (fun _ => 0))), (q6, .inl (K.2.1, 20, .inl (fun _ => 0))), (q7, .inl (K.2.1, 4, .inl (fun _ => 0))), (q8, .inr (2, [.ref q9, .ref q11, .ref q13])), (q9, .inr (1, [.int 0, .ref q10, .int 0, .int 0, .int 0, .int 0, .int 0])), (q10, .inl (K.2.1, 15, .inl (fun _ => 0))), (q11, .inr (1, [.int 1, .ref q12, .int 0, .int 0, .int 0, .int 0, .int 0])), (q12, .inl (K.2.1, 15, .inl (fun _ => 0))), (q13, .inl (K.2.1, 3125, .inl (fun _ => 0))), (y, .inr (5, [.int 0, .ref r0, .int 0, .int 0, .ref r1, .ref r2, .ref r3, .ref r4, .int 0, .int 0, .int 0, .int 0, .ref r5, .ref r6, .ref r7, .int 0, .int 0, .ref r8, .int 0, .ref r9, .int 0, .int 0, .int 0, .long 0])), (r0, .inl (K.2.1, 21, .inl (fun _ => 0))), (r1, .inl (K.2.1, 5, .inl (fun _ => 0))), (r2, .inl (K.2.1, 5, .inl (fun _ => 0))), (r3, .inl (K.2.1, 5, .inl (fun _ => 0))), (r4, .inl (K.2.1, 4, .inl (fun _ => 0))), (r5, .inl (K.2.1, 5, .inl (fun _ => 0))), (r6, .inl (K.2.2.1, 3125, .inl (fun _ => 0))), (r7, .inl (K.2.1, 3125, .inl (fun _ => 0))), (r8, .inl (K.2.1, 3125, .inl (fun _ => 0))), (r9, .inl (K.2.1, 15, .inl (fun _ => 0)))])) :
    ∃ E : EE, E.1 = K.1 ∧ E.2.2.1 = K.2.1 ∧ E.2.2.2 = K.2.2.1 ∧ E.2.1 0 = x ∧ E.2.1 15 = y ∧ E.2.1 26 = t ∧ Inj E ∧ va_P E.1 vwCl (wl E hp0) H ∧ ∀ q, Aq E q → K.2.2.2 q := by
  have hD2 := hD.sub (ws' := wl (e0 K t x q0 q1 q2 q3 q4 q5 q6 q7 q8 q9 q10 q11 q12 q13 y r0 r1 r2 r3 r4 r5 r6 r7 r8 r9) hp0) [0, 1, 3, 9, 10, 12, 2, 4, 5, 6, 7, 8, 14, 11, 13, 15, 16, 17, 18, 19, 20, 21, 22, 23, 24, 25] (by decide) rfl
  refine ⟨e0 K t x q0 q1 q2 q3 q4 q5 q6 q7 q8 q9 q10 q11 q12 q13 y r0 r1 r2 r3 r4 r5 r6 r7 r8 r9, rfl, rfl, rfl, rfl, rfl, rfl, ?_, ?_, ?_⟩
  · intro i j hi hj e
    exact hD2.1 i j _ _ (wl_get _ hp0 hi) (wl_get _ hp0 hj) e
  · exact hP.sub [0, 1, 3, 9, 10, 12, 2, 4, 5, 6, 7, 8, 14, 11, 13, 15, 16, 17, 18, 19, 20, 21, 22, 23, 24, 25] rfl
  · rintro q ⟨k, hk, rfl⟩
    exact hD2.2 k _ (wl_get _ hp0 hk)
