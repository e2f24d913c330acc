/-! rules: an instruction, a row -/
section RU
variable {d : Nat} {M : Md} {post : Option Value → PH → Prop} {pc : Nat} {L : List (Option Value)} {st : List Value} {h : PH}
theorem g_iconst {n : Int} {v : Int32} (hd : decode M.2.1 pc = .ok (.iconst n, 1)) (hv : Int32.ofInt n = v) (k : G d M post (pc + 1) L (.int v :: st) h) : G d M post pc L st h := by
  intro p l e s m args below meth c E H locs ls F hP hS hl
  exact lv_iconst F.1 F.2.1 hd hv (k p l e s m args below meth c E H locs ls F hP hS hl)
theorem g_bipush {n : Int} {v : Int32} (hd : decode M.2.1 pc = .ok (.bipush n, 2)) (hv : (Int8.ofInt n).toInt32 = v) (k : G d M post (pc + 2) L (.int v :: st) h) : G d M post pc L st h := by
  intro p l e s m args below meth c E H locs ls F hP hS hl
  exact lv_bipush F.1 F.2.1 hd hv (k p l e s m args below meth c E H locs ls F hP hS hl)
theorem g_sipush {n : Int} {v : Int32} (hd : decode M.2.1 pc = .ok (.sipush n, 3)) (hv : (Int16.ofInt n).toInt32 = v) (k : G d M post (pc + 3) L (.int v :: st) h) : G d M post pc L st h := by
  intro p l e s m args below meth c E H locs ls F hP hS hl
  exact lv_sipush F.1 F.2.1 hd hv (k p l e s m args below meth c E H locs ls F hP hS hl)
theorem g_iload_n {i : Fin 4} {x : Int32} (hd : decode M.2.1 pc = .ok (.iload_n i, 1)) (hL : L[i.val]? = some (some (.int x))) (k : G d M post (pc + 1) L (.int x :: st) h) : G d M post pc L st h := by
  intro p l e s m args below meth c E H locs ls F hP hS hl
  exact lv_iload_n F.1 F.2.1 hd rfl (hl.at hL) (k p l e s m args below meth c E H locs ls F hP hS hl)
theorem g_iload {i : Nat} {x : Int32} (hd : decode M.2.1 pc = .ok (.iload i, 2)) (hL : L[i]? = some (some (.int x))) (k : G d M post (pc + 2) L (.int x :: st) h) : G d M post pc L st h := by
  intro p l e s m args below meth c E H locs ls F hP hS hl
  exact lv_iload F.1 F.2.1 hd (hl.at hL) (k p l e s m args below meth c E H locs ls F hP hS hl)
theorem g_lload_n {i : Fin 4} {x : Int64} (hd : decode M.2.1 pc = .ok (.lload_n i, 1)) (hL : L[i.val]? = some (some (.long x))) (k : G d M post (pc + 1) L (.long x :: st) h) : G d M post pc L st h := by
  intro p l e s m args below meth c E H locs ls F hP hS hl
  exact lv_lload_n F.1 F.2.1 hd rfl (hl.at hL) (k p l e s m args below meth c E H locs ls F hP hS hl)
theorem g_lload {i : Nat} {x : Int64} (hd : decode M.2.1 pc = .ok (.lload i, 2)) (hL : L[i]? = some (some (.long x))) (k : G d M post (pc + 2) L (.long x :: st) h) : G d M post pc L st h := by
  intro p l e s m args below meth c E H locs ls F hP hS hl
  exact lv_lload F.1 F.2.1 hd (hl.at hL) (k p l e s m args below meth c E H locs ls F hP hS hl)
theorem g_aload_n {i : Fin 4} {x : Nat} (hd : decode M.2.1 pc = .ok (.aload_n i, 1)) (hL : L[i.val]? = some (some (.ref x))) (k : G d M post (pc + 1) L (.ref x :: st) h) : G d M post pc L st h := by
  intro p l e s m args below meth c E H locs ls F hP hS hl
  exact lv_aload_n F.1 F.2.1 hd rfl (hl.at hL) (k p l e s m args below meth c E H locs ls F hP hS hl)
theorem g_aload {i : Nat} {x : Nat} (hd : decode M.2.1 pc = .ok (.aload i, 2)) (hL : L[i]? = some (some (.ref x))) (k : G d M post (pc + 2) L (.ref x :: st) h) : G d M post pc L st h := by
  intro p l e s m args below meth c E H locs ls F hP hS hl
  exact lv_aload F.1 F.2.1 hd (hl.at hL) (k p l e s m args below meth c E H locs ls F hP hS hl)
/-- no long lies right ahead of place i -/
def noL (L : List (Option Value)) (i : Nat) : Bool := match i with
  | 0 => true
  | j + 1 => match L[j]? with
    | some (some v) => v.category != 2
    | _ => true
theorem noL_of {L : List (Option Value)} {j : Nat} {w : Value} (a : noL L (j + 1) = true) (b : L[j]? = some (some w)) : ¬ w.category = 2 := by
  have : noL L (j + 1) = (w.category != 2) := by
    show (match L[j]? with | some (some v) => v.category != 2 | _ => true) = _
    rw [b]
  rw [this] at a
  simpa using a
theorem lh_set {E : EE} {ls ls' : Array Slot} {n i : Nat} {L : List (Option Value)} {v : Value} (h0 : noL L i = true) (h : lv_has ls' n ((i, vq E.2.1 v) :: (al E L).filter (fun q => !(q.1 == i) && !(q.1 + 1 == i && q.2.category == 2)))) : lh E ls' n (L.set i (some v)) := by
  refine ⟨h.1, h.2.1, fun x hx => ?_⟩
  obtain ⟨w, g1, g2⟩ := al_of hx
  obtain ⟨j, y⟩ := x
  have h2 : y = vq E.2.1 w := g2
  clear g2
  have h1 : (L.set i (some v))[j]? = some (some w) := g1
  clear g1
  subst h2
  rw [List.getElem?_set] at h1
  by_cases e : i = j
  · subst e
    rw [if_pos rfl] at h1
    split at h1
    · cases h1
      exact h.2.2 _ List.mem_cons_self
    · cases h1
  · rw [if_neg e] at h1
    refine h.2.2 _ (List.mem_cons_of_mem _ (List.mem_filter.mpr ⟨al_mem h1, ?_⟩))
    have e1 : (j == i) = false := by simp; exact Ne.symm e
    have e2 : (j + 1 == i && (vq E.2.1 w).category == 2) = false := by
      by_cases e3 : j + 1 = i
      · subst e3
        rw [vq_cat]
        simp [noL_of h0 h1]
      · simp [e3]
    simp only [e1, e2]
    rfl
theorem lh_setL {E : EE} {ls ls' : Array Slot} {n i : Nat} {L : List (Option Value)} {v : Value} (h0 : noL L i = true) (h : lv_has ls' n ((i, vq E.2.1 v) :: (al E L).filter (fun q => !(q.1 == i) && (!(q.1 == i + 1) && !(q.1 + 1 == i && q.2.category == 2))))) : lh E ls' n ((L.set i (some v)).set (i + 1) none) := by
  refine ⟨h.1, h.2.1, fun x hx => ?_⟩
  obtain ⟨w, g1, g2⟩ := al_of hx
  obtain ⟨j, y⟩ := x
  have h2 : y = vq E.2.1 w := g2
  clear g2
  have h1 : ((L.set i (some v)).set (i + 1) none)[j]? = some (some w) := g1
  clear g1
  subst h2
  rw [List.getElem?_set] at h1
  by_cases e9 : i + 1 = j
  · rw [if_pos e9] at h1
    split at h1 <;> cases h1
  rw [if_neg e9] at h1
  rw [List.getElem?_set] at h1
  by_cases e : i = j
  · subst e
    rw [if_pos rfl] at h1
    split at h1
    · cases h1
      exact h.2.2 _ List.mem_cons_self
    · cases h1
  · rw [if_neg e] at h1
    refine h.2.2 _ (List.mem_cons_of_mem _ (List.mem_filter.mpr ⟨al_mem h1, ?_⟩))
    have e1 : (j == i) = false := by simp; exact Ne.symm e
    have e4 : (j == i + 1) = false := by simp; exact Ne.symm e9
    have e2 : (j + 1 == i && (vq E.2.1 w).category == 2) = false := by
      by_cases e3 : j + 1 = i
      · subst e3
        rw [vq_cat]
        simp [noL_of h0 h1]
      · simp [e3]
    simp only [e1, e2, e4]
    rfl
theorem g_istore_n {i : Fin 4} {x : Int32} {L' : List (Option Value)} (hd : decode M.2.1 pc = .ok (.istore_n i, 1)) (h0 : noL L i.val = true) (hn : i.val < M.2.2.1) (hL : L.set i.val (some (.int x)) = L') (k : G d M post (pc + 1) L' st h) : G d M post pc L (.int x :: st) h := by
  intro p l e s m args below meth c E H locs ls F hP hS hl
  subst hL
  exact lv_istore_n F.1 F.2.1 hd rfl hl hn rfl (fun ls h9 => k p l e s m args below meth c E H locs ls F hP hS (lh_set (ls := ls) (v := .int x) h0 h9))
theorem g_istore {i : Nat} {x : Int32} {L' : List (Option Value)} (hd : decode M.2.1 pc = .ok (.istore i, 2)) (h0 : noL L i = true) (hn : i < M.2.2.1) (hL : L.set i (some (.int x)) = L') (k : G d M post (pc + 2) L' st h) : G d M post pc L (.int x :: st) h := by
  intro p l e s m args below meth c E H locs ls F hP hS hl
  subst hL
  exact lv_istore F.1 F.2.1 hd hl hn rfl (fun ls h9 => k p l e s m args below meth c E H locs ls F hP hS (lh_set (ls := ls) (v := .int x) h0 h9))
theorem g_astore_n {i : Fin 4} {x : Nat} {L' : List (Option Value)} (hd : decode M.2.1 pc = .ok (.astore_n i, 1)) (h0 : noL L i.val = true) (hn : i.val < M.2.2.1) (hL : L.set i.val (some (.ref x)) = L') (k : G d M post (pc + 1) L' st h) : G d M post pc L (.ref x :: st) h := by
  intro p l e s m args below meth c E H locs ls F hP hS hl
  subst hL
  exact lv_astore_n F.1 F.2.1 hd rfl hl hn rfl (fun ls h9 => k p l e s m args below meth c E H locs ls F hP hS (lh_set (ls := ls) (v := .ref x) h0 h9))
theorem g_astore {i : Nat} {x : Nat} {L' : List (Option Value)} (hd : decode M.2.1 pc = .ok (.astore i, 2)) (h0 : noL L i = true) (hn : i < M.2.2.1) (hL : L.set i (some (.ref x)) = L') (k : G d M post (pc + 2) L' st h) : G d M post pc L (.ref x :: st) h := by
  intro p l e s m args below meth c E H locs ls F hP hS hl
  subst hL
  exact lv_astore F.1 F.2.1 hd hl hn rfl (fun ls h9 => k p l e s m args below meth c E H locs ls F hP hS (lh_set (ls := ls) (v := .ref x) h0 h9))
theorem g_lstore_n {i : Fin 4} {x : Int64} {L' : List (Option Value)} (hd : decode M.2.1 pc = .ok (.lstore_n i, 1)) (h0 : noL L i.val = true) (hn : i.val + 1 < M.2.2.1) (hL : (L.set i.val (some (.long x))).set (i.val + 1) none = L') (k : G d M post (pc + 1) L' st h) : G d M post pc L (.long x :: st) h := by
  intro p l e s m args below meth c E H locs ls F hP hS hl
  subst hL
  exact lv_lstore_n F.1 F.2.1 hd rfl hl hn rfl (fun ls h9 => k p l e s m args below meth c E H locs ls F hP hS (lh_setL (ls := ls) (v := .long x) h0 h9))
theorem g_iinc {i : Nat} {n : Int} {x v : Int32} {L' : List (Option Value)} (hd : decode M.2.1 pc = .ok (.iinc i n, 3)) (hx : L[i]? = some (some (.int x))) (hv : x + Int32.ofInt n = v) (h0 : noL L i = true) (hn : i < M.2.2.1) (hL : L.set i (some (.int v)) = L') (k : G d M post (pc + 3) L' st h) : G d M post pc L st h := by
  intro p l e s m args below meth c E H locs ls F hP hS hl
  subst hL
  obtain ⟨j, hj⟩ := List.getElem?_of_mem (al_mem (E := E) hx)
  exact lv_iinc F.1 F.2.1 hd hl hj hv hn rfl (fun ls h9 => k p l e s m args below meth c E H locs ls F hP hS (lh_set (ls := ls) (v := .int v) h0 h9))
theorem g_iadd {x y : Int32} (hd : decode M.2.1 pc = .ok (.iadd, 1)) (k : G d M post (pc + 1) L (.int (x + y) :: st) h) : G d M post pc L (.int y :: .int x :: st) h := by
  intro p l e s m args below meth c E H locs ls F hP hS hl
  exact lv_iadd F.1 F.2.1 hd (k p l e s m args below meth c E H locs ls F hP hS hl)
theorem g_isub {x y : Int32} (hd : decode M.2.1 pc = .ok (.isub, 1)) (k : G d M post (pc + 1) L (.int (x - y) :: st) h) : G d M post pc L (.int y :: .int x :: st) h := by
  intro p l e s m args below meth c E H locs ls F hP hS hl
  exact lv_isub F.1 F.2.1 hd (k p l e s m args below meth c E H locs ls F hP hS hl)
theorem g_imul {x y : Int32} (hd : decode M.2.1 pc = .ok (.imul, 1)) (k : G d M post (pc + 1) L (.int (x * y) :: st) h) : G d M post pc L (.int y :: .int x :: st) h := by
  intro p l e s m args below meth c E H locs ls F hP hS hl
  exact lv_imul F.1 F.2.1 hd (k p l e s m args below meth c E H locs ls F hP hS hl)
theorem g_iand {x y : Int32} (hd : decode M.2.1 pc = .ok (.iand, 1)) (k : G d M post (pc + 1) L (.int (x &&& y) :: st) h) : G d M post pc L (.int y :: .int x :: st) h := by
  intro p l e s m args below meth c E H locs ls F hP hS hl
  exact lv_iand F.1 F.2.1 hd (k p l e s m args below meth c E H locs ls F hP hS hl)
theorem g_ior {x y : Int32} (hd : decode M.2.1 pc = .ok (.ior, 1)) (k : G d M post (pc + 1) L (.int (x ||| y) :: st) h) : G d M post pc L (.int y :: .int x :: st) h := by
  intro p l e s m args below meth c E H locs ls F hP hS hl
  exact lv_ior F.1 F.2.1 hd (k p l e s m args below meth c E H locs ls F hP hS hl)
theorem g_ixor {x y : Int32} (hd : decode M.2.1 pc = .ok (.ixor, 1)) (k : G d M post (pc + 1) L (.int (x ^^^ y) :: st) h) : G d M post pc L (.int y :: .int x :: st) h := by
  intro p l e s m args below meth c E H locs ls F hP hS hl
  exact lv_ixor F.1 F.2.1 hd (k p l e s m args below meth c E H locs ls F hP hS hl)
theorem g_ishl {x y : Int32} (hd : decode M.2.1 pc = .ok (.ishl, 1)) (k : G d M post (pc + 1) L (.int (x <<< (y &&& 31)) :: st) h) : G d M post pc L (.int y :: .int x :: st) h := by
  intro p l e s m args below meth c E H locs ls F hP hS hl
  exact lv_ishl F.1 F.2.1 hd (k p l e s m args below meth c E H locs ls F hP hS hl)
theorem g_ishr {x y : Int32} (hd : decode M.2.1 pc = .ok (.ishr, 1)) (k : G d M post (pc + 1) L (.int (x >>> (y &&& 31)) :: st) h) : G d M post pc L (.int y :: .int x :: st) h := by
  intro p l e s m args below meth c E H locs ls F hP hS hl
  exact lv_ishr F.1 F.2.1 hd (k p l e s m args below meth c E H locs ls F hP hS hl)
theorem g_iushr {x y : Int32} (hd : decode M.2.1 pc = .ok (.iushr, 1)) (k : G d M post (pc + 1) L (.int ((x.toUInt32 >>> (y.toUInt32 &&& Int32.toUInt32 31)).toInt32) :: st) h) : G d M post pc L (.int y :: .int x :: st) h := by
  intro p l e s m args below meth c E H locs ls F hP hS hl
  exact lv_iushr F.1 F.2.1 hd rfl (k p l e s m args below meth c E H locs ls F hP hS hl)
theorem g_idiv {x y : Int32} (hd : decode M.2.1 pc = .ok (.idiv, 1)) (hne : ¬ y = 0) (k : G d M post (pc + 1) L (.int (x / y) :: st) h) : G d M post pc L (.int y :: .int x :: st) h := by
  intro p l e s m args below meth c E H locs ls F hP hS hl
  exact lv_idiv F.1 F.2.1 hd hne (k p l e s m args below meth c E H locs ls F hP hS hl)
theorem g_irem {x y : Int32} (hd : decode M.2.1 pc = .ok (.irem, 1)) (hne : ¬ y = 0) (k : G d M post (pc + 1) L (.int (x - x / y * y) :: st) h) : G d M post pc L (.int y :: .int x :: st) h := by
  intro p l e s m args below meth c E H locs ls F hP hS hl
  exact lv_irem F.1 F.2.1 hd hne (k p l e s m args below meth c E H locs ls F hP hS hl)
theorem g_ladd {x y : Int64} (hd : decode M.2.1 pc = .ok (.ladd, 1)) (k : G d M post (pc + 1) L (.long (x + y) :: st) h) : G d M post pc L (.long y :: .long x :: st) h := by
  intro p l e s m args below meth c E H locs ls F hP hS hl
  exact lv_ladd F.1 F.2.1 hd (k p l e s m args below meth c E H locs ls F hP hS hl)
theorem g_lmul {x y : Int64} (hd : decode M.2.1 pc = .ok (.lmul, 1)) (k : G d M post (pc + 1) L (.long (x * y) :: st) h) : G d M post pc L (.long y :: .long x :: st) h := by
  intro p l e s m args below meth c E H locs ls F hP hS hl
  exact lv_lmul F.1 F.2.1 hd (k p l e s m args below meth c E H locs ls F hP hS hl)
theorem g_i2l {x : Int32} (hd : decode M.2.1 pc = .ok (.i2l, 1)) (k : G d M post (pc + 1) L (.long x.toInt64 :: st) h) : G d M post pc L (.int x :: st) h := by
  intro p l e s m args below meth c E H locs ls F hP hS hl
  exact lv_i2l F.1 F.2.1 hd rfl (k p l e s m args below meth c E H locs ls F hP hS hl)
theorem g_dup {v : Value} (hd : decode M.2.1 pc = .ok (.dup, 1)) (hc : v.category = 1) (k : G d M post (pc + 1) L (v :: v :: st) h) : G d M post pc L (v :: st) h := by
  intro p l e s m args below meth c E H locs ls F hP hS hl
  exact lv_dup F.1 F.2.1 hd (by rw [vq_cat]; exact hc) (k p l e s m args below meth c E H locs ls F hP hS hl)
theorem g_pop {v : Value} (hd : decode M.2.1 pc = .ok (.pop, 1)) (hc : v.category = 1) (k : G d M post (pc + 1) L st h) : G d M post pc L (v :: st) h := by
  intro p l e s m args below meth c E H locs ls F hP hS hl
  exact lv_pop F.1 F.2.1 hd (by rw [vq_cat]; exact hc) (k p l e s m args below meth c E H locs ls F hP hS hl)
theorem g_if_eq {x : Int32} {off : Int} {tgt : Nat} (hd : decode M.2.1 pc = .ok (.ifCond .eq off, 3)) (ht : (pc : Int) + off = (tgt : Int)) (k1 : x = 0 → G d M post tgt L st h) (k2 : ¬ x = 0 → G d M post (pc + 3) L st h) : G d M post pc L (.int x :: st) h := by
  intro p l e s m args below meth c E H locs ls F hP hS hl
  exact lv_if_eq F.1 F.2.1 hd ht (fun hc => k1 hc p l e s m args below meth c E H locs ls F hP hS hl) (fun hc => k2 hc p l e s m args below meth c E H locs ls F hP hS hl)
theorem g_icmp_eq {x y : Int32} {off : Int} {tgt : Nat} (hd : decode M.2.1 pc = .ok (.if_icmp .eq off, 3)) (ht : (pc : Int) + off = (tgt : Int)) (k1 : x = y → G d M post tgt L st h) (k2 : ¬ x = y → G d M post (pc + 3) L st h) : G d M post pc L (.int y :: .int x :: st) h := by
  intro p l e s m args below meth c E H locs ls F hP hS hl
  exact lv_icmp_eq F.1 F.2.1 hd ht (fun hc => k1 hc p l e s m args below meth c E H locs ls F hP hS hl) (fun hc => k2 hc p l e s m args below meth c E H locs ls F hP hS hl)
theorem g_if_ne {x : Int32} {off : Int} {tgt : Nat} (hd : decode M.2.1 pc = .ok (.ifCond .ne off, 3)) (ht : (pc : Int) + off = (tgt : Int)) (k1 : ¬ x = 0 → G d M post tgt L st h) (k2 : x = 0 → G d M post (pc + 3) L st h) : G d M post pc L (.int x :: st) h := by
  intro p l e s m args below meth c E H locs ls F hP hS hl
  exact lv_if_ne F.1 F.2.1 hd ht (fun hc => k1 hc p l e s m args below meth c E H locs ls F hP hS hl) (fun hc => k2 hc p l e s m args below meth c E H locs ls F hP hS hl)
theorem g_icmp_ne {x y : Int32} {off : Int} {tgt : Nat} (hd : decode M.2.1 pc = .ok (.if_icmp .ne off, 3)) (ht : (pc : Int) + off = (tgt : Int)) (k1 : ¬ x = y → G d M post tgt L st h) (k2 : x = y → G d M post (pc + 3) L st h) : G d M post pc L (.int y :: .int x :: st) h := by
  intro p l e s m args below meth c E H locs ls F hP hS hl
  exact lv_icmp_ne F.1 F.2.1 hd ht (fun hc => k1 hc p l e s m args below meth c E H locs ls F hP hS hl) (fun hc => k2 hc p l e s m args below meth c E H locs ls F hP hS hl)
theorem g_if_lt {x : Int32} {off : Int} {tgt : Nat} (hd : decode M.2.1 pc = .ok (.ifCond .lt off, 3)) (ht : (pc : Int) + off = (tgt : Int)) (k1 : x < 0 → G d M post tgt L st h) (k2 : ¬ x < 0 → G d M post (pc + 3) L st h) : G d M post pc L (.int x :: st) h := by
  intro p l e s m args below meth c E H locs ls F hP hS hl
  exact lv_if_lt F.1 F.2.1 hd ht (fun hc => k1 hc p l e s m args below meth c E H locs ls F hP hS hl) (fun hc => k2 hc p l e s m args below meth c E H locs ls F hP hS hl)
theorem g_icmp_lt {x y : Int32} {off : Int} {tgt : Nat} (hd : decode M.2.1 pc = .ok (.if_icmp .lt off, 3)) (ht : (pc : Int) + off = (tgt : Int)) (k1 : x < y → G d M post tgt L st h) (k2 : ¬ x < y → G d M post (pc + 3) L st h) : G d M post pc L (.int y :: .int x :: st) h := by
  intro p l e s m args below meth c E H locs ls F hP hS hl
  exact lv_icmp_lt F.1 F.2.1 hd ht (fun hc => k1 hc p l e s m args below meth c E H locs ls F hP hS hl) (fun hc => k2 hc p l e s m args below meth c E H locs ls F hP hS hl)
theorem g_if_ge {x : Int32} {off : Int} {tgt : Nat} (hd : decode M.2.1 pc = .ok (.ifCond .ge off, 3)) (ht : (pc : Int) + off = (tgt : Int)) (k1 : 0 ≤ x → G d M post tgt L st h) (k2 : ¬ 0 ≤ x → G d M post (pc + 3) L st h) : G d M post pc L (.int x :: st) h := by
  intro p l e s m args below meth c E H locs ls F hP hS hl
  exact lv_if_ge F.1 F.2.1 hd ht (fun hc => k1 hc p l e s m args below meth c E H locs ls F hP hS hl) (fun hc => k2 hc p l e s m args below meth c E H locs ls F hP hS hl)
theorem g_icmp_ge {x y : Int32} {off : Int} {tgt : Nat} (hd : decode M.2.1 pc = .ok (.if_icmp .ge off, 3)) (ht : (pc : Int) + off = (tgt : Int)) (k1 : y ≤ x → G d M post tgt L st h) (k2 : ¬ y ≤ x → G d M post (pc + 3) L st h) : G d M post pc L (.int y :: .int x :: st) h := by
  intro p l e s m args below meth c E H locs ls F hP hS hl
  exact lv_icmp_ge F.1 F.2.1 hd ht (fun hc => k1 hc p l e s m args below meth c E H locs ls F hP hS hl) (fun hc => k2 hc p l e s m args below meth c E H locs ls F hP hS hl)
theorem g_if_gt {x : Int32} {off : Int} {tgt : Nat} (hd : decode M.2.1 pc = .ok (.ifCond .gt off, 3)) (ht : (pc : Int) + off = (tgt : Int)) (k1 : 0 < x → G d M post tgt L st h) (k2 : ¬ 0 < x → G d M post (pc + 3) L st h) : G d M post pc L (.int x :: st) h := by
  intro p l e s m args below meth c E H locs ls F hP hS hl
  exact lv_if_gt F.1 F.2.1 hd ht (fun hc => k1 hc p l e s m args below meth c E H locs ls F hP hS hl) (fun hc => k2 hc p l e s m args below meth c E H locs ls F hP hS hl)
theorem g_icmp_gt {x y : Int32} {off : Int} {tgt : Nat} (hd : decode M.2.1 pc = .ok (.if_icmp .gt off, 3)) (ht : (pc : Int) + off = (tgt : Int)) (k1 : y < x → G d M post tgt L st h) (k2 : ¬ y < x → G d M post (pc + 3) L st h) : G d M post pc L (.int y :: .int x :: st) h := by
  intro p l e s m args below meth c E H locs ls F hP hS hl
  exact lv_icmp_gt F.1 F.2.1 hd ht (fun hc => k1 hc p l e s m args below meth c E H locs ls F hP hS hl) (fun hc => k2 hc p l e s m args below meth c E H locs ls F hP hS hl)
theorem g_if_le {x : Int32} {off : Int} {tgt : Nat} (hd : decode M.2.1 pc = .ok (.ifCond .le off, 3)) (ht : (pc : Int) + off = (tgt : Int)) (k1 : x ≤ 0 → G d M post tgt L st h) (k2 : ¬ x ≤ 0 → G d M post (pc + 3) L st h) : G d M post pc L (.int x :: st) h := by
  intro p l e s m args below meth c E H locs ls F hP hS hl
  exact lv_if_le F.1 F.2.1 hd ht (fun hc => k1 hc p l e s m args below meth c E H locs ls F hP hS hl) (fun hc => k2 hc p l e s m args below meth c E H locs ls F hP hS hl)
theorem g_icmp_le {x y : Int32} {off : Int} {tgt : Nat} (hd : decode M.2.1 pc = .ok (.if_icmp .le off, 3)) (ht : (pc : Int) + off = (tgt : Int)) (k1 : x ≤ y → G d M post tgt L st h) (k2 : ¬ x ≤ y → G d M post (pc + 3) L st h) : G d M post pc L (.int y :: .int x :: st) h := by
  intro p l e s m args below meth c E H locs ls F hP hS hl
  exact lv_icmp_le F.1 F.2.1 hd ht (fun hc => k1 hc p l e s m args below meth c E H locs ls F hP hS hl) (fun hc => k2 hc p l e s m args below meth c E H locs ls F hP hS hl)
theorem g_goto {off : Int} {tgt : Nat} (hd : decode M.2.1 pc = .ok (.goto off, 3)) (ht : (pc : Int) + off = (tgt : Int)) (k : G d M post tgt L st h) : G d M post pc L st h := by
  intro p l e s m args below meth c E H locs ls F hP hS hl
  exact lv_goto F.1 F.2.1 hd ht (k p l e s m args below meth c E H locs ls F hP hS hl)
theorem g_tableIn {dflt lo hi : Int} {offs : Array Int} {len : Nat} {x : Int32} {off : Int} {tgt : Nat} (hd : decode M.2.1 pc = .ok (.tableswitch dflt lo hi offs, len)) (h1 : ¬ x.toInt < lo) (h2 : ¬ hi < x.toInt) (ho : offs[(x.toInt - lo).toNat]? = some off) (ht : (pc : Int) + off = (tgt : Int)) (k : G d M post tgt L st h) : G d M post pc L (.int x :: st) h := by
  intro p l e s m args below meth c E H locs ls F hP hS hl
  exact lv_tableIn F.1 F.2.1 hd h1 h2 ho ht (k p l e s m args below meth c E H locs ls F hP hS hl)
theorem g_tableOut {dflt lo hi : Int} {offs : Array Int} {len : Nat} {x : Int32} {tgt : Nat} (hd : decode M.2.1 pc = .ok (.tableswitch dflt lo hi offs, len)) (h1 : x.toInt < lo ∨ hi < x.toInt) (ht : (pc : Int) + dflt = (tgt : Int)) (k : G d M post tgt L st h) : G d M post pc L (.int x :: st) h := by
  intro p l e s m args below meth c E H locs ls F hP hS hl
  exact lv_tableOut F.1 F.2.1 hd h1 ht (k p l e s m args below meth c E H locs ls F hP hS hl)
/-- a tableswitch, case by case: what the place of x in the table says -/
theorem g_table {dflt lo hi : Int} {offs : Array Int} {len : Nat} {x : Int32} (hd : decode M.2.1 pc = .ok (.tableswitch dflt lo hi offs, len)) (hz : ∀ i : Nat, (i : Int) ≤ hi - lo → ∃ off, offs[i]? = some off)
    (k : ∀ tgt : Nat, (pc : Int) + (if x.toInt < lo ∨ hi < x.toInt then dflt else (offs[(x.toInt - lo).toNat]?).getD 0) = (tgt : Int) → G d M post tgt L st h) (hp : ∃ tgt : Nat, (pc : Int) + (if x.toInt < lo ∨ hi < x.toInt then dflt else (offs[(x.toInt - lo).toNat]?).getD 0) = (tgt : Int)) : G d M post pc L (.int x :: st) h := by
  obtain ⟨tgt, ht⟩ := hp
  by_cases hc : x.toInt < lo ∨ hi < x.toInt
  · rw [if_pos hc] at ht
    exact g_tableOut hd hc ht (k tgt (by rw [if_pos hc]; exact ht))
  · rw [if_neg hc] at ht
    have h1 : ¬ x.toInt < lo := fun q => hc (Or.inl q)
    have h2 : ¬ hi < x.toInt := fun q => hc (Or.inr q)
    obtain ⟨off, ho⟩ := hz (x.toInt - lo).toNat (by omega)
    rw [ho] at ht
    exact g_tableIn hd h1 h2 ho ht (k tgt (by rw [if_neg hc, ho]; exact ht))
theorem g_ldc {i : Nat} {v : Int32} (hd : decode M.2.1 pc = .ok (.ldc i, 2)) (hw : Cond.constant M.1.cls i v ∈ lw_tbl) (k : G d M post (pc + 2) L (.int v :: st) h) : G d M post pc L st h := by
  intro p l e s m args below meth c E H locs ls F hP hS hl
  exact lv_ldc F.1 F.2.1 F.2.2.2.2.1 (F.2.2.2.2.2.2.1.1.use hw rfl args) hd (k p l e s m args below meth c E H locs ls F hP hS hl)
theorem g_ldcw {i : Nat} {v : Int32} (hd : decode M.2.1 pc = .ok (.ldc_w i, 3)) (hw : Cond.constant M.1.cls i v ∈ lw_tbl) (k : G d M post (pc + 3) L (.int v :: st) h) : G d M post pc L st h := by
  intro p l e s m args below meth c E H locs ls F hP hS hl
  exact lv_ldcw F.1 F.2.1 F.2.2.2.2.1 (F.2.2.2.2.2.2.1.1.use hw rfl args) hd (k p l e s m args below meth c E H locs ls F hP hS hl)
theorem g_ldc2 {i : Nat} {v : Int64} (hd : decode M.2.1 pc = .ok (.ldc2_w i, 3)) (hw : Cond.constantLong M.1.cls i v ∈ lw_tbl) (k : G d M post (pc + 3) L (.long v :: st) h) : G d M post pc L st h := by
  intro p l e s m args below meth c E H locs ls F hP hS hl
  exact lv_ldc2 F.1 F.2.1 F.2.2.2.2.1 (F.2.2.2.2.2.2.1.1.use hw rfl args) hd (k p l e s m args below meth c E H locs ls F hP hS hl)
theorem g_ireturn {v : Int32} {ty : FieldType} (hd : decode M.2.1 pc = .ok (.ireturn, 1)) (hr : M.2.2.2 = some ty) (hn : narrow ty (.int v) = .int v) (k : post (some (.int v)) h) : G d M post pc L [.int v] h := by
  intro p l e s m args below meth c E H locs ls F hP hS hl
  have hlocks : meth.locks = false := F.2.2.2.2.2.1
  exact W.zret (v := v) F.1 F.2.1 (F.2.2.1.trans hr) hn (fun t ht hW => ⟨⟨some (.int v), h, rfl, k, by rw [ht]; exact hP⟩, hS.F ht⟩) hS.2.2 hd
theorem g_lreturn {v : Int64} (hd : decode M.2.1 pc = .ok (.lreturn, 1)) (hr : M.2.2.2 = some .long) (k : post (some (.long v)) h) : G d M post pc L [.long v] h := by
  intro p l e s m args below meth c E H locs ls F hP hS hl
  have hlocks : meth.locks = false := F.2.2.2.2.2.1
  exact W.lret (v := v) F.1 F.2.1 (F.2.2.1.trans hr) (fun t ht hW => ⟨⟨some (.long v), h, rfl, k, by rw [ht]; exact hP⟩, hS.F ht⟩) hS.2.2 hd
theorem g_areturn {v : Nat} {nm : String} (hd : decode M.2.1 pc = .ok (.areturn, 1)) (hr : M.2.2.2 = some (.object nm)) (k : post (some (.ref v)) h) : G d M post pc L [.ref v] h := by
  intro p l e s m args below meth c E H locs ls F hP hS hl
  have hlocks : meth.locks = false := F.2.2.2.2.2.1
  exact W.aret (v := .ref (E.2.1 v)) F.1 F.2.1 (F.2.2.1.trans hr) (Or.inl ⟨nm, rfl⟩) (Or.inr ⟨_, rfl⟩) (fun t ht hW => ⟨⟨some (.ref v), h, rfl, k, by rw [ht]; exact hP⟩, hS.F ht⟩) hS.2.2 hd
theorem g_return (hd : decode M.2.1 pc = .ok (.return_, 1)) (hr : M.2.2.2 = none) (k : post none h) : G d M post pc L [] h := by
  intro p l e s m args below meth c E H locs ls F hP hS hl
  have hlocks : meth.locks = false := F.2.2.2.2.2.1
  exact W.vret F.1 F.2.1 (F.2.2.1.trans hr) (fun t ht hW => ⟨⟨none, h, rfl, k, by rw [ht]; exact hP⟩, hS.F ht⟩) hS.2.2 hd
/-- a class of the world: its fields' words, types and names -/
def CF (ci : Nat) (C : String) (T : u_T) (N : Nat) : Prop := vwCl[ci]? = some (C, T, N) ∧ (∀ w ∈ u_ws C T N, w ∈ lw_tbl ∧ okw w = true) ∧ (∃ ty0 : Nat → FieldType, ∀ k, k < N → parseFieldDescriptor (T k).2.2.1 = some (ty0 k)) ∧ ∀ a, a < N → ∀ b, b < N → a ≠ b → (T a).2.1 ≠ (T b).2.1
/-- entry idx of own's pool is field k of class ci -/
def FL (own : String) (idx ci k : Nat) (ty : FieldType) (fin : Bool) : Prop := ∃ (C : String) (T : u_T) (N : Nat), CF ci C T N ∧ k < N ∧ parseFieldDescriptor (T k).2.2.1 = some ty ∧ (T k).2.2.2 = fin ∧
  (Cond.fieldLink own idx (T k).1 (T k).2.1 (T k).2.2.1 ∈ lw_tbl ∨ ∃ host, Cond.fieldLinkNest own idx (T k).1 (T k).2.1 (T k).2.2.1 host ∈ lw_tbl)
theorem en_obj {E : EE} {h : PH} {k : Nat} (ho : cO k = true) : en E h k = .inr (cCi k, fl E h k (cFk k)) := if_pos ho
theorem en_arr {E : EE} {h : PH} {k : Nat} (ho : cO k = false) : en E h k = .inl (if cBz k then E.2.2.2 else E.2.2.1, cLn k, .inl (h.1 k)) := if_neg (by rw [ho]; decide)
theorem g_getfield {idx ci j b kd : Nat} {ty : FieldType} {fin : Bool} {v : Value} (hd : decode M.2.1 pc = .ok (.getfield idx, 3)) (hF : FL M.1.cls idx ci j ty fin) (hb : b < 26) (ho : cO b = true) (hc : cCi b = ci) (hk : (cFk b)[j]? = some kd) (hv : vv h b j kd = v) (k : G d M post (pc + 3) L (v :: st) h) : G d M post pc L (.ref b :: st) h := by
  intro p l e s m args below meth c E H locs ls F hP hS hl
  obtain ⟨C, T, N, hCF, hjN, hty, hfin, hlk⟩ := hF
  subst hc; subst hv
  have hx := F.2.2.2.2.2.2.1
  have hts : ∀ w ∈ u_ws C T N, w.before args s = true := fun w hw => hx.1.use (hCF.2.1 w hw).1 (hCF.2.1 w hw).2 args
  have he : (wl E h)[b]? = some (E.2.1 b, .inr (cCi b, fl E h b (cFk b))) := by rw [wl_get E h hb, en_obj ho]
  rcases hlk with hlk | ⟨host, hlk⟩
  · exact va_get (D := E.1) (C := C) (T := T) (N := N) (Ts := u_ws C T N) F.1 F.2.1 hts (fun w hw => hw) F.2.2.2.2.1 hx.2.1 hP b he hCF.1 j hjN (hx.1.use hlk rfl args) (fun _ h9 => h9) (fl_get hk) hd (k p l e s m args below meth c E H locs ls F hP hS hl)
  · exact va_getN (D := E.1) (C := C) (T := T) (N := N) (Ts := u_ws C T N) F.1 F.2.1 hts (fun w hw => hw) F.2.2.2.2.1 hx.2.1 hP b he hCF.1 j hjN (hx.1.use hlk rfl args) (fun _ h9 => h9) (fl_get hk) hd (k p l e s m args below meth c E H locs ls F hP hS hl)
theorem g_putfield {idx ci j b : Nat} {ty : FieldType} {x : Int32} (hd : decode M.2.1 pc = .ok (.putfield idx, 3)) (hF : FL M.1.cls idx ci j ty false) (hb : b < 26) (ho : cO b = true) (hc : cCi b = ci) (hk : (cFk b)[j]? = some 0) (hn : narrow ty (.int x) = .int x) (hf : fits ty (.int x) = true) (k : G d M post (pc + 3) L st (upd2 h.1 b j x, h.2)) : G d M post pc L (.int x :: .ref b :: st) h := by
  intro p l e s m args below meth c E H locs ls F hP hS hl
  obtain ⟨C, T, N, hCF, hjN, hty, hfin, hlk⟩ := hF
  subst hc
  have hx := F.2.2.2.2.2.2.1
  have hts : ∀ w ∈ u_ws C T N, w.before args s = true := fun w hw => hx.1.use (hCF.2.1 w hw).1 (hCF.2.1 w hw).2 args
  have he : (wl E h)[b]? = some (E.2.1 b, .inr (cCi b, fl E h b (cFk b))) := by rw [wl_get E h hb, en_obj ho]
  obtain ⟨ty0, hty0⟩ := hCF.2.2.1
  have hl9 : j < (fl E h b (cFk b)).length := by
    have := fl_get (E := E) (h := h) (k := b) hk
    exact (List.getElem?_eq_some_iff.mp this).1
  have hw9 : (wl E h).set b (E.2.1 b, .inr (cCi b, (fl E h b (cFk b)).set j (.int x))) = wl E (upd2 h.1 b j x, h.2) := by
    rw [fl_set hk, ← en_obj (E := E) (h := (upd2 h.1 b j x, h.2)) ho]
    exact wl_set E hb (fun i hi => en_ne hi)
  have kk : ∀ (H1 : Heap) (locs1 : List Loc), va_P E.1 vwCl ((wl E h).set b (E.2.1 b, .inr (cCi b, (fl E h b (cFk b)).set j (.int x)))) H1 → va_D (Aq E) ((wl E h).set b (E.2.1 b, .inr (cCi b, (fl E h b (cFk b)).set j (.int x)))) → va_S (Aq E) s.heap H1 locs1 → W p l e (rmd d) s m args below meth c H1 locs1 0 0 (MQ below (Qx E post) args s 0 0 (Aq E)) (F0 m (pc + 3) ls (st.map (vq E.2.1))) := by
    intro H1 locs1 q1 q2 q3
    rw [hw9] at q1
    exact k p l e s m args below meth c E H1 locs1 ls F q1 q3 hl
  rcases hlk with hlk | ⟨host, hlk⟩
  · exact va_put (D := E.1) (C := C) (T := T) (N := N) (Ts := u_ws C T N) F.1 F.2.1 hts (fun w hw => hw) ty0 hty0 hCF.2.2.2 F.2.2.2.2.1 hx.2.1 hP (wl_D hx.2.2 h) hS b he hCF.1 j hjN (hx.1.use hlk rfl args) (fun _ h9 => h9) hfin hty hn hf hl9 hd kk
  · exact va_putN (D := E.1) (C := C) (T := T) (N := N) (Ts := u_ws C T N) F.1 F.2.1 hts (fun w hw => hw) ty0 hty0 hCF.2.2.2 F.2.2.2.2.1 hx.2.1 hP (wl_D hx.2.2 h) hS b he hCF.1 j hjN (hx.1.use hlk rfl args) (fun _ h9 => h9) hfin hty hn hf hl9 hd kk
theorem long_at : (cFk 15)[23]? = some 1 ∧ ∀ i, i ≠ 23 → (cFk 15)[i]? ≠ some 1 := by
  refine ⟨rfl, fun i hi h => ?_⟩
  by_cases h9 : i < 24
  · have : ∀ i, i < 24 → i ≠ 23 → (cFk 15)[i]? ≠ some 1 := by decide +kernel
    exact this i h9 hi h
  · rw [List.getElem?_eq_none (by show 24 ≤ i; omega)] at h
    cases h
theorem g_putlong {idx : Nat} {x : Int64} (hd : decode M.2.1 pc = .ok (.putfield idx, 3)) (hF : FL M.1.cls idx 5 23 .long false) (k : G d M post (pc + 3) L st (h.1, x)) : G d M post pc L (.long x :: .ref 15 :: st) h := by
  intro p l e s m args below meth c E H locs ls F hP hS hl
  obtain ⟨C, T, N, hCF, hjN, hty, hfin, hlk⟩ := hF
  have hx := F.2.2.2.2.2.2.1
  have hts : ∀ w ∈ u_ws C T N, w.before args s = true := fun w hw => hx.1.use (hCF.2.1 w hw).1 (hCF.2.1 w hw).2 args
  have he : (wl E h)[15]? = some (E.2.1 15, .inr (5, fl E h 15 (cFk 15))) := by rw [wl_get E h (by decide), en_obj rfl]; rfl
  obtain ⟨ty0, hty0⟩ := hCF.2.2.1
  have hl9 : 23 < (fl E h 15 (cFk 15)).length := by
    have := fl_get (E := E) (h := h) (k := 15) long_at.1
    exact (List.getElem?_eq_some_iff.mp this).1
  have hw9 : (wl E h).set 15 (E.2.1 15, .inr (5, (fl E h 15 (cFk 15)).set 23 (.long x))) = wl E (h.1, x) := by
    rw [fl_setL long_at.1 long_at.2]
    have : en E (h.1, x) 15 = .inr (5, fl E (h.1, x) 15 (cFk 15)) := en_obj rfl
    rw [← this]
    exact wl_set E (by decide) (fun i hi => en_long hi)
  have kk : ∀ (H1 : Heap) (locs1 : List Loc), va_P E.1 vwCl ((wl E h).set 15 (E.2.1 15, .inr (5, (fl E h 15 (cFk 15)).set 23 (.long x)))) H1 → va_D (Aq E) ((wl E h).set 15 (E.2.1 15, .inr (5, (fl E h 15 (cFk 15)).set 23 (.long x)))) → va_S (Aq E) s.heap H1 locs1 → W p l e (rmd d) s m args below meth c H1 locs1 0 0 (MQ below (Qx E post) args s 0 0 (Aq E)) (F0 m (pc + 3) ls (st.map (vq E.2.1))) := by
    intro H1 locs1 q1 q2 q3
    rw [hw9] at q1
    exact k p l e s m args below meth c E H1 locs1 ls F q1 q3 hl
  rcases hlk with hlk | ⟨host, hlk⟩
  · exact va_put (D := E.1) (C := C) (T := T) (N := N) (Ts := u_ws C T N) F.1 F.2.1 hts (fun w hw => hw) ty0 hty0 hCF.2.2.2 F.2.2.2.2.1 hx.2.1 hP (wl_D hx.2.2 h) hS 15 he hCF.1 23 hjN (hx.1.use hlk rfl args) (fun _ h9 => h9) hfin hty rfl rfl hl9 hd kk
  · exact va_putN (D := E.1) (C := C) (T := T) (N := N) (Ts := u_ws C T N) F.1 F.2.1 hts (fun w hw => hw) ty0 hty0 hCF.2.2.2 F.2.2.2.2.1 hx.2.1 hP (wl_D hx.2.2 h) hS 15 he hCF.1 23 hjN (hx.1.use hlk rfl args) (fun _ h9 => h9) hfin hty rfl rfl hl9 hd kk
theorem g_iaload {b n : Nat} {i : Int32} (hd : decode M.2.1 pc = .ok (.iaload, 1)) (hb : b < 26) (ho : cO b = false) (hz : cBz b = false) (hn : cLn b = n) (hi : vp_in i n) (k : G d M post (pc + 1) L (.int (h.1 b i.toNatClampNeg) :: st) h) : G d M post pc L (.int i :: .ref b :: st) h := by
  intro p l e s m args below meth c E H locs ls F hP hS hl
  subst hn
  have he : (wl E h)[b]? = some (E.2.1 b, .inl (E.2.2.1, cLn b, .inl (h.1 b))) := by rw [wl_get E h hb, en_arr ho, hz]; rfl
  exact va_iald F.1 F.2.1 F.2.2.2.2.2.2.1.2.1 hP b 0 he rfl hi hd (k p l e s m args below meth c E H locs ls F hP hS hl)
theorem g_baload {b n : Nat} {i : Int32} (hd : decode M.2.1 pc = .ok (.baload, 1)) (hb : b < 26) (ho : cO b = false) (hz : cBz b = true) (hn : cLn b = n) (hi : vp_in i n) (k : G d M post (pc + 1) L (.int (h.1 b i.toNatClampNeg) :: st) h) : G d M post pc L (.int i :: .ref b :: st) h := by
  intro p l e s m args below meth c E H locs ls F hP hS hl
  subst hn
  have he : (wl E h)[b]? = some (E.2.1 b, .inl (E.2.2.2, cLn b, .inl (h.1 b))) := by rw [wl_get E h hb, en_arr ho, hz]; rfl
  exact va_zald F.1 F.2.1 F.2.2.2.2.2.2.1.2.1 hP b 1 he rfl hi hd (k p l e s m args below meth c E H locs ls F hP hS hl)
theorem wl_setA {E : EE} {h : PH} {b i : Nat} {x : Int32} (hb : b < 26) (ho : cO b = false) : (wl E h).set b (E.2.1 b, .inl (if cBz b then E.2.2.2 else E.2.2.1, cLn b, .inl (upd (h.1 b) i x))) = wl E (upd2 h.1 b i x, h.2) := by
  have : en E (upd2 h.1 b i x, h.2) b = .inl (if cBz b then E.2.2.2 else E.2.2.1, cLn b, .inl (upd (h.1 b) i x)) := by
    rw [en_arr ho]
    show Sum.inl _ = _
    rw [show (upd2 h.1 b i x, h.2).1 b = upd (h.1 b) i x from upd2_self _ _ _ _]
  rw [← this]
  exact wl_set E hb (fun i hi => en_ne hi)
theorem g_iastore {b n : Nat} {i x : Int32} (hd : decode M.2.1 pc = .ok (.iastore, 1)) (hb : b < 26) (ho : cO b = false) (hz : cBz b = false) (hn : cLn b = n) (hi : vp_in i n) (k : G d M post (pc + 1) L st (upd2 h.1 b i.toNatClampNeg x, h.2)) : G d M post pc L (.int x :: .int i :: .ref b :: st) h := by
  intro p l e s m args below meth c E H locs ls F hP hS hl
  subst hn
  have he : (wl E h)[b]? = some (E.2.1 b, .inl (E.2.2.1, cLn b, .inl (h.1 b))) := by rw [wl_get E h hb, en_arr ho, hz]; rfl
  refine va_iast (D := E.1) F.1 F.2.1 F.2.2.2.2.2.2.1.2.1 hP (wl_D F.2.2.2.2.2.2.1.2.2 h) hS b 0 he rfl hi hd (fun H1 locs1 q1 q2 q3 => ?_)
  have hw := wl_setA (E := E) (h := h) (i := i.toNatClampNeg) (x := x) hb ho
  rw [hz] at hw
  exact k p l e s m args below meth c E H1 locs1 ls F (hw ▸ q1) q3 hl
theorem g_bastore {b n : Nat} {i x : Int32} (hd : decode M.2.1 pc = .ok (.bastore, 1)) (hb : b < 26) (ho : cO b = false) (hz : cBz b = true) (hn : cLn b = n) (hi : vp_in i n) (hx : x &&& 1 = x) (k : G d M post (pc + 1) L st (upd2 h.1 b i.toNatClampNeg x, h.2)) : G d M post pc L (.int x :: .int i :: .ref b :: st) h := by
  intro p l e s m args below meth c E H locs ls F hP hS hl
  subst hn
  have he : (wl E h)[b]? = some (E.2.1 b, .inl (E.2.2.2, cLn b, .inl (h.1 b))) := by rw [wl_get E h hb, en_arr ho, hz]; rfl
  refine va_zast (D := E.1) F.1 F.2.1 F.2.2.2.2.2.2.1.2.1 hP (wl_D F.2.2.2.2.2.2.1.2.2 h) hS b 1 he rfl hi hd (fun H1 locs1 q1 q2 q3 => ?_)
  have hw := wl_setA (E := E) (h := h) (i := i.toNatClampNeg) (x := x) hb ho
  rw [hz] at hw
  have e9 : vp_nar .boolean x = x := by
    show x &&& 1 = x
    exact hx
  rw [e9] at q1
  exact k p l e s m args below meth c E H1 locs1 ls F (hw ▸ q1) q3 hl
theorem g_arraylength {b : Nat} {n : Int32} (hd : decode M.2.1 pc = .ok (.arraylength, 1)) (hb : b < 26) (ho : cO b = false) (hz : cBz b = false) (hn : nI (cLn b) = n) (k : G d M post (pc + 1) L (.int n :: st) h) : G d M post pc L (.ref b :: st) h := by
  intro p l e s m args below meth c E H locs ls F hP hS hl
  subst hn
  have he : (wl E h)[b]? = some (E.2.1 b, .inl (E.2.2.1, cLn b, .inl (h.1 b))) := by rw [wl_get E h hb, en_arr ho, hz]; rfl
  exact va_alen F.1 F.2.1 F.2.2.2.2.2.2.1.2.1 hP b 0 he rfl rfl hd (k p l e s m args below meth c E H locs ls F hP hS hl)
/-- the static row STEPS -/
theorem g_steps {idx : Nat} (hd : decode M.2.1 pc = .ok (.getstatic idx, 3)) (hlk : Cond.fieldLink M.1.cls idx "AimDesk" "STEPS" "[I" ∈ lw_tbl ∨ ∃ host, Cond.fieldLinkNest M.1.cls idx "AimDesk" "STEPS" "[I" host ∈ lw_tbl) (k : G d M post (pc + 3) L (.ref 26 :: st) h) : G d M post pc L st h := by
  intro p l e s m args below meth c E H locs ls F hP hS hl
  have hx := F.2.2.2.2.2.2.1
  rcases hlk with hlk | ⟨host, hlk⟩
  · exact va_gets F.1 F.2.1 F.2.2.2.2.2.2.2.1 hS F.2.2.2.2.1 (hx.1.use hlk rfl args) (fun _ h9 => h9) hd (k p l e s m args below meth c E H locs ls F hP hS hl)
  · exact va_getsN F.1 F.2.1 F.2.2.2.2.2.2.2.1 hS F.2.2.2.2.1 (hx.1.use hlk rfl args) (fun _ h9 => h9) hd (k p l e s m args below meth c E H locs ls F hP hS hl)
theorem g_stepsload {i : Int32} (hd : decode M.2.1 pc = .ok (.iaload, 1)) (hi : vp_in i 5) (k : G d M post (pc + 1) L (.int (stp5 i.toNatClampNeg) :: st) h) : G d M post pc L (.int i :: .ref 26 :: st) h := by
  intro p l e s m args below meth c E H locs ls F hP hS hl
  obtain ⟨cell, h1, h2, h3, h4, h5, h6, h7⟩ := F.2.2.2.2.2.2.2.2
  have hlt : i.toNatClampNeg < 5 := Nat.not_le.mp fun q => hi (Or.inr q)
  refine W.iald (v := .int (stp5 i.toNatClampNeg)) F.1 F.2.1 (a := E.2.1 26) (cell := cell) ?_ h2 h3 ?_ (h6 _ hlt) rfl rfl hd (k p l e s m args below meth c E H locs ls F hP hS hl)
  · rw [hS.2.1 _ (Array.getElem?_eq_some_iff.mp h1).1 h7]
    exact h1
  · intro q
    rcases q with q | q
    · exact hi (Or.inl q)
    · omega
end RU
