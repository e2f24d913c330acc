/-! the reference's calls: codes, the best -/
theorem add_m1 (x : Int32) : x + (-1) = x - 1 := (Int32.sub_eq_add_neg x 1).symm
def N21 (h h' : PH) : Prop := (∀ c, c ≠ 21 → h'.1 c = h.1 c) ∧ h'.2 = h.2
theorem N21.mk {h h' : PH} (n : N21 h h') : MK h h' := ⟨fun c _ h2 _ _ _ _ => n.1 c h2, fun j _ _ _ _ _ _ => by rw [n.1 15 (by decide)]⟩
theorem N21.setA {h : PH} {f : Nat → Int32} : N21 h (setA h 21 f) := ⟨fun c hc => setA_ne hc, rfl⟩
theorem N21.rf (h : PH) : N21 h h := ⟨fun _ _ => rfl, rfl⟩
theorem N21.trans {h h1 h2 : PH} (a : N21 h h1) (b : N21 h1 h2) : N21 h h2 := ⟨fun c hc => (b.1 c hc).trans (a.1 c hc), b.2.trans a.2⟩
def pcd (f : Nat → Nat) : Nat → Nat
  | 0 => 0
  | i + 1 => 5 * pcd f i + f i
theorem pcd5 (f : Nat → Nat) : pcd f 5 = cod f := by
  simp only [pcd]
  unfold cod
  omega
def thr (a : St) (f : Nat → Nat) (i : Nat) : Bool := (List.range i).all (fun m => (if m < aN a then decide (f m ≤ aP a) else decide (f m = 0)) && (!(aK a).testBit m || decide (f m = aV a m)))
theorem thr_s (a : St) (f : Nat → Nat) (i : Nat) : thr a f (i + 1) = (thr a f i && ((if i < aN a then decide (f i ≤ aP a) else decide (f i = 0)) && (!(aK a).testBit i || decide (f i = aV a i)))) := by
  unfold thr
  rw [List.range_succ, List.all_append]
  simp only [List.all_cons, List.all_nil, Bool.and_true]
theorem upd2_id (h : PH) (c i : Nat) : (upd2 h.1 c i (h.1 c i), h.2) = h := by
  have : upd2 h.1 c i (h.1 c i) = h.1 := by
    funext k
    unfold upd2
    split
    · rename_i e
      subst e
      funext j
      unfold upd
      split
      · rename_i e; rw [e]
      · rfl
    · rfl
  rw [this]
def bv (t : Nat × Nat) : Int32 := if t.1 = 0 then -1001 else nI (t.1 - 1)
def bc (t : Nat × Nat) : Int32 := if t.1 = 0 then -1001 else nI t.2
theorem m1001_le (x : Nat) (hx : x < 2 ^ 31) : (-1001 : Int32) ≤ nI x := by
  rw [Int32.le_iff_toInt_le, nI_toInt hx, show (-1001 : Int32).toInt = -1001 by decide]; omega
theorem not_le_1001 (x : Nat) (hx : x < 2 ^ 31) : ¬ nI x ≤ (-1001 : Int32) := by
  rw [Int32.le_iff_toInt_le, nI_toInt hx, show (-1001 : Int32).toInt = -1001 by decide]; omega
theorem bv_lo {t : Nat × Nat} (ht : t.1 < 2 ^ 31) : (-1001 : Int32) ≤ bv t := by
  unfold bv
  split
  · exact Int32.le_refl _
  · exact m1001_le _ (by omega)
section MD5
variable {post : Option Value → PH → Prop} {h : PH} {a : St} {s : Ab}
theorem ev_unitOf {m : Nat} (hm : m < 5) (k : post (some (.int (nI (5 ^ (4 - m))))) h) : Ev 0 mX5_unitOf [.ref 15, .int (nI m)] h post := by
  refine Ev.intro rfl (Nat.le_of_ble_eq_true rfl) (sX5_unitOf_0 ?_)
  refine loopU (S := fun j => G 0 mX5_unitOf post 4 [none, some (.int (nI m)), some (.int (nI (5 ^ j))), some (.int (nI (4 - j)))] [] h) (4 - m) (fun j hj ih => ?_) ?_ 0 (Nat.zero_le _)
  · refine sX5_unitOf_4 (fun z => ?_) (fun _ => sX5_unitOf_9 ?_)
    · rw [nI_leI (by omega) (by omega)] at z; omega
    rw [add_m1, show nI (5 ^ j) * 5 = nI (5 ^ (j + 1)) by rw [show (5 : Int32) = nI 5 from rfl, pk_mul, Nat.pow_succ], show nI (4 - j) - 1 = nI (4 - (j + 1)) by rw [show 4 - j = (4 - (j + 1)) + 1 by omega, nI_pred]]
    exact ih
  · exact sX5_unitOf_4 (fun _ => sX5_unitOf_19 k) (fun z => absurd (nI_le (by omega) (by omega)) z)
theorem ev_codeNow {f : Nat → Nat} (hN : NW f h) (k : post (some (.int (nI (cod f)))) h) : Ev 0 mX5_codeNow [.ref 15] h post := by
  refine Ev.intro rfl (Nat.le_of_ble_eq_true rfl) (sX5_codeNow_0 ?_)
  refine loopU (S := fun i => G 0 mX5_codeNow post 4 [some (.ref 15), some (.int (nI (pcd f i))), some (.int (nI i))] [] h) 5 (fun i hi ih => ?_) ?_ 0 (Nat.zero_le _)
  · refine sX5_codeNow_4 (fun z => ?_) (fun _ => sX5_codeNow_9 (vp_in_nI hi (by omega)) ?_)
    · rw [show (5 : Int32) = nI 5 from rfl, nI_leI (by omega) (by omega)] at z; omega
    rw [nI_clamp (by omega), hN i hi, nI_1, show (5 : Int32) * nI (pcd f i) = nI (5 * pcd f i) from pk_mul 5 _]
    have e : nI (5 * pcd f i) + (nI (f i) - 1) + 1 = nI (5 * pcd f i + f i) := by
      rw [← nI_add, Int32.add_assoc, Int32.sub_add_cancel]
    rw [e]
    exact ih
  · rw [← pcd5] at k
    exact sX5_codeNow_4 (fun _ => sX5_codeNow_28 k) (fun z => absurd (by decide) z)
theorem ev_layCode {c : Nat} (hc : c < 3125) (k : ∀ f', NW (dg c) (setA h 21 f') → post none (setA h 21 f')) : Ev 0 mX5_layCode [.ref 15, .int (nI c)] h post := by
  refine Ev.intro rfl (Nat.le_of_ble_eq_true rfl) (sX5_layCode_0 ?_)
  have hS : ∀ j, j ≤ 5 → ∀ f', (∀ m, m < 5 → 5 - j ≤ m → f' m = nI (dg c m) - 1) → G 0 mX5_layCode post 4 [some (.ref 15), none, some (.int (nI (c / 5 ^ j))), some (.int (nI (5 - j) - 1))] [] (setA h 21 f') := by
    refine loopU 5 (fun j hj ih f' hf => ?_) (fun f' hf => sX5_layCode_4 (fun _ => sX5_layCode_29 (k f' (fun m hm => by rw [setA_self]; exact hf m hm (by omega)))) (fun z => absurd (by decide) z))
    have e5 : nI (5 - j) - 1 = nI (4 - j) := by rw [show 5 - j = (4 - j) + 1 by omega, nI_pred]
    have hd : c / 5 ^ j < 3126 := Nat.lt_of_le_of_lt (Nat.div_le_self _ _) (by omega)
    rw [e5]
    refine sX5_layCode_4 (fun z => ?_) (fun _ => sX5_layCode_8 (vp_in_nI (by omega) (by omega)) ?_)
    · rw [show (0 : Int32) = nI 0 from rfl, nI_ltI (by omega) (by omega)] at z; omega
    rw [nI_clamp (by omega), setA_upd, show nI (c / 5 ^ j) - nI (c / 5 ^ j) / 5 * 5 = nI (c / 5 ^ j % 5) from pk_rem (d := 5) (by omega) (by omega) (by omega), show nI (c / 5 ^ j) / 5 = nI (c / 5 ^ j / 5) from pk_div (d := 5) (by omega) (by omega) (by omega), Nat.div_div_eq_div_mul, ← Nat.pow_succ, add_m1, show 4 - j = 5 - (j + 1) by omega]
    refine ih _ (fun m hm hm2 => ?_)
    by_cases e : m = 5 - (j + 1)
    · rw [e, pk_us]
      show _ = nI (c / 5 ^ (4 - (5 - (j + 1))) % 5) - 1
      rw [show 4 - (5 - (j + 1)) = j by omega]
    · rw [pk_un e]
      exact hf m hm (by omega)
  have := hS 0 (by omega) (h.1 21) (fun m hm hm2 => by omega)
  rw [setA_id] at this
  rw [Nat.pow_zero, Nat.div_one] at this
  exact this
theorem ev_areThere {f : Nat → Nat} (hI : MI a h) (hw : WF a) (hn : 0 < aN a) (hN : NW f h) (hf : ∀ m, f m < 100) (k : post (some (.int (b2i (thr a f 5)))) h) : Ev 1 mX5_areThere [.ref 15] h post := by
  have h5 := hw.1
  have h4 := hw.2.1
  refine Ev.intro rfl (Nat.le_of_ble_eq_true rfl) (sX5_areThere_0 ?_)
  refine loopU (S := fun i => G 1 mX5_areThere post 4 [some (.ref 15), some (.int (b2i (thr a f i))), some (.int (nI i))] [] h) 5 (fun i hi ih => ?_) ?_ 0 (Nat.zero_le _)
  · have vi : vp_in (nI i) 5 := vp_in_nI hi (by omega)
    have hv := (hw.2.2.2.1 i).2.2.1
    have hfi := hf i
    rw [thr_s] at ih
    have no : ((if i < aN a then decide (f i ≤ aP a) else decide (f i = 0)) && (!(aK a).testBit i || decide (f i = aV a i))) = false → G 1 mX5_areThere post 77 [some (.ref 15), none, some (.int (nI i))] [] h := fun q => by
      refine sX5_areThere_77 ?_
      rw [nI_1]
      rw [q, Bool.and_false] at ih
      exact ih
    refine sX5_areThere_4 (fun z => ?_) (fun _ => sX5_areThere_9 (fun z => sX5_areThere_77 ?_) (fun z => ?_))
    · rw [show (5 : Int32) = nI 5 from rfl, nI_leI (by omega) (by omega)] at z; omega
    · rw [b2i_0] at z
      rw [nI_1]
      rw [z, Bool.false_and] at ih
      exact ih
    · rw [b2i_n] at z
      rw [z, Bool.true_and] at ih
      have tail : (if i < aN a then decide (f i ≤ aP a) else decide (f i = 0)) = true → G 1 mX5_areThere post 47 [some (.ref 15), none, some (.int (nI i))] [] h := fun q => by
        rw [q, Bool.true_and] at ih no
        refine sX5_areThere_47 ?_
        rw [hI.sk]
        refine ev_has (by have := hw.sk; omega) (by omega) (sX5_areThere_55 (fun y => sX5_areThere_73 ?_) (fun y => sX5_areThere_58 vi vi (fun t => no ?_) (fun t => sX5_areThere_73 ?_)))
        · rw [b2i_0] at y
          rw [nI_1]
          rw [y] at ih
          exact ih
        · rw [b2i_n] at y
          rw [nI_clamp (by omega), hN i hi, hI.aim hi] at t
          rw [y, decide_eq_false (fun e => t (by rw [e]))]
          rfl
        · rw [b2i_n] at y
          rw [nI_clamp (by omega), hN i hi, hI.aim hi] at t
          rw [nI_1]
          rw [y, decide_eq_true (aim_inj (by omega) (by omega) t)] at ih
          exact ih
      refine sX5_areThere_13 (fun y => sX5_areThere_37 vi (fun t => no ?_) (fun t => tail ?_)) (fun y => sX5_areThere_21 vi (fun t => no ?_) (fun t => sX5_areThere_34 (tail ?_)))
      all_goals rw [hI.n, nI_leI (by omega) (by omega)] at y
      all_goals rw [nI_clamp (by omega), hN i hi] at t
      · rw [if_neg (by omega), decide_eq_false (fun e => t (by rw [e]; decide))]
        rfl
      · rw [if_neg (by omega), decide_eq_true (aim_inj (v := 0) (by omega) (by omega) (t.trans (by decide)))]
      · rw [hI.p, am_le (by omega) (by omega)] at t
        rw [if_pos (by omega), decide_eq_false (by omega)]
        rfl
      · rw [hI.p, am_le (by omega) (by omega)] at t
        rw [if_pos (by omega), decide_eq_true (by omega)]
  · exact sX5_areThere_4 (fun _ => sX5_areThere_85 (b2i_nar _) k) (fun z => absurd (by decide) z)
def LB (a : St) (st : Bool) (i : Nat) (h g : PH) : Prop := (∀ c, c < i → g.1 22 c = b2i (okk a st c)) ∧ g.1 15 15 = bc (BS a st i) ∧ g.1 15 16 = bv (BS a st i) ∧ (∀ c, c ≠ 15 → c ≠ 21 → c ≠ 22 → g.1 c = h.1 c) ∧ (∀ j, j ≠ 15 → j ≠ 16 → g.1 15 j = h.1 15 j) ∧ g.2 = h.2
theorem LB.mk {st : Bool} {i : Nat} {g : PH} (l : LB a st i h g) : MK h g := ⟨fun c h1 h2 h3 _ _ _ => l.2.2.2.1 c h1 h2 h3, fun j h1 h2 _ _ _ _ => l.2.2.2.2.1 j h1 h2⟩
theorem LB.put {st : Bool} {i : Nat} {g w : PH} {x y z : Int32} (l : LB a st i h g) (n : N21 g w) (hi : i < 3125) (ex : x = b2i (okk a st i)) (ey : y = bc (BS a st (i + 1))) (ez : z = bv (BS a st (i + 1))) : LB a st (i + 1) h (upd2 (upd2 (upd2 w.1 22 i x) 15 15 y) 15 16 z, w.2) := by
  obtain ⟨l1, l2, l3, l4, l5, l6⟩ := l
  refine ⟨fun c hc => ?_, ?_, ?_, fun c h1 h2 h3 => ?_, fun j h1 h2 => ?_, n.2.trans l6⟩
  · show upd2 (upd2 (upd2 w.1 22 i x) 15 15 y) 15 16 z 22 c = _
    rw [upd2_ne (by decide), upd2_ne (by decide), upd2_self]
    by_cases e : c = i
    · rw [e, pk_us]; exact ex
    · rw [pk_un e, n.1 22 (by decide)]; exact l1 c (by omega)
  · show upd2 (upd2 (upd2 w.1 22 i x) 15 15 y) 15 16 z 15 15 = _
    rw [upd2_self, pk_un (by decide), upd2_self, pk_us]; exact ey
  · show upd2 (upd2 (upd2 w.1 22 i x) 15 15 y) 15 16 z 15 16 = _
    rw [upd2_self, pk_us]; exact ez
  · show upd2 (upd2 (upd2 w.1 22 i x) 15 15 y) 15 16 z c = _
    rw [upd2_ne h1, upd2_ne h1, upd2_ne h3, n.1 c h2]; exact l4 c h1 h2 h3
  · show upd2 (upd2 (upd2 w.1 22 i x) 15 15 y) 15 16 z 15 j = _
    rw [upd2_self, pk_un h2, upd2_self, pk_un h1, upd2_ne (by decide), n.1 15 (by decide)]; exact l5 j h1 h2
theorem ev_layBest {st : Bool} (hI : MI a h) (hw : WF a) (hn0 : 0 < aN a) (k : ∀ h', LB a st 3125 h h' → post none h') : Ev 3 mX5_layBest [.ref 15, .int (b2i st)] h post := by
  have h5 := hw.1
  refine Ev.intro rfl (Nat.le_of_ble_eq_true rfl) (sX5_layBest_0 ?_)
  have hS : ∀ i, i ≤ 3125 → ∀ g, LB a st i h g → G 3 mX5_layBest post 16 [some (.ref 15), some (.int (b2i st)), some (.int (nI i)), none] [] g := by
    refine loopU 3125 (fun i hi ih g l => ?_) (fun g l => sX5_layBest_16 (fun _ => sX5_layBest_120 (k g l)) (fun z => absurd (by decide) z))
    refine sX5_layBest_16 (fun z => ?_) (fun _ => sX5_layBest_23 (ev_layCode hi (fun f' hN => sX5_layBest_28 ?_)))
    · rw [show (3125 : Int32) = nI 3125 from rfl, nI_leI (by omega) (by omega)] at z; omega
    have hn : N21 g (setA g 21 f') := N21.setA
    generalize setA g 21 f' = w at hN hn ⊢
    have hIw : MI a w := (hI.keep l.mk).keep hn.mk
    have hdb : ∀ m, dg i m < 100 := fun m => by have := dg_lt i m; omega
    have hB := BS_le hw st i
    have hct := CT_le hw (dg i) (aH a)
    have vi : vp_in (nI i) 3125 := vp_in_nI hi (by omega)
    have e15 : w.1 15 15 = bc (BS a st i) := by rw [hn.1 15 (by decide)]; exact l.2.1
    have e16 : w.1 15 16 = bv (BS a st i) := by rw [hn.1 15 (by decide)]; exact l.2.2.1
    have rec1 : ∀ x y z : Int32, x = b2i (okk a st i) → y = bc (BS a st (i + 1)) → z = bv (BS a st (i + 1)) → G 3 mX5_layBest post 16 [some (.ref 15), some (.int (b2i st)), some (.int (nI i + 1)), none] [] (upd2 (upd2 (upd2 w.1 22 i x) 15 15 y) 15 16 z, w.2) := fun x y z ex ey ez => by
      rw [nI_1]
      exact ih _ (l.put hn hi ex ey ez)
    -- bestCode and bestCaught stay
    have stay : ∀ x x3 : Int32, x = b2i (okk a st i) → x3 ≤ bv (BS a st i) → BS a st (i + 1) = BS a st i → G 3 mX5_layBest post 87 [some (.ref 15), some (.int (b2i st)), some (.int (nI i)), some (.int x3)] [.ref 15] (upd2 w.1 22 i x, w.2) := fun x x3 ex h3 eB => by
      have a15 : upd2 w.1 22 i x 15 15 = bc (BS a st i) := e15
      have a16 : upd2 w.1 22 i x 15 16 = bv (BS a st i) := e16
      refine sX5_layBest_87 (fun _ => sX5_layBest_107 ?_) (fun z => absurd (show x3 ≤ upd2 w.1 22 i x 15 16 by rw [a16]; exact h3) z)
      have a16' : (upd2 (upd2 w.1 22 i x) 15 15 (upd2 w.1 22 i x 15 15)) 15 16 = bv (BS a st i) := e16
      show G 3 mX5_layBest post 16 _ [] (upd2 (upd2 (upd2 w.1 22 i x) 15 15 (upd2 w.1 22 i x 15 15)) 15 16 ((upd2 (upd2 w.1 22 i x) 15 15 (upd2 w.1 22 i x 15 15)) 15 16), w.2)
      rw [a16', a15]
      exact rec1 x _ _ ex (by rw [eB]) (by rw [eB])
    have none0 : okk a st i = false → G 3 mX5_layBest post 52 [some (.ref 15), some (.int (b2i st)), some (.int (nI i)), none] [.int (nI i), .ref 22] w := fun q => by
      refine sX5_layBest_52 vi vi (fun _ => sX5_layBest_70 (fun _ => ?_) (fun z => absurd ?_ z)) (fun z => absurd ?_ z)
      · rw [nI_clamp (by omega)]
        refine stay 0 (-1001) (by rw [q]; rfl) (bv_lo (by omega)) ?_
        rw [BS, if_neg (fun t => by rw [q] at t; cases t.1)]
      · show (-1001 : Int32) ≤ w.1 15 16
        rw [e16]
        exact bv_lo (by omega)
      · rw [upd2_self, pk_us]
    refine ev_areThere hIw hw hn0 hN hdb ?_
    rw [show thr a (dg i) 5 = there a i from rfl]
    refine sX5_layBest_37 (fun z => none0 ?_) (fun z => sX5_layBest_40 (ev_isGood hIw hw hN hdb (sX5_layBest_45 (fun y => none0 ?_) (fun y => ?_))))
    · rw [b2i_0] at z
      unfold okk
      rw [z]; rfl
    · rw [b2i_0] at y
      unfold okk
      rw [y, Bool.and_false]
    · rw [b2i_n] at z y
      have ok : okk a st i = true := by unfold okk; rw [z, y]; rfl
      refine sX5_layBest_48 vi vi (fun t => absurd t ?_) (fun _ => sX5_layBest_63 ?_)
      · rw [upd2_self, pk_us]; decide
      rw [nI_clamp (by omega)]
      have hK1 : MK w (upd2 w.1 22 i 1, w.2) := ⟨fun c _ _ h3 _ _ _ => upd2_ne h3, fun _ _ _ _ _ _ _ => rfl⟩
      have a16 : upd2 w.1 22 i 1 15 16 = bv (BS a st i) := e16
      refine ev_caught (hIw.keep hK1) hw (fun m hm => hN m hm) hdb (sX5_layBest_67 (fun t => ?_) (fun t => ?_))
      · have t : nI (CT a (dg i) (aH a)) ≤ upd2 w.1 22 i 1 15 16 := t
        rw [a16] at t
        refine stay 1 _ (by rw [ok]; rfl) t ?_
        rw [BS, if_neg (fun u => ?_)]
        unfold bv at t
        by_cases hz : (BS a st i).1 = 0
        · rw [if_pos hz] at t
          exact not_le_1001 _ (by omega) t
        · rw [if_neg hz, nI_leI (by omega) (by omega)] at t
          omega
      · have t : ¬ nI (CT a (dg i) (aH a)) ≤ upd2 w.1 22 i 1 15 16 := t
        have t' := t
        rw [a16] at t
        have hlt : (BS a st i).1 < CT a (dg i) (aH a) + 1 := by
          unfold bv at t
          by_cases hz : (BS a st i).1 = 0
          · omega
          · rw [if_neg hz, nI_leI (by omega) (by omega)] at t
            omega
        refine sX5_layBest_83 (fun u => absurd u t') (fun _ => sX5_layBest_103 ?_)
        have eB : BS a st (i + 1) = (CT a (dg i) (aH a) + 1, i) := by rw [BS, if_pos ⟨ok, hlt⟩]
        exact rec1 1 _ _ (by rw [ok]; rfl) (by rw [eB]; rfl) (by rw [eB]; rfl)
  refine hS 0 (Nat.zero_le _) _ ⟨fun c hc => absurd hc (Nat.not_lt_zero c), rfl, rfl, fun c h1 _ _ => ?_, fun j h1 h2 => ?_, rfl⟩
  · show upd2 (upd2 h.1 15 15 (-1001)) 15 16 (-1001) c = _
    rw [upd2_ne h1, upd2_ne h1]
  · show upd2 (upd2 h.1 15 15 (-1001)) 15 16 (-1001) 15 j = _
    rw [upd2_self, pk_un h2, upd2_self, pk_un h1]
theorem ev_boundNow (hI : MI a h) (hw : WF a) (k : post (some (.int (nI (bnd a)))) h) : Ev 2 mX5_boundNow [.ref 15] h post := by
  have h5 := hw.1
  have h4 := hw.2.1
  have hvb : ∀ m, aV a m < 100 := fun m => by have := (hw.2.2.2.1 m).2.2.1; omega
  have hg : ∀ m, gvn a m ≤ 36 := gvn_le hw
  have hs1 : sm (gvn a) (aN a) ≤ 36 * aN a := sm_le _ (fun i _ => hg i)
  have hs2 : sm (aC a) (aP a) ≤ 60 * aP a := sm_le _ (fun i _ => hw.2.2.2.2.1 i)
  refine Ev.intro rfl (Nat.le_of_ble_eq_true rfl) (sX5_boundNow_0 ?_)
  refine loopU (S := fun i => G 2 mX5_boundNow post 4 [some (.ref 15), some (.int (nI (sm (gvn a) i))), some (.int (nI i)), none, none, none] [] h) (aN a) (fun i hi ih => ?_) ?_ 0 (Nat.zero_le _)
  · have fin : ∀ x : Nat, x = (if (aK a).testBit i then sm (gv a i (aV a i)) 4 else mxL a i (aP a)) → G 2 mX5_boundNow post 90 [some (.ref 15), some (.int (nI (sm (gvn a) i))), some (.int (nI i)), some (.int (nI x)), none, none] [] h := fun x ex => by
      refine sX5_boundNow_90 ?_
      rw [hI.sh]
      refine ev_has (by have := hw.sh; omega) (by omega) (sX5_boundNow_99 (fun y => sX5_boundNow_106 ?_) (fun y => sX5_boundNow_102 ?_))
      · rw [b2i_0] at y
        rw [nI_1, nI_add]
        have e : sm (gvn a) i + x = sm (gvn a) (i + 1) := by
          rw [sm, ex]
          unfold gvn
          rw [y]
          rfl
        rw [e]
        exact ih
      · rw [b2i_n] at y
        rw [nI_1, Int32.add_zero]
        have e : sm (gvn a) (i + 1) = sm (gvn a) i := by
          rw [sm]
          have : gvn a i = 0 := by unfold gvn; rw [if_pos y]
          omega
        rw [e] at ih
        exact ih
    refine sX5_boundNow_4 (fun z => ?_) (fun _ => sX5_boundNow_12 ?_)
    · rw [hI.n, nI_leI (by omega) (by omega)] at z; omega
    rw [hI.sk]
    refine ev_has (by have := hw.sk; omega) (by omega) (sX5_boundNow_20 (fun z => sX5_boundNow_37 ?_) (fun z => sX5_boundNow_23 (vp_in_nI (by omega) (by omega)) ?_))
    · rw [b2i_0] at z
      refine loopU (S := fun p => G 2 mX5_boundNow post 42 [some (.ref 15), some (.int (nI (sm (gvn a) i))), some (.int (nI i)), some (.int (nI (mxL a i p))), some (.int (nI p)), none] [] h) (aP a) (fun p hp jh => ?_) ?_ 0 (Nat.zero_le _)
      · have hm1 := mxL_le hw i p
        have hm2 := gvs_le hw i (p + 1)
        refine sX5_boundNow_42 (fun y => ?_) (fun _ => sX5_boundNow_51 ?_)
        · rw [hI.p, nI_leI (by omega) (by omega)] at y; omega
        rw [hI.sk]
        refine ev_has (by have := hw.sk; omega) (by omega) (sX5_boundNow_59 (fun y => absurd z (by rw [b2i_n] at y; rw [y]; decide)) (fun _ => sX5_boundNow_62 ?_))
        have hl : Ev 1 mX5_givesAll [.ref 15, .int (nI i), .int (nI (p + 1) - 1)] h (fun r h' => G 2 mX5_boundNow post 69 [some (.ref 15), some (.int (nI (sm (gvn a) i))), some (.int (nI i)), some (.int (nI (mxL a i p))), some (.int (nI p)), none] (r.toList ++ []) h') := by
          refine ev_givesAll hI hw hi (by omega) (sX5_boundNow_69 (fun y => sX5_boundNow_82 ?_) (fun y => sX5_boundNow_77 ?_))
          · rw [nI_leI (by omega) (by omega)] at y
            rw [nI_1]
            rw [mxL, Nat.max_eq_left y] at jh
            exact jh
          · rw [nI_leI (by omega) (by omega)] at y
            rw [nI_1]
            rw [mxL, Nat.max_eq_right (by omega)] at jh
            exact jh
        rw [nI_pred] at hl
        exact hl
      · refine sX5_boundNow_42 (fun _ => fin _ (by rw [z]; rfl)) (fun y => absurd (by rw [hI.p]; exact nI_le (Nat.le_refl _) (by omega)) y)
    · rw [b2i_n] at z
      rw [nI_clamp (by omega), hI.aim (by omega)]
      refine ev_givesAll hI hw hi (hvb i) (sX5_boundNow_34 (sX5_boundNow_42 (fun _ => fin _ (by rw [if_pos z])) (fun _ => sX5_boundNow_51 ?_)))
      rw [hI.sk]
      exact ev_has (by have := hw.sk; omega) (by omega) (sX5_boundNow_59 (fun _ => fin _ (by rw [if_pos z])) (fun y => absurd z (by rw [b2i_0] at y; rw [y]; decide)))
  · refine sX5_boundNow_4 (fun _ => sX5_boundNow_115 ?_) (fun z => absurd (by rw [hI.n]; exact nI_le (Nat.le_refl _) (by omega)) z)
    refine loopU (S := fun p => G 2 mX5_boundNow post 119 [some (.ref 15), some (.int (nI (sm (gvn a) (aN a)))), some (.int (nI (sm (aC a) p))), some (.int (nI p)), none, none] [] h) (aP a) (fun p hp jh => ?_) ?_ 0 (Nat.zero_le _)
    · refine sX5_boundNow_119 (fun z => ?_) (fun _ => sX5_boundNow_127 (vp_in_nI (by omega) (by omega)) ?_)
      · rw [hI.p, nI_leI (by omega) (by omega)] at z; omega
      rw [nI_clamp (by omega), hI.ce hp, nI_1, nI_add]
      exact jh
    · refine sX5_boundNow_119 (fun _ => sX5_boundNow_142 (fun y => sX5_boundNow_151 ?_) (fun y => sX5_boundNow_147 ?_)) (fun z => absurd (by rw [hI.p]; exact nI_le (Nat.le_refl _) (by omega)) z)
      · rw [nI_leI (by omega) (by omega)] at y
        unfold bnd at k
        rw [Nat.min_eq_right y] at k
        exact k
      · rw [nI_leI (by omega) (by omega)] at y
        unfold bnd at k
        rw [Nat.min_eq_left (by omega)] at k
        exact k
theorem ev_bestNow {st : Bool} {w : Int32} (hI : MI a h) (hw : WF a) (e15 : h.1 15 15 = bc (bsF a st)) (e16 : h.1 15 16 = bv (bsF a st)) (hr : w.toInt = 0 ∨ w.toInt = 1 ∨ 10 ≤ w.toInt ∧ w.toInt ≤ 14) (k : ∀ h', N21 h h' → post (some (.int (bestA a st w.toInt))) h') : Ev 3 mX5_bestNow [.ref 15, .int w] h post := by
  have h5 := hw.1
  have t0 : w = 0 ↔ w.toInt = 0 := toInt_eq 0 (by decide)
  have t1 : w = 1 ↔ w.toInt = 1 := toInt_eq 1 (by decide)
  have ebv : bv (bsF a st) = bsV a st := rfl
  have lo : ((bsF a st).1 = 0 ∨ w.toInt = 0) → G 3 mX5_bestNow post 14 [some (.ref 15), none] [] h := fun q => by
    refine sX5_bestNow_14 ?_
    have k := k h (N21.rf h)
    unfold bestA at k
    rw [if_pos q] at k
    rw [e16, ebv]
    exact k
  refine Ev.intro rfl (Nat.le_of_ble_eq_true rfl) (sX5_bestNow_0 (fun z => lo (Or.inl ?_)) (fun z => sX5_bestNow_10 (fun y => ?_) (fun y => lo (Or.inr (t0.mp y)))))
  · rw [e15] at z
    unfold bc at z
    apply Classical.byContradiction
    intro hz
    rw [if_neg hz] at z
    exact nI_n1001 (by have := (BS_spec 3125 hz).1; have e : (bsF a st).2 = (BS a st 3125).2 := rfl; omega) z
  · have hz : (bsF a st).1 ≠ 0 := fun e => z (by rw [e15]; unfold bc; rw [if_pos e])
    have hlt : (bsF a st).2 < 3125 := (BS_spec 3125 hz).1
    have y : ¬ w.toInt = 0 := fun e => y (t0.mpr e)
    refine sX5_bestNow_19 ?_
    rw [e15, show bc (bsF a st) = nI (bsF a st).2 from if_neg hz]
    refine ev_layCode hlt (fun f' hN => ?_)
    have hn : N21 h (setA h 21 f') := N21.setA
    generalize setA h 21 f' = g at hN hn ⊢
    have hIg := hI.keep hn.mk
    have k := k g hn
    unfold bestA at k
    rw [if_neg (fun e => e.elim hz y)] at k
    refine sX5_bestNow_27 (fun v => ?_) (fun v => sX5_bestNow_32 (ev_boundNow hIg hw (sX5_bestNow_36 ?_)))
    · have v : ¬ w.toInt = 1 := fun e => v (t1.mpr e)
      have hr : 10 ≤ w.toInt ∧ w.toInt ≤ 14 := by omega
      rw [if_neg v] at k
      have ew := w10 hr.1 (by omega)
      refine sX5_bestNow_44 ?_
      rw [ew]
      refine ev_isMirror hIg hw (sX5_bestNow_52 (fun u => sX5_bestNow_67 ?_) (fun u => sX5_bestNow_55 ?_ ?_))
      · rw [b2i_0] at u
        rw [if_neg (fun q => ?_)] at k
        · exact k
        · rw [ix_nI q (by omega)] at u; cases u
      · rw [ew]; exact vp_in_nI (by omega) (by omega)
      · rw [b2i_n] at u
        rw [if_pos ?_] at k
        · rw [ew, nI_clamp (by omega), hN _ (by omega)]
          exact k
        · apply Classical.byContradiction
          intro q
          rw [ix_nI' (by omega) (by omega)] at u; cases u
    · rw [if_pos (t1.mp v)] at k
      rw [hn.1 15 (by decide), e16, ebv]
      exact k
theorem cy_best {st : Bool} {w : Int32} (Y : YI s h) (k : ∀ h', YI s h' → FrY h h' → post (some (.int (bestS s st w))) h') : Ev 4 mX5_best [.ref 15, .int (b2i st), .int w] h post := by
  obtain ⟨hw, hI, hg, hf, hf2⟩ := id Y
  have h5 := hw.1
  have go : aN s.1 ≠ 0 → (w.toInt = 0 ∨ w.toInt = 1 ∨ 10 ≤ w.toInt ∧ w.toInt ≤ 14) → G 4 mX5_best post 35 [some (.ref 15), some (.int (b2i st)), some (.int w)] [] h := fun q hr => by
    refine sX5_best_35 (ev_layBest hI hw (Nat.pos_of_ne_zero q) (fun h1 l => sX5_best_40 (ev_bestNow (hI.keep l.mk) hw l.2.1 l.2.2.1 hr (fun h2 n => sX5_best_45 ?_))))
    have k := k h2 (Y.keep (l.mk.trans n.mk)) (l.mk.trans n.mk).fr
    unfold bestS at k
    rw [if_neg q, if_pos hr] at k
    exact k
  refine Ev.intro rfl (Nat.le_of_ble_eq_true rfl) (sX5_best_0 (fun q => sX5_best_11 (ev_within (sX5_best_17 (fun q1 => go ?_ ?_) (fun q1 => sX5_best_20 (ev_within (sX5_best_28 (fun q2 => go ?_ ?_) (fun q2 => sX5_best_31 ?_))))))) (fun q => sX5_best_7 ?_))
  all_goals rw [hI.n, show (0 : Int32) = nI 0 from rfl, nI_eq (by omega) (by omega)] at q
  · exact q
  · have q1 := win_t q1
    rw [w_in, show Int32.toInt 0 = 0 by decide, show Int32.toInt 1 = 1 by decide] at q1
    omega
  · exact q
  · have q2 := win_t q2
    rw [w_in, show Int32.toInt 10 = 10 by decide, show Int32.toInt 14 = 14 by decide] at q2
    omega
  · have q1 := win_f q1
    rw [w_in, show Int32.toInt 0 = 0 by decide, show Int32.toInt 1 = 1 by decide] at q1
    have q2 := win_f q2
    rw [w_in, show Int32.toInt 10 = 10 by decide, show Int32.toInt 14 = 14 by decide] at q2
    have k := k h Y (FrY.rf h)
    unfold bestS at k
    rw [if_neg q, if_neg (by omega)] at k
    exact k
  · have k := k h Y (FrY.rf h)
    unfold bestS at k
    rw [if_pos q] at k
    exact k
end MD5
