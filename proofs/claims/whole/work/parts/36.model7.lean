/-! the reference's calls: the change -/
theorem mv_next {a : St} {st : Bool} {b c j : Nat} (hw : WF a) (hb : okk a st b = true) (hc : c < 3125) (hD : Ds a st b (j + 1) c) :
    mvF a st b c j < 40 ∧ mvF a st b c j / 8 < aN a ∧ mvF a st b c j % 8 ≤ aP a ∧ setd c (mvF a st b c j / 8) (mvF a st b c j % 8) < 3125 ∧ Ds a st b j (setd c (mvF a st b c j / 8) (mvF a st b c j % 8)) := by
  have h5 := hw.1
  have h4 := hw.2.1
  have hn := rs_nod hb _ _ hD.1
  obtain ⟨m, v, hm, hv, hok, hDk⟩ := Ds_pred hb hD
  have hP := mvP_of hw hc hn hm hv hok hDk (fun e => by
    rw [e] at hDk
    have := Ds_uniq hDk hD
    omega)
  obtain ⟨h1, h2⟩ := ld40_spec (P := mvP a st b c j) (i := 8 * m + v) (by omega) hP
  have h1 : mvF a st b c j < 40 := h1
  have h2 : mvP a st b c j (mvF a st b c j) := h2
  exact ⟨h1, h2.1, h2.2.1, setd_lt hc (by have := h2.2.1; omega), (Ds_Dl h2.2.2.2.2.1 j).mpr h2.2.2.2.2.2⟩
theorem chN_Ds {a : St} {st : Bool} (hw : WF a) (h : 0 < chN a st) : (bsF a st).1 ≠ 0 ∧ Ds a st (bsF a st).2 (chN a st - 1) (cod (aV a)) := by
  have h1 : (bsF a st).1 ≠ 0 := fun e => by rw [chN, if_pos e] at h; omega
  refine ⟨h1, ?_⟩
  by_cases h2 : cod (aV a) = (bsF a st).2
  · have e : chN a st = 1 := by rw [chN, if_neg h1, if_pos h2]
    rw [e]
    exact ⟨h2, fun j hj => absurd hj (Nat.not_lt_zero j)⟩
  · have h3 : chK a st < 3125 := by
      apply Classical.byContradiction
      intro e
      rw [chN, if_neg h1, if_neg h2, if_neg e] at h
      omega
    have h5 := ld_false 3125 h3
    have h6 : mvF a st (bsF a st).2 (cod (aV a)) (chK a st) < 40 := by
      have h5 : (!decide (mvF a st (bsF a st).2 (cod (aV a)) (chK a st) < 40)) = false := h5
      simpa using h5
    have q := mvF_spec h6
    have key : ∀ K j, mvP a st (bsF a st).2 (cod (aV a)) K j → rs a st (bsF a st).2 (K + 1) (cod (aV a)) := fun K j q => ⟨Or.inr rfl, j / 8, j % 8, q.1, q.2.1, q.2.2.2.2.2.1⟩
    have hrs := key _ _ q
    generalize chK a st = K at h3 hrs
    obtain ⟨J, hJ, hr, hmin⟩ := least (fun j => rs a st (bsF a st).2 j (cod (aV a))) (K + 1) hrs
    have e := chN_of hw h1 ⟨hr, hmin⟩ (by omega)
    rw [e]
    exact ⟨hr, hmin⟩
def mvR (j : Nat) : Int32 := if j < 40 then nI j else -1001
section MD7
variable {post : Option Value → PH → Prop} {h : PH} {a : St} {s : Ab}
theorem ev_moveFrom {st : Bool} {b c kk : Nat} (hI : MI a h) (hw : WF a) (hM : ∀ c, c < 3125 → h.1 22 c = b2i (okk a st c)) (hR : FR a st b h) (hc : c < 3125) (hk : kk < 2 ^ 31) (k : post (some (.int (mvR (mvF a st b c kk)))) h) : Ev 1 mX5_moveFrom [.ref 15, .int (nI c), .int (nI kk)] h post := by
  have h5 := hw.1
  have h4 := hw.2.1
  refine Ev.intro rfl (Nat.le_of_ble_eq_true rfl) (sX5_moveFrom_0 ?_)
  have hS : ∀ m, m ≤ aN a → (∀ j, j < 8 * m → ¬ mvP a st b c kk j) → G 1 mX5_moveFrom post 2 [some (.ref 15), some (.int (nI c)), some (.int (nI kk)), some (.int (nI m)), none, none, none] [] h := by
    refine loopU (S := fun m => (∀ j, j < 8 * m → ¬ mvP a st b c kk j) → G 1 mX5_moveFrom post 2 [some (.ref 15), some (.int (nI c)), some (.int (nI kk)), some (.int (nI m)), none, none, none] [] h) (aN a) (fun m hm ih hno => ?_) (fun hno => ?_)
    · have nxt : (∀ j, j < 8 * (m + 1) → ¬ mvP a st b c kk j) → G 1 mX5_moveFrom post 97 [some (.ref 15), some (.int (nI c)), some (.int (nI kk)), some (.int (nI m)), none, none, none] [] h := fun q => by
        refine sX5_moveFrom_97 ?_
        rw [nI_1]
        exact ih q
      refine sX5_moveFrom_2 (fun z => ?_) (fun _ => sX5_moveFrom_10 (ev_unitOf (by omega) (sX5_moveFrom_15 ?_)))
      · rw [hI.n, nI_leI (by omega) (by omega)] at z; omega
      have hV : ∀ v, v ≤ aP a + 1 → (∀ j, j < 8 * m + v → ¬ mvP a st b c kk j) → G 1 mX5_moveFrom post 20 [some (.ref 15), some (.int (nI c)), some (.int (nI kk)), some (.int (nI m)), some (.int (nI (5 ^ (4 - m)))), some (.int (nI v)), none] [] h := by
        refine loopU (S := fun v => (∀ j, j < 8 * m + v → ¬ mvP a st b c kk j) → G 1 mX5_moveFrom post 20 [some (.ref 15), some (.int (nI c)), some (.int (nI kk)), some (.int (nI m)), some (.int (nI (5 ^ (4 - m)))), some (.int (nI v)), none] [] h) (aP a + 1) (fun v hv vh hno => ?_) (fun hno => ?_)
        · have d8 : (8 * m + v) / 8 = m := by omega
          have m8 : (8 * m + v) % 8 = v := by omega
          have skip : ¬ mvP a st b c kk (8 * m + v) → G 1 mX5_moveFrom post 91 [some (.ref 15), some (.int (nI c)), some (.int (nI kk)), some (.int (nI m)), some (.int (nI (5 ^ (4 - m)))), some (.int (nI v)), none] [] h := fun q => by
            refine sX5_moveFrom_91 ?_
            rw [nI_1]
            refine vh (fun j hj => ?_)
            by_cases e : j = 8 * m + v
            · rw [e]; exact q
            · exact hno j (by omega)
          refine sX5_moveFrom_20 (fun z => ?_) (fun _ => sX5_moveFrom_29 ?_)
          · rw [hI.p, nI_ltI (by omega) (by omega)] at z; omega
          rw [hI.sk]
          refine ev_has (by have := hw.sk; omega) (by omega) (sX5_moveFrom_37 (fun z => nxt (fun j hj q => ?_)) (fun z => sX5_moveFrom_40 (ev_figure hc ?_)))
          · rw [b2i_n] at z
            by_cases e : j < 8 * m
            · exact hno j (by omega) q
            · have := q.2.2.1
              rw [show j / 8 = m by omega, z] at this
              cases this
          rw [b2i_0] at z
          have enx : nI c + (nI (5 ^ (4 - m)) * (nI v - nI (dg c m))) = nI (setd c m v) := by
            rw [i32_next, pk_mul, pk_mul, pk_sub dg_part, nI_add, ← setd_eq]
          have hnx : setd c m v < 3125 := setd_lt hc (by omega)
          have vnx : vp_in (nI (setd c m v)) 3125 := vp_in_nI hnx (by omega)
          refine sX5_moveFrom_51 (fun y => skip (fun q => ?_)) (fun y => ?_)
          · rw [enx, nI_eq (by omega) (by omega)] at y
            have := q.2.2.2.1
            rw [d8, m8] at this
            exact this y
          · rw [enx, nI_eq (by omega) (by omega)] at y
            rw [enx]
            refine sX5_moveFrom_62 vnx (fun t => skip (fun q => ?_)) (fun t => sX5_moveFrom_72 vnx (fun u => skip (fun q => ?_)) (fun u => sX5_moveFrom_83 ?_))
            · rw [nI_clamp (by omega), hM _ hnx, b2i_0] at t
              have := q.2.2.2.2.1
              rw [d8, m8, t] at this
              cases this
            · rw [nI_clamp (by omega), hR _ hnx kk hk] at u
              have := q.2.2.2.2.2
              rw [d8, m8] at this
              exact u this
            · rw [nI_clamp (by omega), hM _ hnx, b2i_n] at t
              rw [nI_clamp (by omega), hR _ hnx kk hk] at u
              have hP : mvP a st b c kk (8 * m + v) := by
                unfold mvP
                rw [d8, m8]
                exact ⟨hm, by omega, z, y, t, u⟩
              have e : mvF a st b c kk = 8 * m + v := ld40 hno hP (by omega)
              rw [show (8 : Int32) * nI m = nI (8 * m) from pk_mul 8 m, nI_add, ← e]
              unfold mvR at k
              rw [if_pos (by omega)] at k
              exact k
        · refine sX5_moveFrom_20 (fun _ => nxt (fun j hj q => ?_)) (fun z => absurd (by rw [hI.p, nI_ltI (by omega) (by omega)]; omega) z)
          by_cases e : j < 8 * m + (aP a + 1)
          · exact hno j e q
          · have := q.2.1
            omega
      exact hV 0 (by omega) hno
    · have e : mvF a st b c kk = 40 := ld40n (fun j hj q => by
        by_cases e : j < 8 * aN a
        · exact hno j e q
        · have := q.1
          omega)
      refine sX5_moveFrom_2 (fun _ => sX5_moveFrom_103 ?_) (fun z => absurd (by rw [hI.n]; exact nI_le (Nat.le_refl _) (by omega)) z)
      rw [e] at k
      exact k
  exact hS 0 (Nat.zero_le _) (fun j hj => by omega)
theorem ev_moved {c j : Nat} (hc : c < 3125) (hj : j < 40) (hj8 : j % 8 < 5) (k : post (some (.int (nI (setd c (j / 8) (j % 8))))) h) : Ev 1 mX5_moved [.ref 15, .int (nI c), .int (nI j)] h post := by
  refine Ev.intro rfl (Nat.le_of_ble_eq_true rfl) (sX5_moved_0 ?_)
  rw [show nI j / 8 = nI (j / 8) from pk_div (d := 8) (by omega) (by omega) (by omega)]
  refine ev_unitOf (by omega) (sX5_moved_8 ?_)
  rw [show nI j - nI j / 8 * 8 = nI (j % 8) from pk_rem (d := 8) (by omega) (by omega) (by omega)]
  refine ev_figure hc (sX5_moved_20 ?_)
  rw [i32_next, pk_mul, pk_mul, pk_sub dg_part, nI_add, ← setd_eq]
  exact k
def LC (a : St) (st : Bool) (h h' : PH) : Prop := MK h h' ∧ h'.2 = h.2 ∧ h'.1 15 18 = chM a st ∧ (∀ k, k < 15 → k + 1 < chN a st → h'.1 25 k = nI (chV a st k)) ∧ h'.1 15 15 = bc (bsF a st) ∧ h'.1 15 16 = bv (bsF a st)
theorem ev_layChange {st : Bool} (hI : MI a h) (hw : WF a) (hn : 0 < aN a) (k : ∀ h', LC a st h h' → post none h') : Ev 4 mX5_layChange [.ref 15, .int (b2i st)] h post := by
  have h5 := hw.1
  have h4 := hw.2.1
  refine Ev.intro rfl (Nat.le_of_ble_eq_true rfl) (sX5_layChange_0 (ev_layBest hI hw hn (fun h1 l1 => sX5_layChange_5 (ev_layFar (hI.keep l1.mk) hw l1.1 l1.2.1 (fun h2 n2 R2 => sX5_layChange_9 (ev_asTheyAre (fun f' hf' => sX5_layChange_13 ?_)))))))
  have hK2 : MK h h2 := l1.mk.trans n2.mk
  have hI2 := hI.keep hK2
  have hN := NW_as hI2 hf'
  refine ev_codeNow hN ?_
  have n3 : N21 h2 (setA h2 21 f') := N21.setA
  generalize setA h2 21 f' = h3 at n3 ⊢
  have hK3 : MK h h3 := hK2.trans n3.mk
  have hc0 := cod_lt hw
  have e22 : ∀ c, c < 3125 → h3.1 22 c = b2i (okk a st c) := fun c hc => by
    rw [n3.1 22 (by decide), n2.1 22 (by decide) (by decide)]
    exact l1.1 c hc
  have e15 : h3.1 15 15 = bc (bsF a st) := by
    rw [n3.1 15 (by decide), n2.1 15 (by decide) (by decide)]
    exact l1.2.1
  have e16 : h3.1 15 16 = bv (bsF a st) := by
    rw [n3.1 15 (by decide), n2.1 15 (by decide) (by decide)]
    exact l1.2.2.1
  have eR : (bsF a st).1 ≠ 0 → FR a st (bsF a st).2 h3 := fun q c hc kk hk => by
    rw [n3.1 23 (by decide)]
    exact R2 q c hc kk hk
  have el : h3.2 = h.2 := n3.2.trans (n2.2.trans l1.2.2.2.2.2)
  clear hN hf' l1 n2 R2 n3 hI2 hK2
  -- what stays as h3 has it, but the moves and their number
  have hb1 : (bsF a st).1 ≠ 0 → (bsF a st).2 < 3125 ∧ okk a st (bsF a st).2 = true := fun q => BS_spec 3125 q
  have ebc : h3.1 15 15 = -1001 ↔ (bsF a st).1 = 0 := by
    rw [e15]
    unfold bc
    constructor
    · intro e
      apply Classical.byContradiction
      intro q
      rw [if_neg q] at e
      exact nI_n1001 (by have := (hb1 q).1; omega) e
    · intro q; rw [if_pos q]
  -- the second loop
  have fin : ∀ i, i ≤ min (chN a st - 1) 15 → ∀ g, MK h g → g.2 = h.2 → g.1 15 18 = chM a st → g.1 15 15 = bc (bsF a st) → g.1 15 16 = bv (bsF a st) → (∀ c, c < 3125 → g.1 22 c = b2i (okk a st c)) → g.1 23 = h3.1 23 → (∀ j, j < i → g.1 25 j = nI (chV a st j)) → pth a st i < 3125 → (0 < chN a st → Ds a st (bsF a st).2 (chN a st - 1 - i) (pth a st i)) → G 4 mX5_layChange post 99 [some (.ref 15), none, some (.int (nI (pth a st i))), some (.int (nI i))] [] g := by
    have hle := chN_le a st
    refine loopU (min (chN a st - 1) 15) (fun i hi ih g g1 g2 g3 g4 g5 g6 g7 g8 hp hD => ?_) (fun g g1 g2 g3 g4 g5 g6 g7 g8 hp hD => ?_)
    · have hp0 : 0 < chN a st := by omega
      have eM : chM a st = nI (chN a st - 1) := by unfold chM; rw [if_neg (by omega)]
      have q0 := (chN_Ds hw hp0).1
      have hD := hD hp0
      obtain ⟨jj, ejj⟩ : ∃ jj, chN a st - 1 - i = jj + 1 := ⟨chN a st - 2 - i, by omega⟩
      have ejj2 : chN a st - 2 - i = jj := by omega
      rw [ejj] at hD
      have ev : chV a st i = mvF a st (bsF a st).2 (pth a st i) jj := by unfold chV; rw [ejj2]
      have ep : pth a st (i + 1) = setd (pth a st i) (mvF a st (bsF a st).2 (pth a st i) jj / 8) (mvF a st (bsF a st).2 (pth a st i) jj % 8) := by rw [pth, ejj2]
      obtain ⟨m1, m2, m3, m4, m5⟩ := mv_next hw (hb1 q0).2 hp hD
      refine sX5_layChange_99 (fun z => ?_) (fun _ => sX5_layChange_107 (fun z => ?_) (fun _ => sX5_layChange_113 ?_))
      · rw [g3, eM, nI_leI (by omega) (by omega)] at z; omega
      · rw [show (15 : Int32) = nI 15 from rfl, nI_leI (by omega) (by omega)] at z; omega
      rw [g3, eM, show nI (chN a st - 1) - 1 = nI (chN a st - 2) by rw [show chN a st - 1 = (chN a st - 2) + 1 by omega, nI_pred], pk_sub (by omega), ejj2]
      have hRg : FR a st (bsF a st).2 g := fun c hc kk hk => by rw [g7]; exact eR q0 c hc kk hk
      refine ev_moveFrom (hI.keep g1) hw g6 hRg hp (by omega) ?_
      have emv : mvR (mvF a st (bsF a st).2 (pth a st i) jj) = nI (chV a st i) := by
        unfold mvR
        rw [if_pos m1, ev]
      rw [emv]
      refine sX5_layChange_131 (vp_in_nI (by omega) (by omega)) (vp_in_nI (by omega) (by omega)) ?_
      rw [nI_clamp (by omega), upd2_self, pk_us]
      refine ev_moved hp (by rw [ev]; exact m1) (by rw [ev]; omega) (sX5_layChange_143 ?_)
      rw [nI_1, ev, ← ep, ← ev]
      refine ih _ (g1.trans ⟨fun c _ _ _ _ _ h6 => upd2_ne h6, fun _ _ _ _ _ _ _ => rfl⟩) g2 g3 g4 g5 g6 g7 (fun j hj => ?_) (by rw [ep]; exact m4) (fun _ => ?_)
      · show upd2 g.1 25 i (nI (chV a st i)) 25 j = _
        rw [upd2_self]
        by_cases e : j = i
        · rw [e, pk_us]
        · rw [pk_un e]; exact g8 j (by omega)
      · rw [show chN a st - 1 - (i + 1) = jj by omega, ep]
        exact m5
    · have done : G 4 mX5_layChange post 150 [none, none, none, none] [] g := sX5_layChange_150 (k g ⟨g1, g2, g3, fun j hj hj2 => g8 j (by omega), g4, g5⟩)
      by_cases q : chN a st - 1 ≤ 15
      · refine sX5_layChange_99 (fun _ => done) (fun z => absurd ?_ z)
        rw [g3]
        unfold chM
        by_cases e : chN a st = 0
        · rw [if_pos e]; exact m1001_le _ (by omega)
        · rw [if_neg e, nI_leI (by omega) (by omega)]; omega
      · refine sX5_layChange_99 (fun _ => done) (fun _ => sX5_layChange_107 (fun _ => done) (fun z => absurd ?_ z))
        rw [show (15 : Int32) = nI 15 from rfl, nI_leI (by omega) (by omega)]; omega
  have to97 : ∀ x : Int32, x = chM a st → G 4 mX5_layChange post 97 [some (.ref 15), none, some (.int (nI (cod (aV a)))), none] [] (upd2 h3.1 15 18 x, h3.2) := fun x ex => by
    refine sX5_layChange_97 (fin 0 (Nat.zero_le _) _ (hK3.trans (MK.fld (by omega))) el ex e15 e16 e22 rfl (fun j hj => absurd hj (Nat.not_lt_zero j)) hc0 (fun hp => ?_))
    exact (chN_Ds hw hp).2
  have nIne : ∀ n, n < 3127 → ¬ nI n = -1001 := fun n hn => nI_n1001 (by omega)
  refine sX5_layChange_17 (fun z => sX5_layChange_31 ?_) (fun z => sX5_layChange_27 (sX5_layChange_39 (fun _ => to97 0 ?_) (fun _ => sX5_layChange_46 (fun _ => to97 0 ?_) (fun y => ?_))))
  · rw [e15] at z
    have z1 : (bsF a st).1 ≠ 0 → cod (aV a) ≠ (bsF a st).2 := fun q e => z (by unfold bc; rw [if_neg q, e])
    by_cases q0 : (bsF a st).1 = 0
    · have eM : (-1001 : Int32) = chM a st := by
        unfold chM chN
        rw [if_pos q0, if_pos rfl]
      refine sX5_layChange_39 (fun _ => to97 _ eM) (fun _ => sX5_layChange_46 (fun y => absurd rfl y) (fun _ => sX5_layChange_56 (fun _ => to97 _ eM) (fun y => absurd ?_ y)))
      exact ebc.mpr q0
    · have hS : ∀ n, n ≤ 3125 → (∀ j, j < n → (!decide (mvF a st (bsF a st).2 (cod (aV a)) j < 40)) = true) → G 4 mX5_layChange post 39 [some (.ref 15), none, some (.int (nI (cod (aV a)))), some (.int (nI n))] [] (upd2 h3.1 15 18 (-1001), h3.2) := by
        refine loopU (S := fun n => (∀ j, j < n → (!decide (mvF a st (bsF a st).2 (cod (aV a)) j < 40)) = true) → G 4 mX5_layChange post 39 [some (.ref 15), none, some (.int (nI (cod (aV a)))), some (.int (nI n))] [] (upd2 h3.1 15 18 (-1001), h3.2)) 3125 (fun n hn ih hno => ?_) (fun hno => ?_)
        · refine sX5_layChange_39 (fun y => ?_) (fun _ => sX5_layChange_46 (fun y => absurd rfl y) (fun _ => sX5_layChange_56 (fun y => absurd (ebc.mp y) q0) (fun _ => sX5_layChange_66 ?_)))
          · rw [show (3125 : Int32) = nI 3125 from rfl, nI_leI (by omega) (by omega)] at y; omega
          refine ev_moveFrom (st := st) (b := (bsF a st).2) (hI.keep (hK3.trans (MK.fld (by omega)))) hw e22 (eR q0) hc0 (by omega) (sX5_layChange_73 (fun y => sX5_layChange_85 ?_) (fun y => sX5_layChange_79 ?_))
          · have hlt : mvF a st (bsF a st).2 (cod (aV a)) n < 40 := by
              apply Classical.byContradiction
              intro e
              unfold mvR at y
              rw [if_neg e] at y
              exact y rfl
            have eK : chK a st = n := ld_stop hno (by rw [decide_eq_true hlt]; rfl) 3125 hn
            have eM : nI (n + 1) = chM a st := by
              unfold chM chN
              rw [if_neg q0, if_neg (z1 q0), eK, if_pos hn, if_neg (by omega)]
              rfl
            show G 4 mX5_layChange post 39 _ [] (upd2 (upd2 h3.1 15 18 (-1001)) 15 18 (nI n + 1), h3.2)
            rw [upd2_upd2 h3, nI_1]
            refine sX5_layChange_39 (fun _ => to97 _ eM) (fun _ => sX5_layChange_46 (fun _ => to97 _ eM) (fun y => absurd y ?_))
            show ¬ upd2 h3.1 15 18 (nI (n + 1)) 15 18 = -1001
            rw [upd2_self, pk_us]
            exact nIne _ (by omega)
          · have hlt : ¬ mvF a st (bsF a st).2 (cod (aV a)) n < 40 := by
              intro e
              unfold mvR at y
              rw [if_pos e] at y
              exact nI_n1001 (by omega) y
            show G 4 mX5_layChange post 39 _ [] (upd2 (upd2 h3.1 15 18 (-1001)) 15 18 (-1001), h3.2)
            rw [upd2_upd2 h3, nI_1]
            refine ih (fun j hj => ?_)
            by_cases e : j = n
            · rw [e, decide_eq_false hlt]; rfl
            · exact hno j (by omega)
        · have eK : chK a st = 3125 := ld_all 3125 hno
          have eN : chN a st = 0 := by
            unfold chN
            rw [if_neg q0, if_neg (z1 q0), eK, if_neg (Nat.lt_irrefl 3125)]
          have eM : (-1001 : Int32) = chM a st := by
            unfold chM
            rw [if_pos eN]
          exact sX5_layChange_39 (fun _ => to97 _ eM) (fun y => absurd (by decide) y)
      exact hS 0 (Nat.zero_le _) (fun j hj => absurd hj (Nat.not_lt_zero j))
  all_goals
    have q0 : (bsF a st).1 ≠ 0 := fun q => by
      rw [ebc.mpr q] at z
      exact nI_n1001 (by omega) z
    have e : cod (aV a) = (bsF a st).2 := by
      rw [e15, show bc (bsF a st) = nI (bsF a st).2 from if_neg q0, nI_eq (by omega) (by have := (hb1 q0).1; omega)] at z
      exact z
    have eN : chN a st = 1 := by unfold chN; rw [if_neg q0, if_pos e]
  · unfold chM; rw [eN]; rfl
  · unfold chM; rw [eN]; rfl
  · exact absurd y (by show ¬ upd2 h3.1 15 18 0 15 18 = -1001; rw [upd2_self, pk_us]; decide)
theorem ev_changeNow {st : Bool} {w : Int32} (e18 : h.1 15 18 = chM a st) (e25 : ∀ k, k < 15 → k + 1 < chN a st → h.1 25 k = nI (chV a st k)) (hr : w.toInt = 0 ∨ 10 ≤ w.toInt ∧ w.toInt ≤ 24) (k : post (some (.int (changeA a st w.toInt))) h) : Ev 0 mX5_changeNow [.ref 15, .int w] h post := by
  have t0 : w = 0 ↔ w.toInt = 0 := toInt_eq 0 (by decide)
  have hle := chN_le a st
  refine Ev.intro rfl (Nat.le_of_ble_eq_true rfl) (sX5_changeNow_0 (fun z => ?_) (fun z => sX5_changeNow_4 ?_))
  · have z : ¬ w.toInt = 0 := fun e => z (t0.mpr e)
    have hr : 10 ≤ w.toInt ∧ w.toInt ≤ 24 := by omega
    have ew := w10 hr.1 (by omega)
    unfold changeA at k
    rw [if_neg z] at k
    refine sX5_changeNow_9 (fun y => sX5_changeNow_32 ?_) (fun y => sX5_changeNow_20 (by rw [ew]; exact vp_in_nI (by omega) (by omega)) ?_)
    · rw [e18, ew] at y
      rw [if_neg (fun q => ?_)] at k
      · exact k
      · unfold chM at y
        rw [if_neg (by omega), nI_leI (by omega) (by omega)] at y
        omega
    · rw [e18, ew] at y
      have q : (w.toInt - 10).toNat + 1 < chN a st := by
        apply Classical.byContradiction
        intro q
        apply y
        unfold chM
        by_cases e : chN a st = 0
        · rw [if_pos e]; exact m1001_le _ (by omega)
        · rw [if_neg e, nI_leI (by omega) (by omega)]; omega
      rw [if_pos q] at k
      rw [ew, nI_clamp (by omega), e25 _ (by omega) q]
      exact k
  · rw [t0.mp z] at k
    rw [e18]
    exact k
theorem cy_change {st : Bool} {w : Int32} (Y : YI s h) (k : ∀ h', YI s h' → FrY h h' → post (some (.int (changeS s st w))) h') : Ev 5 mX5_change [.ref 15, .int (b2i st), .int w] h post := by
  obtain ⟨hw, hI, hg, hf, hf2⟩ := id Y
  have h5 := hw.1
  have t0 : w = 0 ↔ w.toInt = 0 := toInt_eq 0 (by decide)
  have go : aN s.1 ≠ 0 → (w.toInt = 0 ∨ 10 ≤ w.toInt ∧ w.toInt ≤ 24) → G 5 mX5_change post 30 [some (.ref 15), some (.int (b2i st)), some (.int w)] [] h := fun q hr => by
    refine sX5_change_30 (ev_layChange hI hw (Nat.pos_of_ne_zero q) (fun h1 l => sX5_change_35 (ev_changeNow l.2.2.1 l.2.2.2.1 hr (sX5_change_40 ?_))))
    have k := k h1 (Y.keep l.1) l.1.fr
    unfold changeS at k
    rw [if_neg q, if_pos hr] at k
    exact k
  refine Ev.intro rfl (Nat.le_of_ble_eq_true rfl) (sX5_change_0 (fun q => sX5_change_11 (fun q1 => go ?_ ?_) (fun q1 => sX5_change_15 (ev_within (sX5_change_23 (fun q2 => go ?_ ?_) (fun q2 => sX5_change_26 ?_))))) (fun q => sX5_change_7 ?_))
  all_goals rw [hI.n, show (0 : Int32) = nI 0 from rfl, nI_eq (by omega) (by omega)] at q
  · exact q
  · exact Or.inl (t0.mp q1)
  · exact q
  · have q2 := win_t q2
    rw [w_in, show Int32.toInt 10 = 10 by decide, show Int32.toInt 24 = 24 by decide] at q2
    omega
  · have q1 : ¬ w.toInt = 0 := fun e => q1 (t0.mpr e)
    have q2 := win_f q2
    rw [w_in, show Int32.toInt 10 = 10 by decide, show Int32.toInt 24 = 24 by decide] at q2
    have k := k h Y (FrY.rf h)
    unfold changeS at k
    rw [if_neg q, if_neg (by omega)] at k
    exact k
  · have k := k h Y (FrY.rf h)
    unfold changeS at k
    rw [if_pos q] at k
    exact k
theorem cy_go {st : Bool} (Y : YI s h) (k : ∀ h', YI (goS s st).2 h' → FrY h h' → post (some (.int (goS s st).1)) h') : Ev 5 mX5_go [.ref 15, .int (b2i st)] h post := by
  obtain ⟨hw, hI, hg, hf, hf2⟩ := id Y
  have h5 := hw.1
  have h4 := hw.2.1
  have hle := chN_le s.1 st
  have no : (aN s.1 = 0 ∨ chN s.1 st ≤ 1) → ∀ h', MK h h' → post (some (.int (-1004))) h' := fun q h' K => by
    have e : goS s st = (-1004, s) := by unfold goS; rw [if_pos q]
    have := k h' (by rw [e]; exact Y.keep K) K.fr
    rw [e] at this
    exact this
  refine Ev.intro rfl (Nat.le_of_ble_eq_true rfl) (sX5_go_0 (fun q => sX5_go_11 (ev_layChange hI hw (Nat.pos_of_ne_zero (fun z => q (by rw [hI.n, z]; rfl))) (fun h1 l => sX5_go_16 (fun z => ?_) (fun z => sX5_go_24 (no (Or.inr ?_) h1 l.1))))) (fun q => sX5_go_7 (no (Or.inl ?_) h (MK.rf h))))
  all_goals rw [hI.n, show (0 : Int32) = nI 0 from rfl, nI_eq (by omega) (by omega)] at q
  · obtain ⟨l1, l2, l3, l4, l5, l6⟩ := l
    have hN : 1 < chN s.1 st := by
      apply Classical.byContradiction
      intro e
      rw [l3] at z
      unfold chM at z
      by_cases e0 : chN s.1 st = 0
      · rw [if_pos e0] at z; exact absurd z (by decide)
      · rw [if_neg e0, show (1 : Int32) = nI 1 from rfl, nI_leI (by omega) (by omega)] at z; omega
    obtain ⟨v1, v2, v3⟩ := chV_first hN
    have e25 : h1.1 25 0 = nI (chV s.1 st 0) := l4 0 (by omega) hN
    have c0 : Int32.toNatClampNeg 0 = 0 := by decide
    have d8 : nI (chV s.1 st 0) / 8 = nI (chV s.1 st 0 / 8) := pk_div (d := 8) (by omega) (by omega) (by omega)
    have m8 : nI (chV s.1 st 0) - nI (chV s.1 st 0) / 8 * 8 = nI (chV s.1 st 0 % 8) := pk_rem (d := 8) (by omega) (by omega) (by omega)
    refine sX5_go_28 (vp_in_nI (n := 0) (by omega) (by omega)) (vp_in_nI (n := 0) (by omega) (by omega)) ?_ ?_
    · rw [c0, e25, d8]; exact vp_in_nI (by omega) (by omega)
    · rw [c0, e25, m8, d8, nI_clamp (by omega), l3]
      have Y1 := Y.keep l1
      have hI1 := Y1.2.1
      rw [Y1.2.2.2.2]
      have e : goS s st = (nI (chN s.1 st - 2), (setV s.1 (upN (aV s.1) (chV s.1 st 0 / 8) (chV s.1 st 0 % 8)), s.2.1, s.2.2.1, s.2.2.2.1, s.2.2.2.2 + 1)) := by
        unfold goS
        rw [if_neg (by omega)]
      have er : chM s.1 st - 1 = nI (chN s.1 st - 2) := by
        unfold chM
        rw [if_neg (by omega), show chN s.1 st - 1 = (chN s.1 st - 2) + 1 by omega, nI_pred]
      rw [er]
      have := k (upd2 (upd2 h1.1 19 (chV s.1 st 0 / 8) (nI (chV s.1 st 0 % 8) - 1)) 15 11 (s.2.2.2.2 + 1), h1.2) ?_ (l1.fr.trans (fun c hc => by show upd2 (upd2 h1.1 19 _ _) 15 11 _ c = h1.1 c; rw [upd2_ne (by omega), upd2_ne (by omega)]))
      · rw [e] at this
        exact this
      · rw [e]
        refine ⟨hw.setV (upN_ok hw v2 v3), ⟨hI1.n, hI1.p, hI1.sh, hI1.sk, hI1.2.2.2.2.1, fun j hj => ?_, hI1.2.2.2.2.2.2⟩, Y1.2.2.1.keep rfl rfl, Y1.2.2.2.1, rfl⟩
        rw [vA_eq (a := setV s.1 (upN (aV s.1) (chV s.1 st 0 / 8) (chV s.1 st 0 % 8))) (show 0 < aN s.1 by omega)]
        show upd2 h1.1 19 (chV s.1 st 0 / 8) (nI (chV s.1 st 0 % 8) - 1) 19 j = nI (upN (aV s.1) (chV s.1 st 0 / 8) (chV s.1 st 0 % 8) j) - 1
        rw [upd2_self]
        unfold upd upN
        split
        · rfl
        · exact hI1.aim hj
  · apply Classical.byContradiction
    intro e
    apply z
    rw [l.2.2.1]
    unfold chM
    rw [if_neg (by omega), show (1 : Int32) = nI 1 from rfl, nI_leI (by omega) (by omega)]
    omega
  · exact q
end MD7
