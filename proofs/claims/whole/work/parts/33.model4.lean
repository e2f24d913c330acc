/-! the reference's calls: trades and relief -/
def trO (t : Nat × Nat) (w : Int) : Int32 := if t.1 = 0 then -1001 else if w = 0 then nI t.1 else if w = 1 then nI (t.2 / 5) else nI (t.2 % 5)
def TL (t : Nat × Nat) (h : PH) : Prop := h.1 15 20 = trO t 0 ∧ h.1 15 21 = trO t 1 ∧ h.1 15 22 = trO t 2
def rmv (a : St) (o m : Nat) : Nat := if o.testBit m then 0 else aV a m
theorem HT_rmv (a : St) (o : Nat) : HT a (rmv a o) (aH a) = HT a (aV a) (aH a ||| o) := by
  funext q
  unfold HT
  refine sm_cong _ (fun m _ => ?_)
  rw [Nat.testBit_or]
  unfold rmv
  cases h1 : (aH a).testBit m
  · cases h2 : o.testBit m
    · rfl
    · show gv a m 0 q = 0
      exact if_pos (Or.inl rfl)
  · rfl
theorem CT_rmv (a : St) (o : Nat) : CT a (rmv a o) (aH a) = CT a (aV a) (aH a ||| o) := by
  unfold CT; rw [HT_rmv]
theorem SF_rmv (a : St) (o : Nat) : SF a (rmv a o) (aH a) = SF a (aV a) (aH a ||| o) := by
  unfold SF; rw [HT_rmv]
theorem RL_inv {a : St} : ∀ k, ((RLf a k).1 = 0 → (RLf a k).2.1 = 6) ∧ ((RLf a k).1 ≠ 0 → (RLf a k).2.1 = pcn ((RLf a k).1 - 1))
  | 0 => ⟨fun _ => rfl, fun q => absurd rfl q⟩
  | k + 1 => by
    have ih := RL_inv (a := a) k
    rw [RLf]
    split
    · exact ⟨fun q => absurd q (Nat.succ_ne_zero k), fun _ => rfl⟩
    · exact ih
section MD4
variable {post : Option Value → PH → Prop} {h : PH} {a : St} {s : Ab}
theorem ev_layTrade (hI : MI a h) (hw : WF a) (hn : 0 < aN a) (k : ∀ h', MK h h' → h'.2 = h.2 → TL (TR a 25) h' → (∀ j, j ≠ 20 → j ≠ 21 → j ≠ 22 → h'.1 15 j = h.1 15 j) → (∀ c, c ≠ 15 → c ≠ 21 → h'.1 c = h.1 c) → post none h') : Ev 3 mX5_layTrade [.ref 15] h post := by
  have h5 := hw.1
  have h4 := hw.2.1
  have hvb : ∀ m, aV a m < 100 := fun m => by have := (hw.2.2.2.1 m).2.2.1; omega
  have hB : CT a (aV a) (aH a) ≤ 180 := CT_le hw _ _
  have hS : ∀ i, i ≤ 25 → ∀ g, MK h g → g.2 = h.2 → TL (TR a i) g → (∀ j, j ≠ 20 → j ≠ 21 → j ≠ 22 → g.1 15 j = h.1 15 j) → (∀ c, c ≠ 15 → c ≠ 21 → g.1 c = h.1 c) → G 3 mX5_layTrade post 32 [some (.ref 15), some (.int (nI (CT a (aV a) (aH a)))), some (.int (nI i)), none, none, none, none] [] g := by
    refine loopU 25 (fun i hi ih g g1 g2 g3 g4 g5 => ?_) (fun g g1 g2 g3 g4 g5 => sX5_layTrade_32 (fun _ => sX5_layTrade_206 (k g g1 g2 g3 g4 g5)) (fun z => absurd (by decide) z))
    refine sX5_layTrade_32 (fun z => ?_) (fun _ => sX5_layTrade_38 ?_)
    · rw [show (25 : Int32) = nI 25 from rfl, nI_leI (by omega) (by omega)] at z; omega
    rw [show nI i - nI i / 5 * 5 = nI (i % 5) from pk_rem (d := 5) (by omega) (by omega) (by omega), show nI i / 5 = nI (i / 5) from pk_div (d := 5) (by omega) (by omega) (by omega)]
    refine ev_asTheyAre (fun f' hf' => ?_)
    have vi : vp_in (nI (i / 5)) 5 := vp_in_nI (by omega) (by omega)
    have vj : vp_in (nI (i % 5)) 5 := vp_in_nI (by omega) (by omega)
    have hN0 := NW_as (hI.keep g1) hf'
    have hI0 : MI a (setA g 21 f') := (hI.keep g1).keep (MK.setA (by decide) (by decide))
    have hN : NW (swp (aV a) (i / 5) (i % 5)) (upd2 (upd2 (setA g 21 f').1 21 (i / 5) ((setA g 21 f').1 19 (i % 5))) 21 (i % 5) ((setA g 21 f').1 19 (i / 5)), (setA g 21 f').2) := fun m hm => by
      show upd2 (upd2 (setA g 21 f').1 21 (i / 5) ((setA g 21 f').1 19 (i % 5))) 21 (i % 5) ((setA g 21 f').1 19 (i / 5)) 21 m = _
      rw [upd2_self, upd2_self]
      unfold upd swp
      by_cases e1 : m = i % 5
      · rw [if_pos e1, if_pos e1]; exact hI0.aim (by omega)
      · rw [if_neg e1, if_neg e1]
        by_cases e2 : m = i / 5
        · rw [if_pos e2, if_pos e2]; exact hI0.aim (by omega)
        · rw [if_neg e2, if_neg e2]; exact hN0 m hm
    have hK : MK g (upd2 (upd2 (setA g 21 f').1 21 (i / 5) ((setA g 21 f').1 19 (i % 5))) 21 (i % 5) ((setA g 21 f').1 19 (i / 5)), (setA g 21 f').2) := by
      have e : (upd2 (upd2 (setA g 21 f').1 21 (i / 5) ((setA g 21 f').1 19 (i % 5))) 21 (i % 5) ((setA g 21 f').1 19 (i / 5)), (setA g 21 f').2) = setA g 21 (upd (upd f' (i / 5) (g.1 19 (i % 5))) (i % 5) (g.1 19 (i / 5))) := by
        have := setA_upd g 21 (i / 5) f' (g.1 19 (i % 5))
        have e2 := setA_upd g 21 (i % 5) (upd f' (i / 5) (g.1 19 (i % 5))) (g.1 19 (i / 5))
        rw [← this] at e2
        exact e2.trans rfl
      rw [e]
      exact MK.setA (by decide) (by decide)
    have h15 : (upd2 (upd2 (setA g 21 f').1 21 (i / 5) ((setA g 21 f').1 19 (i % 5))) 21 (i % 5) ((setA g 21 f').1 19 (i / 5)), (setA g 21 f').2).1 15 = g.1 15 := rfl
    have hoc : ∀ c, c ≠ 21 → (upd2 (upd2 (setA g 21 f').1 21 (i / 5) ((setA g 21 f').1 19 (i % 5))) 21 (i % 5) ((setA g 21 f').1 19 (i / 5)), (setA g 21 f').2).1 c = g.1 c := fun c hc => by
      show upd2 (upd2 (setA g 21 f').1 21 (i / 5) _) 21 (i % 5) _ c = _
      rw [upd2_ne hc, upd2_ne hc, setA_ne hc]
    have h2 : (upd2 (upd2 (setA g 21 f').1 21 (i / 5) ((setA g 21 f').1 19 (i % 5))) 21 (i % 5) ((setA g 21 f').1 19 (i / 5)), (setA g 21 f').2).2 = g.2 := rfl
    refine sX5_layTrade_51 vj vi vi vj ?_ ?_
    all_goals rw [nI_clamp (by omega), nI_clamp (by omega)]
    all_goals generalize (upd2 (upd2 (setA g 21 f').1 21 (i / 5) ((setA g 21 f').1 19 (i % 5))) 21 (i % 5) ((setA g 21 f').1 19 (i / 5)), (setA g 21 f').2) = w at hN hK h15 hoc h2 ⊢
    all_goals have hKw := g1.trans hK
    all_goals have hIw := hI.keep hKw
    all_goals have hswb : ∀ m, swp (aV a) (i / 5) (i % 5) m < 100 := (fun m => by unfold swp; split; exact hvb _; split; exact hvb _; exact hvb _)
    all_goals have stay : tg a i ≤ (TR a i).1 → G 3 mX5_layTrade post 200 [some (.ref 15), some (.int (nI (CT a (aV a) (aH a)))), some (.int (nI i)), none, none, none, none] [] w := (fun q => by
      refine sX5_layTrade_200 ?_
      rw [nI_1]
      refine ih w hKw (h2.trans g2) ?_ (fun j j1 j2 j3 => by rw [h15]; exact g4 j j1 j2 j3) (fun c c1 c2 => by rw [hoc c c2]; exact g5 c c1 c2)
      rw [TR, if_neg (by omega)]
      unfold TL
      rw [h15]
      exact g3)
    all_goals have dead : tg a i = 0 → G 3 mX5_layTrade post 143 [some (.ref 15), some (.int (nI (CT a (aV a) (aH a)))), some (.int (nI i)), some (.int (nI (i / 5))), some (.int (nI (i % 5))), none, none] [] w := (fun q =>
      sX5_layTrade_143 (ev_caught hIw hw hN hswb (sX5_layTrade_150 (fun _ => stay (by omega)) (fun z => absurd rfl z))))
    · intro z
      rw [nI_leI (by omega) (by omega)] at z
      exact dead (by unfold tg; rw [if_neg (fun y => by have := y.1; omega)])
    · intro z
      rw [nI_leI (by omega) (by omega)] at z
      refine sX5_layTrade_83 (ev_isMirror hIw hw (sX5_layTrade_89 (fun y => dead ?_) (fun y => ?_)))
      · rw [b2i_0] at y
        unfold tg
        rw [if_neg (fun r => ?_)]
        rw [ix_nI r.2.1 (by omega)] at y
        cases y
      · rw [b2i_n] at y
        have y : i % 5 < aN a := by
          apply Classical.byContradiction
          intro r
          rw [ix_nI' (by omega) (by omega)] at y
          cases y
        refine sX5_layTrade_92 vi vj (fun r => dead ?_) (fun r => sX5_layTrade_108 ?_)
        all_goals rw [nI_clamp (by omega), nI_clamp (by omega), hIw.aim (by omega), hIw.aim (by omega)] at r
        · have e : nI (aV a (i / 5)) = nI (aV a (i % 5)) := by
            have := congrArg (fun z : Int32 => z + 1) r
            simpa [Int32.sub_add_cancel] using this
          have e := (nI_eq (by have := hvb (i / 5); omega) (by have := hvb (i % 5); omega)).mp e
          unfold tg
          rw [if_neg (fun t => t.2.2.2.2.1 e)]
        · have r : aV a (i / 5) ≠ aV a (i % 5) := fun e => r (by rw [e])
          rw [hIw.sk]
          refine ev_has (by have := hw.sk; omega) (by omega) (sX5_layTrade_116 (fun t => dead ?_) (fun t => sX5_layTrade_119 ?_))
          · rw [b2i_n] at t
            unfold tg
            rw [if_neg (fun u => by have := u.2.2.1; rw [t] at this; cases this)]
          rw [b2i_0] at t
          rw [hIw.sk]
          refine ev_has (by have := hw.sk; omega) (by omega) (sX5_layTrade_128 (fun t2 => dead ?_) (fun t2 => sX5_layTrade_131 (ev_isGood (st := false) hIw hw hN hswb (sX5_layTrade_136 (fun t3 => dead ?_) (fun t3 => sX5_layTrade_139 (ev_caught hIw hw hN hswb (sX5_layTrade_150 (fun e => absurd e (by decide)) (fun _ => ?_))))))))
          · rw [b2i_n] at t2
            unfold tg
            rw [if_neg (fun u => by have := u.2.2.2.1; rw [t2] at this; cases this)]
          · rw [b2i_0] at t3
            have t3 : SF a (swp (aV a) (i / 5) (i % 5)) (aH a) = false := t3
            unfold tg
            rw [if_neg (fun u => by have := u.2.2.2.2.2; rw [t3] at this; cases this)]
          · rw [b2i_0] at t2
            rw [b2i_n] at t3
            have t3 : SF a (swp (aV a) (i / 5) (i % 5)) (aH a) = true := t3
            have etg : tg a i = CT a (swp (aV a) (i / 5) (i % 5)) (aH a) - CT a (aV a) (aH a) := by
              unfold tg
              rw [if_pos ⟨by omega, y, t, t2, r, t3⟩]
            have hct : CT a (swp (aV a) (i / 5) (i % 5)) (aH a) ≤ 180 := CT_le hw _ _
            have hT := TR_le hw i
            refine sX5_layTrade_159 (fun u => stay ?_) (fun u => ?_)
            · rw [Int32.le_iff_toInt_le, pk_sub_toInt (by omega) (by omega), Int32.toInt_zero] at u
              omega
            · rw [Int32.le_iff_toInt_le, pk_sub_toInt (by omega) (by omega), Int32.toInt_zero] at u
              rw [pk_sub (by omega), ← etg]
              have take : (TR a i).1 < tg a i → G 3 mX5_layTrade post 183 [some (.ref 15), some (.int (nI (CT a (aV a) (aH a)))), some (.int (nI i)), some (.int (nI (i / 5))), some (.int (nI (i % 5))), none, some (.int (nI (tg a i)))] [] w := fun q => by
                refine sX5_layTrade_183 (sX5_layTrade_200 ?_)
                rw [nI_1]
                have k3 : ∀ j, j ≠ 20 → j ≠ 21 → j ≠ 22 → upd2 (upd2 (upd2 w.1 15 20 (nI (tg a i))) 15 21 (nI (i / 5))) 15 22 (nI (i % 5)) 15 j = w.1 15 j := fun j h1 h2 h3 => by
                  rw [upd2_self, pk_un h3, upd2_self, pk_un h2, upd2_self, pk_un h1]
                refine ih _ (hKw.trans ⟨fun c h1 _ _ _ _ _ => ?_, fun j _ _ _ h20 h21 h22 => k3 j h20 h21 h22⟩) (h2.trans g2) ?_ (fun j h1 h2 h3 => (k3 j h1 h2 h3).trans (by rw [h15]; exact g4 j h1 h2 h3)) (fun c h1 h2 => ?_)
                · show upd2 (upd2 (upd2 w.1 15 20 _) 15 21 _) 15 22 _ c = _
                  rw [upd2_ne h1, upd2_ne h1, upd2_ne h1]
                · rw [TR, if_pos q]
                  have hz : ¬ (tg a i, i).1 = 0 := by show ¬ tg a i = 0; omega
                  refine ⟨?_, ?_, ?_⟩
                  all_goals
                    unfold trO
                    rw [if_neg hz]
                    rfl
                · show upd2 (upd2 (upd2 w.1 15 20 _) 15 21 _) 15 22 _ c = _
                  rw [upd2_ne h1, upd2_ne h1, upd2_ne h1, hoc c h2]
                  exact g5 c h1 h2
              have e20 : w.1 15 20 = trO (TR a i) 0 := by rw [h15]; exact g3.1
              refine sX5_layTrade_164 (fun v => ?_) (fun v => ?_)
              · rw [e20] at v
                unfold trO at v
                by_cases hz : (TR a i).1 = 0
                · exact take (by omega)
                · rw [if_neg hz, if_pos rfl] at v
                  exact absurd v (nI_n1001 (by omega))
              · rw [e20] at v
                unfold trO at v
                by_cases hz : (TR a i).1 = 0
                · rw [if_pos hz] at v; exact absurd rfl v
                · have e : trO (TR a i) 0 = nI (TR a i).1 := by unfold trO; rw [if_neg hz, if_pos rfl]
                  refine sX5_layTrade_174 (fun x => ?_) (fun x => ?_)
                  · rw [e20, e, nI_leI (by omega) (by omega)] at x
                    exact stay x
                  · rw [e20, e, nI_leI (by omega) (by omega)] at x
                    exact take (by omega)
  refine Ev.intro rfl (Nat.le_of_ble_eq_true rfl) (sX5_layTrade_0 (ev_asTheyAre (fun f' hf' => sX5_layTrade_4 ?_)))
  have hK0 : MK h (setA h 21 f') := MK.setA (by decide) (by decide)
  refine ev_caught (hI.keep hK0) hw (NW_as hI hf') hvb (sX5_layTrade_8 ?_)
  have k3 : ∀ j, j ≠ 20 → j ≠ 21 → j ≠ 22 → upd2 (upd2 (upd2 (setA h 21 f').1 15 20 (-1001)) 15 21 (-1001)) 15 22 (-1001) 15 j = h.1 15 j := fun j h1 h2 h3 => by
    rw [upd2_self, pk_un h3, upd2_self, pk_un h2, upd2_self, pk_un h1]
    rfl
  refine hS 0 (Nat.zero_le _) _ ⟨fun c h1 h2 _ _ _ _ => ?_, fun j _ _ _ h20 h21 h22 => k3 j h20 h21 h22⟩ rfl ⟨rfl, rfl, rfl⟩ k3 (fun c h1 h2 => ?_)
  all_goals
    show upd2 (upd2 (upd2 (setA h 21 f').1 15 20 (-1001)) 15 21 (-1001)) 15 22 (-1001) c = _
    rw [upd2_ne h1, upd2_ne h1, upd2_ne h1, setA_ne h2]
theorem ev_tradeNow {w : Int32} (hT : TL (TR a 25) h) (k : post (some (.int (tradeA a w.toInt))) h) : Ev 0 mX5_tradeNow [.ref 15, .int w] h post := by
  have t : ∀ n : Int32, w = n ↔ w.toInt = n.toInt := fun n => Int32.toInt_inj.symm
  have k : post (some (.int (trO (TR a 25) w.toInt))) h := k
  refine Ev.intro rfl (Nat.le_of_ble_eq_true rfl) (sX5_tradeNow_0 (fun z => sX5_tradeNow_11 (fun z1 => sX5_tradeNow_23 ?_) (fun z1 => sX5_tradeNow_16 ?_)) (fun z => sX5_tradeNow_4 ?_))
  · rw [t, show Int32.toInt 0 = 0 by decide] at z
    rw [t, show Int32.toInt 1 = 1 by decide] at z1
    rw [hT.2.2]
    unfold trO at k ⊢
    rw [if_neg z, if_neg z1] at k
    exact k
  · rw [z1] at k
    rw [hT.2.1]; exact k
  · rw [z] at k
    rw [hT.1]; exact k
theorem cy_trade {w : Int32} (Y : YI s h) (k : ∀ h', YI s h' → FrY h h' → post (some (.int (tradeS s w))) h') : Ev 4 mX5_trade [.ref 15, .int w] h post := by
  obtain ⟨hw, hI, hg, hf, hf2⟩ := id Y
  have h5 := hw.1
  refine Ev.intro rfl (Nat.le_of_ble_eq_true rfl) (sX5_trade_0 (fun q => sX5_trade_11 (ev_within (sX5_trade_17 (fun q1 => sX5_trade_24 ?_) (fun q1 => sX5_trade_20 ?_)))) (fun q => sX5_trade_7 ?_))
  all_goals rw [hI.n, show (0 : Int32) = nI 0 from rfl, nI_eq (by omega) (by omega)] at q
  · have q1 := win_t q1
    rw [w_in, show Int32.toInt 0 = 0 by decide, show Int32.toInt 2 = 2 by decide] at q1
    refine ev_layTrade hI hw (by omega) (fun h' K _ hT _ _ => sX5_trade_28 (ev_tradeNow hT (sX5_trade_33 ?_)))
    have k := k h' (Y.keep K) K.fr
    unfold tradeS at k
    rw [if_neg q, if_neg (by omega)] at k
    exact k
  · have q1 := win_f q1
    rw [w_in, show Int32.toInt 0 = 0 by decide, show Int32.toInt 2 = 2 by decide] at q1
    have k := k h Y (FrY.rf h)
    unfold tradeS at k
    rw [if_neg q, if_pos (by omega)] at k
    exact k
  · have k := k h Y (FrY.rf h)
    unfold tradeS at k
    rw [if_pos q] at k
    exact k
theorem ev_ones {o : Nat} (ho : o < 32) (k : post (some (.int (nI (pcn o)))) h) : Ev 0 mX5_ones [.int (nI o)] h post := by
  refine Ev.intro rfl (Nat.le_of_ble_eq_true rfl) (sX5_ones_0 ?_)
  refine loopU (S := fun i => G 0 mX5_ones post 4 [some (.int (nI o)), some (.int (nI (cnt (fun i => o.testBit i) i))), some (.int (nI i))] [] h) 5 (fun i hi ih => ?_) ?_ 0 (Nat.zero_le _)
  · refine sX5_ones_4 (fun z => ?_) (fun _ => sX5_ones_9 ?_)
    · rw [show (5 : Int32) = nI 5 from rfl, nI_leI (by omega) (by omega)] at z; omega
    rw [bit_read (by omega) (by omega), nI_1]
    have e : nI (cnt (fun i => o.testBit i) i) + b2i (o.testBit i) = nI (cnt (fun i => o.testBit i) (i + 1)) := by
      show _ = nI (cnt (fun i => o.testBit i) i + if o.testBit i then 1 else 0)
      cases o.testBit i
      · exact Int32.add_zero _
      · exact nI_1 _
    rw [e]
    exact ih
  · exact sX5_ones_4 (fun _ => sX5_ones_23 k) (fun z => absurd (by decide) z)
theorem ev_reliefNow (hI : MI a h) (hw : WF a) (hn : 0 < aN a) (k : ∀ h', MK h h' → h'.2 = h.2 → post (some (.int (rlV (RLf a (2 ^ aN a))))) h') : Ev 3 mX5_reliefNow [.ref 15] h post := by
  have h5 := hw.1
  have h4 := hw.2.1
  have h32 := two5 h5
  have hvb : ∀ m, aV a m < 100 := fun m => by have := (hw.2.2.2.1 m).2.2.1; omega
  refine Ev.intro rfl (Nat.le_of_ble_eq_true rfl) (sX5_reliefNow_0 ?_)
  have hS : ∀ i, i ≤ 2 ^ aN a → ∀ g, MK h g → g.2 = h.2 → G 3 mX5_reliefNow post 8 [some (.ref 15), some (.int (rlV (RLf a i))), some (.int (nI (RLf a i).2.2)), some (.int (nI i)), none, none] [] g := by
    refine loopU (2 ^ aN a) (fun i hi ih g g1 g2 => ?_) (fun g g1 g2 => sX5_reliefNow_8 (fun _ => sX5_reliefNow_165 (k g g1 g2)) (fun z => absurd (by rw [(hI.keep g1).n, sh2 _ (by omega)]; exact nI_le (Nat.le_refl _) (by omega)) z))
    have hIg := hI.keep g1
    refine sX5_reliefNow_8 (fun z => ?_) (fun _ => sX5_reliefNow_18 (ev_asTheyAre (fun f' hf' => sX5_reliefNow_22 ?_)))
    · rw [hIg.n, sh2 _ (by omega), nI_leI (by omega) (by omega)] at z; omega
    have main : ∀ w, MK g w → w.2 = g.2 → NW (rmv a i) w → G 3 mX5_reliefNow post 67 [some (.ref 15), some (.int (rlV (RLf a i))), some (.int (nI (RLf a i).2.2)), some (.int (nI i)), none, none] [] w := by
      intro w hK hw2 hN
      have hKw := g1.trans hK
      have hIw := hI.keep hKw
      have hrb : ∀ m, rmv a i m < 100 := fun m => by unfold rmv; split; omega; exact hvb m
      have hR := RL_le hw i (by omega)
      have hinv := RL_inv (a := a) i
      have hpc := pcn_le i (by omega)
      have hct := CT_le hw (aV a) (aH a ||| i)
      have skip : ¬ (i &&& aK a = 0 ∧ SF a (aV a) (aH a ||| i) = true ∧ (pcn i < (RLf a i).2.1 ∨ pcn i = (RLf a i).2.1 ∧ (RLf a i).2.2 < CT a (aV a) (aH a ||| i))) → G 3 mX5_reliefNow post 159 [some (.ref 15), some (.int (rlV (RLf a i))), some (.int (nI (RLf a i).2.2)), some (.int (nI i)), none, none] [] w := fun q => by
        refine sX5_reliefNow_159 ?_
        rw [nI_1]
        have ih := ih w hKw (hw2.trans g2)
        rw [RLf, if_neg q] at ih
        exact ih
      have andk : nI i &&& w.1 15 9 = 0 ↔ i &&& aK a = 0 := by
        rw [hIw.sk, fa_and', show (0 : Int32) = nI 0 from rfl, nI_eq (Nat.lt_of_le_of_lt Nat.and_le_left (by omega)) (by omega)]
      have take : i &&& aK a = 0 → SF a (aV a) (aH a ||| i) = true → (pcn i < (RLf a i).2.1 ∨ pcn i = (RLf a i).2.1 ∧ (RLf a i).2.2 < CT a (aV a) (aH a ||| i)) → G 3 mX5_reliefNow post 152 [some (.ref 15), none, none, some (.int (nI i)), none, none] [] w := fun q1 q2 q3 => by
        refine sX5_reliefNow_152 (ev_caught hIw hw hN hrb (sX5_reliefNow_158 (sX5_reliefNow_159 ?_)))
        rw [nI_1, CT_rmv]
        have ih := ih w hKw (hw2.trans g2)
        rw [RLf, if_pos ⟨q1, q2, q3⟩] at ih
        have e : rlV (i + 1, pcn i, CT a (aV a) (aH a ||| i)) = nI i := by
          unfold rlV
          rw [if_neg (by show ¬ i + 1 = 0; omega)]
          rfl
        rw [e] at ih
        exact ih
      have s134 : ∀ x4 x5 : Int32, (¬ x4 = 0 ↔ pcn i < (RLf a i).2.1) → (¬ x5 = 0 ↔ pcn i = (RLf a i).2.1 ∧ (RLf a i).2.2 < CT a (aV a) (aH a ||| i)) → i &&& aK a = 0 → G 3 mX5_reliefNow post 134 [some (.ref 15), some (.int (rlV (RLf a i))), some (.int (nI (RLf a i).2.2)), some (.int (nI i)), some (.int x4), some (.int x5)] [] w := by
        intro x4 x5 e4 e5 q
        refine sX5_reliefNow_134 (ev_isGood (st := false) hIw hw hN hrb ?_)
        have eSF : SF a (rmv a i) (dk a false) = SF a (aV a) (aH a ||| i) := SF_rmv a i
        rw [eSF]
        refine sX5_reliefNow_139 (fun z => skip ?_) (fun z => sX5_reliefNow_142 (fun y => ?_) (fun y => sX5_reliefNow_147 (fun v => skip ?_) (fun v => ?_)))
        · rw [b2i_0] at z
          intro t
          rw [z] at t; cases t.2.1
        · rw [b2i_n] at z
          exact take q z (Or.inl (e4.mp y))
        · intro t
          rcases t.2.2 with t | t
          · exact e4.mpr t y
          · exact e5.mpr t v
        · rw [b2i_n] at z
          exact take q z (Or.inr (e5.mp v))
      have s122 : ∀ x4 : Int32, (¬ x4 = 0 ↔ pcn i < (RLf a i).2.1) → ¬ (pcn i = (RLf a i).2.1 ∧ (RLf a i).2.2 < CT a (aV a) (aH a ||| i)) → G 3 mX5_reliefNow post 122 [some (.ref 15), some (.int (rlV (RLf a i))), some (.int (nI (RLf a i).2.2)), some (.int (nI i)), some (.int x4), none] [] w := by
        intro x4 e4 q
        refine sX5_reliefNow_122 (fun z => skip (fun t => z (andk.mpr t.1))) (fun z => s134 x4 0 e4 ⟨fun t => absurd rfl t, fun t => absurd t q⟩ (andk.mp z))
      have eb : (RLf a i).1 ≠ 0 → rlV (RLf a i) = nI ((RLf a i).1 - 1) := fun q => if_neg q
      have en1 : rlV (RLf a i) = -1001 ↔ (RLf a i).1 = 0 := by
        constructor
        · intro e
          apply Classical.byContradiction
          intro q
          rw [eb q] at e
          exact nI_n1001 (by omega) e
        · intro q; exact if_pos q
      have s99 : ∀ x4 : Int32, (¬ x4 = 0 ↔ pcn i < (RLf a i).2.1) → (RLf a i).1 ≠ 0 → G 3 mX5_reliefNow post 99 [some (.ref 15), some (.int (rlV (RLf a i))), some (.int (nI (RLf a i).2.2)), some (.int (nI i)), some (.int x4), none] [] w := by
        intro x4 e4 q
        refine sX5_reliefNow_99 (ev_ones (by omega) (sX5_reliefNow_103 ?_))
        have hp := hinv.2 q
        rw [eb q]
        refine ev_ones (by omega) ?_
        rw [← eb q, ← hp]
        refine sX5_reliefNow_107 (fun z => ?_) (fun z => sX5_reliefNow_110 (ev_caught hIw hw hN hrb ?_))
        · rw [nI_eq (by omega) (by omega)] at z
          exact s122 x4 e4 (fun t => z t.1)
        · rw [nI_eq (by omega) (by omega)] at z
          rw [CT_rmv]
          refine sX5_reliefNow_114 (fun y => ?_) (fun y => ?_)
          · rw [nI_leI (by omega) (by omega)] at y
            exact s122 x4 e4 (fun t => by omega)
          · rw [nI_leI (by omega) (by omega)] at y
            exact sX5_reliefNow_118 (fun z => skip (fun t => z (andk.mpr t.1))) (fun v => s134 x4 1 e4 ⟨fun _ => ⟨z, by omega⟩, fun _ => by decide⟩ (andk.mp v))
      refine sX5_reliefNow_67 (fun z => sX5_reliefNow_85 (fun _ => ?_) (fun y => absurd z y)) (fun z => sX5_reliefNow_74 ?_)
      · have z := en1.mp z
        have z6 := hinv.1 z
        exact s122 1 ⟨fun _ => by omega, fun _ => by decide⟩ (fun t => by omega)
      · have q : (RLf a i).1 ≠ 0 := fun e => z (en1.mpr e)
        have hp := hinv.2 q
        refine ev_ones (by omega) (sX5_reliefNow_78 ?_)
        rw [eb q]
        refine ev_ones (by omega) ?_
        rw [← eb q, ← hp]
        refine sX5_reliefNow_82 (fun y => sX5_reliefNow_89 (fun e => absurd e z) (fun _ => ?_)) (fun y => sX5_reliefNow_85 (fun e => absurd e z) (fun _ => ?_))
        · rw [nI_leI (by omega) (by omega)] at y
          exact s99 0 ⟨fun t => absurd rfl t, fun t => by omega⟩ q
        · rw [nI_leI (by omega) (by omega)] at y
          exact s99 1 ⟨fun _ => by omega, fun _ => by decide⟩ q
    have hJ : ∀ m, m ≤ aN a → ∀ f, (∀ j, j < 5 → f j = nI (if j < m ∧ i.testBit j = true then 0 else aV a j) - 1) → G 3 mX5_reliefNow post 25 [some (.ref 15), some (.int (rlV (RLf a i))), some (.int (nI (RLf a i).2.2)), some (.int (nI i)), some (.int (nI m)), none] [] (setA g 21 f) := by
      refine loopU (aN a) (fun m hm jh f hf => ?_) (fun f hf => ?_)
      · have hn : (setA g 21 f).1 15 2 = nI (aN a) := hIg.n
        have vm : vp_in (nI m) 5 := vp_in_nI (by omega) (by omega)
        refine sX5_reliefNow_25 (fun z => ?_) (fun _ => sX5_reliefNow_34 (ev_has (by omega) (by omega) (sX5_reliefNow_46 (fun z => sX5_reliefNow_53 vm vm ?_) (fun z => sX5_reliefNow_49 vm ?_))))
        · rw [hn, nI_leI (by omega) (by omega)] at z; omega
        · rw [b2i_0] at z
          rw [nI_clamp (by omega), setA_upd, nI_1]
          refine jh _ (fun j hj => ?_)
          by_cases e : j = m
          · subst e
            rw [pk_us, setA_self, hf j hj, if_neg (by omega), if_neg (by rw [z]; simp)]
          · rw [pk_un e, hf j hj]
            by_cases e2 : j < m
            · by_cases e3 : i.testBit j = true
              · rw [if_pos ⟨e2, e3⟩, if_pos ⟨by omega, e3⟩]
              · rw [if_neg (fun t => e3 t.2), if_neg (fun t => e3 t.2)]
            · rw [if_neg (fun t => e2 t.1), if_neg (fun t => by omega)]
        · rw [b2i_n] at z
          rw [nI_clamp (by omega), setA_upd, nI_1]
          refine jh _ (fun j hj => ?_)
          by_cases e : j = m
          · subst e
            rw [pk_us, if_pos ⟨by omega, z⟩]
            decide
          · rw [pk_un e, hf j hj]
            by_cases e2 : j < m
            · by_cases e3 : i.testBit j = true
              · rw [if_pos ⟨e2, e3⟩, if_pos ⟨by omega, e3⟩]
              · rw [if_neg (fun t => e3 t.2), if_neg (fun t => e3 t.2)]
            · rw [if_neg (fun t => e2 t.1), if_neg (fun t => by omega)]
      · refine sX5_reliefNow_25 (fun _ => main _ (MK.setA (by decide) (by decide)) rfl (fun j hj => ?_)) (fun z => absurd (by show (setA g 21 f).1 15 2 ≤ _; rw [show (setA g 21 f).1 15 2 = nI (aN a) from hIg.n]; exact nI_le (Nat.le_refl _) (by omega)) z)
        rw [setA_self, hf j hj]
        unfold rmv
        by_cases e3 : i.testBit j = true
        · have : j < aN a := by
            apply Classical.byContradiction
            intro q
            have := Nat.testBit_lt_two_pow (Nat.lt_of_lt_of_le hi (Nat.pow_le_pow_right (by omega) (show aN a ≤ j by omega)))
            rw [this] at e3
            cases e3
          rw [if_pos ⟨this, e3⟩, if_pos e3]
        · rw [if_neg (fun t => e3 t.2), if_neg e3]
    refine hJ 0 (Nat.zero_le _) f' (fun j hj => ?_)
    rw [hf' j hj, if_neg (by omega)]
    exact hIg.aim hj
  exact hS 0 (Nat.zero_le _) h (MK.rf h) rfl
theorem cy_relief (Y : YI s h) (k : ∀ h', YI s h' → FrY h h' → post (some (.int (reliefS s))) h') : Ev 4 mX5_relief [.ref 15] h post := by
  obtain ⟨hw, hI, hg, hf, hf2⟩ := id Y
  have h5 := hw.1
  refine Ev.intro rfl (Nat.le_of_ble_eq_true rfl) (sX5_relief_0 (fun q => sX5_relief_13 (ev_reliefNow hI hw (Nat.pos_of_ne_zero (fun z => q (by rw [hI.n, z]; rfl))) (fun h' K _ => sX5_relief_17 ?_))) (fun q => sX5_relief_7 ?_))
  all_goals rw [hI.n, show (0 : Int32) = nI 0 from rfl, nI_eq (by omega) (by omega)] at q
  · have k := k h' (Y.keep K) K.fr
    unfold reliefS at k
    rw [if_neg q] at k
    exact k
  · have k := k h Y (FrY.rf h)
    unfold reliefS at k
    rw [if_pos q] at k
    exact k
end MD4
