/-! the class's calls: best, change, go -/
theorem ld_false {P : Nat → Bool} : ∀ n, ld P n < n → P (ld P n) = false
  | 0, h => by omega
  | n + 1, h => by
    rw [ld] at h ⊢
    split
    · rename_i q; rw [if_pos q] at h; omega
    · rename_i q
      rw [if_neg q] at h
      by_cases e : ld P n = n
      · rw [e]
        cases hb : P n with
        | false => rfl
        | true => exact absurd ⟨e, hb⟩ q
      · exact ld_false n (by have := ld_le (P := P) n; omega)
theorem mvF_spec {a : St} {st : Bool} {b c k : Nat} (h : mvF a st b c k < 40) : mvP a st b c k (mvF a st b c k) := by
  have := ld_false 40 h
  have e : (!pB (mvP a st b c k (mvF a st b c k))) = false := this
  cases hb : pB (mvP a st b c k (mvF a st b c k)) with
  | false => rw [hb] at e; cases e
  | true => exact pB_t.mp hb
theorem chN_le (a : St) (st : Bool) : chN a st ≤ 3126 := by
  unfold chN
  split
  · omega
  · split
    · omega
    · split
      · omega
      · omega
theorem chV_first {a : St} {st : Bool} (h : 1 < chN a st) : chV a st 0 < 40 ∧ chV a st 0 / 8 < aN a ∧ chV a st 0 % 8 ≤ aP a := by
  have h1 : (bsF a st).1 ≠ 0 := fun e => by rw [chN, if_pos e] at h; omega
  have h2 : cod (aV a) ≠ (bsF a st).2 := fun e => by rw [chN, if_neg h1, if_pos e] at h; omega
  have h3 : chK a st < 3125 := by
    apply Classical.byContradiction
    intro e
    rw [chN, if_neg h1, if_neg h2, if_neg e] at h
    omega
  have h4 : chN a st = chK a st + 2 := by rw [chN, if_neg h1, if_neg h2, if_pos h3]
  have h5 := ld_false 3125 h3
  have h6 : mvF a st (bsF a st).2 (cod (aV a)) (chK a st) < 40 := by
    have h5 : (!decide (mvF a st (bsF a st).2 (cod (aV a)) (chK a st) < 40)) = false := h5
    simpa using h5
  have e : chV a st 0 = mvF a st (bsF a st).2 (cod (aV a)) (chK a st) := by
    unfold chV
    rw [h4, pth, show chK a st + 2 - 2 - 0 = chK a st by omega]
  rw [e]
  have := mvF_spec h6
  exact ⟨h6, this.1, this.2.1⟩
theorem toInt_eq {w : Int32} {n : Int} (c : Int32) (hc : c.toInt = n) : w = c ↔ w.toInt = n := by
  rw [← hc]; exact Int32.toInt_inj.symm
theorem w10 {w : Int32} (h1 : 10 ≤ w.toInt) (h2 : w.toInt ≤ 30) : w - 10 = nI (w.toInt - 10).toNat := by
  have e : w = nI w.toInt.toNat := by
    apply Int32.toInt_inj.mp
    rw [nI_toInt (by omega)]
    omega
  rw [show (w.toInt - 10).toNat = w.toInt.toNat - 10 by omega, ← pk_sub (by omega), ← e]
  rfl
theorem PI1.same1 {a : St} {st : Bool} {h h' : PH} (c : PI1 a st h) (e1 : h'.1 (pcell st) = h.1 (pcell st)) (e2 : h'.1 (pmov st) = h.1 (pmov st)) : PI1 a st h' := by
  unfold PI1 at c ⊢
  rw [e1, e2]
  exact c
theorem ev_forget' {post : Option Value → PH → Prop} {h : PH} (k : ∀ h', FG h h' → h'.1 4 6 = h.1 4 6 → h'.1 5 6 = h.1 5 6 → post none h') : Ev 0 mX2_forget [.ref 3] h post := by
  refine Ev.intro rfl (Nat.le_of_ble_eq_true rfl) (sX2_forget_0 (k _ ?_ rfl rfl))
  refine ⟨fun c h4 h5 => ?_, rfl, rfl, rfl, rfl, rfl, rfl, rfl⟩
  show upd2 (upd2 (upd2 (upd2 h.1 4 2 0) 4 3 0) 5 2 0) 5 3 0 c = h.1 c
  rw [upd2_ne h5, upd2_ne h5, upd2_ne h4, upd2_ne h4]
section PB44
variable {post : Option Value → PH → Prop} {h : PH} {s : Ab}
theorem XI.plan4 {s : Ab} {h h' : PH} (X : XI s h) (K : KP4 h h') (P : PI1 s.1 false h') : XI s h' ∧ FrX h h' := by
  obtain ⟨hw, hc, hg, hf, hf2, hp, hp2⟩ := id X
  refine ⟨⟨hw, hc.same (fun z hz => K.1 z (by omega) (by omega) (by omega)), hg.same (fun z hz => K.1 z (by omega) (by omega) (by omega)), by rw [K.1 0 (by decide) (by decide) (by decide)]; exact hf, by rw [K.1 0 (by decide) (by decide) (by decide)]; exact hf2, ?_, ?_⟩, ⟨fun z hz => K.1 z (by omega) (by omega) (by omega), K.2⟩⟩
  · exact P
  · exact hp2.same1 (K.1 5 (by decide) (by decide) (by decide)) (K.1 14 (by decide) (by decide) (by decide))
theorem ev_moveAt4 {a : St} {j : Nat} (hj : j < 15) (h6 : h.1 4 6 = chM a false) (hF : ∀ j, j < 15 → j + 1 < chN a false → h.1 13 j = nI (chV a false j)) (k : post (some (.int (if j + 1 < chN a false then nI (chV a false j) else -1001))) h) : Ev 0 mX1_moveAt [.ref 4, .int (nI j)] h post := by
  have hN := chN_le a false
  refine Ev.intro rfl (Nat.le_of_ble_eq_true rfl) (sX1_moveAt_0_p4 (fun q => absurd q (nI_pos (by omega))) (fun _ => sX1_moveAt_4_p4 (fun q => sX1_moveAt_30_p4 ?_) (fun q => sX1_moveAt_12_p4 (fun q2 => ?_) (fun _ => sX1_moveAt_21_p4 (vp_in_nI hj (by omega)) ?_))))
  · rw [h6, chM] at q
    rw [if_neg (fun z => ?_)] at k
    · exact k
    · rw [if_neg (by omega), nI_leI (by omega) (by omega)] at q
      omega
  · rw [show (15 : Int32) = nI 15 from rfl, nI_leI (by omega) (by omega)] at q2; omega
  · rw [h6, chM] at q
    have hlt : j + 1 < chN a false := by
      apply Classical.byContradiction
      intro z
      apply q
      by_cases e : chN a false = 0
      · rw [if_pos e, Int32.le_iff_toInt_le, nI_toInt (by omega), show (-1001 : Int32).toInt = -1001 by decide]; omega
      · rw [if_neg e, nI_leI (by omega) (by omega)]; omega
    rw [if_pos hlt] at k
    rw [nI_clamp (by omega), hF j hj hlt]
    exact k
theorem cx_best4 {w : Int32} (X : XI s h) (k : ∀ h', XI s h' → FrX h h' → post (some (.int (bestS s false w))) h') : Ev 10 mX4_best [.ref 0, .int (b2i false), .int w] h post := by
  obtain ⟨hw, hc, hg, hf, hf2, hp, hp2⟩ := id X
  have h5 := hw.1
  have t0 := toInt_eq (w := w) 0 (n := 0) (by decide)
  have t1 := toInt_eq (w := w) 1 (n := 1) (by decide)
  refine Ev.intro rfl (Nat.le_of_ble_eq_true rfl) (sX4_best_0 (ev_isRead hc hw (sX4_best_7 (fun q => ?_) (fun q => sX4_best_10 ?_))))
  · rw [b2i_n, decide_eq_true_iff] at q
    have go : (w.toInt = 0 ∨ w.toInt = 1 ∨ 10 ≤ w.toInt ∧ w.toInt ≤ 14) → G 10 mX4_best post 39 [some (.ref 0), some (.int (b2i false)), some (.int w), none] [] h := by
      intro hwt
      refine sX4_best_39 (ev_planWithBest4 hc hw hp (fun h' K P e4 e5 => ?_))
      obtain ⟨X', F⟩ := XI.plan4 X K P
      have hc' := X'.2.1
      have kk := k h' X' F
      unfold bestS at kk
      rw [if_neg (by omega), if_pos hwt] at kk
      unfold bestA at kk
      refine sX4_best_51_p4 (fun z => sX4_best_66_p4 ?_) (fun z => sX4_best_62_p4 (fun z1 => sX4_best_71_p4 (fun z2 => sX4_best_89_p4 ?_) (fun z2 => sX4_best_76_p4 ?_)) (fun z1 => sX4_best_66_p4 ?_))
      · have h0 : (bsF s.1 false).1 = 0 := by
          apply Classical.byContradiction
          intro e
          rw [e4, bsV, if_neg e] at z
          exact nI_n1001 (by have := BS_le hw false 3125; show (BS s.1 false 3125).1 - 1 < 2 ^ 31; omega) z
        rw [if_pos (Or.inl h0)] at kk
        rw [e4]; exact kk
      · have h0 : (bsF s.1 false).1 ≠ 0 := fun e => z (by rw [e4, bsV, if_pos e])
        have hb : okk s.1 false (bsF s.1 false).2 = true := (BS_spec 3125 h0).2
        have hbl : (bsF s.1 false).2 < 3125 := (BS_spec 3125 h0).1
        rw [t0] at z1
        rw [t1] at z2
        rw [if_neg (fun y => y.elim h0 z1), if_neg z2] at kk
        rw [w10 (by omega) (by omega)]
        refine ev_hasMirror hc' hw (sX4_best_100_p4 (fun z3 => sX4_best_117 ?_) (fun z3 => sX4_best_103_p4 ?_))
        · rw [b2i_0] at z3
          rw [if_neg (fun y => ?_)] at kk
          · exact kk
          · rw [ix_nI y (by omega)] at z3; cases z3
        · rw [b2i_n] at z3
          have hj : (w.toInt - 10).toNat < aN s.1 := by
            apply Classical.byContradiction
            intro y
            rw [ix_nI' (by omega) (by omega)] at z3; cases z3
          rw [if_pos hj] at kk
          have erv : plc (dg (bsF s.1 false).2) (aN s.1) = rv (bsF s.1 false).2 := by
            unfold rv plc
            exact (sm_cut 5 h5 (fun m h1 h2 => by rw [(okk_there hb m h2).2.1 h1, Nat.zero_mul])).symm
          rw [e5 h0, erv, w10 (by omega) (by omega)]
          refine ev_aimIn (rv_lt hbl) (by omega) (sX4_best_114 ?_)
          rw [dp_rv _ (by omega)]
          exact kk
      · have h0 : (bsF s.1 false).1 ≠ 0 := fun e => z (by rw [e4, bsV, if_pos e])
        rw [t0] at z1
        rw [t1] at z2
        rw [if_neg (fun y => y.elim h0 z1), if_pos z2] at kk
        refine ev_bound hc' hw (sX4_best_83_p4 ?_)
        rw [e4]; exact kk
      · rw [t0] at z1
        rw [if_pos (Or.inr z1)] at kk
        rw [e4]; exact kk
    have out : ¬ (w.toInt = 0 ∨ w.toInt = 1 ∨ 10 ≤ w.toInt ∧ w.toInt ≤ 14) → post (some (.int (-1003))) h := fun z => by
      have := k h X (FrX.rf h)
      unfold bestS at this
      rw [if_neg (by omega), if_neg z] at this
      exact this
    refine sX4_best_14 (fun z => go (Or.inl (t0.mp z))) (fun z => sX4_best_18 (fun z1 => go (Or.inr (Or.inl (t1.mp z1)))) (fun z1 => sX4_best_23 (fun z2 => sX4_best_35 (out ?_)) (fun z2 => sX4_best_29 (fun z3 => go ?_) (fun z3 => sX4_best_35 (out ?_)))))
    all_goals rw [t0] at z
    all_goals rw [t1] at z1
    all_goals rw [Int32.lt_iff_toInt_lt, show (10 : Int32).toInt = 10 by decide] at z2
    · omega
    · rw [Int32.le_iff_toInt_le, show (14 : Int32).toInt = 14 by decide] at z3; omega
    · rw [Int32.le_iff_toInt_le, show (14 : Int32).toInt = 14 by decide] at z3; omega
  · rw [b2i_0, decide_eq_false_iff_not] at q
    have := k h X (FrX.rf h)
    unfold bestS at this
    rw [if_pos (by omega)] at this
    exact this
theorem cx_change4 {w : Int32} (X : XI s h) (k : ∀ h', XI s h' → FrX h h' → post (some (.int (changeS s false w))) h') : Ev 10 mX4_change [.ref 0, .int (b2i false), .int w] h post := by
  obtain ⟨hw, hc, hg, hf, hf2, hp, hp2⟩ := id X
  have t0 := toInt_eq (w := w) 0 (n := 0) (by decide)
  refine Ev.intro rfl (Nat.le_of_ble_eq_true rfl) (sX4_change_0 (ev_isRead hc hw (sX4_change_7 (fun q => ?_) (fun q => sX4_change_10 ?_))))
  · rw [b2i_n, decide_eq_true_iff] at q
    have go : (w.toInt = 0 ∨ 10 ≤ w.toInt ∧ w.toInt ≤ 24) → G 10 mX4_change post 34 [some (.ref 0), some (.int (b2i false)), some (.int w), none] [] h := by
      intro hwt
      refine sX4_change_34 (ev_planWithChange4 hc hw q hp (fun h' K P e6 eF => ?_))
      obtain ⟨X', F⟩ := XI.plan4 X K P
      have kk := k h' X' F
      unfold changeS at kk
      rw [if_neg (by omega), if_pos hwt] at kk
      unfold changeA at kk
      refine sX4_change_46_p4 (fun z => sX4_change_58_p4 ?_) (fun z => sX4_change_51_p4 ?_)
      · rw [t0] at z
        rw [if_neg z] at kk
        rw [w10 (by omega) (by omega)]
        exact ev_moveAt4 (by omega) e6 eF (sX4_change_66 kk)
      · rw [t0] at z
        rw [if_pos z] at kk
        rw [e6]; exact kk
    have out : ¬ (w.toInt = 0 ∨ 10 ≤ w.toInt ∧ w.toInt ≤ 24) → post (some (.int (-1003))) h := fun z => by
      have := k h X (FrX.rf h)
      unfold changeS at this
      rw [if_neg (by omega), if_neg z] at this
      exact this
    refine sX4_change_14 (fun z => go (Or.inl (t0.mp z))) (fun z => sX4_change_18 (fun z2 => sX4_change_30 (out ?_)) (fun z2 => sX4_change_24 (fun z3 => go ?_) (fun z3 => sX4_change_30 (out ?_))))
    all_goals rw [t0] at z
    all_goals rw [Int32.lt_iff_toInt_lt, show (10 : Int32).toInt = 10 by decide] at z2
    · omega
    · rw [Int32.le_iff_toInt_le, show (24 : Int32).toInt = 24 by decide] at z3; omega
    · rw [Int32.le_iff_toInt_le, show (24 : Int32).toInt = 24 by decide] at z3; omega
  · rw [b2i_0, decide_eq_false_iff_not] at q
    have := k h X (FrX.rf h)
    unfold changeS at this
    rw [if_pos (by omega)] at this
    exact this
theorem cx_go4 (X : XI s h) (k : ∀ h', XI (goS s false).2 h' → FrX h h' → post (some (.int (goS s false).1)) h') : Ev 10 mX4_go [.ref 0, .int (b2i false)] h post := by
  obtain ⟨hw, hc, hg, hf, hf2, hp, hp2⟩ := id X
  have h5 := hw.1
  have h4 := hw.2.1
  refine Ev.intro rfl (Nat.le_of_ble_eq_true rfl) (sX4_go_0 (ev_isRead hc hw (sX4_go_7 (fun q => sX4_go_14 ?_) (fun q => sX4_go_10 ?_))))
  · rw [b2i_n, decide_eq_true_iff] at q
    refine ev_planWithChange4 hc hw q hp (fun h' K P e6 eF => sX4_go_26_p4 ?_)
    obtain ⟨X', F⟩ := XI.plan4 X K P
    obtain ⟨hw', hc', hg', hf', hf2', hp', hp2'⟩ := id X'
    have same : chN s.1 false ≤ 1 → post (some (.int (-1004))) h' := fun z => by
      have e : goS s false = (-1004, s) := if_pos (Or.inr z)
      have := k h' (by rw [e]; exact X') F
      rw [e] at this
      exact this
    refine ev_moveAt4 (j := 0) (by omega) e6 eF (sX4_go_32_p4 (fun z => sX4_go_53 (same ?_)) (fun z => ?_))
    · apply Classical.byContradiction
      intro y
      rw [if_pos (by omega)] at z
      exact nI_n1001 (by have := (chV_first (a := s.1) (st := false) (by omega)).1; omega) z
    · have hN : 0 + 1 < chN s.1 false := by
        apply Classical.byContradiction
        intro y
        rw [if_neg y] at z
        exact z rfl
      obtain ⟨v1, v2, v3⟩ := chV_first (a := s.1) (st := false) (by omega)
      have hNl := chN_le s.1 false
      rw [if_pos hN]
      have e3 : nI (chV s.1 false 0) >>> ((3 : Int32) &&& 31) = nI (chV s.1 false 0 / 8) := by rw [pk_shrN (by omega) _ 3 (by decide)]
      have e7 : nI (chV s.1 false 0) &&& (7 : Int32) = nI (chV s.1 false 0 % 8) := by rw [pk_andN (by omega) 3 (by decide)]
      refine sX4_go_40_p4 ?_
      rw [e3]
      refine ev_hasMirror hc' hw ?_
      rw [ix_nI v2 (by omega)]
      refine sX4_go_50_p4 (fun _ => sX4_go_57_p4 ?_ ?_) (fun y => absurd y (by decide))
      · rw [e3]; exact vp_in_nI (by omega) (by omega)
      rw [e3, e7, nI_clamp (by omega)]
      refine ev_forget' (fun h2 G2 k4 k5 => sX4_go_81_p4 ?_)
      have e : goS s false = (nI (chN s.1 false - 2), (setV s.1 (upN (aV s.1) (chV s.1 false 0 / 8) (chV s.1 false 0 % 8)), s.2.1, s.2.2.1, s.2.2.2.1, s.2.2.2.2 + 1)) := if_neg (by omega)
      have f6 : h2.1 4 6 = nI (chN s.1 false - 1) := by
        rw [k4]
        show h'.1 4 6 = _
        rw [e6, chM, if_neg (by omega)]
      have h04 : h2.1 0 4 = s.2.2.2.2 := by
        rw [G2.1 0 (by decide) (by decide)]
        exact hf2'
      rw [f6, h04]
      have hI2 : CI (setV s.1 (upN (aV s.1) (chV s.1 false 0 / 8) (chV s.1 false 0 % 8))) (setA h' 9 (upd (h'.1 9) (chV s.1 false 0 / 8) (nI (chV s.1 false 0 % 8) - 1))) := hc'.setV (fun j hj => by
        unfold upd upN
        split
        · rfl
        · exact hc'.aim hj)
      have := k (upd2 h2.1 0 4 (s.2.2.2.2 + 1), h2.2) ?_ ?_
      · rw [e] at this
        have e9 : nI (chN s.1 false - 1) - 1 = nI (chN s.1 false - 2) := by rw [show chN s.1 false - 1 = (chN s.1 false - 2) + 1 by omega, nI_pred]
        rw [e9]
        exact this
      · rw [e]
        have F2 : FG (upd2 h2.1 0 4 (s.2.2.2.2 + 1), h2.2) (upd2 h2.1 0 4 (s.2.2.2.2 + 1), h2.2) := ⟨fun _ _ _ => rfl, rfl, G2.2.2.1, G2.2.2.2.1, G2.2.2.2.2.1, G2.2.2.2.2.2.1, rfl, rfl⟩
        refine XI.of (h1 := (upd2 h2.1 0 4 (s.2.2.2.2 + 1), h2.2)) (hw.setV (upN_ok hw v2 v3)) (hI2.same (fun cc hcc => ?_)) (hg'.same (fun cc hcc => ?_)) ?_ rfl ?_ ?_ F2
        · show upd2 h2.1 0 4 _ cc = _
          rw [upd2_ne (by omega), G2.1 cc (by omega) (by omega)]
          rfl
        · show upd2 h2.1 0 4 _ cc = _
          rw [upd2_ne (by omega), G2.1 cc (by omega) (by omega)]
          exact upd2_ne (by omega)
        · show h2.1 0 3 = s.2.2.2.1
          rw [G2.1 0 (by decide) (by decide)]
          exact hf'
        · show h2.1 4 0 = 0
          rw [G2.2.2.2.2.2.2.1]
          exact X'.p4
        · show h2.1 5 0 = 1
          rw [G2.2.2.2.2.2.2.2]
          exact X'.p5
      · exact FrX.trans F (FrX.trans (FrX.of (frx1 (by decide)) G2) (frx1 (by decide)))
  · rw [b2i_0, decide_eq_false_iff_not] at q
    have e : goS s false = (-1004, s) := if_pos (Or.inl (by omega))
    have := k h (by rw [e]; exact X) (FrX.rf h)
    rw [e] at this
    exact this
end PB44
section PB45
variable {post : Option Value → PH → Prop} {h : PH} {s : Ab}
theorem XI.plan5 {s : Ab} {h h' : PH} (X : XI s h) (K : KP5 h h') (P : PI1 s.1 true h') : XI s h' ∧ FrX h h' := by
  obtain ⟨hw, hc, hg, hf, hf2, hp, hp2⟩ := id X
  refine ⟨⟨hw, hc.same (fun z hz => K.1 z (by omega) (by omega) (by omega)), hg.same (fun z hz => K.1 z (by omega) (by omega) (by omega)), by rw [K.1 0 (by decide) (by decide) (by decide)]; exact hf, by rw [K.1 0 (by decide) (by decide) (by decide)]; exact hf2, ?_, ?_⟩, ⟨fun z hz => K.1 z (by omega) (by omega) (by omega), K.2⟩⟩
  · exact hp.same1 (K.1 4 (by decide) (by decide) (by decide)) (K.1 13 (by decide) (by decide) (by decide))
  · exact P
theorem ev_moveAt5 {a : St} {j : Nat} (hj : j < 15) (h6 : h.1 5 6 = chM a true) (hF : ∀ j, j < 15 → j + 1 < chN a true → h.1 14 j = nI (chV a true j)) (k : post (some (.int (if j + 1 < chN a true then nI (chV a true j) else -1001))) h) : Ev 0 mX1_moveAt [.ref 5, .int (nI j)] h post := by
  have hN := chN_le a true
  refine Ev.intro rfl (Nat.le_of_ble_eq_true rfl) (sX1_moveAt_0_p5 (fun q => absurd q (nI_pos (by omega))) (fun _ => sX1_moveAt_4_p5 (fun q => sX1_moveAt_30_p5 ?_) (fun q => sX1_moveAt_12_p5 (fun q2 => ?_) (fun _ => sX1_moveAt_21_p5 (vp_in_nI hj (by omega)) ?_))))
  · rw [h6, chM] at q
    rw [if_neg (fun z => ?_)] at k
    · exact k
    · rw [if_neg (by omega), nI_leI (by omega) (by omega)] at q
      omega
  · rw [show (15 : Int32) = nI 15 from rfl, nI_leI (by omega) (by omega)] at q2; omega
  · rw [h6, chM] at q
    have hlt : j + 1 < chN a true := by
      apply Classical.byContradiction
      intro z
      apply q
      by_cases e : chN a true = 0
      · rw [if_pos e, Int32.le_iff_toInt_le, nI_toInt (by omega), show (-1001 : Int32).toInt = -1001 by decide]; omega
      · rw [if_neg e, nI_leI (by omega) (by omega)]; omega
    rw [if_pos hlt] at k
    rw [nI_clamp (by omega), hF j hj hlt]
    exact k
theorem cx_best5 {w : Int32} (X : XI s h) (k : ∀ h', XI s h' → FrX h h' → post (some (.int (bestS s true w))) h') : Ev 10 mX4_best [.ref 0, .int (b2i true), .int w] h post := by
  obtain ⟨hw, hc, hg, hf, hf2, hp, hp2⟩ := id X
  have h5 := hw.1
  have t0 := toInt_eq (w := w) 0 (n := 0) (by decide)
  have t1 := toInt_eq (w := w) 1 (n := 1) (by decide)
  refine Ev.intro rfl (Nat.le_of_ble_eq_true rfl) (sX4_best_0 (ev_isRead hc hw (sX4_best_7 (fun q => ?_) (fun q => sX4_best_10 ?_))))
  · rw [b2i_n, decide_eq_true_iff] at q
    have go : (w.toInt = 0 ∨ w.toInt = 1 ∨ 10 ≤ w.toInt ∧ w.toInt ≤ 14) → G 10 mX4_best post 39 [some (.ref 0), some (.int (b2i true)), some (.int w), none] [] h := by
      intro hwt
      refine sX4_best_39 (ev_planWithBest5 hc hw hp2 (fun h' K P e4 e5 => ?_))
      obtain ⟨X', F⟩ := XI.plan5 X K P
      have hc' := X'.2.1
      have kk := k h' X' F
      unfold bestS at kk
      rw [if_neg (by omega), if_pos hwt] at kk
      unfold bestA at kk
      refine sX4_best_51_p5 (fun z => sX4_best_66_p5 ?_) (fun z => sX4_best_62_p5 (fun z1 => sX4_best_71_p5 (fun z2 => sX4_best_89_p5 ?_) (fun z2 => sX4_best_76_p5 ?_)) (fun z1 => sX4_best_66_p5 ?_))
      · have h0 : (bsF s.1 true).1 = 0 := by
          apply Classical.byContradiction
          intro e
          rw [e4, bsV, if_neg e] at z
          exact nI_n1001 (by have := BS_le hw true 3125; show (BS s.1 true 3125).1 - 1 < 2 ^ 31; omega) z
        rw [if_pos (Or.inl h0)] at kk
        rw [e4]; exact kk
      · have h0 : (bsF s.1 true).1 ≠ 0 := fun e => z (by rw [e4, bsV, if_pos e])
        have hb : okk s.1 true (bsF s.1 true).2 = true := (BS_spec 3125 h0).2
        have hbl : (bsF s.1 true).2 < 3125 := (BS_spec 3125 h0).1
        rw [t0] at z1
        rw [t1] at z2
        rw [if_neg (fun y => y.elim h0 z1), if_neg z2] at kk
        rw [w10 (by omega) (by omega)]
        refine ev_hasMirror hc' hw (sX4_best_100_p5 (fun z3 => sX4_best_117 ?_) (fun z3 => sX4_best_103_p5 ?_))
        · rw [b2i_0] at z3
          rw [if_neg (fun y => ?_)] at kk
          · exact kk
          · rw [ix_nI y (by omega)] at z3; cases z3
        · rw [b2i_n] at z3
          have hj : (w.toInt - 10).toNat < aN s.1 := by
            apply Classical.byContradiction
            intro y
            rw [ix_nI' (by omega) (by omega)] at z3; cases z3
          rw [if_pos hj] at kk
          have erv : plc (dg (bsF s.1 true).2) (aN s.1) = rv (bsF s.1 true).2 := by
            unfold rv plc
            exact (sm_cut 5 h5 (fun m h1 h2 => by rw [(okk_there hb m h2).2.1 h1, Nat.zero_mul])).symm
          rw [e5 h0, erv, w10 (by omega) (by omega)]
          refine ev_aimIn (rv_lt hbl) (by omega) (sX4_best_114 ?_)
          rw [dp_rv _ (by omega)]
          exact kk
      · have h0 : (bsF s.1 true).1 ≠ 0 := fun e => z (by rw [e4, bsV, if_pos e])
        rw [t0] at z1
        rw [t1] at z2
        rw [if_neg (fun y => y.elim h0 z1), if_pos z2] at kk
        refine ev_bound hc' hw (sX4_best_83_p5 ?_)
        rw [e4]; exact kk
      · rw [t0] at z1
        rw [if_pos (Or.inr z1)] at kk
        rw [e4]; exact kk
    have out : ¬ (w.toInt = 0 ∨ w.toInt = 1 ∨ 10 ≤ w.toInt ∧ w.toInt ≤ 14) → post (some (.int (-1003))) h := fun z => by
      have := k h X (FrX.rf h)
      unfold bestS at this
      rw [if_neg (by omega), if_neg z] at this
      exact this
    refine sX4_best_14 (fun z => go (Or.inl (t0.mp z))) (fun z => sX4_best_18 (fun z1 => go (Or.inr (Or.inl (t1.mp z1)))) (fun z1 => sX4_best_23 (fun z2 => sX4_best_35 (out ?_)) (fun z2 => sX4_best_29 (fun z3 => go ?_) (fun z3 => sX4_best_35 (out ?_)))))
    all_goals rw [t0] at z
    all_goals rw [t1] at z1
    all_goals rw [Int32.lt_iff_toInt_lt, show (10 : Int32).toInt = 10 by decide] at z2
    · omega
    · rw [Int32.le_iff_toInt_le, show (14 : Int32).toInt = 14 by decide] at z3; omega
    · rw [Int32.le_iff_toInt_le, show (14 : Int32).toInt = 14 by decide] at z3; omega
  · rw [b2i_0, decide_eq_false_iff_not] at q
    have := k h X (FrX.rf h)
    unfold bestS at this
    rw [if_pos (by omega)] at this
    exact this
theorem cx_change5 {w : Int32} (X : XI s h) (k : ∀ h', XI s h' → FrX h h' → post (some (.int (changeS s true w))) h') : Ev 10 mX4_change [.ref 0, .int (b2i true), .int w] h post := by
  obtain ⟨hw, hc, hg, hf, hf2, hp, hp2⟩ := id X
  have t0 := toInt_eq (w := w) 0 (n := 0) (by decide)
  refine Ev.intro rfl (Nat.le_of_ble_eq_true rfl) (sX4_change_0 (ev_isRead hc hw (sX4_change_7 (fun q => ?_) (fun q => sX4_change_10 ?_))))
  · rw [b2i_n, decide_eq_true_iff] at q
    have go : (w.toInt = 0 ∨ 10 ≤ w.toInt ∧ w.toInt ≤ 24) → G 10 mX4_change post 34 [some (.ref 0), some (.int (b2i true)), some (.int w), none] [] h := by
      intro hwt
      refine sX4_change_34 (ev_planWithChange5 hc hw q hp2 (fun h' K P e6 eF => ?_))
      obtain ⟨X', F⟩ := XI.plan5 X K P
      have kk := k h' X' F
      unfold changeS at kk
      rw [if_neg (by omega), if_pos hwt] at kk
      unfold changeA at kk
      refine sX4_change_46_p5 (fun z => sX4_change_58_p5 ?_) (fun z => sX4_change_51_p5 ?_)
      · rw [t0] at z
        rw [if_neg z] at kk
        rw [w10 (by omega) (by omega)]
        exact ev_moveAt5 (by omega) e6 eF (sX4_change_66 kk)
      · rw [t0] at z
        rw [if_pos z] at kk
        rw [e6]; exact kk
    have out : ¬ (w.toInt = 0 ∨ 10 ≤ w.toInt ∧ w.toInt ≤ 24) → post (some (.int (-1003))) h := fun z => by
      have := k h X (FrX.rf h)
      unfold changeS at this
      rw [if_neg (by omega), if_neg z] at this
      exact this
    refine sX4_change_14 (fun z => go (Or.inl (t0.mp z))) (fun z => sX4_change_18 (fun z2 => sX4_change_30 (out ?_)) (fun z2 => sX4_change_24 (fun z3 => go ?_) (fun z3 => sX4_change_30 (out ?_))))
    all_goals rw [t0] at z
    all_goals rw [Int32.lt_iff_toInt_lt, show (10 : Int32).toInt = 10 by decide] at z2
    · omega
    · rw [Int32.le_iff_toInt_le, show (24 : Int32).toInt = 24 by decide] at z3; omega
    · rw [Int32.le_iff_toInt_le, show (24 : Int32).toInt = 24 by decide] at z3; omega
  · rw [b2i_0, decide_eq_false_iff_not] at q
    have := k h X (FrX.rf h)
    unfold changeS at this
    rw [if_pos (by omega)] at this
    exact this
theorem cx_go5 (X : XI s h) (k : ∀ h', XI (goS s true).2 h' → FrX h h' → post (some (.int (goS s true).1)) h') : Ev 10 mX4_go [.ref 0, .int (b2i true)] h post := by
  obtain ⟨hw, hc, hg, hf, hf2, hp, hp2⟩ := id X
  have h5 := hw.1
  have h4 := hw.2.1
  refine Ev.intro rfl (Nat.le_of_ble_eq_true rfl) (sX4_go_0 (ev_isRead hc hw (sX4_go_7 (fun q => sX4_go_14 ?_) (fun q => sX4_go_10 ?_))))
  · rw [b2i_n, decide_eq_true_iff] at q
    refine ev_planWithChange5 hc hw q hp2 (fun h' K P e6 eF => sX4_go_26_p5 ?_)
    obtain ⟨X', F⟩ := XI.plan5 X K P
    obtain ⟨hw', hc', hg', hf', hf2', hp', hp2'⟩ := id X'
    have same : chN s.1 true ≤ 1 → post (some (.int (-1004))) h' := fun z => by
      have e : goS s true = (-1004, s) := if_pos (Or.inr z)
      have := k h' (by rw [e]; exact X') F
      rw [e] at this
      exact this
    refine ev_moveAt5 (j := 0) (by omega) e6 eF (sX4_go_32_p5 (fun z => sX4_go_53 (same ?_)) (fun z => ?_))
    · apply Classical.byContradiction
      intro y
      rw [if_pos (by omega)] at z
      exact nI_n1001 (by have := (chV_first (a := s.1) (st := true) (by omega)).1; omega) z
    · have hN : 0 + 1 < chN s.1 true := by
        apply Classical.byContradiction
        intro y
        rw [if_neg y] at z
        exact z rfl
      obtain ⟨v1, v2, v3⟩ := chV_first (a := s.1) (st := true) (by omega)
      have hNl := chN_le s.1 true
      rw [if_pos hN]
      have e3 : nI (chV s.1 true 0) >>> ((3 : Int32) &&& 31) = nI (chV s.1 true 0 / 8) := by rw [pk_shrN (by omega) _ 3 (by decide)]
      have e7 : nI (chV s.1 true 0) &&& (7 : Int32) = nI (chV s.1 true 0 % 8) := by rw [pk_andN (by omega) 3 (by decide)]
      refine sX4_go_40_p5 ?_
      rw [e3]
      refine ev_hasMirror hc' hw ?_
      rw [ix_nI v2 (by omega)]
      refine sX4_go_50_p5 (fun _ => sX4_go_57_p5 ?_ ?_) (fun y => absurd y (by decide))
      · rw [e3]; exact vp_in_nI (by omega) (by omega)
      rw [e3, e7, nI_clamp (by omega)]
      refine ev_forget' (fun h2 G2 k4 k5 => sX4_go_81_p5 ?_)
      have e : goS s true = (nI (chN s.1 true - 2), (setV s.1 (upN (aV s.1) (chV s.1 true 0 / 8) (chV s.1 true 0 % 8)), s.2.1, s.2.2.1, s.2.2.2.1, s.2.2.2.2 + 1)) := if_neg (by omega)
      have f6 : h2.1 5 6 = nI (chN s.1 true - 1) := by
        rw [k5]
        show h'.1 5 6 = _
        rw [e6, chM, if_neg (by omega)]
      have h04 : h2.1 0 4 = s.2.2.2.2 := by
        rw [G2.1 0 (by decide) (by decide)]
        exact hf2'
      rw [f6, h04]
      have hI2 : CI (setV s.1 (upN (aV s.1) (chV s.1 true 0 / 8) (chV s.1 true 0 % 8))) (setA h' 9 (upd (h'.1 9) (chV s.1 true 0 / 8) (nI (chV s.1 true 0 % 8) - 1))) := hc'.setV (fun j hj => by
        unfold upd upN
        split
        · rfl
        · exact hc'.aim hj)
      have := k (upd2 h2.1 0 4 (s.2.2.2.2 + 1), h2.2) ?_ ?_
      · rw [e] at this
        have e9 : nI (chN s.1 true - 1) - 1 = nI (chN s.1 true - 2) := by rw [show chN s.1 true - 1 = (chN s.1 true - 2) + 1 by omega, nI_pred]
        rw [e9]
        exact this
      · rw [e]
        have F2 : FG (upd2 h2.1 0 4 (s.2.2.2.2 + 1), h2.2) (upd2 h2.1 0 4 (s.2.2.2.2 + 1), h2.2) := ⟨fun _ _ _ => rfl, rfl, G2.2.2.1, G2.2.2.2.1, G2.2.2.2.2.1, G2.2.2.2.2.2.1, rfl, rfl⟩
        refine XI.of (h1 := (upd2 h2.1 0 4 (s.2.2.2.2 + 1), h2.2)) (hw.setV (upN_ok hw v2 v3)) (hI2.same (fun cc hcc => ?_)) (hg'.same (fun cc hcc => ?_)) ?_ rfl ?_ ?_ F2
        · show upd2 h2.1 0 4 _ cc = _
          rw [upd2_ne (by omega), G2.1 cc (by omega) (by omega)]
          rfl
        · show upd2 h2.1 0 4 _ cc = _
          rw [upd2_ne (by omega), G2.1 cc (by omega) (by omega)]
          exact upd2_ne (by omega)
        · show h2.1 0 3 = s.2.2.2.1
          rw [G2.1 0 (by decide) (by decide)]
          exact hf'
        · show h2.1 4 0 = 0
          rw [G2.2.2.2.2.2.2.1]
          exact X'.p4
        · show h2.1 5 0 = 1
          rw [G2.2.2.2.2.2.2.2]
          exact X'.p5
      · exact FrX.trans F (FrX.trans (FrX.of (frx1 (by decide)) G2) (frx1 (by decide)))
  · rw [b2i_0, decide_eq_false_iff_not] at q
    have e : goS s true = (-1004, s) := if_pos (Or.inl (by omega))
    have := k h (by rw [e]; exact X) (FrX.rf h)
    rw [e] at this
    exact this
end PB45
