/-! the class's calls: what is told; what is asked -/
theorem sh2 : ∀ n, n < 6 → (1 : Int32) <<< (nI n &&& 31) = nI (2 ^ n) := by decide +kernel
theorem clr_eq : ∀ K, K < 32 → ∀ j, j < 5 → nI K &&& ((1 : Int32) <<< (nI j &&& 31) ^^^ (-1)) = nI (clrb K j) := by decide +kernel
theorem set_eq : ∀ K, K < 32 → ∀ j, j < 5 → nI (clrb K j) ||| (1 : Int32) <<< (nI j &&& 31) = nI (setb K j) := by decide +kernel
theorem set_lt : ∀ n, n < 6 → ∀ K, K < 32 → ∀ j, j < n → K < 2 ^ n → setb K j < 2 ^ n := by decide +kernel
theorem clr_le (K j : Nat) : clrb K j ≤ K := by unfold clrb; split; exact Nat.sub_le _ _; exact Nat.le_refl _
theorem nI_n1001 {x : Nat} (hx : x < 2 ^ 31) : ¬ nI x = -1001 := by
  intro e
  have := congrArg Int32.toInt e
  rw [nI_toInt hx, show (-1001 : Int32).toInt = -1001 by decide] at this
  omega
theorem TR_spec {a : St} : ∀ n, (TR a n).1 ≠ 0 → (TR a n).2 < n ∧ tg a (TR a n).2 = (TR a n).1
  | 0, h => absurd rfl h
  | n + 1, h => by
    rw [TR] at h ⊢
    split
    · exact ⟨Nat.lt_succ_self n, rfl⟩
    · rename_i q
      rw [if_neg q] at h
      have := TR_spec n h
      exact ⟨by omega, this.2⟩
theorem tg_spec {a : St} {k : Nat} (h : tg a k ≠ 0) : (k / 5 < k % 5 ∧ k % 5 < aN a) ∧ tg a k = CT a (swp (aV a) (k / 5) (k % 5)) (aH a) - CT a (aV a) (aH a) := by
  unfold tg at h ⊢
  split
  · rename_i q
    exact ⟨⟨q.1, q.2.1⟩, rfl⟩
  · rename_i q
    rw [if_neg q] at h
    exact absurd rfl h
section PB3
variable {post : Option Value → PH → Prop} {h : PH} {s : Ab}
theorem XI.keep {s s' : Ab} {h h' : PH} (X : XI s h) (hw : WF s'.1) (hc : CI s'.1 h') (e : s'.2 = s.2) (o : ∀ c, (c = 0 ∨ c = 1 ∨ c = 4 ∨ c = 5 ∨ c = 6) → h'.1 c = h.1 c) : ∀ h2, FG h' h2 → XI s' h2 := by
  intro h2 F
  refine XI.of hw hc ?_ ?_ ?_ ?_ ?_ F
  · rw [e]; exact X.2.2.1.same (fun k hk => o k (by omega))
  · rw [e, o 0 (by omega)]; exact X.2.2.2.1
  · rw [e, o 0 (by omega)]; exact X.2.2.2.2.1
  · rw [o 4 (by omega)]; exact X.p4
  · rw [o 5 (by omega)]; exact X.p5
theorem cx_ceiling {x v : Int32} (X : XI s h) (k : ∀ h', XI (ceilingS s x v).2 h' → FrX h h' → post (some (.int (ceilingS s x v).1)) h') : Ev 1 mX4_ceiling [.ref 0, .int x, .int v] h post := by
  obtain ⟨hw, hc, hg, hf, hf2, hp, hp2⟩ := id X
  have same : ∀ r, ceilingS s x v = (r, s) → post (some (.int r)) h := fun r e => by
    have := k h (by rw [e]; exact X) (FrX.rf h)
    rw [e] at this
    exact this
  refine Ev.intro rfl (Nat.le_of_ble_eq_true rfl) (sX4_ceiling_0 (ev_hasPatch hc hw (sX4_ceiling_8 (fun q => ?_) (fun q => sX4_ceiling_11 (same _ ?_)))))
  · rw [b2i_n] at q
    refine sX4_ceiling_15 (fun q1 => sX4_ceiling_25 (same _ ?_)) (fun q1 => sX4_ceiling_19 (fun q2 => ?_) (fun q2 => sX4_ceiling_25 (same _ ?_)))
    · unfold ceilingS; rw [if_neg (by rw [q]; decide), if_pos (Or.inl q1)]
    · obtain ⟨j, hj, rfl⟩ := ix_of q hw.p31
      obtain ⟨w, hw60, rfl⟩ := nI_of2 (n := 60) (by decide) q1 q2
      have h4 := hw.2.1
      have e : ceilingS s (nI j) (nI w) = (nI (aC s.1 j), (setC s.1 j w, s.2)) := by
        unfold ceilingS
        rw [if_neg (by rw [q]; decide), if_neg (fun z => z.elim q1 (fun z => z q2)), nI_clamp (by omega), nI_clamp (by omega)]
      refine sX4_ceiling_29 (vp_in_nI (by omega) (by omega)) (vp_in_nI (by omega) (by omega)) ?_
      rw [nI_clamp (by omega), hc.ce hj]
      refine ev_measureSlack (p := aP s.1) (C := aC (setC s.1 j w)) hc.p h4 (fun z hz => ⟨?_, ?_⟩) (sX4_ceiling_56 (ev_forget (fun h2 F => sX4_ceiling_63 ?_)))
      · show upd2 h.1 11 j (nI w) 11 z = nI (if z = j then w else aC s.1 z)
        rw [upd2_self]
        unfold upd
        split
        · rfl
        · exact hc.ce hz
      · show (if z = j then w else aC s.1 z) ≤ 60
        split
        · exact hw60
        · exact hw.2.2.2.2.1 z
      · have := k h2 ?_ ?_
        · rw [e] at this
          exact this
        · rw [e]
          refine X.keep (s' := (setC s.1 j w, s.2)) (h' := (upd2 (upd2 h.1 11 j (nI w)) 2 5 (nI (pkd (slkf (aP s.1) (aC (setC s.1 j w))))), h.2)) ⟨hw.1, hw.2.1, hw.2.2.1, hw.2.2.2.1, fun z => ?_, hw.2.2.2.2.2⟩ ⟨hc.n, hc.p, fun z => hc.pl z, hc.sh, hc.sk, rfl, fun m hm => ⟨hc.mid hm, hc.sid hm, hc.aim hm⟩, fun m hm v hv => hc.lt hm hv, fun z hz => ?_⟩ rfl (fun c hcc => ?_) h2 F
          · show (if z = j then w else aC s.1 z) ≤ 60
            split
            · exact hw60
            · exact hw.2.2.2.2.1 z
          · show upd2 h.1 11 j (nI w) 11 z = nI (if z = j then w else aC s.1 z)
            rw [upd2_self]
            unfold upd
            split
            · rfl
            · exact hc.ce hz
          · show upd2 (upd2 h.1 11 j (nI w)) 2 5 _ c = h.1 c
            rw [upd2_ne (by omega), upd2_ne (by omega)]
        · refine FrX.of (h1 := (upd2 (upd2 h.1 11 j (nI w)) 2 5 (nI (pkd (slkf (aP s.1) (aC (setC s.1 j w))))), h.2)) ⟨fun c hcc => ?_, rfl⟩ F
          show upd2 (upd2 h.1 11 j (nI w)) 2 5 _ c = h.1 c
          rw [upd2_ne (by omega), upd2_ne (by omega)]
    · unfold ceilingS; rw [if_neg (by rw [q]; decide), if_pos (Or.inr q2)]
  · rw [b2i_0] at q
    unfold ceilingS; rw [if_pos q]
theorem cx_shade {x : Int32} (X : XI s h) (k : ∀ h', XI (shadeS s x).2 h' → FrX h h' → post (some (.int (shadeS s x).1)) h') : Ev 1 mX4_shade [.ref 0, .int x] h post := by
  obtain ⟨hw, hc, hg, hf, hf2, hp, hp2⟩ := id X
  have same : ∀ r, shadeS s x = (r, s) → post (some (.int r)) h := fun r e => by
    have := k h (by rw [e]; exact X) (FrX.rf h)
    rw [e] at this
    exact this
  have h5 := hw.1
  have h32 := two5 h5
  refine Ev.intro rfl (Nat.le_of_ble_eq_true rfl) (sX4_shade_0 (ev_isRead hc hw (sX4_shade_7 (fun q => ?_) (fun q => sX4_shade_10 (same _ ?_)))))
  · rw [b2i_n, decide_eq_true_iff] at q
    refine sX4_shade_14 (fun q1 => sX4_shade_31 (same _ ?_)) (fun q1 => sX4_shade_18 (fun q2 => ?_) (fun q2 => sX4_shade_31 (same _ ?_)))
    · unfold shadeS; rw [if_neg (by omega), if_pos (ix_f0 q1)]
    · rw [hc.n, sh2 _ (by omega)] at q2
      have hix : ix x (2 ^ aN s.1) = true := ix_t q1 (fun z => by
        rw [Int32.lt_iff_toInt_lt] at q2
        rw [Int32.le_iff_toInt_le] at z
        omega) (by omega)
      obtain ⟨j, hj, rfl⟩ := ix_of hix (by omega)
      have e : shadeS s (nI j) = (nI (aH s.1), (setH s.1 j, s.2)) := by
        unfold shadeS
        rw [if_neg (by omega), if_neg (by rw [hix]; decide), nI_clamp (by omega)]
      refine sX4_shade_35 (ev_forget (fun h2 F => sX4_shade_58 ?_))
      rw [hc.sh]
      have := k h2 ?_ (FrX.of (frx1 (by decide)) F)
      · rw [e] at this
        exact this
      · rw [e]
        exact X.keep (s' := (setH s.1 j, s.2)) (h' := (upd2 h.1 2 3 (nI j), h.2)) ⟨hw.1, hw.2.1, hw.2.2.1, hw.2.2.2.1, hw.2.2.2.2.1, hj, hw.2.2.2.2.2.2⟩ ⟨hc.n, hc.p, fun z => hc.pl z, rfl, hc.sk, hc.sl, fun m hm => ⟨hc.mid hm, hc.sid hm, hc.aim hm⟩, fun m hm v hv => hc.lt hm hv, fun z hz => hc.ce hz⟩ rfl (fun c hcc => upd2_ne (by omega)) h2 F
    · rw [hc.n, sh2 _ (by omega)] at q2
      have hix : ix x (2 ^ aN s.1) = false := ix_f1 (by
        rw [Int32.lt_iff_toInt_lt] at q2
        rw [Int32.le_iff_toInt_le]
        omega) (by omega)
      unfold shadeS; rw [if_neg (by omega), if_pos hix]
  · rw [b2i_0, decide_eq_false_iff_not] at q
    unfold shadeS; rw [if_pos (by omega)]
theorem cx_stuck {x b : Int32} (X : XI s h) (k : ∀ h', XI (stuckS s x b).2 h' → FrX h h' → post (some (.int (stuckS s x b).1)) h') : Ev 1 mX4_stuck [.ref 0, .int x, .int b] h post := by
  obtain ⟨hw, hc, hg, hf, hf2, hp, hp2⟩ := id X
  have h5 := hw.1
  have hsk := hw.sk
  refine Ev.intro rfl (Nat.le_of_ble_eq_true rfl) (sX4_stuck_0 (ev_hasMirror hc hw (sX4_stuck_8 (fun q => ?_) (fun q => sX4_stuck_11 ?_))))
  · rw [b2i_n] at q
    obtain ⟨j, hj, rfl⟩ := ix_of q hw.n31
    refine sX4_stuck_15 ?_
    rw [hc.sk]
    have fin : ∀ K' h2, (if b = 0 then clrb (aK s.1) j else setb (aK s.1) j) = K' → K' < 2 ^ aN s.1 → FG (upd2 h.1 2 4 (nI K'), h.2) h2 → post (some (.int (b2i ((aK s.1).testBit j)))) h2 := by
      intro K' h2 eK hK F
      have e : stuckS s (nI j) b = (b2i ((aK s.1).testBit j), (setK s.1 K', s.2)) := by
        unfold stuckS
        rw [if_neg (by rw [q]; decide), nI_clamp (by omega), eK]
      have := k h2 ?_ (FrX.of (frx1 (by decide)) F)
      · rw [e] at this
        exact this
      · rw [e]
        exact X.keep (s' := (setK s.1 K', s.2)) (h' := (upd2 h.1 2 4 (nI K'), h.2)) ⟨hw.1, hw.2.1, hw.2.2.1, hw.2.2.2.1, hw.2.2.2.2.1, hw.2.2.2.2.2.1, hK⟩ ⟨hc.n, hc.p, fun z => hc.pl z, hc.sh, rfl, hc.sl, fun m hm => ⟨hc.mid hm, hc.sid hm, hc.aim hm⟩, fun m hm v hv => hc.lt hm hv, fun z hz => hc.ce hz⟩ rfl (fun c hcc => upd2_ne (by omega)) h2 F
    refine ev_bit (by omega) (by omega) (sX4_stuck_26 (fun q1 => sX4_stuck_59 ?_) (fun q1 => sX4_stuck_50 ?_))
    · rw [hc.sk, clr_eq _ hsk j (by omega)]
      refine ev_forget (fun h2 F => sX4_stuck_71 (fin _ h2 (if_pos q1) ?_ F))
      have := clr_le (aK s.1) j
      have := hw.2.2.2.2.2.2
      omega
    · rw [hc.sk, clr_eq _ hsk j (by omega), set_eq _ hsk j (by omega)]
      exact ev_forget (fun h2 F => sX4_stuck_71 (fin _ h2 (if_neg q1) (set_lt _ (by omega) _ hsk j hj hw.2.2.2.2.2.2) F))
  · rw [b2i_0] at q
    have e : stuckS s x b = (-1002, s) := if_pos q
    have := k h (by rw [e]; exact X) (FrX.rf h)
    rw [e] at this
    exact this
theorem aimv {y : Int32} {p : Nat} (hp : p ≤ 4) (h : ¬ (y ≠ -1 ∧ ix y p = false)) : ∃ v, v ≤ p ∧ y = nI v - 1 ∧ (y + 1).toNatClampNeg = v ∧ (y = -1 ↔ v = 0) := by
  by_cases e : y = -1
  · exact ⟨0, Nat.zero_le _, by rw [e]; decide, by rw [e]; decide, by simp [e]⟩
  · have hix : ix y p = true := by
      cases hb : ix y p with
      | true => rfl
      | false => exact absurd ⟨e, hb⟩ h
    obtain ⟨q, hq, rfl⟩ := ix_of hix (by omega)
    exact ⟨q + 1, by omega, (nI_pred q).symm, by rw [nI_1, nI_clamp (by omega)], by simp [e]⟩
theorem upN_ok {a : St} (hw : WF a) {m v : Nat} (hm : m < aN a) (hv : v ≤ aP a) : ∀ j, upN (aV a) m v j ≤ aP a ∧ (aN a ≤ j → upN (aV a) m v j = 0) := by
  intro j
  have h1 := (hw.2.2.2.1 j).2.2
  unfold upN
  refine ⟨?_, fun hj => ?_⟩
  · split
    · exact hv
    · exact h1.1
  · rw [if_neg (by omega)]
    exact h1.2 hj
theorem cx_aim {x y : Int32} (X : XI s h) (k : ∀ h', XI (aimS s x y).2 h' → FrX h h' → post (some (.int (aimS s x y).1)) h') : Ev 4 mX4_aim [.ref 0, .int x, .int y] h post := by
  obtain ⟨hw, hc, hg, hf, hf2, hp, hp2⟩ := id X
  have h5 := hw.1
  have h4 := hw.2.1
  have same : ∀ r, aimS s x y = (r, s) → post (some (.int r)) h := fun r e => by
    have := k h (by rw [e]; exact X) (FrX.rf h)
    rw [e] at this
    exact this
  refine Ev.intro rfl (Nat.le_of_ble_eq_true rfl) (sX4_aim_0 (ev_hasMirror hc hw (sX4_aim_8 (fun q => ?_) (fun q => sX4_aim_11 (same _ ?_)))))
  · rw [b2i_n] at q
    have go : ¬ (y ≠ -1 ∧ ix y (aP s.1) = false) → G 4 mX4_aim post 35 [some (.ref 0), some (.int x), some (.int y), none] [] h := by
      intro q2
      obtain ⟨m, hm, rfl⟩ := ix_of q hw.n31
      obtain ⟨v, hv, ey, ev, ez⟩ := aimv h4 q2
      refine sX4_aim_35 (ev_isStuck hc hw (by omega) (sX4_aim_43 (fun q3 => sX4_aim_50 (vp_in_nI (by omega) (by omega)) (vp_in_nI (by omega) (by omega)) (fun q4 => ?_) (fun q4 => ?_)) (fun q3 => sX4_aim_46 (same _ ?_))))
      · rw [b2i_0] at q3
        rw [nI_clamp (by omega), hc.aim hm]
        refine sX4_aim_106 (ev_forget (fun h2 F => sX4_aim_113 ?_))
        have e : aimS s (nI m) y = (nI (aV s.1 m) - 1, (setV s.1 (upN (aV s.1) m v), s.2.1, s.2.2.1, s.2.2.2.1, s.2.2.2.2 + 1)) := by
          unfold aimS
          rw [if_neg (by rw [q]; decide), if_neg q2, nI_clamp (by omega), ev, if_neg (fun z => z.elim (fun z => by rw [q3] at z; cases z) (fun z => z.1 q4))]
        have h04 : h2.1 0 4 = s.2.2.2.2 := by
          rw [F.1 0 (by decide) (by decide)]
          exact hf2
        rw [h04]
        have hI2 : CI (setV s.1 (upN (aV s.1) m v)) (setA h 9 (upd (h.1 9) m y)) := hc.setV (fun j hj => by
          unfold upd upN
          split
          · exact ey
          · exact hc.aim hj)
        have := k (upd2 h2.1 0 4 (s.2.2.2.2 + 1), h2.2) ?_ ?_
        · rw [e] at this
          exact this
        · rw [e]
          have F2 : FG (upd2 h2.1 0 4 (s.2.2.2.2 + 1), h2.2) (upd2 h2.1 0 4 (s.2.2.2.2 + 1), h2.2) := ⟨fun _ _ _ => rfl, rfl, F.2.2.1, F.2.2.2.1, F.2.2.2.2.1, F.2.2.2.2.2.1, rfl, rfl⟩
          refine XI.of (h1 := (upd2 h2.1 0 4 (s.2.2.2.2 + 1), h2.2)) (hw.setV (upN_ok hw hm hv)) (hI2.same (fun cc hcc => ?_)) (hg.same (fun cc hcc => ?_)) ?_ rfl ?_ ?_ F2
          · show upd2 h2.1 0 4 _ cc = _
            rw [upd2_ne (by omega), F.1 cc (by omega) (by omega)]
            rfl
          · show upd2 h2.1 0 4 _ cc = _
            rw [upd2_ne (by omega), F.1 cc (by omega) (by omega)]
            exact upd2_ne (by omega)
          · show h2.1 0 3 = s.2.2.2.1
            rw [F.1 0 (by decide) (by decide)]
            exact hf
          · show h2.1 4 0 = 0
            rw [F.2.2.2.2.2.2.1]
            exact X.p4
          · show h2.1 5 0 = 1
            rw [F.2.2.2.2.2.2.2]
            exact X.p5
        · exact FrX.trans (FrX.of (frx1 (by decide)) F) (frx1 (by decide))
      · rw [b2i_0] at q3
        rw [nI_clamp (by omega), hc.aim hm]
        have hI2 : CI (setV s.1 (upN (aV s.1) m v)) (setA h 9 (upd (h.1 9) m y)) := hc.setV (fun j hj => by
          unfold upd upN
          split
          · exact ey
          · exact hc.aim hj)
        have hw2 := hw.setV (upN_ok hw hm hv)
        refine sX4_aim_75 (ev_heats (a := setV s.1 (upN (aV s.1) m v)) hI2 hw2 (sX4_aim_86 (ev_isSafe (a := setV s.1 (upN (aV s.1) m v)) hI2 hw2 (fun z _ => HT_le hw2 _ _ z) (fun z hz => HT_out hz) (sX4_aim_89 (fun q5 => sX4_aim_106 ?_) (fun q5 => sX4_aim_92 (vp_in_nI (by omega) (by omega)) ?_)))))
        · rw [b2i_n] at q5
          have q5 : SF s.1 (upN (aV s.1) m v) (aH s.1) = true := q5
          refine ev_forget (fun h2 F => sX4_aim_113 ?_)
          have e : aimS s (nI m) y = (nI (aV s.1 m) - 1, (setV s.1 (upN (aV s.1) m v), s.2.1, s.2.2.1, s.2.2.2.1, s.2.2.2.2 + 1)) := by
            unfold aimS
            rw [if_neg (by rw [q]; decide), if_neg q2, nI_clamp (by omega), ev, if_neg (fun z => z.elim (fun z => by rw [q3] at z; cases z) (fun z => by rw [q5] at z; cases z.2))]
          have h04 : h2.1 0 4 = s.2.2.2.2 := by
            rw [F.1 0 (by decide) (by decide)]
            exact hf2
          rw [h04]
          have := k (upd2 h2.1 0 4 (s.2.2.2.2 + 1), h2.2) ?_ ?_
          · rw [e] at this
            exact this
          · rw [e]
            have F2 : FG (upd2 h2.1 0 4 (s.2.2.2.2 + 1), h2.2) (upd2 h2.1 0 4 (s.2.2.2.2 + 1), h2.2) := ⟨fun _ _ _ => rfl, rfl, F.2.2.1, F.2.2.2.1, F.2.2.2.2.1, F.2.2.2.2.2.1, rfl, rfl⟩
            refine XI.of (h1 := (upd2 h2.1 0 4 (s.2.2.2.2 + 1), h2.2)) (hw.setV (upN_ok hw hm hv)) (hI2.same (fun cc hcc => ?_)) (hg.same (fun cc hcc => ?_)) ?_ rfl ?_ ?_ F2
            · show upd2 h2.1 0 4 _ cc = _
              rw [upd2_ne (by omega), F.1 cc (by omega) (by omega)]
              rfl
            · show upd2 h2.1 0 4 _ cc = _
              rw [upd2_ne (by omega), F.1 cc (by omega) (by omega)]
              exact upd2_ne (by omega)
            · show h2.1 0 3 = s.2.2.2.1
              rw [F.1 0 (by decide) (by decide)]
              exact hf
            · show h2.1 4 0 = 0
              rw [F.2.2.2.2.2.2.1]
              exact X.p4
            · show h2.1 5 0 = 1
              rw [F.2.2.2.2.2.2.2]
              exact X.p5
          · exact FrX.trans (FrX.of (frx1 (by decide)) F) (frx1 (by decide))
        · rw [b2i_0] at q5
          have q5 : SF s.1 (upN (aV s.1) m v) (aH s.1) = false := q5
          have e : aimS s (nI m) y = (-1004, s) := by
            unfold aimS
            rw [if_neg (by rw [q]; decide), if_neg q2, nI_clamp (by omega), ev, if_pos (Or.inr ⟨q4, q5⟩)]
          rw [nI_clamp (by omega)]
          have eh : (upd2 (upd2 h.1 9 m y) 9 m (nI (aV s.1 m) - 1), h.2) = h := by
            have := setA_upd h 9 m (upd (h.1 9) m y) (nI (aV s.1 m) - 1)
            rw [upd_upd] at this
            refine Eq.trans this ?_
            have : upd (h.1 9) m (nI (aV s.1 m) - 1) = h.1 9 := by
              funext z
              unfold upd
              split
              · rename_i ez; rw [ez]; exact (hc.aim hm).symm
              · rfl
            rw [this, setA_id]
          have := same _ e
          rw [← eh] at this
          exact this
      · rw [b2i_n] at q3
        unfold aimS
        rw [if_neg (by rw [q]; decide), if_neg q2, nI_clamp (by omega), if_pos (Or.inl q3)]
    refine sX4_aim_15 (fun q1 => go (fun z => z.1 q1)) (fun q1 => sX4_aim_20 (ev_hasPatch hc hw (sX4_aim_28 (fun q2 => go (fun z => ?_)) (fun q2 => sX4_aim_31 (same _ ?_)))))
    · rw [b2i_n] at q2; rw [q2] at z; cases z.2
    · rw [b2i_0] at q2
      unfold aimS
      rw [if_neg (by rw [q]; decide), if_pos ⟨q1, q2⟩]
  · rw [b2i_0] at q
    exact if_pos q
theorem cx_mirror {x w : Int32} (X : XI s h) (k : post (some (.int (mirrorS s x w))) h) : Ev 2 mX4_mirror [.ref 0, .int x, .int w] h post := by
  obtain ⟨hw, hc, hg, hf, hf2, hp, hp2⟩ := id X
  have h5 := hw.1
  refine Ev.intro rfl (Nat.le_of_ble_eq_true rfl) (sX4_mirror_0 (ev_hasMirror hc hw (sX4_mirror_8 (fun q => ?_) (fun q => sX4_mirror_11 ?_))))
  · rw [b2i_n] at q
    obtain ⟨m, hm, rfl⟩ := ix_of q hw.n31
    have vin : vp_in (nI m) 5 := vp_in_nI (by omega) (by omega)
    have em : (w.toInt < 0 ∨ 5 < w.toInt) ∨ mirrorS s (nI m) w = ofMir s.1 m w.toInt := by
      by_cases z : w.toInt < 0 ∨ 5 < w.toInt
      · exact Or.inl z
      · right; unfold mirrorS; rw [if_neg (by rw [q]; decide), if_neg z, nI_clamp (by omega)]
    refine sX4_mirror_15 (fun z => sX4_mirror_146 ?_) (fun z => sX4_mirror_56 vin ?_) (fun z => sX4_mirror_66 vin ?_) (fun z => sX4_mirror_76 vin ?_) (fun z => sX4_mirror_86 ?_) (fun z => sX4_mirror_98 ?_) (fun z => sX4_mirror_110 ?_)
    · unfold mirrorS at k; rw [if_neg (by rw [q]; decide), if_pos z] at k; exact k
    all_goals rw [em.resolve_left (by omega), z] at k
    · rw [nI_clamp (by omega), hc.mid hm]; exact k
    · rw [nI_clamp (by omega), hc.sid hm]; exact k
    · rw [nI_clamp (by omega), hc.aim hm]; exact k
    · rw [hc.sh]; exact ev_bit (by have := hw.sh; omega) (by omega) (sX4_mirror_97 k)
    · rw [hc.sk]; exact ev_bit (by have := hw.sk; omega) (by omega) (sX4_mirror_109 k)
    · have k : post (some (.int (if (aH s.1).testBit m = true then 0 else nI (sm (gv s.1 m (aV s.1 m)) 4)))) h := k
      refine ev_isShaded hc hw (by omega) (sX4_mirror_118 (fun z2 => sX4_mirror_125 vin ?_) (fun z2 => sX4_mirror_121 ?_))
      · rw [b2i_0] at z2
        rw [if_neg (by rw [z2]; decide)] at k
        rw [nI_clamp (by omega), hc.aim hm]
        exact ev_light hc hw hm (hw.2.2.2.1 m).2.2.1 (sX4_mirror_142 (ev_sum (fun q _ => by have := gv_le hw m (aV s.1 m) q; omega) (sX4_mirror_145 k)))
      · rw [b2i_n] at z2
        rw [if_pos z2] at k
        exact k
  · rw [b2i_0] at q
    unfold mirrorS at k
    rw [if_pos q] at k
    exact k
theorem cx_patch {x w : Int32} (X : XI s h) (k : post (some (.int (patchS s x w))) h) : Ev 4 mX4_patch [.ref 0, .int x, .int w] h post := by
  obtain ⟨hw, hc, hg, hf, hf2, hp, hp2⟩ := id X
  have h4 := hw.2.1
  have hl : ∀ f D, ∀ q, q < 4 → HT s.1 f D q < 256 := fun f D q _ => by have := HT_le hw f D q; omega
  refine Ev.intro rfl (Nat.le_of_ble_eq_true rfl) (sX4_patch_0 (ev_hasPatch hc hw (sX4_patch_8 (fun q => ?_) (fun q => sX4_patch_11 ?_))))
  · rw [b2i_n] at q
    obtain ⟨j, hj, rfl⟩ := ix_of q hw.p31
    have em : (w.toInt < 0 ∨ 3 < w.toInt) ∨ patchS s (nI j) w = ofPat s.1 j w.toInt := by
      by_cases z : w.toInt < 0 ∨ 3 < w.toInt
      · exact Or.inl z
      · right; unfold patchS; rw [if_neg (by rw [q]; decide), if_neg z, nI_clamp (by omega)]
    refine sX4_patch_15 (fun z => sX4_patch_92 ?_) (fun z => sX4_patch_48 ?_) (fun z => sX4_patch_60 (vp_in_nI (by omega) (by omega)) ?_) (fun z => sX4_patch_70 ?_) (fun z => sX4_patch_83 ?_)
    · unfold patchS at k; rw [if_neg (by rw [q]; decide), if_pos z] at k; exact k
    all_goals rw [em.resolve_left (by omega), z] at k
    · exact ev_heats hc hw (sX4_patch_55 (ev_heatOf (hl _ _) (by omega) (sX4_patch_59 k)))
    · rw [nI_clamp (by omega), hc.ce hj]; exact k
    · exact ev_heatsWithout (D := 0) hc hw (by omega) (sX4_patch_78 (ev_heatOf (hl _ _) (by omega) (sX4_patch_82 k)))
    · exact ev_aimingAt hc hw hj (sX4_patch_91 k)
  · rw [b2i_0] at q
    unfold patchS at k
    rw [if_pos q] at k
    exact k
theorem cx_count {w : Int32} (X : XI s h) (k : post (some (.int (countA s w.toInt))) h) : Ev 4 mX4_count [.ref 0, .int w] h post := by
  obtain ⟨hw, hc, hg, hf, hf2, hp, hp2⟩ := id X
  have hl : ∀ f D, ∀ q, q < 4 → HT s.1 f D q < 256 := fun f D q _ => by have := HT_le hw f D q; omega
  refine Ev.intro rfl (Nat.le_of_ble_eq_true rfl) (sX4_count_0 (fun z => sX4_count_164 ?_) (fun z => sX4_count_56 ?_) (fun z => sX4_count_64 ?_) (fun z => sX4_count_72 ?_) (fun z => sX4_count_80 ?_) (fun z => sX4_count_91 ?_) (fun z => sX4_count_114 ?_) (fun z => sX4_count_138 ?_) (fun z => sX4_count_146 ?_) (fun z => sX4_count_154 ?_) (fun z => sX4_count_159 ?_))
  · unfold countA at k
    rw [if_neg (by omega), if_neg (by omega), if_neg (by omega), if_neg (by omega), if_neg (by omega), if_neg (by omega), if_neg (by omega), if_neg (by omega), if_neg (by omega), if_neg (by omega)] at k
    exact k
  all_goals rw [z] at k
  · rw [hc.n]; exact k
  · rw [hc.p]; exact k
  · rw [hg.2.1]; exact k
  · exact ev_heats hc hw (sX4_count_87 (ev_sum (hl _ _) (sX4_count_90 k)))
  · refine ev_heats hc hw (sX4_count_102 (ev_isSafe hc hw (fun q _ => HT_le hw _ _ q) (fun q hq => HT_out hq) (sX4_count_105 (fun z2 => sX4_count_112 ?_) (fun z2 => sX4_count_108 ?_))))
    · have k : post (some (.int (b2i (okc s.1 (HT s.1 (aV s.1) (aH s.1)))))) h := k
      rw [z2] at k; exact k
    · have k : post (some (.int (b2i (okc s.1 (HT s.1 (aV s.1) (aH s.1)))))) h := k
      rw [b2i_n] at z2; rw [z2] at k; exact k
  · refine ev_heatsWithout (D := 0) hc hw (by omega) (sX4_count_126 (ev_isSafe hc hw (fun q _ => HT_le hw _ _ q) (fun q hq => HT_out hq) (sX4_count_129 (fun z2 => sX4_count_136 ?_) (fun z2 => sX4_count_132 ?_))))
    · have k : post (some (.int (b2i (okc s.1 (HT s.1 (aV s.1) 0))))) h := k
      rw [z2] at k; exact k
    · have k : post (some (.int (b2i (okc s.1 (HT s.1 (aV s.1) 0))))) h := k
      rw [b2i_n] at z2; rw [z2] at k; exact k
  · rw [hc.sh]; exact k
  · rw [hc.sk]; exact k
  · rw [hf]; exact k
  · rw [hf2]; exact k
theorem cx_trade {w : Int32} (X : XI s h) (k : post (some (.int (tradeS s w))) h) : Ev 5 mX4_trade [.ref 0, .int w] h post := by
  obtain ⟨hw, hc, hg, hf, hf2, hp, hp2⟩ := id X
  have h5 := hw.1
  have hl : ∀ f D, ∀ q, q < 4 → HT s.1 f D q < 256 := fun f D q _ => by have := HT_le hw f D q; omega
  refine Ev.intro rfl (Nat.le_of_ble_eq_true rfl) (sX4_trade_0 (ev_isRead hc hw (sX4_trade_7 (fun q => ?_) (fun q => sX4_trade_10 ?_))))
  · rw [b2i_n, decide_eq_true_iff] at q
    have out : w.toInt < 0 ∨ 2 < w.toInt → post (some (.int (-1003))) h := fun z => by
      unfold tradeS at k; rw [if_neg (by omega), if_pos z] at k; exact k
    refine sX4_trade_14 (fun z => sX4_trade_23 (out ?_)) (fun z1 => sX4_trade_18 (fun z2 => sX4_trade_27 (ev_bestTrade hc hw ?_)) (fun z => sX4_trade_23 (out ?_)))
    · rw [Int32.lt_iff_toInt_lt, Int32.toInt_zero] at z; exact Or.inl z
    · rw [Int32.lt_iff_toInt_lt, Int32.toInt_zero] at z1
      rw [Int32.le_iff_toInt_le, show (2 : Int32).toInt = 2 by decide] at z2
      unfold tradeS at k
      rw [if_neg (by omega), if_neg (by omega)] at k
      unfold tradeA at k
      by_cases e0 : (TR s.1 25).1 = 0
      · rw [if_pos e0] at k
        have : trp (TR s.1 25) = -1001 := if_pos e0
        rw [this]
        exact sX4_trade_34 (fun z => absurd rfl z) (fun _ => sX4_trade_42 k)
      · rw [if_neg e0] at k
        have hsp := TR_spec 25 e0
        have hts := tg_spec (by rw [hsp.2]; exact e0)
        have : trp (TR s.1 25) = nI (8 * ((TR s.1 25).2 / 5) + (TR s.1 25).2 % 5) := if_neg e0
        rw [this]
        generalize (TR s.1 25).2 = t at hsp hts k ⊢
        refine sX4_trade_34 (fun _ => ?_) (fun z => absurd z (nI_n1001 (by omega)))
        have e1 : nI (8 * (t / 5) + t % 5) >>> ((3 : Int32) &&& 31) = nI (t / 5) := by
          rw [pk_shrN (by omega) _ 3 (by decide)]
          exact congrArg nI (by show (8 * (t / 5) + t % 5) / 8 = _; omega)
        have e2 : nI (8 * (t / 5) + t % 5) &&& (7 : Int32) = nI (t % 5) := by
          rw [pk_andN (by omega) 3 (by decide)]
          exact congrArg nI (by show (8 * (t / 5) + t % 5) % 8 = _; omega)
        refine sX4_trade_46 (fun z => ?_) (fun z => ?_)
        · have hz : w.toInt ≠ 0 := fun e => z (Int32.toInt_inj.mp (e.trans Int32.toInt_zero.symm))
          rw [if_neg hz] at k
          rw [e1, e2]
          refine sX4_trade_85 (fun z3 => sX4_trade_94 ?_) (fun z3 => sX4_trade_90 ?_)
          · rw [if_neg (fun e => z3 (Int32.toInt_inj.mp (e.trans (by decide))))] at k; exact k
          · rw [z3] at k; exact k
        · rw [z] at k
          rw [e1, e2]
          have hb := CT_le hw (aV s.1) (aH s.1)
          refine sX4_trade_60 (ev_heatsByTrade hc hw (by omega) hts.1.2 (sX4_trade_70 (ev_sum (hl _ _) (sX4_trade_73 (ev_heats hc hw (sX4_trade_80 (ev_sum (hl _ _) (sX4_trade_83 ?_))))))))
          have ek : nI (sm (HT s.1 (swp (aV s.1) (t / 5) (t % 5)) (aH s.1)) 4) - nI (sm (HT s.1 (aV s.1) (aH s.1)) 4) = nI (TR s.1 25).1 := by
            rw [← hsp.2, hts.2, ← pk_sub]
            · rfl
            · have := hts.2
              have h0 := hsp.2
              omega
          rw [ek]
          exact k
    · rw [Int32.le_iff_toInt_le, show (2 : Int32).toInt = 2 by decide] at z
      exact Or.inr (by omega)
  · rw [b2i_0, decide_eq_false_iff_not] at q
    unfold tradeS at k
    rw [if_pos (by omega)] at k
    exact k
end PB3
