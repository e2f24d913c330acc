/-! the reference's calls: what is told; what is asked -/
theorem set_or : ∀ K, K < 32 → ∀ j, j < 5 → nI K ||| (1 : Int32) <<< (nI j &&& 31) = nI (setb K j) := by decide +kernel
theorem win_t {d : Prop} [Decidable d] (q : ¬ b2i (decide d) = 0) : d := by
  rw [b2i_n, decide_eq_true_iff] at q; exact q
theorem win_f {d : Prop} [Decidable d] (q : b2i (decide d) = 0) : ¬ d := by
  rw [b2i_0, decide_eq_false_iff_not] at q; exact q
section MD3
variable {post : Option Value → PH → Prop} {h : PH} {a : St} {s : Ab}
theorem YI.put {s' : Ab} {h' : PH} (Y : YI s h) (hw : WF s'.1) (hI : MI s'.1 h') (e : s'.2 = s.2) (e0 : h'.1 15 0 = h.1 15 0) (e10 : h'.1 15 10 = h.1 15 10) (e11 : h'.1 15 11 = h.1 15 11) (e16 : h'.1 16 = h.1 16) : YI s' h' := by
  refine ⟨hw, hI, ?_, ?_, ?_⟩
  · rw [e]; exact Y.2.2.1.keep e0 e16
  · rw [e, e10]; exact Y.2.2.2.1
  · rw [e, e11]; exact Y.2.2.2.2
theorem cy_ceiling {x v : Int32} (Y : YI s h) (k : ∀ h', YI (ceilingS s x v).2 h' → FrY h h' → post (some (.int (ceilingS s x v).1)) h') : Ev 2 mX5_ceiling [.ref 15, .int x, .int v] h post := by
  obtain ⟨hw, hI, hg, hf, hf2⟩ := id Y
  have same : ∀ r, ceilingS s x v = (r, s) → post (some (.int r)) h := fun r e => by
    have := k h (by rw [e]; exact Y) (FrY.rf h)
    rw [e] at this
    exact this
  refine Ev.intro rfl (Nat.le_of_ble_eq_true rfl) (sX5_ceiling_0 (ev_isPatch hI hw (sX5_ceiling_5 (fun q => sX5_ceiling_12 (ev_within (sX5_ceiling_19 (fun q1 => ?_) (fun q1 => sX5_ceiling_22 (same _ ?_))))) (fun q => sX5_ceiling_8 (same _ ?_)))))
  · rw [b2i_n] at q
    have q1 := win_t q1
    obtain ⟨j, hj, rfl⟩ := ix_of q hw.p31
    obtain ⟨w, hw60, rfl⟩ := nI_of2 (n := 60) (by decide) q1.1 (nlt_le.mp q1.2)
    have h4 := hw.2.1
    have e : ceilingS s (nI j) (nI w) = (nI (aC s.1 j), (setC s.1 j w, s.2)) := by
      unfold ceilingS
      rw [if_neg (by rw [q]; decide), if_neg (fun z => z.elim q1.1 (fun z => z (nlt_le.mp q1.2))), nI_clamp (by omega), nI_clamp (by omega)]
    refine sX5_ceiling_26 (vp_in_nI (by omega) (by omega)) (vp_in_nI (by omega) (by omega)) ?_
    rw [nI_clamp (by omega), hI.ce hj]
    have := k (upd2 h.1 20 j (nI w), h.2) ?_ (fry1 (by decide))
    · rw [e] at this
      exact this
    · rw [e]
      refine Y.put (s' := (setC s.1 j w, s.2)) ⟨hw.1, hw.2.1, hw.2.2.1, hw.2.2.2.1, fun z => ?_, hw.2.2.2.2.2⟩ ⟨hI.n, hI.p, hI.sh, hI.sk, hI.2.2.2.2.1, hI.2.2.2.2.2.1, fun z hz => ?_⟩ rfl rfl rfl rfl rfl
      · show (if z = j then w else aC s.1 z) ≤ 60
        split
        · exact hw60
        · exact hw.2.2.2.2.1 z
      · show upd2 h.1 20 j (nI w) 20 z = nI (if z = j then w else aC s.1 z)
        rw [upd2_self]
        unfold upd
        split
        · rfl
        · exact hI.ce hz
  · rw [b2i_n] at q
    have q1 := win_f q1
    unfold ceilingS
    rw [if_neg (by rw [q]; decide), if_pos ?_]
    apply Classical.byContradiction
    intro z
    exact q1 ⟨fun y => z (Or.inl y), fun y => z (Or.inr (fun w => nlt_le.mpr w y))⟩
  · rw [b2i_0] at q
    unfold ceilingS; rw [if_pos q]
theorem cy_shade {x : Int32} (Y : YI s h) (k : ∀ h', YI (shadeS s x).2 h' → FrY h h' → post (some (.int (shadeS s x).1)) h') : Ev 1 mX5_shade [.ref 15, .int x] h post := by
  obtain ⟨hw, hI, hg, hf, hf2⟩ := id Y
  have same : ∀ r, shadeS s x = (r, s) → post (some (.int r)) h := fun r e => by
    have := k h (by rw [e]; exact Y) (FrY.rf h)
    rw [e] at this
    exact this
  have h5 := hw.1
  have h32 := two5 h5
  refine Ev.intro rfl (Nat.le_of_ble_eq_true rfl) (sX5_shade_0 (fun q => sX5_shade_11 ?_) (fun q => sX5_shade_7 (same _ ?_)))
  all_goals rw [hI.n, show (0 : Int32) = nI 0 from rfl, nI_eq (by omega) (by omega)] at q
  · rw [hI.n, sh2 _ (by omega)]
    refine ev_within ?_
    rw [ix_within (by omega)]
    refine sX5_shade_24 (fun q1 => sX5_shade_31 ?_) (fun q1 => sX5_shade_27 (same _ ?_))
    · rw [b2i_n] at q1
      obtain ⟨j, hj, rfl⟩ := ix_of q1 (by omega)
      have e : shadeS s (nI j) = (nI (aH s.1), (setH s.1 j, s.2)) := by
        unfold shadeS
        rw [if_neg q, if_neg (by rw [q1]; decide), nI_clamp (by omega)]
      rw [hI.sh]
      have := k (upd2 h.1 15 8 (nI j), h.2) ?_ (fry1 (by decide))
      · rw [e] at this
        exact this
      · rw [e]
        exact Y.put (s' := (setH s.1 j, s.2)) ⟨hw.1, hw.2.1, hw.2.2.1, hw.2.2.2.1, hw.2.2.2.2.1, hj, hw.2.2.2.2.2.2⟩ ⟨hI.n, hI.p, rfl, hI.sk, hI.2.2.2.2.1, hI.2.2.2.2.2.1, hI.2.2.2.2.2.2⟩ rfl rfl rfl rfl rfl
    · rw [b2i_0] at q1
      unfold shadeS
      rw [if_neg q, if_pos q1]
  · unfold shadeS; rw [if_pos q]
theorem cy_stuck {x b : Int32} (Y : YI s h) (k : ∀ h', YI (stuckS s x b).2 h' → FrY h h' → post (some (.int (stuckS s x b).1)) h') : Ev 2 mX5_stuck [.ref 15, .int x, .int b] h post := by
  obtain ⟨hw, hI, hg, hf, hf2⟩ := id Y
  have h5 := hw.1
  have hsk := hw.sk
  refine Ev.intro rfl (Nat.le_of_ble_eq_true rfl) (sX5_stuck_0 (ev_isMirror hI hw (sX5_stuck_5 (fun q => ?_) (fun q => sX5_stuck_8 ?_))))
  · rw [b2i_n] at q
    obtain ⟨j, hj, rfl⟩ := ix_of q hw.n31
    have fin : ∀ K', (if b = 0 then clrb (aK s.1) j else setb (aK s.1) j) = K' → K' < 2 ^ aN s.1 → post (some (.int (b2i ((aK s.1).testBit j)))) (upd2 h.1 15 9 (nI K'), h.2) := by
      intro K' eK hK
      have e : stuckS s (nI j) b = (b2i ((aK s.1).testBit j), (setK s.1 K', s.2)) := by
        unfold stuckS
        rw [if_neg (by rw [q]; decide), nI_clamp (by omega), eK]
      have := k (upd2 h.1 15 9 (nI K'), h.2) ?_ (fry1 (by decide))
      · rw [e] at this
        exact this
      · rw [e]
        exact Y.put (s' := (setK s.1 K', s.2)) ⟨hw.1, hw.2.1, hw.2.2.1, hw.2.2.2.1, hw.2.2.2.2.1, hw.2.2.2.2.2.1, hK⟩ ⟨hI.n, hI.p, hI.sh, rfl, hI.2.2.2.2.1, hI.2.2.2.2.2.1, hI.2.2.2.2.2.2⟩ rfl rfl rfl rfl rfl
    refine sX5_stuck_12 (fun q1 => sX5_stuck_37 ?_) (fun q1 => sX5_stuck_26 ?_)
    all_goals rw [hI.sk, bit_read (by omega) (by omega)]
    · rw [clr_eq _ hsk j (by omega)]
      refine fin _ (if_pos q1) ?_
      have := clr_le (aK s.1) j
      have := hw.2.2.2.2.2.2
      omega
    · rw [set_or _ hsk j (by omega)]
      exact fin _ (if_neg q1) (set_lt _ (by omega) _ hsk j hj hw.2.2.2.2.2.2)
  · rw [b2i_0] at q
    have e : stuckS s x b = (-1002, s) := if_pos q
    have := k h (by rw [e]; exact Y) (FrY.rf h)
    rw [e] at this
    exact this
theorem NW.put {f : Nat → Nat} {m v : Nat} {y : Int32} (hN : NW f h) (ey : y = nI v - 1) : NW (upN f m v) (upd2 h.1 21 m y, h.2) := fun j hj => by
  show upd2 h.1 21 m y 21 j = _
  rw [upd2_self]
  unfold upd upN
  split
  · exact ey
  · exact hN j hj
theorem cy_aim {x y : Int32} (Y : YI s h) (k : ∀ h', YI (aimS s x y).2 h' → FrY h h' → post (some (.int (aimS s x y).1)) h') : Ev 3 mX5_aim [.ref 15, .int x, .int y] h post := by
  obtain ⟨hw, hI, hg, hf, hf2⟩ := id Y
  have h5 := hw.1
  have h4 := hw.2.1
  have same : ∀ r h', aimS s x y = (r, s) → MK h h' → post (some (.int r)) h' := fun r h' e K => by
    have := k h' (by rw [e]; exact Y.keep K) K.fr
    rw [e] at this
    exact this
  refine Ev.intro rfl (Nat.le_of_ble_eq_true rfl) (sX5_aim_0 (ev_isMirror hI hw (sX5_aim_5 (fun q => ?_) (fun q => sX5_aim_8 (same _ h ?_ (MK.rf h))))))
  · rw [b2i_n] at q
    have go : ¬ (y ≠ -1 ∧ ix y (aP s.1) = false) → G 3 mX5_aim post 29 [some (.ref 15), some (.int x), some (.int y), none] [] h := by
      intro q2
      obtain ⟨m, hm, rfl⟩ := ix_of q hw.n31
      obtain ⟨v, hv, ey, ev, ez⟩ := aimv h4 q2
      refine sX5_aim_29 (ev_asTheyAre (fun f' hf' => sX5_aim_33 (vp_in_nI (by omega) (by omega)) ?_))
      rw [nI_clamp (by omega)]
      have hN := (NW_as hI hf').put (m := m) ey
      have hK : MK h (upd2 (setA h 21 f').1 21 m y, (setA h 21 f').2) := by
        rw [setA_upd]; exact MK.setA (by decide) (by decide)
      have hsk : (setA h 21 f').1 15 9 = nI (aK s.1) := hI.sk
      rw [hsk]
      generalize (upd2 (setA h 21 f').1 21 m y, (setA h 21 f').2) = h1 at hN hK ⊢
      have hI1 := hI.keep hK
      have Y1 := Y.keep hK
      have hub : ∀ j, upN (aV s.1) m v j < 100 := fun j => by have := (upN_ok hw hm hv j).1; omega
      have set : (aK s.1).testBit m = false → ¬ (y ≠ -1 ∧ SF s.1 (upN (aV s.1) m v) (aH s.1) = false) → G 3 mX5_aim post 68 [some (.ref 15), some (.int (nI m)), some (.int y), none] [] h1 := by
        intro q3 q4
        refine sX5_aim_68 (vp_in_nI (by omega) (by omega)) (vp_in_nI (by omega) (by omega)) ?_
        rw [nI_clamp (by omega), hI1.aim (by omega), Y1.2.2.2.2]
        have e : aimS s (nI m) y = (nI (aV s.1 m) - 1, (setV s.1 (upN (aV s.1) m v), s.2.1, s.2.2.1, s.2.2.2.1, s.2.2.2.2 + 1)) := by
          unfold aimS
          rw [if_neg (by rw [q]; decide), if_neg q2, nI_clamp (by omega), ev, if_neg (fun z => z.elim (fun z => by rw [q3] at z; cases z) q4)]
        have := k (upd2 (upd2 h1.1 19 m y) 15 11 (s.2.2.2.2 + 1), h1.2) ?_ (hK.fr.trans (fun c hc => by show upd2 (upd2 h1.1 19 m y) 15 11 (s.2.2.2.2 + 1) c = h1.1 c; rw [upd2_ne (by omega), upd2_ne (by omega)]))
        · rw [e] at this
          exact this
        · rw [e]
          refine ⟨hw.setV (upN_ok hw hm hv), ⟨hI1.n, hI1.p, hI1.sh, hI1.sk, hI1.2.2.2.2.1, fun j hj => ?_, hI1.2.2.2.2.2.2⟩, Y1.2.2.1.keep rfl rfl, Y1.2.2.2.1, rfl⟩
          rw [vA_eq (a := setV s.1 (upN (aV s.1) m v)) (show 0 < aN s.1 by omega)]
          show upd2 h1.1 19 m y 19 j = nI (upN (aV s.1) m v j) - 1
          rw [upd2_self]
          unfold upd upN
          split
          · exact ey
          · exact hI1.aim hj
      refine ev_has (by have := hw.sk; omega) (by omega) (sX5_aim_48 (fun q3 => sX5_aim_64 (same _ h1 ?_ hK)) (fun q3 => sX5_aim_51 (fun q4 => ?_) (fun q4 => sX5_aim_56 (ev_isGood (st := false) hI1 hw hN hub (sX5_aim_61 (fun q5 => ?_) (fun q5 => sX5_aim_64 (same _ h1 ?_ hK)))))))
      · rw [b2i_n] at q3
        unfold aimS
        rw [if_neg (by rw [q]; decide), if_neg q2, nI_clamp (by omega), if_pos (Or.inl q3)]
      · rw [b2i_0] at q3
        exact set q3 (fun z => z.1 q4)
      · rw [b2i_0] at q3
        rw [b2i_n] at q5
        have q5 : SF s.1 (upN (aV s.1) m v) (aH s.1) = true := q5
        exact set q3 (fun z => by rw [q5] at z; cases z.2)
      · rw [b2i_0] at q5
        have q5 : SF s.1 (upN (aV s.1) m v) (aH s.1) = false := q5
        unfold aimS
        rw [if_neg (by rw [q]; decide), if_neg q2, nI_clamp (by omega), ev, if_pos (Or.inr ⟨q4, q5⟩)]
    refine sX5_aim_12 (fun q1 => go (fun z => z.1 q1)) (fun q1 => sX5_aim_17 (ev_isPatch hI hw (sX5_aim_22 (fun q2 => go (fun z => ?_)) (fun q2 => sX5_aim_25 (same _ h ?_ (MK.rf h))))))
    · rw [b2i_n] at q2; rw [q2] at z; cases z.2
    · rw [b2i_0] at q2
      unfold aimS
      rw [if_neg (by rw [q]; decide), if_pos ⟨q1, q2⟩]
  · rw [b2i_0] at q
    exact if_pos q
theorem ev_ofMirror {m : Nat} {w : Int32} (hI : MI a h) (hw : WF a) (hm : m < aN a) (k : post (some (.int (if w.toInt < 0 ∨ 5 < w.toInt then ofMir a m 5 else ofMir a m w.toInt))) h) : Ev 2 mX5_ofMirror [.ref 15, .int (nI m), .int w] h post := by
  have h5 := hw.1
  have vin : vp_in (nI m) 5 := vp_in_nI (by omega) (by omega)
  have hv := (hw.2.2.2.1 m).2.2.1
  have h4 := hw.2.1
  refine Ev.intro rfl (Nat.le_of_ble_eq_true rfl) (sX5_ofMirror_0 (fun z => sX5_ofMirror_75 ?_) (fun z => sX5_ofMirror_36 vin ?_) (fun z => sX5_ofMirror_43 vin ?_) (fun z => sX5_ofMirror_50 vin ?_) (fun z => sX5_ofMirror_57 ?_) (fun z => sX5_ofMirror_66 ?_))
  · have e : (if w.toInt < 0 ∨ 5 < w.toInt then ofMir a m 5 else ofMir a m w.toInt) = (if (aH a).testBit m = true then 0 else nI (sm (gv a m (aV a m)) 4)) := by
      split
      · rfl
      · have : w.toInt = 5 := by omega
        rw [this]; rfl
    rw [e] at k
    rw [hI.sh]
    refine ev_has (by have := hw.sh; omega) (by omega) (sX5_ofMirror_83 (fun y => sX5_ofMirror_90 vin ?_) (fun y => sX5_ofMirror_86 ?_))
    · rw [b2i_0] at y
      rw [if_neg (by rw [y]; decide)] at k
      rw [nI_clamp (by omega), hI.aim (by omega)]
      exact ev_givesAll hI hw hm (by omega) (sX5_ofMirror_101 k)
    · rw [b2i_n] at y
      rw [if_pos y] at k
      exact k
  all_goals rw [if_neg (by omega), z] at k
  · rw [nI_clamp (by omega), hI.mid hm]; exact k
  · rw [nI_clamp (by omega), hI.sid hm]; exact k
  · rw [nI_clamp (by omega), hI.aim (by omega)]; exact k
  · rw [hI.sh, bit_read (by have := hw.sh; omega) (by omega)]; exact k
  · rw [hI.sk, bit_read (by have := hw.sk; omega) (by omega)]; exact k
theorem w_in {w : Int32} {lo hi : Int32} : (¬ w < lo ∧ ¬ hi < w) ↔ (lo.toInt ≤ w.toInt ∧ w.toInt ≤ hi.toInt) := by
  rw [Int32.lt_iff_toInt_lt, Int32.lt_iff_toInt_lt]; omega
theorem cy_mirror {x w : Int32} (Y : YI s h) (k : post (some (.int (mirrorS s x w))) h) : Ev 3 mX5_mirror [.ref 15, .int x, .int w] h post := by
  obtain ⟨hw, hI, hg, hf, hf2⟩ := id Y
  have h5 := hw.1
  refine Ev.intro rfl (Nat.le_of_ble_eq_true rfl) (sX5_mirror_0 (ev_isMirror hI hw (sX5_mirror_5 (fun q => sX5_mirror_12 (ev_within (sX5_mirror_18 (fun q1 => sX5_mirror_30 ?_) (fun q1 => sX5_mirror_21 ?_)))) (fun q => sX5_mirror_8 ?_))))
  · rw [b2i_n] at q
    have q1 := win_f q1
    rw [w_in, show Int32.toInt 0 = 0 by decide, show Int32.toInt 5 = 5 by decide] at q1
    unfold mirrorS at k
    rw [if_neg (by rw [q]; decide), if_pos (by omega)] at k
    exact k
  · rw [b2i_n] at q
    have q1 := win_t q1
    rw [w_in, show Int32.toInt 0 = 0 by decide, show Int32.toInt 5 = 5 by decide] at q1
    obtain ⟨m, hm, rfl⟩ := ix_of q hw.n31
    refine ev_ofMirror hI hw hm (sX5_mirror_27 ?_)
    unfold mirrorS at k
    rw [if_neg (by rw [q]; decide), if_neg (by omega), nI_clamp (by omega)] at k
    rw [if_neg (by omega)]
    exact k
  · rw [b2i_0] at q
    unfold mirrorS at k
    rw [if_pos q] at k
    exact k
theorem ev_ofPatch {q : Nat} {w : Int32} (hI : MI a h) (hw : WF a) (hq : q < aP a) (k : ∀ h', MK h h' → h'.2 = h.2 → post (some (.int (ofPat a q w.toInt))) h') : Ev 2 mX5_ofPatch [.ref 15, .int (nI q), .int w] h post := by
  have h4 := hw.2.1
  have hvb : ∀ m, aV a m < 100 := fun m => by have := (hw.2.2.2.1 m).2.2.1; omega
  have hn : 0 < aN a := hw.2.2.1.mpr (by omega)
  refine Ev.intro rfl (Nat.le_of_ble_eq_true rfl) (sX5_ofPatch_0 (ev_asTheyAre (fun f' hf' => ?_)))
  have hN := NW_as hI hf'
  have hK : MK h (setA h 21 f') := MK.setA (by decide) (by decide)
  have hl : (setA h 21 f').2 = h.2 := rfl
  generalize setA h 21 f' = h1 at hN hK hl ⊢
  have k := k h1 hK hl
  have hI1 := hI.keep hK
  have t : ∀ n : Int32, w = n ↔ w.toInt = n.toInt := fun n => Int32.toInt_inj.symm
  unfold ofPat at k
  refine sX5_ofPatch_4 (fun z => sX5_ofPatch_17 (fun z1 => sX5_ofPatch_31 (fun z2 => sX5_ofPatch_45 ?_) (fun z2 => sX5_ofPatch_36 ?_)) (fun z1 => sX5_ofPatch_22 (vp_in_nI (by omega) (by omega)) ?_)) (fun z => sX5_ofPatch_8 ?_)
  · rw [t, show Int32.toInt 0 = 0 by decide] at z
    rw [t, show Int32.toInt 1 = 1 by decide] at z1
    rw [t, show Int32.toInt 2 = 2 by decide] at z2
    rw [if_neg z, if_neg z1, if_neg z2] at k
    exact ev_aimedAt hI1 hw hq (sX5_ofPatch_50 k)
  · rw [z2] at k
    exact ev_heatAt (st := true) hI1 hw hN hvb hq (sX5_ofPatch_42 k)
  · rw [z1] at k
    rw [nI_clamp (by omega), hI1.ce hq]
    exact k
  · rw [z] at k
    exact ev_heatAt (st := false) hI1 hw hN hvb hq (sX5_ofPatch_14 k)
theorem cy_patch {x w : Int32} (Y : YI s h) (k : ∀ h', YI s h' → FrY h h' → post (some (.int (patchS s x w))) h') : Ev 3 mX5_patch [.ref 15, .int x, .int w] h post := by
  obtain ⟨hw, hI, hg, hf, hf2⟩ := id Y
  have h4 := hw.2.1
  refine Ev.intro rfl (Nat.le_of_ble_eq_true rfl) (sX5_patch_0 (ev_isPatch hI hw (sX5_patch_5 (fun q => sX5_patch_12 (ev_within (sX5_patch_18 (fun q1 => sX5_patch_30 ?_) (fun q1 => sX5_patch_21 ?_)))) (fun q => sX5_patch_8 ?_))))
  · rw [b2i_n] at q
    have q1 := win_f q1
    rw [w_in, show Int32.toInt 0 = 0 by decide, show Int32.toInt 3 = 3 by decide] at q1
    have k := k h Y (FrY.rf h)
    unfold patchS at k
    rw [if_neg (by rw [q]; decide), if_pos (by omega)] at k
    exact k
  · rw [b2i_n] at q
    have q1 := win_t q1
    rw [w_in, show Int32.toInt 0 = 0 by decide, show Int32.toInt 3 = 3 by decide] at q1
    obtain ⟨m, hm, rfl⟩ := ix_of q hw.p31
    refine ev_ofPatch hI hw hm (fun h' K _ => sX5_patch_27 ?_)
    have k := k h' (Y.keep K) K.fr
    unfold patchS at k
    rw [if_neg (by rw [q]; decide), if_neg (by omega), nI_clamp (by omega)] at k
    exact k
  · rw [b2i_0] at q
    have k := k h Y (FrY.rf h)
    unfold patchS at k
    rw [if_pos q] at k
    exact k
theorem ev_howMany {w : Int32} (Y : YI s h) (k : ∀ h', MK h h' → h'.2 = h.2 → post (some (.int (countA s w.toInt))) h') : Ev 3 mX5_howMany [.ref 15, .int w] h post := by
  obtain ⟨hw, hI, hg, hf, hf2⟩ := id Y
  have h4 := hw.2.1
  have hvb : ∀ m, vA s.1 m < 100 := fun m => by have := (hw.2.2.2.1 m).2.2.1; unfold vA; split <;> omega
  refine Ev.intro rfl (Nat.le_of_ble_eq_true rfl) (sX5_howMany_0 (ev_asTheyAre (fun f' hf' => ?_)))
  have hN := NW_av hI hf'
  have hK : MK h (setA h 21 f') := MK.setA (by decide) (by decide)
  have hl : (setA h 21 f').2 = h.2 := rfl
  generalize setA h 21 f' = h1 at hN hK hl ⊢
  have k := k h1 hK hl
  obtain ⟨_, hI1, hg1, hf1, hf21⟩ := Y.keep hK
  refine sX5_howMany_4 (fun z => sX5_howMany_128 ?_) (fun z => sX5_howMany_60 ?_) (fun z => sX5_howMany_65 ?_) (fun z => sX5_howMany_70 ?_) (fun z => sX5_howMany_75 ?_) (fun z => sX5_howMany_80 ?_) (fun z => sX5_howMany_94 ?_) (fun z => sX5_howMany_108 ?_) (fun z => sX5_howMany_113 ?_) (fun z => sX5_howMany_118 ?_) (fun z => sX5_howMany_123 ?_)
  · have e : countA s w.toInt = -1003 := by
      unfold countA
      rw [if_neg (by omega), if_neg (by omega), if_neg (by omega), if_neg (by omega), if_neg (by omega), if_neg (by omega), if_neg (by omega), if_neg (by omega), if_neg (by omega), if_neg (by omega)]
    rw [e] at k
    exact k
  all_goals rw [z] at k
  · rw [hI1.n]; exact k
  · rw [hI1.p]; exact k
  · rw [hg1.2.1]; exact k
  · refine ev_caught hI1 hw hN hvb ?_
    rw [CT_vA]
    exact sX5_howMany_79 k
  · have k : post (some (.int (b2i (SF s.1 (aV s.1) (aH s.1))))) h1 := k
    refine ev_isGood (st := false) hI1 hw hN hvb (sX5_howMany_85 (fun y => sX5_howMany_92 ?_) (fun y => sX5_howMany_88 ?_))
    · rw [b2i_0] at y
      have y : SF s.1 (vA s.1) (aH s.1) = false := y
      rw [SF_vA] at y
      rw [y] at k; exact k
    · rw [b2i_n] at y
      have y : SF s.1 (vA s.1) (aH s.1) = true := y
      rw [SF_vA] at y
      rw [y] at k; exact k
  · have k : post (some (.int (b2i (SF s.1 (aV s.1) 0)))) h1 := k
    refine ev_isGood (st := true) hI1 hw hN hvb (sX5_howMany_99 (fun y => sX5_howMany_106 ?_) (fun y => sX5_howMany_102 ?_))
    · rw [b2i_0] at y
      have y : SF s.1 (vA s.1) 0 = false := y
      rw [SF_vA] at y
      rw [y] at k; exact k
    · rw [b2i_n] at y
      have y : SF s.1 (vA s.1) 0 = true := y
      rw [SF_vA] at y
      rw [y] at k; exact k
  · rw [hI1.sh]; exact k
  · rw [hI1.sk]; exact k
  · rw [hf1]; exact k
  · rw [hf21]; exact k
theorem cy_count {w : Int32} (Y : YI s h) (k : ∀ h', YI s h' → FrY h h' → post (some (.int (countA s w.toInt))) h') : Ev 4 mX5_count [.ref 15, .int w] h post :=
  Ev.intro rfl (Nat.le_of_ble_eq_true rfl) (sX5_count_0 (ev_howMany Y (fun h' K _ => sX5_count_5 (k h' (Y.keep K) K.fr))))
end MD3
