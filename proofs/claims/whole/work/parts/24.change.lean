section CHG4
variable {post : Option Value → PH → Prop} {h : PH} {a : St}
theorem ev_findBest4 (hI : CI a h) (hw : WF a) (hs : h.1 4 0 = b2i false) (k : ∀ g', OP4 a 3125 h g' → post none g') : Ev 8 mX2_findBest [.ref 3, .ref 2, .ref 4] h post := by
  refine Ev.intro rfl (Nat.le_of_ble_eq_true rfl) (sX2_findBest_0_p4 (ev_fill12 (sX2_findBest_9_p4 ?_)))
  have := ev_openFrom4 hI hw hs 5 0 (by omega) (Nat.zero_le _) 0 (by omega) (Nat.zero_mod _) (fun m hm => by omega) (upd2 (upd2 (setA h 12 (fun i => if i < 3125 then -2 else h.1 12 i)).1 4 4 (-1001)) 4 5 0, (setA h 12 (fun i => if i < 3125 then -2 else h.1 12 i)).2) ?_ (fun r h' => G 8 mX2_findBest post 34 [none, none, none] (r.toList ++ []) h') (fun g' o => sX2_findBest_34_p4 (k g' o))
  · exact this
  · refine ⟨fun c hc => ?_, rfl, fun q => absurd rfl q, fun cc h1 h2 => ?_, fun j h1 h2 => ?_, rfl⟩
    · show (if rv c < 3125 then (-2 : Int32) else h.1 12 (rv c)) = _
      rw [if_pos (rv_lt hc), if_neg (fun z => by omega)]
    · show upd2 (upd2 (setA h 12 _).1 4 4 (-1001)) 4 5 0 cc = _
      rw [upd2_ne h2, upd2_ne h2, setA_ne h1]
    · show upd2 (upd2 (setA h 12 _).1 4 4 (-1001)) 4 5 0 4 j = _
      rw [upd2_self, pk_un h2, upd2_self, pk_un h1, setA_ne (by decide)]
theorem pth_ok4 {far M : Nat} {w : Nat → Int32} (hw : WF a) (h0 : (bsF a false).1 ≠ 0) (R : RV a false (bsF a false).2 far w) (hf : far < 2 ^ 29) (hM : M ≤ far) (hM2 : M ≤ 3125) (hDM : Ds a false (bsF a false).2 M (cod (aV a))) : ∀ k, k ≤ M → pth a false k < 3125 ∧ Ds a false (bsF a false).2 (M - k) (pth a false k)
  | 0, _ => ⟨cod_lt hw, hDM⟩
  | k + 1, hk => by
    obtain ⟨h1, h2⟩ := pth_ok4 hw h0 R hf hM hM2 hDM k (by omega)
    have hb : okk a false (bsF a false).2 = true := (BS_spec 3125 h0).2
    have hN := chN_of hw h0 hDM hM2
    obtain ⟨j, hj⟩ : ∃ j, M - k = j + 1 := ⟨M - k - 1, by omega⟩
    rw [hj] at h2
    obtain ⟨-, q2, q3, q4, q5, q6, q7⟩ := mv_step hw hb R hf hM hDM h1 h2 (by omega)
    have ej : chN a false - 2 - k = j := by omega
    rw [pth, ej, show M - (k + 1) = j by omega]
    exact ⟨q5, q7⟩
theorem ev_noteMoves4 {far M : Nat} (hI : CI a h) (hw : WF a) (h0 : (bsF a false).1 ≠ 0) (R : RV a false (bsF a false).2 far (h.1 12)) (hf : far < 2 ^ 29) (hM : M ≤ far) (hM2 : M ≤ 3125) (hDM : Ds a false (bsF a false).2 M (cod (aV a))) (h6 : h.1 4 6 = nI M) (k : ∀ f', (∀ j, j < 15 → j < M → f' j = nI (chV a false j)) → post none (setA h 13 f')) : Ev 2 mX2_noteMoves [.ref 3, .ref 2, .ref 4, .int (nI (rv (cod (aV a))))] h post := by
  have h5 := hw.1
  have h4 := hw.2.1
  have hb : okk a false (bsF a false).2 = true := (BS_spec 3125 h0).2
  have hN := chN_of hw h0 hDM hM2
  refine Ev.intro rfl (Nat.le_of_ble_eq_true rfl) (sX2_noteMoves_0_p4 ?_)
  rw [h6, show (if (15 : Int32) < nI M then (15 : Int32) else nI M) = nI (min M 15) by rw [show (15 : Int32) = nI 15 from rfl, mn_nI (by omega) (by omega)]]
  have key : ∀ i, i ≤ min M 15 → ∀ f', (∀ j, j < i → f' j = nI (chV a false j)) → G 2 mX2_noteMoves post 20 [some (.ref 3), some (.ref 2), some (.ref 4), none, some (.int (nI (rv (pth a false i)))), some (.int (nI (min M 15))), some (.int (nI i)), none, none] [] (setA h 13 f') := by
    refine loopU (min M 15) (fun i hi ih f' hf' => ?_) (fun f' hf' => ?_)
    · have hIg : CI a (setA h 13 f') := hI.same (fun z hz => setA_ne (by omega))
      obtain ⟨h1, h2⟩ := pth_ok4 hw h0 R hf hM hM2 hDM i (by omega)
      obtain ⟨j, hj⟩ : ∃ j, M - i = j + 1 := ⟨M - i - 1, by omega⟩
      rw [hj] at h2
      obtain ⟨q1, q2, q3, q4, q5, q6, q7⟩ := mv_step hw hb R hf hM hDM h1 h2 (by omega)
      have ej : chN a false - 2 - i = j := by omega
      have eV : chV a false i = mvF a false (bsF a false).2 (pth a false i) j := by rw [chV, ej]
      have eP : pth a false (i + 1) = setd (pth a false i) (chV a false i / 8) (chV a false i % 8) := rfl
      rw [← eV] at q1 q2 q3 q4 q5 q6 q7
      have hrl := rv_lt h1
      refine sX2_noteMoves_20_p4 (fun hc => ?_) (fun _ => sX2_noteMoves_27_p4 ?_)
      · rw [nI_leI (by omega) (by omega)] at hc; omega
      rw [show (setA h 13 f').1 4 6 = nI M from h6, pk_sub (by omega), hj, nI_pred]
      refine ev_leastMove hIg hw hrl ?_
      rw [show (setA h 13 f').1 12 = h.1 12 from rfl, q1, if_pos q2]
      refine sX2_noteMoves_43_p4 (vp_in_nI (by omega) (by omega)) ?_
      have e3 : nI (chV a false i) >>> ((3 : Int32) &&& 31) = nI (chV a false i / 8) := by
        rw [pk_shrN (by omega) _ 3 (by decide)]
      have e7 : nI (chV a false i) &&& (7 : Int32) = nI (chV a false i % 8) := by
        rw [pk_andN (by omega) 3 (by decide)]
      rw [e3, nI_clamp (by omega), setA_upd]
      have hIg2 : CI a (setA h 13 (upd f' i (nI (chV a false i)))) := hI.same (fun z hz => setA_ne (by omega))
      refine ev_hasMirror hIg2 hw ?_
      rw [ix_nI q3 (by omega)]
      refine sX2_noteMoves_66_p4 (fun hc => absurd hc (by decide)) (fun _ => sX2_noteMoves_69_p4 ?_)
      refine ev_aimIn hrl (by omega) (sX2_noteMoves_85_p4 (vp_in_nI (by omega) (by omega)) (sX2_noteMoves_96_p4 ?_))
      have hdl : dp (rv (pth a false i)) (chV a false i / 8) * 5 ^ (chV a false i / 8) ≤ rv (pth a false i) := by
        unfold dp
        exact Nat.le_trans (Nat.mul_le_mul_right _ (Nat.mod_le _ _)) (Nat.div_mul_le_self _ _)
      have ep : nI (rv (pth a false i)) + (nI (chV a false i % 8) - 1 - (nI (dp (rv (pth a false i)) (chV a false i / 8)) - 1)) * stp5 (nI (chV a false i / 8)).toNatClampNeg = nI (rv (pth a false (i + 1))) := by
        rw [nI_clamp (by omega), stp5_eq _ (by omega), i32_move, pk_mul, pk_mul, pk_sub hdl, nI_add, eP, rv_setd h1 (by omega) (by omega)]
        rfl
      rw [e7, ep, nI_1]
      refine ih _ (fun z hz => ?_)
      by_cases e : z = i
      · rw [e, pk_us]
      · rw [pk_un e]
        exact hf' z (by omega)
    · exact sX2_noteMoves_20_p4 (fun _ => sX2_noteMoves_102_p4 (k f' (fun j h1 h2 => hf' j (by omega)))) (fun hc => absurd (nI_le (Nat.le_refl _) (by omega)) hc)
  have st0 := key 0 (Nat.zero_le _) (h.1 13) (fun j hj => by omega)
  rw [setA_id] at st0
  exact st0
theorem ev_findChange4 (hI : CI a h) (hw : WF a) (hn : 0 < aN a) (W0 : ∀ c, c < 3125 → h.1 12 (rv c) = if okk a false c = true then -1 else -2) (hc4 : h.1 4 4 = bsV a false) (hc5 : (bsF a false).1 ≠ 0 → h.1 4 5 = nI (plc (dg (bsF a false).2) (aN a)))
    (k : ∀ g', (∀ cc, cc ≠ 12 → cc ≠ 4 → cc ≠ 13 → g'.1 cc = h.1 cc) → (∀ j, j ≠ 6 → g'.1 4 j = h.1 4 j) → g'.1 4 6 = chM a false → (∀ j, j < 15 → j + 1 < chN a false → g'.1 13 j = nI (chV a false j)) → g'.2 = h.2 → post none g') : Ev 3 mX2_findChange [.ref 3, .ref 2, .ref 4] h post := by
  have h5 := hw.1
  have h4 := hw.2.1
  have h3 := five_le h5
  have hcl := cod_lt hw
  refine Ev.intro rfl (Nat.le_of_ble_eq_true rfl) (sX2_findChange_0_p4 (fun hc => sX2_findChange_18_p4 ?_) (fun hc => sX2_findChange_17_p4 ?_))
  · have h0 : (bsF a false).1 ≠ 0 := fun e => hc (by rw [hc4, bsV, if_pos e])
    have hb : okk a false (bsF a false).2 = true := (BS_spec 3125 h0).2
    have hbl : (bsF a false).2 < 3125 := (BS_spec 3125 h0).1
    have hI1 : CI a (upd2 h.1 4 6 (-1001), h.2) := hI.same (fun z hz => upd2_ne (by omega))
    have erv : ∀ c, nod a false c → plc (dg c) (aN a) = rv c := fun c hn => by
      unfold rv plc
      exact (sm_cut 5 h5 (fun m h1 h2 => by rw [(nod_dig hw hn h2).2.1 h1, Nat.zero_mul])).symm
    have eps : plc (aV a) (aN a) = rv (cod (aV a)) := by
      rw [← erv _ (Or.inr rfl)]
      exact sm_cong _ (fun m hm => by rw [dg_V hw (by omega)])
    have epb : h.1 4 5 = nI (rv (bsF a false).2) := by rw [hc5 h0, erv _ (Or.inl hb)]
    have hpl := rv_lt hcl
    have hpb := rv_lt hbl
    refine ev_placeNow hI1 hw (sX2_findChange_22_p4 (ev_setWay (x := rv (cod (aV a))) (congrArg nI eps) hpl (sX2_findChange_29_p4 (ev_setWay (x := rv (bsF a false).2) epb hpb (sX2_findChange_38_p4 ?_)))))
    have eh : (upd2 (upd2 (upd2 h.1 4 6 (-1001)) 12 (rv (cod (aV a))) (-1)) 12 (rv (bsF a false).2) 0, h.2) = setA (upd2 h.1 4 6 (-1001), h.2) 12 (upd (upd (h.1 12) (rv (cod (aV a))) (-1)) (rv (bsF a false).2) 0) := setA_upd (upd2 h.1 4 6 (-1001), h.2) 12 (rv (bsF a false).2) (upd ((upd2 h.1 4 6 (-1001), h.2).1 12) (rv (cod (aV a))) (-1)) 0
    rw [eps]
    show G 3 mX2_findChange post 44 [some (.ref 3), some (.ref 2), some (.ref 4), some (.int (nI (rv (cod (aV a))))), some (.int 1), some (.int 0)] [] (upd2 (upd2 (upd2 h.1 4 6 (-1001)) 12 (rv (cod (aV a))) (-1)) 12 (rv (bsF a false).2) 0, h.2)
    rw [eh]
    clear eh
    have R0 : RV a false (bsF a false).2 0 (upd (upd (h.1 12) (rv (cod (aV a))) (-1)) (rv (bsF a false).2) 0) := by
      intro c hc
      refine ⟨fun j hj hD => ?_, fun hu => ?_⟩
      · have : j = 0 := by omega
        subst this
        have e : c = (bsF a false).2 := hD.1
        rw [e, pk_us]
        rfl
      · have hne : c ≠ (bsF a false).2 := hu 0 (Nat.le_refl _)
        rw [pk_un (fun e => hne (rv_inj hc hbl e))]
        by_cases e : c = cod (aV a)
        · rw [e, pk_us, if_pos (pB_t.mpr (show nod a false (cod (aV a)) from Or.inr rfl))]
        · rw [pk_un (fun q => e (rv_inj hc hcl q)), W0 c hc]
          by_cases q : okk a false c = true
          · rw [if_pos q, if_pos (pB_t.mpr (show nod a false c from Or.inl q))]
          · rw [if_neg q, if_neg (fun z => (pB_t.mp z).elim q e)]
    have fin : ∀ far w, far ≤ 5 ^ aN a → RV a false (bsF a false).2 far w → ((∀ j, j ≤ far → ¬ rs a false (bsF a false).2 j (cod (aV a))) → ∀ j, ¬ rs a false (bsF a false).2 j (cod (aV a))) → G 3 mX2_findChange post 82 [some (.ref 3), some (.ref 2), some (.ref 4), some (.int (nI (rv (cod (aV a))))), none, none] [] (setA (upd2 h.1 4 6 (-1001), h.2) 12 w) := by
      intro far w hfar R hall
      refine sX2_findChange_82_p4 (ev_wayFrom hpl (sX2_findChange_87_p4 (fun q => sX2_findChange_106_p4 ?_) (fun q => sX2_findChange_90_p4 (ev_wayFrom hpl (sX2_findChange_96_p4 ?_)))))
      · rw [setA_self, RV_neg R (by omega) hcl (Or.inr rfl), RV_open R (by omega) hcl] at q
        have hN := chN_none hw h0 (hall q.2)
        refine k _ (fun cc h1 h2 _ => ?_) (fun j hj => ?_) ?_ (fun j _ hj => by rw [hN] at hj; omega) rfl
        · rw [setA_ne h1]; exact upd2_ne h2
        · rw [setA_ne (by decide)]
          show upd2 h.1 4 6 (-1001) 4 j = _
          rw [upd2_self, pk_un hj]
        · rw [chM, if_pos hN]
          rfl
      · rw [setA_self, RV_neg R (by omega) hcl (Or.inr rfl)] at q
        have hex : ∃ j, j ≤ far ∧ rs a false (bsF a false).2 j (cod (aV a)) := Classical.byContradiction (fun z => q ((RV_open R (by omega) hcl).mpr ⟨Or.inr rfl, fun j h1 h2 => z ⟨j, h1, h2⟩⟩))
        obtain ⟨j0, h1, h2⟩ := hex
        obtain ⟨M, h3', h4', h5'⟩ := least (fun j => rs a false (bsF a false).2 j (cod (aV a))) j0 h2
        have hDM : Ds a false (bsF a false).2 M (cod (aV a)) := ⟨h4', h5'⟩
        have ew := (R _ hcl).1 M (by omega) hDM
        have hN := chN_of hw h0 hDM (by omega)
        rw [setA_self, ew]
        refine ev_noteMoves4 (far := far) (M := M) (hI.same (fun z hz => ?_)) hw h0 ?_ (by omega) (by omega) (by omega) hDM ?_ (fun f' hf' => sX2_findChange_106_p4 (k _ (fun cc h1 h2 h3 => ?_) (fun j hj => ?_) ?_ (fun j h15 hj => ?_) rfl))
        · show upd2 (setA (upd2 h.1 4 6 (-1001), h.2) 12 w).1 4 6 (nI M) z = _
          rw [upd2_ne (by omega), setA_ne (by omega)]
          exact upd2_ne (by omega)
        · exact R
        · show upd2 (setA (upd2 h.1 4 6 (-1001), h.2) 12 w).1 4 6 (nI M) 4 6 = _
          rw [upd2_self, pk_us]
        · rw [setA_ne h3]
          show upd2 (setA (upd2 h.1 4 6 (-1001), h.2) 12 w).1 4 6 (nI M) cc = _
          rw [upd2_ne h2, setA_ne h1]
          exact upd2_ne h2
        · rw [setA_ne (by decide)]
          show upd2 (setA (upd2 h.1 4 6 (-1001), h.2) 12 w).1 4 6 (nI M) 4 j = _
          rw [upd2_self, pk_un hj, setA_ne (by decide)]
          show upd2 h.1 4 6 (-1001) 4 j = _
          rw [upd2_self, pk_un hj]
        · rw [setA_ne (by decide)]
          show upd2 (setA (upd2 h.1 4 6 (-1001), h.2) 12 w).1 4 6 (nI M) 4 6 = _
          rw [upd2_self, pk_us, chM, hN, if_neg (by omega)]
          rfl
        · rw [setA_self]
          exact hf' j h15 (by omega)
    have key : ∀ far, far ≤ 5 ^ aN a → ∀ w t, RV a false (bsF a false).2 far w → (t = true → ∀ j, j ≤ far → ∃ c, c < 3125 ∧ Ds a false (bsF a false).2 j c) → (t = false → ∀ c, c < 3125 → ¬ Ds a false (bsF a false).2 far c) → G 3 mX2_findChange post 44 [some (.ref 3), some (.ref 2), some (.ref 4), some (.int (nI (rv (cod (aV a))))), some (.int (b2i t)), some (.int (nI far))] [] (setA (upd2 h.1 4 6 (-1001), h.2) 12 w) := by
      have never : ∀ far, (∀ c, c < 3125 → ¬ Ds a false (bsF a false).2 far c) → (∀ j, j ≤ far → ¬ rs a false (bsF a false).2 j (cod (aV a))) → ∀ j, ¬ rs a false (bsF a false).2 j (cod (aV a)) := by
        intro far hno hu j hj
        obtain ⟨M, h3', h4', h5'⟩ := least (fun j => rs a false (bsF a false).2 j (cod (aV a))) j hj
        by_cases q : M ≤ far
        · exact hu M q h4'
        · obtain ⟨d, rfl⟩ : ∃ d, M = far + d := ⟨M - far, by omega⟩
          exact Ds_end hw hb hno d _ hcl ⟨h4', h5'⟩
      refine loopU (5 ^ aN a) (fun far hfar ih w t R ht hf' => ?_) (fun w t R ht hf' => ?_)
      · have hIg : CI a (setA (upd2 h.1 4 6 (-1001), h.2) 12 w) := hI1.same (fun z hz => setA_ne (by omega))
        refine sX2_findChange_44_p4 (fun q => ?_) (fun _ => sX2_findChange_53_p4 (fun q => ?_) (fun q => sX2_findChange_58_p4 (ev_wayFrom hpl (sX2_findChange_63_p4 (fun q2 => ?_) (fun q2 => sX2_findChange_67_p4 ?_)))))
        · rw [hIg.pl hn, nI_leI (by omega) (by omega)] at q; omega
        · rw [b2i_0] at q
          exact fin far w (by omega) R (never far (hf' q))
        · rw [setA_self] at q2
          exact fin far w (by omega) R (fun hu => absurd ((RV_open R (by omega) hcl).mpr ⟨Or.inr rfl, hu⟩) q2)
        · rw [setA_self, RV_open R (by omega) hcl] at q2
          rw [b2i_n] at q
          refine ev_widen (w0 := w) hIg hw hn (by omega) (setA_self _ _ _) (fun w' b' g1 g2 => sX2_findChange_74_p4 ?_)
          rw [setA_setA, nI_1]
          obtain ⟨R', ht'⟩ := RV_step hw hb R (by omega) q2.2 g1 g2
          refine ih w' b' R' (fun e j hj => ?_) (fun e c hc hD => ?_)
          · by_cases z : j ≤ far
            · exact ht q j z
            · have : j = far + 1 := by omega
              subst this
              exact ht'.mp e
          · have := ht'.mpr ⟨c, hc, hD⟩
            rw [e] at this
            cases this
      · have hIg : CI a (setA (upd2 h.1 4 6 (-1001), h.2) 12 w) := hI1.same (fun z hz => setA_ne (by omega))
        have t0 : t = false := by
          cases t with
          | false => rfl
          | true =>
            have := Ds_count hw hb (ht rfl)
            omega
        exact sX2_findChange_44_p4 (fun _ => fin _ w (Nat.le_refl _) R (never _ (hf' t0))) (fun q => absurd (by rw [hIg.pl hn]; exact nI_le (Nat.le_refl _) (by omega)) q)
    exact key 0 (Nat.zero_le _) _ true R0 (fun _ j hj => ⟨(bsF a false).2, hbl, by
      have : j = 0 := by omega
      subst this
      exact ⟨rfl, fun i hi => by omega⟩⟩) (fun e => by cases e)
  · have h0 : (bsF a false).1 = 0 := by
      apply Classical.byContradiction
      intro e
      rw [hc4, bsV, if_neg e] at hc
      exact nI_n1001 (by have := BS_le hw false 3125; show (BS a false 3125).1 - 1 < 2 ^ 31; omega) hc
    have hN : chN a false = 0 := by rw [chN, if_pos h0]
    refine k _ (fun cc _ h2 _ => upd2_ne h2) (fun j hj => ?_) ?_ (fun j _ hj => by rw [hN] at hj; omega) rfl
    · show upd2 h.1 4 6 (-1001) 4 j = _
      rw [upd2_self, pk_un hj]
    · rw [chM, if_pos hN]
      rfl
/-- the plans as they are known -/
def KP4 (h h' : PH) : Prop := (∀ cc, cc ≠ 12 → cc ≠ 4 → cc ≠ 13 → h'.1 cc = h.1 cc) ∧ h'.2 = h.2
theorem ev_planWithBest4 (hI : CI a h) (hw : WF a) (P : PI1 a false h) (k : ∀ h', KP4 h h' → PI1 a false h' → h'.1 4 4 = bsV a false → ((bsF a false).1 ≠ 0 → h'.1 4 5 = nI (plc (dg (bsF a false).2) (aN a))) → post (some (.ref 4)) h') : Ev 9 mX2_planWithBest [.ref 3, .ref 2, .int (b2i false)] h post := by
  obtain ⟨p0, p1, p2⟩ := id P
  have p0 : h.1 4 0 = b2i false := p0
  have p1 : h.1 4 2 = 0 ∨ h.1 4 2 = 1 ∧ h.1 4 4 = bsV a false ∧ ((bsF a false).1 ≠ 0 → h.1 4 5 = nI (plc (dg (bsF a false).2) (aN a))) := p1
  refine Ev.intro rfl (Nat.le_of_ble_eq_true rfl) (sX2_planWithBest_0 (fun _ => sX2_planWithBest_11 (fun q => sX2_planWithBest_34_p4 ?_) (fun q => sX2_planWithBest_23_p4 ?_)) (fun z => absurd rfl z))
  · have := p1.resolve_left q
    exact k h ⟨fun _ _ _ _ => rfl, rfl⟩ P this.2.1 this.2.2
  · refine ev_findBest4 hI hw p0 (fun g' o => sX2_planWithBest_29_p4 (sX2_planWithBest_34_p4 ?_))
    have e4 : g'.1 4 4 = bsV a false := o.2.1
    have e5 := o.2.2.1
    refine k _ ⟨fun cc h1 h2 h3 => ?_, o.2.2.2.2.2⟩ ⟨?_, Or.inr ⟨?_, ?_, ?_⟩, ?_⟩ ?_ ?_
    · show upd2 g'.1 4 2 1 cc = _
      rw [upd2_ne h2]; exact o.2.2.2.1 cc h1 h2
    · show upd2 g'.1 4 2 1 4 0 = _
      rw [upd2_self, pk_un (by decide), o.2.2.2.2.1 0 (by decide) (by decide)]; exact p0
    · show upd2 g'.1 4 2 1 4 2 = _
      rw [upd2_self, pk_us]
    · show upd2 g'.1 4 2 1 4 4 = _
      rw [upd2_self, pk_un (by decide)]; exact e4
    · intro z
      show upd2 g'.1 4 2 1 4 5 = _
      rw [upd2_self, pk_un (by decide)]; exact e5 z
    · have q3 : upd2 g'.1 4 2 1 4 3 = h.1 4 3 := by rw [upd2_self, pk_un (by decide)]; exact o.2.2.2.2.1 3 (by decide) (by decide)
      have q6 : upd2 g'.1 4 2 1 4 6 = h.1 4 6 := by rw [upd2_self, pk_un (by decide)]; exact o.2.2.2.2.1 6 (by decide) (by decide)
      have qF : upd2 g'.1 4 2 1 13 = h.1 13 := by rw [upd2_ne (by decide)]; exact o.2.2.2.1 13 (by decide) (by decide)
      have p2 : h.1 4 3 = 0 ∨ h.1 4 3 = 1 ∧ h.1 4 6 = chM a false ∧ ∀ k, k < 15 → k + 1 < chN a false → h.1 13 k = nI (chV a false k) := p2
      rw [← q3, ← q6, ← qF] at p2
      exact p2
    · show upd2 g'.1 4 2 1 4 4 = _
      rw [upd2_self, pk_un (by decide)]; exact e4
    · intro z
      show upd2 g'.1 4 2 1 4 5 = _
      rw [upd2_self, pk_un (by decide)]; exact e5 z
theorem ev_planWithChange4 (hI : CI a h) (hw : WF a) (hn : 0 < aN a) (P : PI1 a false h) (k : ∀ h', KP4 h h' → PI1 a false h' → h'.1 4 6 = chM a false → (∀ j, j < 15 → j + 1 < chN a false → h'.1 13 j = nI (chV a false j)) → post (some (.ref 4)) h') : Ev 9 mX2_planWithChange [.ref 3, .ref 2, .int (b2i false)] h post := by
  obtain ⟨p0, p1, p2⟩ := id P
  have p0 : h.1 4 0 = b2i false := p0
  have p2 : h.1 4 3 = 0 ∨ h.1 4 3 = 1 ∧ h.1 4 6 = chM a false ∧ ∀ k, k < 15 → k + 1 < chN a false → h.1 13 k = nI (chV a false k) := p2
  refine Ev.intro rfl (Nat.le_of_ble_eq_true rfl) (sX2_planWithChange_0 (fun _ => sX2_planWithChange_11 (fun q => sX2_planWithChange_45_p4 ?_) (fun q => sX2_planWithChange_23_p4 ?_)) (fun z => absurd rfl z))
  · have := p2.resolve_left q
    exact k h ⟨fun _ _ _ _ => rfl, rfl⟩ P this.2.1 this.2.2
  · refine ev_findBest4 hI hw p0 (fun g o => sX2_planWithChange_29_p4 ?_)
    have e4 : g.1 4 4 = bsV a false := o.2.1
    have e5 := o.2.2.1
    refine ev_findChange4 (hI.same (fun z hz => o.2.2.2.1 z (by omega) (by omega))) hw hn (fun c hc => ?_) e4 e5 (fun g' c1 c2 c3 c4 c5 => sX2_planWithChange_35_p4 (sX2_planWithChange_45_p4 ?_))
    · rw [o.1 c hc]
      by_cases z : okk a false c = true
      · rw [if_pos ⟨hc, z⟩, if_pos z]
      · rw [if_neg (fun y => z y.2), if_neg z]
    · have f6 : upd2 (upd2 g'.1 4 2 1) 4 3 1 4 6 = chM a false := by
        rw [upd2_self, pk_un (by decide), upd2_self, pk_un (by decide)]; exact c3
      have fF : upd2 (upd2 g'.1 4 2 1) 4 3 1 13 = g'.1 13 := by rw [upd2_ne (by decide), upd2_ne (by decide)]
      refine k _ ⟨fun cc h1 h2 h3 => ?_, c5.trans o.2.2.2.2.2⟩ ⟨?_, Or.inr ⟨?_, ?_, ?_⟩, Or.inr ⟨?_, f6, ?_⟩⟩ f6 ?_
      · show upd2 (upd2 g'.1 4 2 1) 4 3 1 cc = _
        rw [upd2_ne h2, upd2_ne h2, c1 cc h1 h2 h3]; exact o.2.2.2.1 cc h1 h2
      · show upd2 (upd2 g'.1 4 2 1) 4 3 1 4 0 = _
        rw [upd2_self, pk_un (by decide), upd2_self, pk_un (by decide), c2 0 (by decide), o.2.2.2.2.1 0 (by decide) (by decide)]; exact p0
      · show upd2 (upd2 g'.1 4 2 1) 4 3 1 4 2 = _
        rw [upd2_self, pk_un (by decide), upd2_self, pk_us]
      · show upd2 (upd2 g'.1 4 2 1) 4 3 1 4 4 = _
        rw [upd2_self, pk_un (by decide), upd2_self, pk_un (by decide), c2 4 (by decide)]; exact e4
      · intro z
        show upd2 (upd2 g'.1 4 2 1) 4 3 1 4 5 = _
        rw [upd2_self, pk_un (by decide), upd2_self, pk_un (by decide), c2 5 (by decide)]; exact e5 z
      · show upd2 (upd2 g'.1 4 2 1) 4 3 1 4 3 = _
        rw [upd2_self, pk_us]
      · intro j h15 hj
        show upd2 (upd2 g'.1 4 2 1) 4 3 1 13 j = _
        rw [fF]; exact c4 j h15 hj
      · intro j h15 hj
        show upd2 (upd2 g'.1 4 2 1) 4 3 1 13 j = _
        rw [fF]; exact c4 j h15 hj
end CHG4
section CHG5
variable {post : Option Value → PH → Prop} {h : PH} {a : St}
theorem ev_findBest5 (hI : CI a h) (hw : WF a) (hs : h.1 5 0 = b2i true) (k : ∀ g', OP5 a 3125 h g' → post none g') : Ev 8 mX2_findBest [.ref 3, .ref 2, .ref 5] h post := by
  refine Ev.intro rfl (Nat.le_of_ble_eq_true rfl) (sX2_findBest_0_p5 (ev_fill12 (sX2_findBest_9_p5 ?_)))
  have := ev_openFrom5 hI hw hs 5 0 (by omega) (Nat.zero_le _) 0 (by omega) (Nat.zero_mod _) (fun m hm => by omega) (upd2 (upd2 (setA h 12 (fun i => if i < 3125 then -2 else h.1 12 i)).1 5 4 (-1001)) 5 5 0, (setA h 12 (fun i => if i < 3125 then -2 else h.1 12 i)).2) ?_ (fun r h' => G 8 mX2_findBest post 34 [none, none, none] (r.toList ++ []) h') (fun g' o => sX2_findBest_34_p5 (k g' o))
  · exact this
  · refine ⟨fun c hc => ?_, rfl, fun q => absurd rfl q, fun cc h1 h2 => ?_, fun j h1 h2 => ?_, rfl⟩
    · show (if rv c < 3125 then (-2 : Int32) else h.1 12 (rv c)) = _
      rw [if_pos (rv_lt hc), if_neg (fun z => by omega)]
    · show upd2 (upd2 (setA h 12 _).1 5 4 (-1001)) 5 5 0 cc = _
      rw [upd2_ne h2, upd2_ne h2, setA_ne h1]
    · show upd2 (upd2 (setA h 12 _).1 5 4 (-1001)) 5 5 0 5 j = _
      rw [upd2_self, pk_un h2, upd2_self, pk_un h1, setA_ne (by decide)]
theorem pth_ok5 {far M : Nat} {w : Nat → Int32} (hw : WF a) (h0 : (bsF a true).1 ≠ 0) (R : RV a true (bsF a true).2 far w) (hf : far < 2 ^ 29) (hM : M ≤ far) (hM2 : M ≤ 3125) (hDM : Ds a true (bsF a true).2 M (cod (aV a))) : ∀ k, k ≤ M → pth a true k < 3125 ∧ Ds a true (bsF a true).2 (M - k) (pth a true k)
  | 0, _ => ⟨cod_lt hw, hDM⟩
  | k + 1, hk => by
    obtain ⟨h1, h2⟩ := pth_ok5 hw h0 R hf hM hM2 hDM k (by omega)
    have hb : okk a true (bsF a true).2 = true := (BS_spec 3125 h0).2
    have hN := chN_of hw h0 hDM hM2
    obtain ⟨j, hj⟩ : ∃ j, M - k = j + 1 := ⟨M - k - 1, by omega⟩
    rw [hj] at h2
    obtain ⟨-, q2, q3, q4, q5, q6, q7⟩ := mv_step hw hb R hf hM hDM h1 h2 (by omega)
    have ej : chN a true - 2 - k = j := by omega
    rw [pth, ej, show M - (k + 1) = j by omega]
    exact ⟨q5, q7⟩
theorem ev_noteMoves5 {far M : Nat} (hI : CI a h) (hw : WF a) (h0 : (bsF a true).1 ≠ 0) (R : RV a true (bsF a true).2 far (h.1 12)) (hf : far < 2 ^ 29) (hM : M ≤ far) (hM2 : M ≤ 3125) (hDM : Ds a true (bsF a true).2 M (cod (aV a))) (h6 : h.1 5 6 = nI M) (k : ∀ f', (∀ j, j < 15 → j < M → f' j = nI (chV a true j)) → post none (setA h 14 f')) : Ev 2 mX2_noteMoves [.ref 3, .ref 2, .ref 5, .int (nI (rv (cod (aV a))))] h post := by
  have h5 := hw.1
  have h4 := hw.2.1
  have hb : okk a true (bsF a true).2 = true := (BS_spec 3125 h0).2
  have hN := chN_of hw h0 hDM hM2
  refine Ev.intro rfl (Nat.le_of_ble_eq_true rfl) (sX2_noteMoves_0_p5 ?_)
  rw [h6, show (if (15 : Int32) < nI M then (15 : Int32) else nI M) = nI (min M 15) by rw [show (15 : Int32) = nI 15 from rfl, mn_nI (by omega) (by omega)]]
  have key : ∀ i, i ≤ min M 15 → ∀ f', (∀ j, j < i → f' j = nI (chV a true j)) → G 2 mX2_noteMoves post 20 [some (.ref 3), some (.ref 2), some (.ref 5), none, some (.int (nI (rv (pth a true i)))), some (.int (nI (min M 15))), some (.int (nI i)), none, none] [] (setA h 14 f') := by
    refine loopU (min M 15) (fun i hi ih f' hf' => ?_) (fun f' hf' => ?_)
    · have hIg : CI a (setA h 14 f') := hI.same (fun z hz => setA_ne (by omega))
      obtain ⟨h1, h2⟩ := pth_ok5 hw h0 R hf hM hM2 hDM i (by omega)
      obtain ⟨j, hj⟩ : ∃ j, M - i = j + 1 := ⟨M - i - 1, by omega⟩
      rw [hj] at h2
      obtain ⟨q1, q2, q3, q4, q5, q6, q7⟩ := mv_step hw hb R hf hM hDM h1 h2 (by omega)
      have ej : chN a true - 2 - i = j := by omega
      have eV : chV a true i = mvF a true (bsF a true).2 (pth a true i) j := by rw [chV, ej]
      have eP : pth a true (i + 1) = setd (pth a true i) (chV a true i / 8) (chV a true i % 8) := rfl
      rw [← eV] at q1 q2 q3 q4 q5 q6 q7
      have hrl := rv_lt h1
      refine sX2_noteMoves_20_p5 (fun hc => ?_) (fun _ => sX2_noteMoves_27_p5 ?_)
      · rw [nI_leI (by omega) (by omega)] at hc; omega
      rw [show (setA h 14 f').1 5 6 = nI M from h6, pk_sub (by omega), hj, nI_pred]
      refine ev_leastMove hIg hw hrl ?_
      rw [show (setA h 14 f').1 12 = h.1 12 from rfl, q1, if_pos q2]
      refine sX2_noteMoves_43_p5 (vp_in_nI (by omega) (by omega)) ?_
      have e3 : nI (chV a true i) >>> ((3 : Int32) &&& 31) = nI (chV a true i / 8) := by
        rw [pk_shrN (by omega) _ 3 (by decide)]
      have e7 : nI (chV a true i) &&& (7 : Int32) = nI (chV a true i % 8) := by
        rw [pk_andN (by omega) 3 (by decide)]
      rw [e3, nI_clamp (by omega), setA_upd]
      have hIg2 : CI a (setA h 14 (upd f' i (nI (chV a true i)))) := hI.same (fun z hz => setA_ne (by omega))
      refine ev_hasMirror hIg2 hw ?_
      rw [ix_nI q3 (by omega)]
      refine sX2_noteMoves_66_p5 (fun hc => absurd hc (by decide)) (fun _ => sX2_noteMoves_69_p5 ?_)
      refine ev_aimIn hrl (by omega) (sX2_noteMoves_85_p5 (vp_in_nI (by omega) (by omega)) (sX2_noteMoves_96_p5 ?_))
      have hdl : dp (rv (pth a true i)) (chV a true i / 8) * 5 ^ (chV a true i / 8) ≤ rv (pth a true i) := by
        unfold dp
        exact Nat.le_trans (Nat.mul_le_mul_right _ (Nat.mod_le _ _)) (Nat.div_mul_le_self _ _)
      have ep : nI (rv (pth a true i)) + (nI (chV a true i % 8) - 1 - (nI (dp (rv (pth a true i)) (chV a true i / 8)) - 1)) * stp5 (nI (chV a true i / 8)).toNatClampNeg = nI (rv (pth a true (i + 1))) := by
        rw [nI_clamp (by omega), stp5_eq _ (by omega), i32_move, pk_mul, pk_mul, pk_sub hdl, nI_add, eP, rv_setd h1 (by omega) (by omega)]
        rfl
      rw [e7, ep, nI_1]
      refine ih _ (fun z hz => ?_)
      by_cases e : z = i
      · rw [e, pk_us]
      · rw [pk_un e]
        exact hf' z (by omega)
    · exact sX2_noteMoves_20_p5 (fun _ => sX2_noteMoves_102_p5 (k f' (fun j h1 h2 => hf' j (by omega)))) (fun hc => absurd (nI_le (Nat.le_refl _) (by omega)) hc)
  have st0 := key 0 (Nat.zero_le _) (h.1 14) (fun j hj => by omega)
  rw [setA_id] at st0
  exact st0
theorem ev_findChange5 (hI : CI a h) (hw : WF a) (hn : 0 < aN a) (W0 : ∀ c, c < 3125 → h.1 12 (rv c) = if okk a true c = true then -1 else -2) (hc4 : h.1 5 4 = bsV a true) (hc5 : (bsF a true).1 ≠ 0 → h.1 5 5 = nI (plc (dg (bsF a true).2) (aN a)))
    (k : ∀ g', (∀ cc, cc ≠ 12 → cc ≠ 5 → cc ≠ 14 → g'.1 cc = h.1 cc) → (∀ j, j ≠ 6 → g'.1 5 j = h.1 5 j) → g'.1 5 6 = chM a true → (∀ j, j < 15 → j + 1 < chN a true → g'.1 14 j = nI (chV a true j)) → g'.2 = h.2 → post none g') : Ev 3 mX2_findChange [.ref 3, .ref 2, .ref 5] h post := by
  have h5 := hw.1
  have h4 := hw.2.1
  have h3 := five_le h5
  have hcl := cod_lt hw
  refine Ev.intro rfl (Nat.le_of_ble_eq_true rfl) (sX2_findChange_0_p5 (fun hc => sX2_findChange_18_p5 ?_) (fun hc => sX2_findChange_17_p5 ?_))
  · have h0 : (bsF a true).1 ≠ 0 := fun e => hc (by rw [hc4, bsV, if_pos e])
    have hb : okk a true (bsF a true).2 = true := (BS_spec 3125 h0).2
    have hbl : (bsF a true).2 < 3125 := (BS_spec 3125 h0).1
    have hI1 : CI a (upd2 h.1 5 6 (-1001), h.2) := hI.same (fun z hz => upd2_ne (by omega))
    have erv : ∀ c, nod a true c → plc (dg c) (aN a) = rv c := fun c hn => by
      unfold rv plc
      exact (sm_cut 5 h5 (fun m h1 h2 => by rw [(nod_dig hw hn h2).2.1 h1, Nat.zero_mul])).symm
    have eps : plc (aV a) (aN a) = rv (cod (aV a)) := by
      rw [← erv _ (Or.inr rfl)]
      exact sm_cong _ (fun m hm => by rw [dg_V hw (by omega)])
    have epb : h.1 5 5 = nI (rv (bsF a true).2) := by rw [hc5 h0, erv _ (Or.inl hb)]
    have hpl := rv_lt hcl
    have hpb := rv_lt hbl
    refine ev_placeNow hI1 hw (sX2_findChange_22_p5 (ev_setWay (x := rv (cod (aV a))) (congrArg nI eps) hpl (sX2_findChange_29_p5 (ev_setWay (x := rv (bsF a true).2) epb hpb (sX2_findChange_38_p5 ?_)))))
    have eh : (upd2 (upd2 (upd2 h.1 5 6 (-1001)) 12 (rv (cod (aV a))) (-1)) 12 (rv (bsF a true).2) 0, h.2) = setA (upd2 h.1 5 6 (-1001), h.2) 12 (upd (upd (h.1 12) (rv (cod (aV a))) (-1)) (rv (bsF a true).2) 0) := setA_upd (upd2 h.1 5 6 (-1001), h.2) 12 (rv (bsF a true).2) (upd ((upd2 h.1 5 6 (-1001), h.2).1 12) (rv (cod (aV a))) (-1)) 0
    rw [eps]
    show G 3 mX2_findChange post 44 [some (.ref 3), some (.ref 2), some (.ref 5), some (.int (nI (rv (cod (aV a))))), some (.int 1), some (.int 0)] [] (upd2 (upd2 (upd2 h.1 5 6 (-1001)) 12 (rv (cod (aV a))) (-1)) 12 (rv (bsF a true).2) 0, h.2)
    rw [eh]
    clear eh
    have R0 : RV a true (bsF a true).2 0 (upd (upd (h.1 12) (rv (cod (aV a))) (-1)) (rv (bsF a true).2) 0) := by
      intro c hc
      refine ⟨fun j hj hD => ?_, fun hu => ?_⟩
      · have : j = 0 := by omega
        subst this
        have e : c = (bsF a true).2 := hD.1
        rw [e, pk_us]
        rfl
      · have hne : c ≠ (bsF a true).2 := hu 0 (Nat.le_refl _)
        rw [pk_un (fun e => hne (rv_inj hc hbl e))]
        by_cases e : c = cod (aV a)
        · rw [e, pk_us, if_pos (pB_t.mpr (show nod a true (cod (aV a)) from Or.inr rfl))]
        · rw [pk_un (fun q => e (rv_inj hc hcl q)), W0 c hc]
          by_cases q : okk a true c = true
          · rw [if_pos q, if_pos (pB_t.mpr (show nod a true c from Or.inl q))]
          · rw [if_neg q, if_neg (fun z => (pB_t.mp z).elim q e)]
    have fin : ∀ far w, far ≤ 5 ^ aN a → RV a true (bsF a true).2 far w → ((∀ j, j ≤ far → ¬ rs a true (bsF a true).2 j (cod (aV a))) → ∀ j, ¬ rs a true (bsF a true).2 j (cod (aV a))) → G 3 mX2_findChange post 82 [some (.ref 3), some (.ref 2), some (.ref 5), some (.int (nI (rv (cod (aV a))))), none, none] [] (setA (upd2 h.1 5 6 (-1001), h.2) 12 w) := by
      intro far w hfar R hall
      refine sX2_findChange_82_p5 (ev_wayFrom hpl (sX2_findChange_87_p5 (fun q => sX2_findChange_106_p5 ?_) (fun q => sX2_findChange_90_p5 (ev_wayFrom hpl (sX2_findChange_96_p5 ?_)))))
      · rw [setA_self, RV_neg R (by omega) hcl (Or.inr rfl), RV_open R (by omega) hcl] at q
        have hN := chN_none hw h0 (hall q.2)
        refine k _ (fun cc h1 h2 _ => ?_) (fun j hj => ?_) ?_ (fun j _ hj => by rw [hN] at hj; omega) rfl
        · rw [setA_ne h1]; exact upd2_ne h2
        · rw [setA_ne (by decide)]
          show upd2 h.1 5 6 (-1001) 5 j = _
          rw [upd2_self, pk_un hj]
        · rw [chM, if_pos hN]
          rfl
      · rw [setA_self, RV_neg R (by omega) hcl (Or.inr rfl)] at q
        have hex : ∃ j, j ≤ far ∧ rs a true (bsF a true).2 j (cod (aV a)) := Classical.byContradiction (fun z => q ((RV_open R (by omega) hcl).mpr ⟨Or.inr rfl, fun j h1 h2 => z ⟨j, h1, h2⟩⟩))
        obtain ⟨j0, h1, h2⟩ := hex
        obtain ⟨M, h3', h4', h5'⟩ := least (fun j => rs a true (bsF a true).2 j (cod (aV a))) j0 h2
        have hDM : Ds a true (bsF a true).2 M (cod (aV a)) := ⟨h4', h5'⟩
        have ew := (R _ hcl).1 M (by omega) hDM
        have hN := chN_of hw h0 hDM (by omega)
        rw [setA_self, ew]
        refine ev_noteMoves5 (far := far) (M := M) (hI.same (fun z hz => ?_)) hw h0 ?_ (by omega) (by omega) (by omega) hDM ?_ (fun f' hf' => sX2_findChange_106_p5 (k _ (fun cc h1 h2 h3 => ?_) (fun j hj => ?_) ?_ (fun j h15 hj => ?_) rfl))
        · show upd2 (setA (upd2 h.1 5 6 (-1001), h.2) 12 w).1 5 6 (nI M) z = _
          rw [upd2_ne (by omega), setA_ne (by omega)]
          exact upd2_ne (by omega)
        · exact R
        · show upd2 (setA (upd2 h.1 5 6 (-1001), h.2) 12 w).1 5 6 (nI M) 5 6 = _
          rw [upd2_self, pk_us]
        · rw [setA_ne h3]
          show upd2 (setA (upd2 h.1 5 6 (-1001), h.2) 12 w).1 5 6 (nI M) cc = _
          rw [upd2_ne h2, setA_ne h1]
          exact upd2_ne h2
        · rw [setA_ne (by decide)]
          show upd2 (setA (upd2 h.1 5 6 (-1001), h.2) 12 w).1 5 6 (nI M) 5 j = _
          rw [upd2_self, pk_un hj, setA_ne (by decide)]
          show upd2 h.1 5 6 (-1001) 5 j = _
          rw [upd2_self, pk_un hj]
        · rw [setA_ne (by decide)]
          show upd2 (setA (upd2 h.1 5 6 (-1001), h.2) 12 w).1 5 6 (nI M) 5 6 = _
          rw [upd2_self, pk_us, chM, hN, if_neg (by omega)]
          rfl
        · rw [setA_self]
          exact hf' j h15 (by omega)
    have key : ∀ far, far ≤ 5 ^ aN a → ∀ w t, RV a true (bsF a true).2 far w → (t = true → ∀ j, j ≤ far → ∃ c, c < 3125 ∧ Ds a true (bsF a true).2 j c) → (t = false → ∀ c, c < 3125 → ¬ Ds a true (bsF a true).2 far c) → G 3 mX2_findChange post 44 [some (.ref 3), some (.ref 2), some (.ref 5), some (.int (nI (rv (cod (aV a))))), some (.int (b2i t)), some (.int (nI far))] [] (setA (upd2 h.1 5 6 (-1001), h.2) 12 w) := by
      have never : ∀ far, (∀ c, c < 3125 → ¬ Ds a true (bsF a true).2 far c) → (∀ j, j ≤ far → ¬ rs a true (bsF a true).2 j (cod (aV a))) → ∀ j, ¬ rs a true (bsF a true).2 j (cod (aV a)) := by
        intro far hno hu j hj
        obtain ⟨M, h3', h4', h5'⟩ := least (fun j => rs a true (bsF a true).2 j (cod (aV a))) j hj
        by_cases q : M ≤ far
        · exact hu M q h4'
        · obtain ⟨d, rfl⟩ : ∃ d, M = far + d := ⟨M - far, by omega⟩
          exact Ds_end hw hb hno d _ hcl ⟨h4', h5'⟩
      refine loopU (5 ^ aN a) (fun far hfar ih w t R ht hf' => ?_) (fun w t R ht hf' => ?_)
      · have hIg : CI a (setA (upd2 h.1 5 6 (-1001), h.2) 12 w) := hI1.same (fun z hz => setA_ne (by omega))
        refine sX2_findChange_44_p5 (fun q => ?_) (fun _ => sX2_findChange_53_p5 (fun q => ?_) (fun q => sX2_findChange_58_p5 (ev_wayFrom hpl (sX2_findChange_63_p5 (fun q2 => ?_) (fun q2 => sX2_findChange_67_p5 ?_)))))
        · rw [hIg.pl hn, nI_leI (by omega) (by omega)] at q; omega
        · rw [b2i_0] at q
          exact fin far w (by omega) R (never far (hf' q))
        · rw [setA_self] at q2
          exact fin far w (by omega) R (fun hu => absurd ((RV_open R (by omega) hcl).mpr ⟨Or.inr rfl, hu⟩) q2)
        · rw [setA_self, RV_open R (by omega) hcl] at q2
          rw [b2i_n] at q
          refine ev_widen (w0 := w) hIg hw hn (by omega) (setA_self _ _ _) (fun w' b' g1 g2 => sX2_findChange_74_p5 ?_)
          rw [setA_setA, nI_1]
          obtain ⟨R', ht'⟩ := RV_step hw hb R (by omega) q2.2 g1 g2
          refine ih w' b' R' (fun e j hj => ?_) (fun e c hc hD => ?_)
          · by_cases z : j ≤ far
            · exact ht q j z
            · have : j = far + 1 := by omega
              subst this
              exact ht'.mp e
          · have := ht'.mpr ⟨c, hc, hD⟩
            rw [e] at this
            cases this
      · have hIg : CI a (setA (upd2 h.1 5 6 (-1001), h.2) 12 w) := hI1.same (fun z hz => setA_ne (by omega))
        have t0 : t = false := by
          cases t with
          | false => rfl
          | true =>
            have := Ds_count hw hb (ht rfl)
            omega
        exact sX2_findChange_44_p5 (fun _ => fin _ w (Nat.le_refl _) R (never _ (hf' t0))) (fun q => absurd (by rw [hIg.pl hn]; exact nI_le (Nat.le_refl _) (by omega)) q)
    exact key 0 (Nat.zero_le _) _ true R0 (fun _ j hj => ⟨(bsF a true).2, hbl, by
      have : j = 0 := by omega
      subst this
      exact ⟨rfl, fun i hi => by omega⟩⟩) (fun e => by cases e)
  · have h0 : (bsF a true).1 = 0 := by
      apply Classical.byContradiction
      intro e
      rw [hc4, bsV, if_neg e] at hc
      exact nI_n1001 (by have := BS_le hw true 3125; show (BS a true 3125).1 - 1 < 2 ^ 31; omega) hc
    have hN : chN a true = 0 := by rw [chN, if_pos h0]
    refine k _ (fun cc _ h2 _ => upd2_ne h2) (fun j hj => ?_) ?_ (fun j _ hj => by rw [hN] at hj; omega) rfl
    · show upd2 h.1 5 6 (-1001) 5 j = _
      rw [upd2_self, pk_un hj]
    · rw [chM, if_pos hN]
      rfl
/-- the plans as they are known -/
def KP5 (h h' : PH) : Prop := (∀ cc, cc ≠ 12 → cc ≠ 5 → cc ≠ 14 → h'.1 cc = h.1 cc) ∧ h'.2 = h.2
theorem ev_planWithBest5 (hI : CI a h) (hw : WF a) (P : PI1 a true h) (k : ∀ h', KP5 h h' → PI1 a true h' → h'.1 5 4 = bsV a true → ((bsF a true).1 ≠ 0 → h'.1 5 5 = nI (plc (dg (bsF a true).2) (aN a))) → post (some (.ref 5)) h') : Ev 9 mX2_planWithBest [.ref 3, .ref 2, .int (b2i true)] h post := by
  obtain ⟨p0, p1, p2⟩ := id P
  have p0 : h.1 5 0 = b2i true := p0
  have p1 : h.1 5 2 = 0 ∨ h.1 5 2 = 1 ∧ h.1 5 4 = bsV a true ∧ ((bsF a true).1 ≠ 0 → h.1 5 5 = nI (plc (dg (bsF a true).2) (aN a))) := p1
  refine Ev.intro rfl (Nat.le_of_ble_eq_true rfl) (sX2_planWithBest_0 (fun z => absurd z (by decide)) (fun _ => sX2_planWithBest_4 (fun q => sX2_planWithBest_34_p5 ?_) (fun q => sX2_planWithBest_23_p5 ?_)))
  · have := p1.resolve_left q
    exact k h ⟨fun _ _ _ _ => rfl, rfl⟩ P this.2.1 this.2.2
  · refine ev_findBest5 hI hw p0 (fun g' o => sX2_planWithBest_29_p5 (sX2_planWithBest_34_p5 ?_))
    have e4 : g'.1 5 4 = bsV a true := o.2.1
    have e5 := o.2.2.1
    refine k _ ⟨fun cc h1 h2 h3 => ?_, o.2.2.2.2.2⟩ ⟨?_, Or.inr ⟨?_, ?_, ?_⟩, ?_⟩ ?_ ?_
    · show upd2 g'.1 5 2 1 cc = _
      rw [upd2_ne h2]; exact o.2.2.2.1 cc h1 h2
    · show upd2 g'.1 5 2 1 5 0 = _
      rw [upd2_self, pk_un (by decide), o.2.2.2.2.1 0 (by decide) (by decide)]; exact p0
    · show upd2 g'.1 5 2 1 5 2 = _
      rw [upd2_self, pk_us]
    · show upd2 g'.1 5 2 1 5 4 = _
      rw [upd2_self, pk_un (by decide)]; exact e4
    · intro z
      show upd2 g'.1 5 2 1 5 5 = _
      rw [upd2_self, pk_un (by decide)]; exact e5 z
    · have q3 : upd2 g'.1 5 2 1 5 3 = h.1 5 3 := by rw [upd2_self, pk_un (by decide)]; exact o.2.2.2.2.1 3 (by decide) (by decide)
      have q6 : upd2 g'.1 5 2 1 5 6 = h.1 5 6 := by rw [upd2_self, pk_un (by decide)]; exact o.2.2.2.2.1 6 (by decide) (by decide)
      have qF : upd2 g'.1 5 2 1 14 = h.1 14 := by rw [upd2_ne (by decide)]; exact o.2.2.2.1 14 (by decide) (by decide)
      have p2 : h.1 5 3 = 0 ∨ h.1 5 3 = 1 ∧ h.1 5 6 = chM a true ∧ ∀ k, k < 15 → k + 1 < chN a true → h.1 14 k = nI (chV a true k) := p2
      rw [← q3, ← q6, ← qF] at p2
      exact p2
    · show upd2 g'.1 5 2 1 5 4 = _
      rw [upd2_self, pk_un (by decide)]; exact e4
    · intro z
      show upd2 g'.1 5 2 1 5 5 = _
      rw [upd2_self, pk_un (by decide)]; exact e5 z
theorem ev_planWithChange5 (hI : CI a h) (hw : WF a) (hn : 0 < aN a) (P : PI1 a true h) (k : ∀ h', KP5 h h' → PI1 a true h' → h'.1 5 6 = chM a true → (∀ j, j < 15 → j + 1 < chN a true → h'.1 14 j = nI (chV a true j)) → post (some (.ref 5)) h') : Ev 9 mX2_planWithChange [.ref 3, .ref 2, .int (b2i true)] h post := by
  obtain ⟨p0, p1, p2⟩ := id P
  have p0 : h.1 5 0 = b2i true := p0
  have p2 : h.1 5 3 = 0 ∨ h.1 5 3 = 1 ∧ h.1 5 6 = chM a true ∧ ∀ k, k < 15 → k + 1 < chN a true → h.1 14 k = nI (chV a true k) := p2
  refine Ev.intro rfl (Nat.le_of_ble_eq_true rfl) (sX2_planWithChange_0 (fun z => absurd z (by decide)) (fun _ => sX2_planWithChange_4 (fun q => sX2_planWithChange_45_p5 ?_) (fun q => sX2_planWithChange_23_p5 ?_)))
  · have := p2.resolve_left q
    exact k h ⟨fun _ _ _ _ => rfl, rfl⟩ P this.2.1 this.2.2
  · refine ev_findBest5 hI hw p0 (fun g o => sX2_planWithChange_29_p5 ?_)
    have e4 : g.1 5 4 = bsV a true := o.2.1
    have e5 := o.2.2.1
    refine ev_findChange5 (hI.same (fun z hz => o.2.2.2.1 z (by omega) (by omega))) hw hn (fun c hc => ?_) e4 e5 (fun g' c1 c2 c3 c4 c5 => sX2_planWithChange_35_p5 (sX2_planWithChange_45_p5 ?_))
    · rw [o.1 c hc]
      by_cases z : okk a true c = true
      · rw [if_pos ⟨hc, z⟩, if_pos z]
      · rw [if_neg (fun y => z y.2), if_neg z]
    · have f6 : upd2 (upd2 g'.1 5 2 1) 5 3 1 5 6 = chM a true := by
        rw [upd2_self, pk_un (by decide), upd2_self, pk_un (by decide)]; exact c3
      have fF : upd2 (upd2 g'.1 5 2 1) 5 3 1 14 = g'.1 14 := by rw [upd2_ne (by decide), upd2_ne (by decide)]
      refine k _ ⟨fun cc h1 h2 h3 => ?_, c5.trans o.2.2.2.2.2⟩ ⟨?_, Or.inr ⟨?_, ?_, ?_⟩, Or.inr ⟨?_, f6, ?_⟩⟩ f6 ?_
      · show upd2 (upd2 g'.1 5 2 1) 5 3 1 cc = _
        rw [upd2_ne h2, upd2_ne h2, c1 cc h1 h2 h3]; exact o.2.2.2.1 cc h1 h2
      · show upd2 (upd2 g'.1 5 2 1) 5 3 1 5 0 = _
        rw [upd2_self, pk_un (by decide), upd2_self, pk_un (by decide), c2 0 (by decide), o.2.2.2.2.1 0 (by decide) (by decide)]; exact p0
      · show upd2 (upd2 g'.1 5 2 1) 5 3 1 5 2 = _
        rw [upd2_self, pk_un (by decide), upd2_self, pk_us]
      · show upd2 (upd2 g'.1 5 2 1) 5 3 1 5 4 = _
        rw [upd2_self, pk_un (by decide), upd2_self, pk_un (by decide), c2 4 (by decide)]; exact e4
      · intro z
        show upd2 (upd2 g'.1 5 2 1) 5 3 1 5 5 = _
        rw [upd2_self, pk_un (by decide), upd2_self, pk_un (by decide), c2 5 (by decide)]; exact e5 z
      · show upd2 (upd2 g'.1 5 2 1) 5 3 1 5 3 = _
        rw [upd2_self, pk_us]
      · intro j h15 hj
        show upd2 (upd2 g'.1 5 2 1) 5 3 1 14 j = _
        rw [fF]; exact c4 j h15 hj
      · intro j h15 hj
        show upd2 (upd2 g'.1 5 2 1) 5 3 1 14 j = _
        rw [fF]; exact c4 j h15 hj
end CHG5
