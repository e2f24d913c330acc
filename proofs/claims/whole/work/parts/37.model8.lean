/-! the reference's digest -/
def LC1 (a : St) (st : Bool) (h g : PH) : Prop := MK h g ∧ g.1 15 18 = chM a st ∧ (∀ k, k < 15 → k + 1 < chN a st → g.1 25 k = nI (chV a st k)) ∧ g.1 15 15 = bc (bsF a st) ∧ g.1 15 16 = bv (bsF a st)
theorem LC1.of {a : St} {st : Bool} {h g w : PH} (l : LC1 a st h g) (e : ∀ c, c ≠ 21 → w.1 c = g.1 c) : LC1 a st h w := by
  obtain ⟨l1, l2, l3, l4, l5⟩ := l
  refine ⟨l1.trans ⟨fun c _ h2 _ _ _ _ => e c h2, fun j _ _ _ _ _ _ => by rw [e 15 (by decide)]⟩, ?_, ?_, ?_, ?_⟩
  · rw [e 15 (by decide)]; exact l2
  · rw [e 25 (by decide)]; exact l3
  · rw [e 15 (by decide)]; exact l4
  · rw [e 15 (by decide)]; exact l5
section MD8
variable {post : Option Value → PH → Prop} {h : PH} {a : St} {s : Ab}
theorem ev_mix {x : Int32} (k : post none (h.1, hsh h.2 x)) : Ev 0 mX5_mix [.ref 15, .long (Int32.toInt64 x)] h post :=
  Ev.intro rfl (Nat.le_of_ble_eq_true rfl) (sX5_mix_0 k)
theorem ev_mixPlans {st : Bool} {Z : Int64} (hI : MI a h) (hw : WF a) (hn : 0 < aN a) (eZ : h.2 = Z) (k : ∀ h', MK h h' → h'.2 = hsPl a st Z → post none h') : Ev 5 mX5_mixPlans [.ref 15, .int (b2i st)] h post := by
  have L3 : ∀ Q : Int64, (∀ h', MK h h' → h'.2 = hshR (fun w => changeA a st (10 + (w : Int))) 3 Q → post none h') → ∀ i, i ≤ 3 → ∀ g, LC1 a st h g → g.2 = hshR (fun w => changeA a st (10 + (w : Int))) i Q → G 5 mX5_mixPlans post 66 [some (.ref 15), none, some (.int (nI (10 + i)))] [] g := by
    intro Q k
    refine loopU 3 (fun i hi ih g l e => ?_) (fun g l e => ?_)
    · refine sX5_mixPlans_66 (fun z => ?_) (fun _ => sX5_mixPlans_72 (ev_changeNow l.2.1 l.2.2.1 (by rw [nIi (by omega)]; omega) (sX5_mixPlans_78 (ev_mix (sX5_mixPlans_82 ?_)))))
      · rw [show (13 : Int32) = nI 13 from rfl, nI_leI (by omega) (by omega)] at z; omega
      rw [nI_1, nIi (by omega), e]
      exact ih _ (l.of (fun c _ => rfl)) rfl
    · exact sX5_mixPlans_66 (fun _ => sX5_mixPlans_88 (k g l.1 e)) (fun z => absurd (by decide) z)
  have L2 : ∀ Q : Int64, (∀ h', MK h h' → h'.2 = hshR (fun w => changeA a st (10 + (w : Int))) 3 (hsh (hshR (fun w => bestA a st (10 + (w : Int))) 5 Q) (changeA a st 0)) → post none h') → ∀ i, i ≤ 5 → ∀ g, LC1 a st h g → g.2 = hshR (fun w => bestA a st (10 + (w : Int))) i Q → G 5 mX5_mixPlans post 31 [some (.ref 15), none, some (.int (nI (10 + i)))] [] g := by
    intro Q k
    refine loopU 5 (fun i hi ih g l e => ?_) (fun g l e => ?_)
    · refine sX5_mixPlans_31 (fun z => ?_) (fun _ => sX5_mixPlans_37 (ev_bestNow (hI.keep l.1) hw l.2.2.2.1 l.2.2.2.2 (by rw [nIi (by omega)]; omega) (fun g' n => sX5_mixPlans_43 (ev_mix (sX5_mixPlans_47 ?_)))))
      · rw [show (15 : Int32) = nI 15 from rfl, nI_leI (by omega) (by omega)] at z; omega
      rw [nI_1, nIi (by omega), n.2, e]
      exact ih _ (l.of (fun c hc => n.1 c hc)) rfl
    · generalize hshR (fun w => bestA a st (10 + (w : Int))) 5 Q = Q2 at k e
      refine sX5_mixPlans_31 (fun _ => sX5_mixPlans_53 (ev_changeNow l.2.1 l.2.2.1 (Or.inl (by decide)) (sX5_mixPlans_59 (ev_mix (sX5_mixPlans_63 ?_))))) (fun z => absurd (by decide) z)
      rw [e]
      exact L3 _ k 0 (Nat.zero_le _) _ (l.of (fun c _ => rfl)) rfl
  refine Ev.intro rfl (Nat.le_of_ble_eq_true rfl) (sX5_mixPlans_0 (ev_layChange hI hw hn (fun h1 l => sX5_mixPlans_5 ?_)))
  unfold hsPl at k
  have L1 : ∀ i, i ≤ 2 → ∀ g, LC1 a st h g → g.2 = hshR (fun w => bestA a st w) i Z → G 5 mX5_mixPlans post 7 [some (.ref 15), none, some (.int (nI i))] [] g := by
    refine loopU 2 (fun i hi ih g l e => ?_) (fun g l e => ?_)
    · refine sX5_mixPlans_7 (fun z => ?_) (fun _ => sX5_mixPlans_12 (ev_bestNow (hI.keep l.1) hw l.2.2.2.1 l.2.2.2.2 (by rw [nIi (by omega)]; omega) (fun g' n => sX5_mixPlans_18 (ev_mix (sX5_mixPlans_22 ?_)))))
      · rw [show (2 : Int32) = nI 2 from rfl, nI_leI (by omega) (by omega)] at z; omega
      rw [nI_1, nIi (by omega), n.2, e]
      exact ih _ (l.of (fun c hc => n.1 c hc)) rfl
    · generalize hshR (fun w => bestA a st w) 2 Z = Q at k e
      exact sX5_mixPlans_7 (fun _ => sX5_mixPlans_28 (L2 Q k 0 (Nat.zero_le _) g l e)) (fun z => absurd (by decide) z)
  obtain ⟨l1, l2, l3, l4, l5, l6⟩ := l
  exact L1 0 (Nat.zero_le _) h1 ⟨l1, l3, l4, l5, l6⟩ (l2.trans eZ)
theorem mxf_tail {h3 : PH} {Q : Int64} (hI : MI a h) (hw : WF a) (hn : 0 < aN a) (K : MK h h3) (T3 : TL (TR a 25) h3) (eQ : h3.2 = Q) (k : ∀ h', MK h h' → h'.2 = hsh (hshR (fun w => tradeA a w) 3 Q) (rlV (RLf a (2 ^ aN a))) → post none h') : G 6 mX5_mixField post 14 [some (.ref 15), none] [] h3 := by
  have L : ∀ i, i ≤ 3 → ∀ g, MK h g → TL (TR a 25) g → g.2 = hshR (fun w => tradeA a w) i Q → G 6 mX5_mixField post 16 [some (.ref 15), some (.int (nI i))] [] g := by
    refine loopU 3 (fun i hi ih g K T e => ?_) (fun g K T e => ?_)
    · refine sX5_mixField_16 (fun z => ?_) (fun _ => sX5_mixField_21 (ev_tradeNow T (sX5_mixField_27 (ev_mix (sX5_mixField_31 ?_)))))
      · rw [show (3 : Int32) = nI 3 from rfl, nI_leI (by omega) (by omega)] at z; omega
      rw [nI_1, nIi (by omega), e]
      exact ih _ (K.trans MK.lng) T rfl
    · generalize hshR (fun w => tradeA a w) 3 Q = Q2 at k e
      refine sX5_mixField_16 (fun _ => sX5_mixField_37 (ev_reliefNow (hI.keep K) hw hn (fun g' K' e' => sX5_mixField_42 (ev_mix (sX5_mixField_46 ?_))))) (fun z => absurd (by decide) z)
      rw [e', e]
      exact k _ ((K.trans K').trans MK.lng) rfl
  exact sX5_mixField_14 (L 0 (Nat.zero_le _) h3 K T3 eQ)
theorem ev_mixField {Z Q1 Q2 : Int64} (hI : MI a h) (hw : WF a) (hn : 0 < aN a) (eZ : h.2 = Z) (q1 : hsPl a false Z = Q1) (q2 : hsPl a true Q1 = Q2) (k : ∀ h', MK h h' → h'.2 = hsh (hshR (fun w => tradeA a w) 3 Q2) (rlV (RLf a (2 ^ aN a))) → post none h') : Ev 6 mX5_mixField [.ref 15] h post := by
  refine Ev.intro rfl (Nat.le_of_ble_eq_true rfl) (sX5_mixField_0 ?_)
  refine ev_mixPlans (st := false) hI hw hn eZ (fun h1 K1 e1 => sX5_mixField_5 ?_)
  rw [q1] at e1
  clear q1
  refine ev_mixPlans (st := true) (hI.keep K1) hw hn e1 (fun h2 K2 e2 => sX5_mixField_10 ?_)
  rw [q2] at e2
  clear q2
  exact ev_layTrade ((hI.keep K1).keep K2) hw hn (fun h3 K3 e3 T3 _ _ => mxf_tail hI hw hn ((K1.trans K2).trans K3) T3 (e3.trans e2) k)
theorem dgm_tail {g : PH} {Z : Int64} (Y : YI s h) (K : MK h g) (e : g.2 = Z) (k : ∀ h', MK h h' → post (some (.long (hshR (fun w => countA s w) 10 (hshR (fun k => s.2.2.1 k) s.2.1 Z)))) h') : G 7 mX5_digest post 99 [some (.ref 15), none, none] [] g := by
  have hn := Y.2.2.1.1
  refine sX5_digest_99 ?_
  have L : ∀ i, i ≤ s.2.1 → ∀ g, MK h g → g.2 = hshR (fun k => s.2.2.1 k) i Z → G 7 mX5_digest post 101 [some (.ref 15), some (.int (nI i)), none] [] g := by
    refine loopU s.2.1 (fun i hi ih g K e => ?_) (fun g K e => ?_)
    · have hgg := (Y.keep K).2.2.1
      refine sX5_digest_101 (fun q => ?_) (fun _ => sX5_digest_109 (vp_in_nI (by omega) (by omega)) ?_)
      · rw [hgg.2.1, nI_leI (by omega) (by omega)] at q; omega
      rw [nI_clamp (by omega), hgg.2.2 i hi]
      refine ev_mix (sX5_digest_120 ?_)
      rw [nI_1, e]
      exact ih _ (K.trans MK.lng) rfl
    · have hgg := (Y.keep K).2.2.1
      refine sX5_digest_101 (fun _ => sX5_digest_126 ?_) (fun q => absurd (by rw [hgg.2.1]; exact nI_le (Nat.le_refl _) (by omega)) q)
      generalize hshR (fun k => s.2.2.1 k) s.2.1 Z = Q at k e
      have L2 : ∀ i, i ≤ 10 → ∀ g, MK h g → g.2 = hshR (fun w => countA s w) i Q → G 7 mX5_digest post 128 [some (.ref 15), some (.int (nI i)), none] [] g := by
        refine loopU 10 (fun i hi ih g K e => ?_) (fun g K e => ?_)
        · refine sX5_digest_128 (fun q => ?_) (fun _ => sX5_digest_134 (ev_howMany (Y.keep K) (fun g' K' e' => sX5_digest_140 (ev_mix (sX5_digest_144 ?_)))))
          · rw [show (10 : Int32) = nI 10 from rfl, nI_leI (by omega) (by omega)] at q; omega
          rw [nI_1, nIi (by omega), e', e]
          exact ih _ ((K.trans K').trans MK.lng) rfl
        · refine sX5_digest_128 (fun _ => sX5_digest_150 ?_) (fun q => absurd (by decide) q)
          rw [e]
          exact k g K
      exact L2 0 (Nat.zero_le _) g K e
  exact L 0 (Nat.zero_le _) g K e
theorem cy_digest (Y : YI s h) (k : ∀ h', YI s h' → FrY h h' → post (some (.long (digestS s))) h') : Ev 7 mX5_digest [.ref 15] h post := by
  obtain ⟨hw, hI, hg, hf, hf2⟩ := id Y
  have h5 := hw.1
  have h4 := hw.2.1
  have k : ∀ h', MK h h' → post (some (.long (digestS s))) h' := fun h' K => k h' (Y.keep K) K.fr
  unfold digestS at k
  refine Ev.intro rfl (Nat.le_of_ble_eq_true rfl) (sX5_digest_0 ?_)
  have LP : ∀ B : Int64, (∀ h', MK h h' → post (some (.long (hshR (fun w => countA s w) 10 (hshR (fun k => s.2.2.1 k) s.2.1 (hsF s.1 (hsP s.1 B (aP s.1))))))) h') → ∀ m, m ≤ aP s.1 → ∀ g, MK h g → g.2 = hsP s.1 B m → G 7 mX5_digest post 50 [some (.ref 15), some (.int (nI m)), none] [] g := by
    intro B k
    refine loopU (aP s.1) (fun m hm ih g K e => ?_) (fun g K e => ?_)
    · refine sX5_digest_50 (fun q => ?_) (fun _ => sX5_digest_58 ?_)
      · rw [(hI.keep K).p, nI_leI (by omega) (by omega)] at q; omega
      have L2 : ∀ i, i ≤ 4 → ∀ g, MK h g → g.2 = hshR (fun w => ofPat s.1 m w) i (hsP s.1 B m) → G 7 mX5_digest post 60 [some (.ref 15), some (.int (nI m)), some (.int (nI i))] [] g := by
        refine loopU 4 (fun i hi jh g K e => ?_) (fun g K e => ?_)
        · refine sX5_digest_60 (fun q => ?_) (fun _ => sX5_digest_65 (ev_ofPatch (hI.keep K) hw hm (fun g' K' e' => sX5_digest_72 (ev_mix (sX5_digest_76 ?_)))))
          · rw [show (4 : Int32) = nI 4 from rfl, nI_leI (by omega) (by omega)] at q; omega
          rw [nI_1, nIi (by omega), e', e]
          exact jh _ ((K.trans K').trans MK.lng) rfl
        · refine sX5_digest_60 (fun _ => sX5_digest_82 ?_) (fun q => absurd (by decide) q)
          rw [nI_1]
          exact ih g K e
      exact L2 0 (Nat.zero_le _) g K e
    · generalize hsP s.1 B (aP s.1) = B2 at k e
      refine sX5_digest_50 (fun _ => sX5_digest_88 (fun q => ?_) (fun q => sX5_digest_95 ?_)) (fun q => absurd (by rw [(hI.keep K).p]; exact nI_le (Nat.le_refl _) (by omega)) q)
      all_goals rw [(hI.keep K).n, show (0 : Int32) = nI 0 from rfl, nI_leI (by omega) (by omega)] at q
      · have eF : hsF s.1 B2 = B2 := if_pos (by omega)
        rw [eF] at k
        exact dgm_tail Y K e k
      · have eF : hsF s.1 B2 = hsh (hshR (fun w => tradeA s.1 w) 3 (hsPl s.1 true (hsPl s.1 false B2))) (rlV (RLf s.1 (2 ^ aN s.1))) := if_neg (by omega)
        rw [eF] at k
        generalize q1 : hsPl s.1 false B2 = Q1 at k
        generalize q2 : hsPl s.1 true Q1 = Q2 at k
        refine ev_mixField (hI.keep K) hw (by omega) e q1 q2 (fun g' K' e' => ?_)
        generalize hsh (hshR (fun w => tradeA s.1 w) 3 Q2) (rlV (RLf s.1 (2 ^ aN s.1))) = B3 at k e'
        exact dgm_tail Y (K.trans K') e' k
  have LM : ∀ m, m ≤ aN s.1 → ∀ g, MK h g → g.2 = hsM s.1 1733 m → G 7 mX5_digest post 9 [some (.ref 15), some (.int (nI m)), none] [] g := by
    refine loopU (aN s.1) (fun m hm ih g K e => ?_) (fun g K e => ?_)
    · refine sX5_digest_9 (fun q => ?_) (fun _ => sX5_digest_17 ?_)
      · rw [(hI.keep K).n, nI_leI (by omega) (by omega)] at q; omega
      have L2 : ∀ i, i ≤ 6 → ∀ g, MK h g → g.2 = hshR (fun w => ofMir s.1 m w) i (hsM s.1 1733 m) → G 7 mX5_digest post 19 [some (.ref 15), some (.int (nI m)), some (.int (nI i))] [] g := by
        refine loopU 6 (fun i hi jh g K e => ?_) (fun g K e => ?_)
        · refine sX5_digest_19 (fun q => ?_) (fun _ => sX5_digest_25 (ev_ofMirror (hI.keep K) hw hm (sX5_digest_32 (ev_mix (sX5_digest_36 ?_)))))
          · rw [show (6 : Int32) = nI 6 from rfl, nI_leI (by omega) (by omega)] at q; omega
          rw [nI_1, nIi (by omega), if_neg (by omega), e]
          exact jh _ (K.trans MK.lng) rfl
        · refine sX5_digest_19 (fun _ => sX5_digest_42 ?_) (fun q => absurd (by decide) q)
          rw [nI_1]
          exact ih g K e
      exact L2 0 (Nat.zero_le _) g K e
    · generalize hsM s.1 1733 (aN s.1) = B at k e
      exact sX5_digest_9 (fun _ => sX5_digest_48 (LP B k 0 (Nat.zero_le _) g K e)) (fun q => absurd (by rw [(hI.keep K).n]; exact nI_le (Nat.le_refl _) (by omega)) q)
  exact LM 0 (Nat.zero_le _) _ MK.lng rfl
end MD8
