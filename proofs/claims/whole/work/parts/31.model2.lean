/-! the reference's calls: texts, what is told, what is asked -/
def YP (n : Nat) (c : Nat → Int32) (h : PH) : Prop := n ≤ 21 ∧ h.1 15 0 = nI n ∧ ∀ k, k < n → h.1 16 k = c k
def YI (s : Ab) (h : PH) : Prop := WF s.1 ∧ MI s.1 h ∧ YP s.2.1 s.2.2.1 h ∧ h.1 15 10 = s.2.2.2.1 ∧ h.1 15 11 = s.2.2.2.2
def FrY (h h' : PH) : Prop := ∀ c, c < 15 → h'.1 c = h.1 c
theorem FrY.rf (h : PH) : FrY h h := fun _ _ => rfl
theorem FrY.trans {h h1 h2 : PH} (a : FrY h h1) (b : FrY h1 h2) : FrY h h2 := fun c hc => (b c hc).trans (a c hc)
theorem fry1 {h : PH} {c i : Nat} {x : Int32} (hc : 15 ≤ c) : FrY h (upd2 h.1 c i x, h.2) := fun k hk => upd2_ne (by omega)
theorem MK.fr {h h' : PH} (k : MK h h') : FrY h h' := fun c hc => k.1 c (by omega) (by omega) (by omega) (by omega) (by omega) (by omega)
theorem YP.keep {n : Nat} {c : Nat → Int32} {h h' : PH} (g : YP n c h) (e0 : h'.1 15 0 = h.1 15 0) (e : h'.1 16 = h.1 16) : YP n c h' := by
  unfold YP at g ⊢
  rw [e0, e]
  exact g
theorem YI.keep {s : Ab} {h h' : PH} (Y : YI s h) (k : MK h h') : YI s h' := by
  obtain ⟨hw, hI, hg, hf, hf2⟩ := Y
  refine ⟨hw, hI.keep k, hg.keep (k.2 0 (by decide) (by decide) (by decide) (by decide) (by decide) (by decide)) (k.1 16 (by decide) (by decide) (by decide) (by decide) (by decide) (by decide)), ?_, ?_⟩
  · rw [k.2 10 (by decide) (by decide) (by decide) (by decide) (by decide) (by decide)]; exact hf
  · rw [k.2 11 (by decide) (by decide) (by decide) (by decide) (by decide) (by decide)]; exact hf2
theorem nlt_le {x y : Int32} : ¬ y < x ↔ x ≤ y := by
  rw [Int32.lt_iff_toInt_lt, Int32.le_iff_toInt_le]; omega
section MD2
variable {post : Option Value → PH → Prop} {h : PH} {s : Ab}
theorem cy_letter {x : Int32} (Y : YI s h) (k : ∀ h', YI (letterS s x).2 h' → FrY h h' → post (some (.int (letterS s x).1)) h') : Ev 1 mX5_letter [.ref 15, .int x] h post := by
  obtain ⟨hw, hI, hg, hf, hf2⟩ := id Y
  have hn := hg.1
  have same : ∀ r, letterS s x = (r, s) → post (some (.int r)) h := fun r e => by
    have := k h (by rw [e]; exact Y) (FrY.rf h)
    rw [e] at this
    exact this
  refine Ev.intro rfl (Nat.le_of_ble_eq_true rfl) (sX5_letter_0 (ev_within (sX5_letter_8 (fun q => ?_) (fun q => sX5_letter_11 (same _ ?_)))))
  · rw [b2i_n, decide_eq_true_iff] at q
    have q1 : ¬ (x < 32 ∨ ¬ x ≤ 126) := fun z => z.elim q.1 (fun z => z (nlt_le.mp q.2))
    refine sX5_letter_15 (fun z => sX5_letter_28 ?_ ?_) (fun z => sX5_letter_24 (same _ ?_))
    · rw [hg.2.1, show (21 : Int32) = nI 21 from rfl, nI_eq (by omega) (by omega)] at z
      rw [hg.2.1]; exact vp_in_nI (by omega) (by omega)
    · rw [hg.2.1, show (21 : Int32) = nI 21 from rfl, nI_eq (by omega) (by omega)] at z
      rw [hg.2.1, nI_clamp (by omega), nI_1]
      have e : letterS s x = (nI (s.2.1 + 1), (s.1, s.2.1 + 1, upd s.2.2.1 s.2.1 x, s.2.2.2)) := by
        unfold letterS
        rw [if_neg q1, if_neg z]
      have := k (upd2 (upd2 h.1 16 s.2.1 x) 15 0 (nI (s.2.1 + 1)), h.2) ?_ (fun c hc => by show upd2 (upd2 h.1 16 s.2.1 x) 15 0 (nI (s.2.1 + 1)) c = h.1 c; rw [upd2_ne (by omega), upd2_ne (by omega)])
      · rw [e] at this
        exact this
      · rw [e]
        refine ⟨hw, ⟨hI.n, hI.p, hI.sh, hI.sk, hI.2.2.2.2.1, hI.2.2.2.2.2.1, hI.2.2.2.2.2.2⟩, ⟨?_, rfl, fun j hj => ?_⟩, hf, hf2⟩
        · show s.2.1 + 1 ≤ 21; omega
        · show upd2 (upd2 h.1 16 s.2.1 x) 15 0 (nI (s.2.1 + 1)) 16 j = upd s.2.2.1 s.2.1 x j
          have hj : j < s.2.1 + 1 := hj
          rw [upd2_ne (by decide), upd2_self]
          unfold upd
          split
          · rfl
          · exact hg.2.2 j (by omega)
    · rw [hg.2.1, show (21 : Int32) = nI 21 from rfl, nI_eq (by omega) (by omega)] at z
      unfold letterS
      rw [if_neg q1, if_pos z]
  · rw [b2i_0, decide_eq_false_iff_not] at q
    unfold letterS
    rw [if_pos ?_]
    apply Classical.byContradiction
    intro z
    exact q ⟨fun y => z (Or.inl y), fun y => z (Or.inr (fun w => nlt_le.mpr w y))⟩
theorem cy_blank (Y : YI s h) (k : ∀ h', YI (blankS s).2 h' → FrY h h' → post (some (.int (blankS s).1)) h') : Ev 0 mX5_blank [.ref 15] h post := by
  obtain ⟨hw, hI, hg, hf, hf2⟩ := id Y
  refine Ev.intro rfl (Nat.le_of_ble_eq_true rfl) (sX5_blank_0 ?_)
  rw [hg.2.1]
  exact k _ ⟨hw, ⟨hI.n, hI.p, hI.sh, hI.sk, hI.2.2.2.2.1, hI.2.2.2.2.2.1, hI.2.2.2.2.2.2⟩, ⟨Nat.zero_le _, rfl, fun j hj => absurd hj (Nat.not_lt_zero j)⟩, hf, hf2⟩ (fry1 (by decide))
theorem ev_isRight {n k : Nat} {c : Nat → Int32} (hG : YP n c h) (hk : k < n) (kk : post (some (.int (b2i (rt (c k) k)))) h) : Ev 1 mX5_isRight [.ref 15, .int (nI k)] h post := by
  have hn := hG.1
  have hr : nI k - nI k / 4 * 4 = nI (k % 4) := pk_rem (d := 4) (by omega) (by omega) (by omega)
  have hti : (nI (k % 4)).toInt = ((k % 4 : Nat) : Int) := nI_toInt (by omega)
  refine Ev.intro rfl (Nat.le_of_ble_eq_true rfl) (sX5_isRight_0 (vp_in_nI (by omega) (by omega)) (fun hc => ?_) (fun hc => ?_))
  · rw [nI_clamp (by omega), hG.2.2 k hk]
    have hk0 : k ≠ 0 := fun e => hc (by rw [e]; rfl)
    refine sX5_isRight_20 (fun hc2 => sX5_isRight_81 (ev_within (sX5_isRight_89 (b2i_nar _) ?_))) (fun hc2 => sX5_isRight_48 (fun h1 => sX5_isRight_58 ?_) (fun h1 => sX5_isRight_54 ?_)) (fun hc2 => sX5_isRight_60 (ev_within (sX5_isRight_68 (b2i_nar _) ?_))) (fun hc2 => sX5_isRight_69 (fun h1 => sX5_isRight_79 ?_) (fun h1 => sX5_isRight_75 ?_))
    all_goals rw [hr, hti] at hc2
    · have e : rt (c k) k = decide (¬ c k < 48 ∧ ¬ 57 < c k) := by unfold rt; rw [if_neg hk0, if_neg (by omega), if_neg (by omega), if_neg (by omega)]
      rw [e] at kk; exact kk
    · have e : rt (c k) k = decide (c k = 59) := by unfold rt; rw [if_neg hk0, if_pos (by omega)]
      rw [e, decide_eq_false h1] at kk; exact kk
    · have e : rt (c k) k = decide (c k = 59) := by unfold rt; rw [if_neg hk0, if_pos (by omega)]
      rw [e, decide_eq_true h1] at kk; exact kk
    · have e : rt (c k) k = decide (¬ c k < 49 ∧ ¬ 57 < c k) := by unfold rt; rw [if_neg hk0, if_neg (by omega), if_pos (by omega)]
      rw [e] at kk; exact kk
    · have e : rt (c k) k = decide (c k = 44) := by unfold rt; rw [if_neg hk0, if_neg (by omega), if_neg (by omega), if_pos (by omega)]
      rw [e, decide_eq_false h1] at kk; exact kk
    · have e : rt (c k) k = decide (c k = 44) := by unfold rt; rw [if_neg hk0, if_neg (by omega), if_neg (by omega), if_pos (by omega)]
      rw [e, decide_eq_true h1] at kk; exact kk
  · rw [nI_clamp (by omega), hG.2.2 k hk]
    have hk0 : k = 0 := (nI_eq (a := k) (b := 0) (by omega) (by omega)).mp hc
    have e : rt (c k) k = decide (¬ c k < 49 ∧ ¬ 52 < c k) := by unfold rt; rw [if_pos hk0]
    rw [e] at kk
    exact sX5_isRight_11 (ev_within (sX5_isRight_19 (b2i_nar _) kk))
theorem ev_rightLetters {n : Nat} {c : Nat → Int32} (hG : YP n c h) (kk : post (some (.int (nI (ffs n c)))) h) : Ev 2 mX5_rightLetters [.ref 15] h post := by
  have hn := hG.1
  refine Ev.intro rfl (Nat.le_of_ble_eq_true rfl) (sX5_rightLetters_0 ?_)
  have hS : ∀ i, i ≤ n → (∀ k, k < i → rt (c k) k = true) → G 2 mX5_rightLetters post 2 [some (.ref 15), some (.int (nI i))] [] h := by
    refine loopU (S := fun i => (∀ k, k < i → rt (c k) k = true) → G 2 mX5_rightLetters post 2 [some (.ref 15), some (.int (nI i))] [] h) n (fun i hi ih ha => ?_) (fun ha => ?_)
    · refine sX5_rightLetters_2 (fun hc => ?_) (fun _ => ?_)
      · rw [hG.2.1, nI_leI (by omega) (by omega)] at hc; omega
      refine sX5_rightLetters_10 (ev_isRight hG hi (sX5_rightLetters_15 (fun hc => sX5_rightLetters_24 ?_) (fun hc => sX5_rightLetters_18 ?_)))
      · rw [b2i_0] at hc
        rw [ffs, ld_stop ha hc n hi] at kk
        exact kk
      · rw [b2i_n] at hc
        rw [nI_1]
        refine ih (fun k hk => ?_)
        by_cases e : k = i
        · rw [e]; exact hc
        · exact ha k (by omega)
    · refine sX5_rightLetters_2 (fun _ => sX5_rightLetters_24 ?_) (fun hc => absurd (by rw [hG.2.1]; exact nI_le (Nat.le_refl _) (by omega)) hc)
      rw [ffs, ld_all n ha] at kk
      exact kk
  exact hS 0 (Nat.zero_le _) (fun k hk => by omega)
theorem cy_fault (Y : YI s h) (k : post (some (.int (faultS s).1)) h) : Ev 3 mX5_fault [.ref 15] h post :=
  Ev.intro rfl (Nat.le_of_ble_eq_true rfl) (sX5_fault_0 (ev_rightLetters Y.2.2.1 (sX5_fault_4 k)))
def FI (n : Nat) (c : Nat → Int32) (h : PH) (i : Nat) (g : PH) : Prop := g.1 15 2 = nI (n / 4) ∧ g.1 15 3 = nI (fd (c 0)) ∧
  (∀ m, m < i → g.1 17 m = nI (if m < n / 4 then fd (c (4 * m + 2)) else 0) ∧ g.1 18 m = nI (if m < n / 4 then fd (c (4 * m + 4)) else 0) ∧ g.1 19 m = -1) ∧
  (∀ cc, cc ≠ 15 → cc ≠ 17 → cc ≠ 18 → cc ≠ 19 → cc ≠ 20 → g.1 cc = h.1 cc) ∧ ∀ j, j ≠ 2 → j ≠ 3 → g.1 15 j = h.1 15 j
theorem cy_field (Y : YI s h) (k : ∀ h', YI (fieldS s).2 h' → FrY h h' → post (some (.int (fieldS s).1)) h') : Ev 3 mX5_field [.ref 15] h post := by
  obtain ⟨hw, hI, hg, hf, hf2⟩ := id Y
  have hn := hg.1
  have hr : nI s.2.1 - nI s.2.1 / 4 * 4 = nI (s.2.1 % 4) := pk_rem (d := 4) (by omega) (by omega) (by omega)
  have hl : ffs s.2.1 s.2.2.1 ≤ s.2.1 := ld_le s.2.1
  have no : ¬ (1 < s.2.1 ∧ s.2.1 % 4 = 1 ∧ ffs s.2.1 s.2.2.1 = s.2.1) → post (some (.int (-1004))) h := fun q => by
    have e : fieldS s = (-1004, s) := by unfold fieldS; rw [if_neg]; rw [isF, decide_eq_false q]; decide
    have := k h (by rw [e]; exact Y) (FrY.rf h)
    rw [e] at this
    exact this
  refine Ev.intro rfl (Nat.le_of_ble_eq_true rfl) (sX5_field_0 (fun q => sX5_field_29 (no ?_)) (fun q => sX5_field_8 (fun q1 => sX5_field_29 (no ?_)) (fun q1 => sX5_field_18 (ev_rightLetters hg (sX5_field_22 (fun q2 => ?_) (fun q2 => sX5_field_29 (no ?_)))))))
  all_goals rw [hg.2.1, show (5 : Int32) = nI 5 from rfl, nI_ltI (by omega) (by omega)] at q
  · omega
  · rw [hg.2.1, hr, show (1 : Int32) = nI 1 from rfl, nI_eq (by omega) (by omega)] at q1
    omega
  · rw [hg.2.1, hr, show (1 : Int32) = nI 1 from rfl, nI_eq (by omega) (by omega)] at q1
    rw [hg.2.1, nI_leI (by omega) (by omega)] at q2
    have hF : isF s.2.1 s.2.2.1 = true := decide_eq_true (by omega)
    have hp := fig_p hF
    have e : fieldS s = (nI (s.2.1 / 4), (stF s.2.1 s.2.2.1, 0, s.2.2.1, s.2.2.2.1 + 1, s.2.2.2.2)) := if_pos hF
    refine sX5_field_33 (vp_in_nI (n := 0) (by omega) (by omega)) ?_
    rw [show Int32.toNatClampNeg 0 = 0 by decide, hg.2.2 0 (by omega), hp.1, hg.2.1, show nI s.2.1 / 4 = nI (s.2.1 / 4) from pk_div (d := 4) (by omega) (by omega) (by omega)]
    have hS : ∀ i, i ≤ 5 → ∀ g, FI s.2.1 s.2.2.1 h i g → G 3 mX5_field post 58 [some (.ref 15), some (.int (nI i))] [] g := by
      refine loopU 5 (fun i hi ih g G1 => ?_) (fun g G1 => ?_)
      · obtain ⟨g1, g2, g3, g4, g5⟩ := id G1
        have nxt : ∀ md sd, md = nI (if i < s.2.1 / 4 then fd (s.2.2.1 (4 * i + 2)) else 0) → sd = nI (if i < s.2.1 / 4 then fd (s.2.2.1 (4 * i + 4)) else 0) → G 3 mX5_field post 58 [some (.ref 15), some (.int (nI i + 1))] [] (upd2 (upd2 (upd2 g.1 17 i md) 18 i sd) 19 i (-1), g.2) := by
          intro md sd e1 e2
          rw [nI_1]
          refine ih _ ⟨g1, g2, fun m hm => ?_, fun cc h1 h2 h3 h4 h5 => ?_, fun j h1 h2 => ?_⟩
          · show upd2 (upd2 (upd2 g.1 17 i md) 18 i sd) 19 i (-1) 17 m = _ ∧ upd2 (upd2 (upd2 g.1 17 i md) 18 i sd) 19 i (-1) 18 m = _ ∧ upd2 (upd2 (upd2 g.1 17 i md) 18 i sd) 19 i (-1) 19 m = _
            rw [upd2_ne (k := 17) (by decide), upd2_ne (k := 17) (by decide), upd2_self, upd2_ne (k := 18) (by decide), upd2_self, upd2_self, upd2_ne (k := 18) (by decide), upd2_ne (k := 19) (by decide), upd2_ne (k := 19) (by decide)]
            by_cases em : m = i
            · subst em
              rw [pk_us, pk_us, pk_us]
              exact ⟨e1, e2, rfl⟩
            · rw [pk_un em, pk_un em, pk_un em]
              exact g3 m (by omega)
          · show upd2 (upd2 (upd2 g.1 17 i md) 18 i sd) 19 i (-1) cc = _
            rw [upd2_ne h4, upd2_ne h3, upd2_ne h2]
            exact g4 cc h1 h2 h3 h4 h5
          · exact g5 j h1 h2
        have hpg : ∀ k, k < s.2.1 → g.1 16 k = s.2.2.1 k := fun k hk => by rw [g4 16 (by decide) (by decide) (by decide) (by decide) (by decide)]; exact hg.2.2 k hk
        have vi : vp_in (nI i) 5 := vp_in_nI hi (by omega)
        refine sX5_field_58 (fun z => ?_) (fun _ => sX5_field_63 (fun z => ?_) (fun z => ?_))
        · rw [show (5 : Int32) = nI 5 from rfl, nI_leI (by omega) (by omega)] at z; omega
        · have zz := z
          rw [g1, nI_leI (by omega) (by omega)] at z
          refine sX5_field_92 vi (fun _ => sX5_field_123 vi vi ?_) (fun y => absurd zz y)
          rw [nI_clamp (by omega)]
          exact nxt 0 0 (by rw [if_neg (by omega)]; rfl) (by rw [if_neg (by omega)]; rfl)
        · have zz := z
          rw [g1, nI_leI (by omega) (by omega)] at z
          have hm := fig_mid hF (show i < s.2.1 / 4 by omega)
          have e2 : 4 * nI i + 2 = nI (4 * i + 2) := by rw [show (4 : Int32) = nI 4 from rfl, pk_mul, show (2 : Int32) = nI 2 from rfl, nI_add]
          have e4 : 4 * nI i + 4 = nI (4 * i + 4) := by rw [show (4 : Int32) = nI 4 from rfl, pk_mul, nI_add]
          refine sX5_field_76 (by rw [e2]; exact vp_in_nI (by omega) (by omega)) vi (fun y => absurd y zz) (fun _ => sX5_field_107 (by rw [e4]; exact vp_in_nI (by omega) (by omega)) vi vi ?_)
          rw [e2, e4, nI_clamp (by omega), nI_clamp (by omega), nI_clamp (by omega)]
          have h16 : (upd2 g.1 17 i (g.1 16 (4 * i + 2) - 48), g.2).1 16 (4 * i + 4) = s.2.2.1 (4 * i + 4) := hpg _ (by omega)
          rw [h16, hpg _ (by omega), hm.1.1, hm.2.1]
          exact nxt _ _ (by rw [if_pos (by omega)]) (by rw [if_pos (by omega)])
      · refine sX5_field_58 (fun _ => sX5_field_138 ?_) (fun z => absurd (by decide) z)
        have hC : ∀ i, i ≤ 4 → ∀ g, FI s.2.1 s.2.2.1 h 5 g → (∀ q, q < i → g.1 20 q = 20) → G 3 mX5_field post 140 [some (.ref 15), some (.int (nI i))] [] g := by
          refine loopU 4 (fun i hi ih g G1 hc => ?_) (fun g G1 hc => ?_)
          · obtain ⟨g1, g2, g3, g4, g5⟩ := id G1
            refine sX5_field_140 (fun z => ?_) (fun _ => sX5_field_145 (vp_in_nI hi (by omega)) ?_)
            · rw [show (4 : Int32) = nI 4 from rfl, nI_leI (by omega) (by omega)] at z; omega
            rw [nI_clamp (by omega), nI_1]
            refine ih _ ⟨g1, g2, g3, fun cc h1 h2 h3 h4 h5 => ?_, g5⟩ (fun q hq => ?_)
            · show upd2 g.1 20 i 20 cc = _
              rw [upd2_ne h5]; exact g4 cc h1 h2 h3 h4 h5
            · show upd2 g.1 20 i 20 20 q = _
              rw [upd2_self]
              by_cases em : q = i
              · rw [em, pk_us]
              · rw [pk_un em]; exact hc q (by omega)
          · obtain ⟨g1, g2, g3, g4, g5⟩ := id G1
            refine sX5_field_140 (fun _ => sX5_field_159 ?_) (fun z => absurd (by decide) z)
            rw [g1, g5 10 (by decide) (by decide), hf]
            have := k (upd2 (upd2 (upd2 (upd2 g.1 15 8 0) 15 9 0) 15 10 (s.2.2.2.1 + 1)) 15 0 0, g.2) ?_ (fun cc hcc => ?_)
            · rw [e] at this
              exact this
            · rw [e]
              have b15 : ∀ j, j ≠ 8 → j ≠ 9 → j ≠ 10 → j ≠ 0 → upd2 (upd2 (upd2 (upd2 g.1 15 8 0) 15 9 0) 15 10 (s.2.2.2.1 + 1)) 15 0 0 15 j = g.1 15 j := fun j h1 h2 h3 h4 => by
                rw [upd2_self, pk_un h4, upd2_self, pk_un h3, upd2_self, pk_un h2, upd2_self, pk_un h1]
              have boc : ∀ cc, cc ≠ 15 → upd2 (upd2 (upd2 (upd2 g.1 15 8 0) 15 9 0) 15 10 (s.2.2.2.1 + 1)) 15 0 0 cc = g.1 cc := fun cc h1 => by
                rw [upd2_ne h1, upd2_ne h1, upd2_ne h1, upd2_ne h1]
              refine ⟨stF_wf hn hF, ⟨?_, ?_, rfl, rfl, fun m hm => ?_, fun m hm => ?_, fun q hq => ?_⟩, ⟨Nat.zero_le _, rfl, fun j hj => absurd hj (Nat.not_lt_zero j)⟩, rfl, ?_⟩
              · show upd2 (upd2 (upd2 (upd2 g.1 15 8 0) 15 9 0) 15 10 (s.2.2.2.1 + 1)) 15 0 0 15 2 = _
                rw [b15 2 (by decide) (by decide) (by decide) (by decide)]; exact g1
              · show upd2 (upd2 (upd2 (upd2 g.1 15 8 0) 15 9 0) 15 10 (s.2.2.2.1 + 1)) 15 0 0 15 3 = _
                rw [b15 3 (by decide) (by decide) (by decide) (by decide)]; exact g2
              · have hm : m < s.2.1 / 4 := hm
                show upd2 (upd2 (upd2 (upd2 g.1 15 8 0) 15 9 0) 15 10 (s.2.2.2.1 + 1)) 15 0 0 17 m = _ ∧ upd2 (upd2 (upd2 (upd2 g.1 15 8 0) 15 9 0) 15 10 (s.2.2.2.1 + 1)) 15 0 0 18 m = _
                rw [boc 17 (by decide), boc 18 (by decide)]
                exact ⟨(g3 m (by omega)).1, (g3 m (by omega)).2.1⟩
              · show upd2 (upd2 (upd2 (upd2 g.1 15 8 0) 15 9 0) 15 10 (s.2.2.2.1 + 1)) 15 0 0 19 m = _
                rw [boc 19 (by decide)]
                rw [vA_eq (a := stF s.2.1 s.2.2.1) (show 0 < s.2.1 / 4 by omega)]
                exact (g3 m hm).2.2
              · show upd2 (upd2 (upd2 (upd2 g.1 15 8 0) 15 9 0) 15 10 (s.2.2.2.1 + 1)) 15 0 0 20 q = _
                rw [boc 20 (by decide)]
                have hq : q < fd (s.2.2.1 0) := hq
                exact hc q (by omega)
              · show upd2 (upd2 (upd2 (upd2 g.1 15 8 0) 15 9 0) 15 10 (s.2.2.2.1 + 1)) 15 0 0 15 11 = _
                rw [b15 11 (by decide) (by decide) (by decide) (by decide), g5 11 (by decide) (by decide)]
                exact hf2
            · show upd2 (upd2 (upd2 (upd2 g.1 15 8 0) 15 9 0) 15 10 (s.2.2.2.1 + 1)) 15 0 0 cc = _
              rw [upd2_ne (by omega), upd2_ne (by omega), upd2_ne (by omega), upd2_ne (by omega)]
              exact g4 cc (by omega) (by omega) (by omega) (by omega) (by omega)
        exact hC 0 (by omega) g G1 (fun q hq => by omega)
    refine hS 0 (by omega) _ ⟨rfl, rfl, fun m hm => by omega, fun cc h1 h2 h3 h4 h5 => ?_, fun j h1 h2 => ?_⟩
    · show upd2 (upd2 h.1 15 3 _) 15 2 _ cc = _
      rw [upd2_ne h1, upd2_ne h1]
    · show upd2 (upd2 h.1 15 3 (nI (fd (s.2.2.1 0)))) 15 2 (nI (s.2.1 / 4)) 15 j = _
      rw [upd2_self, pk_un h1, upd2_self, pk_un h2]
  · rw [hg.2.1, nI_leI (by omega) (by omega)] at q2
    omega
end MD2
