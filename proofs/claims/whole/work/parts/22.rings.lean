theorem i32_move (A V D S : Int32) : A + (V - 1 - (D - 1)) * S = A - D * S + V * S := by grind
theorem nI_m1 {f : Nat} (hf : f < 2 ^ 31) : ¬ nI f = -1 := fun e => by
  have := congrArg Int32.toInt e
  rw [nI_toInt hf, show (-1 : Int32).toInt = -1 by decide] at this
  omega
theorem nI_m2 {f : Nat} (hf : f < 2 ^ 31) : ¬ nI f = -2 := fun e => by
  have := congrArg Int32.toInt e
  rw [nI_toInt hf, show (-2 : Int32).toInt = -2 by decide] at this
  omega
section RN2
variable {post : Option Value → PH → Prop} {h : PH} {a : St}
theorem five_le {n : Nat} (hn : n ≤ 5) : 5 ^ n ≤ 3125 := Nat.pow_le_pow_right (by omega) hn
theorem ev_widen {far : Nat} {w0 : Nat → Int32} (hI : CI a h) (hw : WF a) (hn : 0 < aN a) (hf : far < 2 ^ 29) (h12 : h.1 12 = w0) (k : ∀ w' b, (∀ x, x < 3125 → ((∃ pl, pl < 5 ^ aN a ∧ w0 pl = nI far ∧ nb a pl x) → w0 x = -1 → w' x = nI (far + 1)) ∧ (¬ ((∃ pl, pl < 5 ^ aN a ∧ w0 pl = nI far ∧ nb a pl x) ∧ w0 x = -1) → w' x = w0 x)) → (b = true ↔ ∃ x, x < 3125 ∧ (∃ pl, pl < 5 ^ aN a ∧ w0 pl = nI far ∧ nb a pl x) ∧ w0 x = -1) → post (some (.int (b2i b))) (setA h 12 w')) : Ev 2 mX2_widen [.ref 3, .ref 2, .int (nI far)] h post := by
  have h5 := hw.1
  have h3 := five_le h5
  have hm1 := nI_m1 (f := far) (by omega)
  have hm2 := nI_m1 (f := far + 1) (by omega)
  have hm3 : ¬ nI (far + 1) = nI far := fun e => by have := (nI_eq (by omega) (by omega)).mp e; omega
  refine Ev.intro rfl (Nat.le_of_ble_eq_true rfl) (sX2_widen_0 ?_)
  have key : ∀ i, i ≤ 5 ^ aN a → ∀ w' b, (∀ x, x < 3125 → ((∃ pl, pl < i ∧ w0 pl = nI far ∧ nb a pl x) → w0 x = -1 → w' x = nI (far + 1)) ∧ (¬ ((∃ pl, pl < i ∧ w0 pl = nI far ∧ nb a pl x) ∧ w0 x = -1) → w' x = w0 x)) → (b = true ↔ ∃ x, x < 3125 ∧ (∃ pl, pl < i ∧ w0 pl = nI far ∧ nb a pl x) ∧ w0 x = -1) → G 2 mX2_widen post 5 [some (.ref 3), some (.ref 2), some (.int (nI far)), some (.int (b2i b)), some (.int (nI i))] [] (setA h 12 w') := by
    refine loopU (5 ^ aN a) (fun i hi ih w' b hw1 hb => ?_) (fun w' b hw1 hb => ?_)
    · have hIg : CI a (setA h 12 w') := hI.same (fun z hz => setA_ne (by omega))
      have same : w' i = nI far ↔ w0 i = nI far := by
        constructor
        · intro e
          by_cases z : (∃ pl, pl < i ∧ w0 pl = nI far ∧ nb a pl i) ∧ w0 i = -1
          · rw [(hw1 i (by omega)).1 z.1 z.2] at e; exact absurd e hm3
          · rw [(hw1 i (by omega)).2 z] at e; exact e
        · intro e
          rw [(hw1 i (by omega)).2 (fun z => hm1 (e.symm.trans z.2))]; exact e
      refine sX2_widen_5 (fun hc => ?_) (fun _ => sX2_widen_14 (ev_wayFrom (x := i) (by omega) (sX2_widen_20 (fun hc => sX2_widen_39 ?_) (fun hc => sX2_widen_24 ?_))))
      · rw [hIg.pl hn, nI_leI (by omega) (by omega)] at hc; omega
      · rw [setA_self, same] at hc
        rw [nI_1]
        have eqv : ∀ x, (∃ pl, pl < i + 1 ∧ w0 pl = nI far ∧ nb a pl x) ↔ ∃ pl, pl < i ∧ w0 pl = nI far ∧ nb a pl x := fun x => ⟨fun ⟨pl, q, q2, q3⟩ => ⟨pl, by
          by_cases e : pl = i
          · subst e; exact absurd q2 hc
          · omega, q2, q3⟩, fun ⟨pl, q, q2, q3⟩ => ⟨pl, by omega, q2, q3⟩⟩
        refine ih w' b (fun x hx => ?_) ?_
        · rw [eqv x]; exact hw1 x hx
        · rw [hb]
          exact ⟨fun ⟨x, h1, h2, h3⟩ => ⟨x, h1, (eqv x).mpr h2, h3⟩, fun ⟨x, h1, h2, h3⟩ => ⟨x, h1, (eqv x).mp h2, h3⟩⟩
      · rw [setA_self, same] at hc
        rw [nI_1]
        refine ev_markBeside (w0 := w') hIg hw (by omega) (by omega) (setA_self _ _ _) (fun w2 b2 g1 g2 => ?_)
        rw [setA_setA]
        have eqv : ∀ x, (∃ pl, pl < i + 1 ∧ w0 pl = nI far ∧ nb a pl x) ↔ (∃ pl, pl < i ∧ w0 pl = nI far ∧ nb a pl x) ∨ nb a i x := fun x => ⟨fun ⟨pl, q, q2, q3⟩ => by
          by_cases e : pl = i
          · subst e; exact Or.inr q3
          · exact Or.inl ⟨pl, by omega, q2, q3⟩, fun z => z.elim (fun ⟨pl, q, q2, q3⟩ => ⟨pl, by omega, q2, q3⟩) (fun q => ⟨i, by omega, hc, q⟩)⟩
        have W2 : ∀ x, x < 3125 → ((∃ pl, pl < i + 1 ∧ w0 pl = nI far ∧ nb a pl x) → w0 x = -1 → w2 x = nI (far + 1)) ∧ (¬ ((∃ pl, pl < i + 1 ∧ w0 pl = nI far ∧ nb a pl x) ∧ w0 x = -1) → w2 x = w0 x) := by
          intro x hx
          rw [eqv x]
          refine ⟨fun z q => ?_, fun z => ?_⟩
          · by_cases y : ∃ pl, pl < i ∧ w0 pl = nI far ∧ nb a pl x
            · have := (hw1 x hx).1 y q
              rw [(g1 x hx).2 (fun t => hm2 (this.symm.trans t.2)), this]
            · have hnb := z.resolve_left y
              have := (hw1 x hx).2 (fun t => y t.1)
              exact (g1 x hx).1 hnb (by rw [this]; exact q)
          · have e1 := (hw1 x hx).2 (fun t => z ⟨Or.inl t.1, t.2⟩)
            rw [(g1 x hx).2 (fun t => z ⟨Or.inr t.1, by rw [← e1]; exact t.2⟩), e1]
        have B2 : ∀ bb, (bb = true ↔ b = true ∨ b2 = true) → (bb = true ↔ ∃ x, x < 3125 ∧ (∃ pl, pl < i + 1 ∧ w0 pl = nI far ∧ nb a pl x) ∧ w0 x = -1) := by
          intro bb e
          rw [e, hb, g2]
          constructor
          · rintro (⟨x, h1, h2, h3⟩ | ⟨x, h1, h2, h3⟩)
            · exact ⟨x, h1, (eqv x).mpr (Or.inl h2), h3⟩
            · refine ⟨x, h1, (eqv x).mpr (Or.inr h2), ?_⟩
              apply Classical.byContradiction
              intro q
              rw [(hw1 x h1).2 (fun t => q t.2)] at h3
              exact q h3
          · rintro ⟨x, h1, h2, h3⟩
            by_cases y : ∃ pl, pl < i ∧ w0 pl = nI far ∧ nb a pl x
            · exact Or.inl ⟨x, h1, y, h3⟩
            · refine Or.inr ⟨x, h1, ((eqv x).mp h2).resolve_left y, ?_⟩
              rw [(hw1 x h1).2 (fun t => y t.1)]
              exact h3
        refine sX2_widen_34 (fun q => sX2_widen_39 ?_) (fun q => sX2_widen_37 (sX2_widen_39 ?_))
        · rw [b2i_0] at q
          rw [nI_1]
          exact ih w2 b W2 (B2 b (by rw [q]; simp))
        · rw [b2i_n] at q
          rw [nI_1]
          exact ih w2 true W2 (B2 true (by rw [q]; simp))
    · have hIg : CI a (setA h 12 w') := hI.same (fun z hz => setA_ne (by omega))
      exact sX2_widen_5 (fun _ => sX2_widen_45 (b2i_nar b) (k w' b hw1 hb)) (fun hc => absurd (by rw [hIg.pl hn]; exact nI_le (Nat.le_refl _) (by omega)) hc)
  have st0 := key 0 (Nat.zero_le _) w0 false (fun x hx => ⟨fun ⟨pl, q, _⟩ => by omega, fun _ => rfl⟩) ⟨fun q => (by cases q), fun ⟨x, h1, ⟨pl, q, _⟩, h3⟩ => by omega⟩
  rw [← h12, setA_id] at st0
  exact st0
def lmP (a : St) (w : Nat → Int32) (pl f j : Nat) : Prop := j / 8 < aN a ∧ j % 8 ≤ aP a ∧ w (setp pl (j / 8) (j % 8)) = nI f
noncomputable def lmF (a : St) (w : Nat → Int32) (pl f : Nat) : Nat := ld (fun j => !pB (lmP a w pl f j)) 40
theorem ld40 {P : Nat → Prop} {j : Nat} (h : ∀ i, i < j → ¬ P i) (hj : P j) (h40 : j < 40) : ld (fun j => !pB (P j)) 40 = j :=
  ld_stop (fun i hi => by rw [pB_f.mpr (h i hi)]; rfl) (by rw [pB_t.mpr hj]; rfl) 40 h40
theorem ld40n {P : Nat → Prop} (h : ∀ i, i < 40 → ¬ P i) : ld (fun j => !pB (P j)) 40 = 40 :=
  ld_all 40 (fun i hi => by rw [pB_f.mpr (h i hi)]; rfl)
theorem ev_leastMove {pl f : Nat} (hI : CI a h) (hw : WF a) (hp : pl < 3125) (k : post (some (.int (if lmF a (h.1 12) pl f < 40 then nI (lmF a (h.1 12) pl f) else -1001))) h) : Ev 1 mX2_leastMove [.ref 3, .ref 2, .int (nI pl), .int (nI f)] h post := by
  have h5 := hw.1
  have h4 := hw.2.1
  refine Ev.intro rfl (Nat.le_of_ble_eq_true rfl) (sX2_leastMove_0 ?_)
  have key : ∀ m, m ≤ aN a → (∀ j, j < 8 * m → ¬ lmP a (h.1 12) pl f j) → G 1 mX2_leastMove post 6 [some (.ref 3), some (.ref 2), some (.int (nI pl)), some (.int (nI f)), some (.int (nI (pl / 5 ^ m))), some (.int (nI m)), none, none] [] h := by
    refine loopU (aN a) (fun m hm ih hno => ?_) (fun hno => ?_)
    · refine sX2_leastMove_6 (fun hc => ?_) (fun _ => sX2_leastMove_15 (vp_in_nI (by omega) (by omega)) ?_)
      · rw [hI.n, nI_leI (by omega) (by omega)] at hc; omega
      rw [nI_clamp (by omega), (place_parts (v := 0) hp (by omega) (by omega)).1]
      have inner : ∀ v, v ≤ aP a + 1 → (∀ j, j < 8 * m + v → ¬ lmP a (h.1 12) pl f j) → G 1 mX2_leastMove post 33 [some (.ref 3), some (.ref 2), some (.int (nI pl)), some (.int (nI f)), some (.int (nI (pl / 5 ^ m))), some (.int (nI m)), some (.int (nI (pl - dp pl m * 5 ^ m + v * 5 ^ m))), some (.int (nI v - 1))] [] h := by
        refine loopU (aP a + 1) (fun v hv jh hno => ?_) (fun hno => ?_)
        · have hlt := setp_lt (v := v) hp (show m < 5 by omega) (by omega)
          have hj1 : (8 * m + v) / 8 = m := by omega
          have hj2 : (8 * m + v) % 8 = v := by omega
          refine sX2_leastMove_33 (fun hc => ?_) (fun _ => sX2_leastMove_42 (ev_wayFrom (x := setp pl m v) hlt (sX2_leastMove_48 (fun hc => sX2_leastMove_63 (vp_in_nI (by omega) (by omega)) ?_) (fun hc => sX2_leastMove_52 ?_))))
          · rw [hI.p, am_le (by omega) (by omega)] at hc; omega
          · have hc : ¬ h.1 12 (setp pl m v) = nI f := hc
            rw [nI_clamp (by omega), (place_parts hp (by omega) (by omega)).2, show nI v - 1 + 1 = nI (v + 1) - 1 by rw [Int32.sub_add_cancel, nI_pred]]
            refine jh (fun j hj => ?_)
            by_cases e : j = 8 * m + v
            · subst e
              intro z
              have := z.2.2
              rw [hj1, hj2] at this
              exact hc this
            · exact hno j (by omega)
          · have hc : h.1 12 (setp pl m v) = nI f := hc
            have e : lmF a (h.1 12) pl f = 8 * m + v := ld40 hno ⟨by omega, by omega, by rw [hj1, hj2]; exact hc⟩ (by omega)
            rw [e, if_pos (by omega)] at k
            rw [Int32.add_assoc, Int32.sub_add_cancel, show (8 : Int32) = nI 8 from rfl, pk_mul, nI_add]
            exact k
        · refine sX2_leastMove_33 (fun _ => sX2_leastMove_80 ?_) (fun hc => absurd (by rw [hI.p, am_le (by omega) (by omega)]; omega) hc)
          rw [nI_1, show nI (pl / 5 ^ m) / 5 = nI (pl / 5 ^ (m + 1)) by rw [show nI (pl / 5 ^ m) / 5 = nI (pl / 5 ^ m / 5) from pk_div (d := 5) (by have := Nat.div_le_self pl (5 ^ m); omega) (by omega) (by omega), Nat.div_div_eq_div_mul, Nat.pow_succ]]
          refine ih (fun j hj => ?_)
          by_cases e : j < 8 * m + (aP a + 1)
          · exact hno j e
          · intro z
            have := z.2.1
            omega
      have := inner 0 (by omega) (by rw [Nat.add_zero]; exact hno)
      rw [Nat.zero_mul, Nat.add_zero] at this
      exact this
    · refine sX2_leastMove_6 (fun _ => sX2_leastMove_92 ?_) (fun hc => absurd (by rw [hI.n]; exact nI_le (Nat.le_refl _) (by omega)) hc)
      have e : lmF a (h.1 12) pl f = 40 := ld40n (fun j hj => by
        by_cases z : j < 8 * aN a
        · exact hno j z
        · intro y
          have := y.1
          omega)
      rw [e] at k
      exact k
  have st0 := key 0 (Nat.zero_le _) (fun j hj => by omega)
  rw [Nat.pow_zero, Nat.div_one] at st0
  exact st0
theorem ev_aimIn {pl m : Nat} (hp : pl < 3125) (hm : m < 5) (k : post (some (.int (nI (dp pl m) - 1))) h) : Ev 0 mX4_aimIn [.int (nI pl), .int (nI m)] h post := by
  refine Ev.intro rfl (Nat.le_of_ble_eq_true rfl) (sX4_aimIn_0 ?_)
  have key : ∀ i, i ≤ m → G 0 mX4_aimIn post 4 [none, some (.int (nI m)), some (.int (nI (pl / 5 ^ i))), some (.int (nI i))] [] h := by
    refine loopU m (fun i hi ih => ?_) ?_
    · refine sX4_aimIn_4 (fun hc => ?_) (fun _ => sX4_aimIn_9 (fun hc => ?_) (fun _ => sX4_aimIn_14 ?_))
      · rw [nI_leI (by omega) (by omega)] at hc; omega
      · have hc : nI 5 ≤ nI i := hc
        rw [nI_leI (by omega) (by omega)] at hc; omega
      rw [nI_1, show nI (pl / 5 ^ i) / 5 = nI (pl / 5 ^ (i + 1)) by rw [show nI (pl / 5 ^ i) / 5 = nI (pl / 5 ^ i / 5) from pk_div (d := 5) (by have := Nat.div_le_self pl (5 ^ i); omega) (by omega) (by omega), Nat.div_div_eq_div_mul, Nat.pow_succ]]
      exact ih
    · refine sX4_aimIn_4 (fun _ => sX4_aimIn_24 ?_) (fun hc => absurd (nI_le (Nat.le_refl _) (by omega)) hc)
      rw [show nI (pl / 5 ^ m) - nI (pl / 5 ^ m) / 5 * 5 = nI (pl / 5 ^ m % 5) from pk_rem (d := 5) (by have := Nat.div_le_self pl (5 ^ m); omega) (by omega) (by omega)]
      exact k
  have st0 := key 0 (Nat.zero_le _)
  rw [Nat.pow_zero, Nat.div_one] at st0
  exact st0
end RN2
